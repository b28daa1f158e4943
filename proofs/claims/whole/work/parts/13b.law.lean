section LAW
def lCx (l : Launch) (Ke : State → Prop) (z : Lp) (adS adV adM : Nat → Nat) (adD b L : Nat) (xs : Nat → Int32) : Prop := lOk z ∧ gKw Ke ∧ (∀ σ v, xSt l Ke (lEK z σ v) (lAK z) adM adD) ∧ (∀ σ v, sSt Ke (lAK z) (LKW z σ v) adS adV) ∧ (∀ μ v, sSt Ke (lAM z) (LMW z μ v) adS adV) ∧ (∀ U, Ke U → va_Nc "java/lang/IllegalArgumentException" "java/util/NoSuchElementException" U) ∧ (∀ U H, zE z U H → va_T .int b L (fun j => .int (xs j)) (lA z) U H) ∧ L ≤ 3072
theorem lg_cmp_self (x : Int64) : lg_cmp x x = 0 := by
  unfold lg_cmp
  rw [if_neg (by simp), if_pos rfl]
theorem L_in {j k L : Nat} (h : j + 6 ≤ L) (hL : L ≤ 3072) (hk : k < 6) {x : Int32} (hx : x = Int32.ofNat k) : vp_in (nI j + x) L := by
  have e : nI j + x = nI (j + k) := by
    rw [hx]
    show Int32.ofNat j + Int32.ofNat k = Int32.ofNat (j + k)
    rw [Int32.ofNat_add]
  rw [e]
  exact vp_in_nI (by omega) (by omega)
set_option maxHeartbeats 4000000 in
set_option maxRecDepth 100000 in
theorem lc_day {p : Program} {l : Launch} {e : Env} {s : State} {m : MethodId} {below : List Frame} {meth : Method} {c : Code} {Ke : State → Prop} {z : Lp} {adS adV adM : Nat → Nat} {adD b L : Nat} {xs : Nat → Int32} {Rep : Km → Ms → Prop} {a0 : Nat} {Rt : Type} {QX : Rt → State → Prop} {o : Option Rt} (h : gOk p s m #[Value.ref b] meth c cL_law 7 "KeepForgetLaw" tb) (hKs : Ke s) (hC : lCx l Ke z adS adV adM adD b L xs) (hR : lRep Rep a0) (hO : op_day Rep a0) (cc ss j : Nat) (hc1 : cc + 109 ≤ 601024) (hc2 : ss + 690 ≤ 7293034) (hj : j + 6 ≤ L) (μ : Km) (σ : Ms) (v : Int64) (h0 : Rep μ σ)
    (hk : ∀ w : Ls, Rep w.1 w.2.1 → gS p l e room_1 s m #[Value.ref b] below meth c 7 (lA z) (LW z) QX (cc + 109) (ss + 690) o (w) 1853 [(0, .ref b), (1, .ref a0), (2, .ref (zh z)), (3, .ref (zo z)), (4, .int (nI j))] []) : gS p l e room_1 s m #[Value.ref b] below meth c 7 (lA z) (LW z) QX (cc) (ss) o (μ, σ, v) 160 [(0, .ref b), (1, .ref a0), (2, .ref (zh z)), (3, .ref (zo z)), (4, .int (nI j))] [] := by
  obtain ⟨hz, hkw, hX, hSt, hStM, hN, hT, hL⟩ := hC
  have h9 := hR.1 _ _ h0
  obtain ⟨X, r1, σ1, hK0, hM0, hXX⟩ := hO μ σ (xs (nI j + 1).toNatClampNeg) (xs (nI j + 2).toNatClampNeg) (xs (nI j + 3).toNatClampNeg) h0
  refine g_aload_n h 1 dL_law_160 rfl ?_
  refine g_aload_n h 0 dL_law_161 rfl ?_
  refine g_iload h 4 dL_law_162 rfl ?_
  refine g_iconst (v := 1) h dL_law_164 (by decide) ?_
  refine g_iadd h dL_law_165 ?_
  refine g_ti h (fun H hw => hT _ _ hw.2.1.1) (L_in (k := 1) hj hL (by decide) (by decide)) dL_law_166 ?_
  refine g_aload_n h 0 dL_law_167 rfl ?_
  refine g_iload h 4 dL_law_168 rfl ?_
  refine g_iconst (v := 2) h dL_law_170 (by decide) ?_
  refine g_iadd h dL_law_171 ?_
  refine g_ti h (fun H hw => hT _ _ hw.2.1.1) (L_in (k := 2) hj hL (by decide) (by decide)) dL_law_172 ?_
  refine g_aload_n h 0 dL_law_173 rfl ?_
  refine g_iload h 4 dL_law_174 rfl ?_
  refine g_iconst (v := 3) h dL_law_176 (by decide) ?_
  refine g_iadd h dL_law_177 ?_
  refine g_ti h (fun H hw => hT _ _ hw.2.1.1) (L_in (k := 3) hj hL (by decide) (by decide)) dL_law_178 ?_
  refine g_aload_n h 3 dL_law_179 rfl ?_
  refine L_callW hz h hkw hKs [.ref a0, .int (xs (nI j + 1).toNatClampNeg), .int (xs (nI j + 2).toNatClampNeg), .int (xs (nI j + 3).toNatClampNeg), .ref (zo z)] (w_day hz hkw (hX σ v) (hSt σ v) hN a0 h9 (xs (nI j + 1).toNatClampNeg) (xs (nI j + 2).toNatClampNeg) (xs (nI j + 3).toNatClampNeg) hK0 (fun b9 u9 q9 => by subst q9; have q8 := hXX.1; cases b9 <;> simp_all)) yk_L_day tW_232 ⟨(Nat.le_of_ble_eq_true rfl), (Nat.le_of_ble_eq_true rfl)⟩ rfl rfl (Nat.le_of_ble_eq_true rfl) dL_law_180 ⟨(by show cc + 1 ≤ 601024; omega), (by show ss + 6 ≤ 7293034; omega)⟩ (fun r u hP => ?_)
  cases X with
  | inl a =>
    obtain ⟨rfl, rfl⟩ := hP
    obtain ⟨q1, q2, q3⟩ := hXX
    refine g_istore h [(5, .int (0 : Int32)), (0, .ref b), (1, .ref a0), (2, .ref (zh z)), (3, .ref (zo z)), (4, .int (nI j))] dL_law_183 (by decide) rfl ?_
    refine g_aload_n h 3 dL_law_185 rfl ?_
    refine g_aload_n h 1 dL_law_186 rfl ?_
    refine g_iload h 5 dL_law_187 rfl ?_
    refine g_iconst (v := 1) h dL_law_189 (by decide) ?_
    refine g_iadd h dL_law_190 ?_
    refine g_ti h (fun H hw => hT _ _ hw.2.1.1) (L_in (k := 1) hj hL (by decide) (by decide)) dL_law_191 ?_
    refine g_aload_n h 1 dL_law_192 rfl ?_
    refine g_iload h 5 dL_law_193 rfl ?_
    refine g_iconst (v := 2) h dL_law_195 (by decide) ?_
    refine g_iadd h dL_law_196 ?_
    refine g_ti h (fun H hw => hT _ _ hw.2.1.1) (L_in (k := 2) hj hL (by decide) (by decide)) dL_law_197 ?_
    refine g_aload_n h 1 dL_law_198 rfl ?_
    refine g_iload h 5 dL_law_199 rfl ?_
    refine g_iconst (v := 3) h dL_law_201 (by decide) ?_
    refine g_iadd h dL_law_202 ?_
    refine g_ti h (fun H hw => hT _ _ hw.2.1.1) (L_in (k := 3) hj hL (by decide) (by decide)) dL_law_203 ?_
    refine L_Mi hz h hkw hKs [.int (xs (nI j + 1).toNatClampNeg), .int (xs (nI j + 2).toNatClampNeg), .int (xs (nI j + 3).toNatClampNeg)] (c_X10_day (lEM_ok hz _ _) hkw σ (xs (nI j + 1).toNatClampNeg) (xs (nI j + 2).toNatClampNeg) (xs (nI j + 3).toNatClampNeg) _ hM0) yk_X10_day tW_1091 ⟨(Nat.le_of_ble_eq_true rfl), (Nat.le_of_ble_eq_true rfl)⟩ rfl rfl (Nat.le_of_ble_eq_true rfl) dL_law_204 ⟨(by show cc + 1 + 0 ≤ 601024; omega), (by show ss + 6 + 0 ≤ 7293034; omega)⟩ (fun n1 hn1 => ?_)
    refine g_istore h [(6, .int r1), (5, .int (0 : Int32)), (0, .ref b), (1, .ref a0), (2, .ref (zh z)), (3, .ref (zo z)), (4, .int (nI j))] dL_law_207 (by decide) rfl ?_
    refine g_aload_n h 4 dL_law_209 rfl ?_
    refine L_Mi hz h hkw hKs [] (c_X10_thrown (lEM_ok hz _ _) hkw σ1 _ rfl) yk_X10_thrown tW_1087 ⟨(Nat.le_of_ble_eq_true rfl), (Nat.le_of_ble_eq_true rfl)⟩ rfl rfl (Nat.le_of_ble_eq_true rfl) dL_law_210 ⟨(by show cc + 1 + 0 + 0 ≤ 601024; omega), (by show ss + 6 + 0 + 0 ≤ 7293034; omega)⟩ (fun n2 hn2 => ?_)
    refine g_iload h 1 dL_law_213 rfl ?_
    refine g_pos (cnd := σ1.1 0 = (0 : Int32)) q1 ?_
    refine g_icmp_eq h 220 dL_law_215 (by decide) ?_ g_none
    refine g_iload h 1 dL_law_220 rfl ?_
    refine g_pos (cnd := (0 : Int32) = 0) rfl ?_
    refine g_if_ne h 237 dL_law_222 (by decide) g_none ?_
    subst q2
    refine g_aload_n h 5 dL_law_225 rfl ?_
    refine g_iconst (v := 0) h dL_law_226 (by decide) ?_
    refine L_laload h dL_law_227 ?_
    refine g_iload h 0 dL_law_228 rfl ?_
    refine g_i2l h dL_law_230 ?_
    refine g_lcmp h dL_law_231 ?_
    refine g_pos (cnd := lg_cmp a.1.toInt64 a.1.toInt64 = 0) (lg_cmp_self _) ?_
    refine g_if_eq h 237 dL_law_232 (by decide) ?_ g_none
    refine g_goto h 1853 dL_law_237 (by decide) ?_
    refine g_lv [(0, .ref b), (1, .ref a0), (2, .ref (zh z)), (3, .ref (zo z)), (4, .int (nI j))] [2, 3, 4, 5, 6] rfl ?_
    refine g_wid (cc + 109) (ss + 690) (by show cc + 1 + 0 + 0 ≤ cc + 109; omega) (by show ss + 6 + 0 + 0 ≤ ss + 690; omega) ?_
    exact hk (ksn (ksn (a.2) n1) n2, σ1, a.1.toInt64) (hR.2 _ _ n2 hn2 (hR.2 _ _ n1 hn1 q3))
  | inr a =>
    obtain ⟨rfl, n0, hn0, rfl⟩ := hP
    obtain ⟨q0, q1, q3⟩ := hXX
    refine g_istore h [(5, .int (1 : Int32)), (0, .ref b), (1, .ref a0), (2, .ref (zh z)), (3, .ref (zo z)), (4, .int (nI j))] dL_law_183 (by decide) rfl ?_
    refine g_aload_n h 3 dL_law_185 rfl ?_
    refine g_aload_n h 1 dL_law_186 rfl ?_
    refine g_iload h 5 dL_law_187 rfl ?_
    refine g_iconst (v := 1) h dL_law_189 (by decide) ?_
    refine g_iadd h dL_law_190 ?_
    refine g_ti h (fun H hw => hT _ _ hw.2.1.1) (L_in (k := 1) hj hL (by decide) (by decide)) dL_law_191 ?_
    refine g_aload_n h 1 dL_law_192 rfl ?_
    refine g_iload h 5 dL_law_193 rfl ?_
    refine g_iconst (v := 2) h dL_law_195 (by decide) ?_
    refine g_iadd h dL_law_196 ?_
    refine g_ti h (fun H hw => hT _ _ hw.2.1.1) (L_in (k := 2) hj hL (by decide) (by decide)) dL_law_197 ?_
    refine g_aload_n h 1 dL_law_198 rfl ?_
    refine g_iload h 5 dL_law_199 rfl ?_
    refine g_iconst (v := 3) h dL_law_201 (by decide) ?_
    refine g_iadd h dL_law_202 ?_
    refine g_ti h (fun H hw => hT _ _ hw.2.1.1) (L_in (k := 3) hj hL (by decide) (by decide)) dL_law_203 ?_
    refine L_Mi hz h hkw hKs [.int (xs (nI j + 1).toNatClampNeg), .int (xs (nI j + 2).toNatClampNeg), .int (xs (nI j + 3).toNatClampNeg)] (c_X10_day (lEM_ok hz _ _) hkw σ (xs (nI j + 1).toNatClampNeg) (xs (nI j + 2).toNatClampNeg) (xs (nI j + 3).toNatClampNeg) _ hM0) yk_X10_day tW_1091 ⟨(Nat.le_of_ble_eq_true rfl), (Nat.le_of_ble_eq_true rfl)⟩ rfl rfl (Nat.le_of_ble_eq_true rfl) dL_law_204 ⟨(by show cc + 1 + 0 ≤ 601024; omega), (by show ss + 6 + 0 ≤ 7293034; omega)⟩ (fun n1 hn1 => ?_)
    refine g_istore h [(6, .int r1), (5, .int (1 : Int32)), (0, .ref b), (1, .ref a0), (2, .ref (zh z)), (3, .ref (zo z)), (4, .int (nI j))] dL_law_207 (by decide) rfl ?_
    refine g_aload_n h 4 dL_law_209 rfl ?_
    refine L_Mi hz h hkw hKs [] (c_X10_thrown (lEM_ok hz _ _) hkw σ1 _ rfl) yk_X10_thrown tW_1087 ⟨(Nat.le_of_ble_eq_true rfl), (Nat.le_of_ble_eq_true rfl)⟩ rfl rfl (Nat.le_of_ble_eq_true rfl) dL_law_210 ⟨(by show cc + 1 + 0 + 0 ≤ 601024; omega), (by show ss + 6 + 0 + 0 ≤ 7293034; omega)⟩ (fun n2 hn2 => ?_)
    refine g_iload h 1 dL_law_213 rfl ?_
    refine g_pos (cnd := σ1.1 0 = (1 : Int32)) q1 ?_
    refine g_icmp_eq h 220 dL_law_215 (by decide) ?_ g_none
    refine g_iload h 1 dL_law_220 rfl ?_
    refine g_neg (cnd := (1 : Int32) = 0) (by decide) ?_
    refine g_if_ne h 237 dL_law_222 (by decide) ?_ g_none
    refine g_goto h 1853 dL_law_237 (by decide) ?_
    refine g_lv [(0, .ref b), (1, .ref a0), (2, .ref (zh z)), (3, .ref (zo z)), (4, .int (nI j))] [2, 3, 4, 5, 6] rfl ?_
    refine g_wid (cc + 109) (ss + 690) (by show cc + 1 + 0 + 0 ≤ cc + 109; omega) (by show ss + 6 + 0 + 0 ≤ ss + 690; omega) ?_
    exact hk (ksn (ksn (ksn a.2 n0) n1) n2, σ1, v) (hR.2 _ _ n2 hn2 (hR.2 _ _ n1 hn1 (hR.2 _ _ n0 hn0 q3)))
set_option maxHeartbeats 4000000 in
set_option maxRecDepth 100000 in
theorem lc_date {p : Program} {l : Launch} {e : Env} {s : State} {m : MethodId} {below : List Frame} {meth : Method} {c : Code} {Ke : State → Prop} {z : Lp} {adS adV adM : Nat → Nat} {adD b L : Nat} {xs : Nat → Int32} {Rep : Km → Ms → Prop} {a0 : Nat} {Rt : Type} {QX : Rt → State → Prop} {o : Option Rt} (h : gOk p s m #[Value.ref b] meth c cL_law 7 "KeepForgetLaw" tb) (hKs : Ke s) (hC : lCx l Ke z adS adV adM adD b L xs) (hR : lRep Rep a0) (hO : op_date Rep a0) (cc ss j : Nat) (hc1 : cc + 109 ≤ 601024) (hc2 : ss + 690 ≤ 7293034) (hj : j + 6 ≤ L) (μ : Km) (σ : Ms) (v : Int64) (h0 : Rep μ σ)
    (hk : ∀ w : Ls, Rep w.1 w.2.1 → gS p l e room_1 s m #[Value.ref b] below meth c 7 (lA z) (LW z) QX (cc + 109) (ss + 690) o (w) 1853 [(0, .ref b), (1, .ref a0), (2, .ref (zh z)), (3, .ref (zo z)), (4, .int (nI j))] []) : gS p l e room_1 s m #[Value.ref b] below meth c 7 (lA z) (LW z) QX (cc) (ss) o (μ, σ, v) 240 [(0, .ref b), (1, .ref a0), (2, .ref (zh z)), (3, .ref (zo z)), (4, .int (nI j))] [] := by
  obtain ⟨hz, hkw, hX, hSt, hStM, hN, hT, hL⟩ := hC
  have h9 := hR.1 _ _ h0
  obtain ⟨X, r1, σ1, hK0, hM0, hXX⟩ := hO μ σ (xs (nI j + 1).toNatClampNeg) (xs (nI j + 2).toNatClampNeg) h0
  refine g_aload_n h 1 dL_law_240 rfl ?_
  refine g_aload_n h 0 dL_law_241 rfl ?_
  refine g_iload h 4 dL_law_242 rfl ?_
  refine g_iconst (v := 1) h dL_law_244 (by decide) ?_
  refine g_iadd h dL_law_245 ?_
  refine g_ti h (fun H hw => hT _ _ hw.2.1.1) (L_in (k := 1) hj hL (by decide) (by decide)) dL_law_246 ?_
  refine g_aload_n h 0 dL_law_247 rfl ?_
  refine g_iload h 4 dL_law_248 rfl ?_
  refine g_iconst (v := 2) h dL_law_250 (by decide) ?_
  refine g_iadd h dL_law_251 ?_
  refine g_ti h (fun H hw => hT _ _ hw.2.1.1) (L_in (k := 2) hj hL (by decide) (by decide)) dL_law_252 ?_
  refine g_aload_n h 3 dL_law_253 rfl ?_
  refine L_callW hz h hkw hKs [.ref a0, .int (xs (nI j + 1).toNatClampNeg), .int (xs (nI j + 2).toNatClampNeg), .ref (zo z)] (w_date hz hkw (hX σ v) (hSt σ v) hN a0 h9 (xs (nI j + 1).toNatClampNeg) (xs (nI j + 2).toNatClampNeg) hK0 (fun b9 u9 q9 => by subst q9; have q8 := hXX.1; cases b9 <;> simp_all)) yk_L_date tW_318 ⟨(Nat.le_of_ble_eq_true rfl), (Nat.le_of_ble_eq_true rfl)⟩ rfl rfl (Nat.le_of_ble_eq_true rfl) dL_law_254 ⟨(by show cc + 2 ≤ 601024; omega), (by show ss + 12 ≤ 7293034; omega)⟩ (fun r u hP => ?_)
  cases X with
  | inl a =>
    obtain ⟨rfl, rfl⟩ := hP
    obtain ⟨q1, q2, q3⟩ := hXX
    refine g_istore h [(5, .int (0 : Int32)), (0, .ref b), (1, .ref a0), (2, .ref (zh z)), (3, .ref (zo z)), (4, .int (nI j))] dL_law_257 (by decide) rfl ?_
    refine g_aload_n h 3 dL_law_259 rfl ?_
    refine g_aload_n h 1 dL_law_260 rfl ?_
    refine g_iload h 5 dL_law_261 rfl ?_
    refine g_iconst (v := 1) h dL_law_263 (by decide) ?_
    refine g_iadd h dL_law_264 ?_
    refine g_ti h (fun H hw => hT _ _ hw.2.1.1) (L_in (k := 1) hj hL (by decide) (by decide)) dL_law_265 ?_
    refine g_aload_n h 1 dL_law_266 rfl ?_
    refine g_iload h 5 dL_law_267 rfl ?_
    refine g_iconst (v := 2) h dL_law_269 (by decide) ?_
    refine g_iadd h dL_law_270 ?_
    refine g_ti h (fun H hw => hT _ _ hw.2.1.1) (L_in (k := 2) hj hL (by decide) (by decide)) dL_law_271 ?_
    refine L_Mi hz h hkw hKs [.int (xs (nI j + 1).toNatClampNeg), .int (xs (nI j + 2).toNatClampNeg)] (c_X10_date (lEM_ok hz _ _) hkw σ (xs (nI j + 1).toNatClampNeg) (xs (nI j + 2).toNatClampNeg) _ hM0) yk_X10_date tW_1115 ⟨(Nat.le_of_ble_eq_true rfl), (Nat.le_of_ble_eq_true rfl)⟩ rfl rfl (Nat.le_of_ble_eq_true rfl) dL_law_272 ⟨(by show cc + 2 + 0 ≤ 601024; omega), (by show ss + 12 + 0 ≤ 7293034; omega)⟩ (fun n1 hn1 => ?_)
    refine g_istore h [(6, .int r1), (5, .int (0 : Int32)), (0, .ref b), (1, .ref a0), (2, .ref (zh z)), (3, .ref (zo z)), (4, .int (nI j))] dL_law_275 (by decide) rfl ?_
    refine g_aload_n h 4 dL_law_277 rfl ?_
    refine L_Mi hz h hkw hKs [] (c_X10_thrown (lEM_ok hz _ _) hkw σ1 _ rfl) yk_X10_thrown tW_1087 ⟨(Nat.le_of_ble_eq_true rfl), (Nat.le_of_ble_eq_true rfl)⟩ rfl rfl (Nat.le_of_ble_eq_true rfl) dL_law_278 ⟨(by show cc + 2 + 0 + 0 ≤ 601024; omega), (by show ss + 12 + 0 + 0 ≤ 7293034; omega)⟩ (fun n2 hn2 => ?_)
    refine g_iload h 1 dL_law_281 rfl ?_
    refine g_pos (cnd := σ1.1 0 = (0 : Int32)) q1 ?_
    refine g_icmp_eq h 288 dL_law_283 (by decide) ?_ g_none
    refine g_iload h 1 dL_law_288 rfl ?_
    refine g_pos (cnd := (0 : Int32) = 0) rfl ?_
    refine g_if_ne h 305 dL_law_290 (by decide) g_none ?_
    subst q2
    refine g_aload_n h 5 dL_law_293 rfl ?_
    refine g_iconst (v := 0) h dL_law_294 (by decide) ?_
    refine L_laload h dL_law_295 ?_
    refine g_iload h 0 dL_law_296 rfl ?_
    refine g_i2l h dL_law_298 ?_
    refine g_lcmp h dL_law_299 ?_
    refine g_pos (cnd := lg_cmp a.1.toInt64 a.1.toInt64 = 0) (lg_cmp_self _) ?_
    refine g_if_eq h 305 dL_law_300 (by decide) ?_ g_none
    refine g_goto h 1853 dL_law_305 (by decide) ?_
    refine g_lv [(0, .ref b), (1, .ref a0), (2, .ref (zh z)), (3, .ref (zo z)), (4, .int (nI j))] [2, 3, 4, 5, 6] rfl ?_
    refine g_wid (cc + 109) (ss + 690) (by show cc + 2 + 0 + 0 ≤ cc + 109; omega) (by show ss + 12 + 0 + 0 ≤ ss + 690; omega) ?_
    exact hk (ksn (ksn (a.2) n1) n2, σ1, a.1.toInt64) (hR.2 _ _ n2 hn2 (hR.2 _ _ n1 hn1 q3))
  | inr a =>
    obtain ⟨rfl, n0, hn0, rfl⟩ := hP
    obtain ⟨q0, q1, q3⟩ := hXX
    refine g_istore h [(5, .int (1 : Int32)), (0, .ref b), (1, .ref a0), (2, .ref (zh z)), (3, .ref (zo z)), (4, .int (nI j))] dL_law_257 (by decide) rfl ?_
    refine g_aload_n h 3 dL_law_259 rfl ?_
    refine g_aload_n h 1 dL_law_260 rfl ?_
    refine g_iload h 5 dL_law_261 rfl ?_
    refine g_iconst (v := 1) h dL_law_263 (by decide) ?_
    refine g_iadd h dL_law_264 ?_
    refine g_ti h (fun H hw => hT _ _ hw.2.1.1) (L_in (k := 1) hj hL (by decide) (by decide)) dL_law_265 ?_
    refine g_aload_n h 1 dL_law_266 rfl ?_
    refine g_iload h 5 dL_law_267 rfl ?_
    refine g_iconst (v := 2) h dL_law_269 (by decide) ?_
    refine g_iadd h dL_law_270 ?_
    refine g_ti h (fun H hw => hT _ _ hw.2.1.1) (L_in (k := 2) hj hL (by decide) (by decide)) dL_law_271 ?_
    refine L_Mi hz h hkw hKs [.int (xs (nI j + 1).toNatClampNeg), .int (xs (nI j + 2).toNatClampNeg)] (c_X10_date (lEM_ok hz _ _) hkw σ (xs (nI j + 1).toNatClampNeg) (xs (nI j + 2).toNatClampNeg) _ hM0) yk_X10_date tW_1115 ⟨(Nat.le_of_ble_eq_true rfl), (Nat.le_of_ble_eq_true rfl)⟩ rfl rfl (Nat.le_of_ble_eq_true rfl) dL_law_272 ⟨(by show cc + 2 + 0 ≤ 601024; omega), (by show ss + 12 + 0 ≤ 7293034; omega)⟩ (fun n1 hn1 => ?_)
    refine g_istore h [(6, .int r1), (5, .int (1 : Int32)), (0, .ref b), (1, .ref a0), (2, .ref (zh z)), (3, .ref (zo z)), (4, .int (nI j))] dL_law_275 (by decide) rfl ?_
    refine g_aload_n h 4 dL_law_277 rfl ?_
    refine L_Mi hz h hkw hKs [] (c_X10_thrown (lEM_ok hz _ _) hkw σ1 _ rfl) yk_X10_thrown tW_1087 ⟨(Nat.le_of_ble_eq_true rfl), (Nat.le_of_ble_eq_true rfl)⟩ rfl rfl (Nat.le_of_ble_eq_true rfl) dL_law_278 ⟨(by show cc + 2 + 0 + 0 ≤ 601024; omega), (by show ss + 12 + 0 + 0 ≤ 7293034; omega)⟩ (fun n2 hn2 => ?_)
    refine g_iload h 1 dL_law_281 rfl ?_
    refine g_pos (cnd := σ1.1 0 = (1 : Int32)) q1 ?_
    refine g_icmp_eq h 288 dL_law_283 (by decide) ?_ g_none
    refine g_iload h 1 dL_law_288 rfl ?_
    refine g_neg (cnd := (1 : Int32) = 0) (by decide) ?_
    refine g_if_ne h 305 dL_law_290 (by decide) ?_ g_none
    refine g_goto h 1853 dL_law_305 (by decide) ?_
    refine g_lv [(0, .ref b), (1, .ref a0), (2, .ref (zh z)), (3, .ref (zo z)), (4, .int (nI j))] [2, 3, 4, 5, 6] rfl ?_
    refine g_wid (cc + 109) (ss + 690) (by show cc + 2 + 0 + 0 ≤ cc + 109; omega) (by show ss + 12 + 0 + 0 ≤ ss + 690; omega) ?_
    exact hk (ksn (ksn (ksn a.2 n0) n1) n2, σ1, v) (hR.2 _ _ n2 hn2 (hR.2 _ _ n1 hn1 (hR.2 _ _ n0 hn0 q3)))
set_option maxHeartbeats 4000000 in
set_option maxRecDepth 100000 in
theorem lc_later {p : Program} {l : Launch} {e : Env} {s : State} {m : MethodId} {below : List Frame} {meth : Method} {c : Code} {Ke : State → Prop} {z : Lp} {adS adV adM : Nat → Nat} {adD b L : Nat} {xs : Nat → Int32} {Rep : Km → Ms → Prop} {a0 : Nat} {Rt : Type} {QX : Rt → State → Prop} {o : Option Rt} (h : gOk p s m #[Value.ref b] meth c cL_law 7 "KeepForgetLaw" tb) (hKs : Ke s) (hC : lCx l Ke z adS adV adM adD b L xs) (hR : lRep Rep a0) (hO : op_later Rep a0) (cc ss j : Nat) (hc1 : cc + 109 ≤ 601024) (hc2 : ss + 690 ≤ 7293034) (hj : j + 6 ≤ L) (μ : Km) (σ : Ms) (v : Int64) (h0 : Rep μ σ)
    (hk : ∀ w : Ls, Rep w.1 w.2.1 → gS p l e room_1 s m #[Value.ref b] below meth c 7 (lA z) (LW z) QX (cc + 109) (ss + 690) o (w) 1853 [(0, .ref b), (1, .ref a0), (2, .ref (zh z)), (3, .ref (zo z)), (4, .int (nI j))] []) : gS p l e room_1 s m #[Value.ref b] below meth c 7 (lA z) (LW z) QX (cc) (ss) o (μ, σ, v) 308 [(0, .ref b), (1, .ref a0), (2, .ref (zh z)), (3, .ref (zo z)), (4, .int (nI j))] [] := by
  obtain ⟨hz, hkw, hX, hSt, hStM, hN, hT, hL⟩ := hC
  have h9 := hR.1 _ _ h0
  obtain ⟨X, r1, σ1, hK0, hM0, hXX⟩ := hO μ σ (xs (nI j + 1).toNatClampNeg) (xs (nI j + 2).toNatClampNeg) h0
  refine g_aload_n h 1 dL_law_308 rfl ?_
  refine g_aload_n h 0 dL_law_309 rfl ?_
  refine g_iload h 4 dL_law_310 rfl ?_
  refine g_iconst (v := 1) h dL_law_312 (by decide) ?_
  refine g_iadd h dL_law_313 ?_
  refine g_ti h (fun H hw => hT _ _ hw.2.1.1) (L_in (k := 1) hj hL (by decide) (by decide)) dL_law_314 ?_
  refine g_aload_n h 0 dL_law_315 rfl ?_
  refine g_iload h 4 dL_law_316 rfl ?_
  refine g_iconst (v := 2) h dL_law_318 (by decide) ?_
  refine g_iadd h dL_law_319 ?_
  refine g_ti h (fun H hw => hT _ _ hw.2.1.1) (L_in (k := 2) hj hL (by decide) (by decide)) dL_law_320 ?_
  refine g_aload_n h 3 dL_law_321 rfl ?_
  refine L_callW hz h hkw hKs [.ref a0, .int (xs (nI j + 1).toNatClampNeg), .int (xs (nI j + 2).toNatClampNeg), .ref (zo z)] (w_later hz hkw (hX σ v) (hSt σ v) hN a0 h9 (xs (nI j + 1).toNatClampNeg) (xs (nI j + 2).toNatClampNeg) hK0 (fun b9 u9 q9 => by subst q9; have q8 := hXX.1; cases b9 <;> simp_all)) yk_L_later tW_338 ⟨(Nat.le_of_ble_eq_true rfl), (Nat.le_of_ble_eq_true rfl)⟩ rfl rfl (Nat.le_of_ble_eq_true rfl) dL_law_322 ⟨(by show cc + 2 ≤ 601024; omega), (by show ss + 12 ≤ 7293034; omega)⟩ (fun r u hP => ?_)
  cases X with
  | inl a =>
    obtain ⟨rfl, rfl⟩ := hP
    obtain ⟨q1, q2, q3⟩ := hXX
    refine g_istore h [(5, .int (0 : Int32)), (0, .ref b), (1, .ref a0), (2, .ref (zh z)), (3, .ref (zo z)), (4, .int (nI j))] dL_law_325 (by decide) rfl ?_
    refine g_aload_n h 3 dL_law_327 rfl ?_
    refine g_aload_n h 1 dL_law_328 rfl ?_
    refine g_iload h 5 dL_law_329 rfl ?_
    refine g_iconst (v := 1) h dL_law_331 (by decide) ?_
    refine g_iadd h dL_law_332 ?_
    refine g_ti h (fun H hw => hT _ _ hw.2.1.1) (L_in (k := 1) hj hL (by decide) (by decide)) dL_law_333 ?_
    refine g_aload_n h 1 dL_law_334 rfl ?_
    refine g_iload h 5 dL_law_335 rfl ?_
    refine g_iconst (v := 2) h dL_law_337 (by decide) ?_
    refine g_iadd h dL_law_338 ?_
    refine g_ti h (fun H hw => hT _ _ hw.2.1.1) (L_in (k := 2) hj hL (by decide) (by decide)) dL_law_339 ?_
    refine L_Mi hz h hkw hKs [.int (xs (nI j + 1).toNatClampNeg), .int (xs (nI j + 2).toNatClampNeg)] (c_X10_later (lEM_ok hz _ _) hkw σ (xs (nI j + 1).toNatClampNeg) (xs (nI j + 2).toNatClampNeg) _ hM0) yk_X10_later tW_1128 ⟨(Nat.le_of_ble_eq_true rfl), (Nat.le_of_ble_eq_true rfl)⟩ rfl rfl (Nat.le_of_ble_eq_true rfl) dL_law_340 ⟨(by show cc + 2 + 0 ≤ 601024; omega), (by show ss + 12 + 0 ≤ 7293034; omega)⟩ (fun n1 hn1 => ?_)
    refine g_istore h [(6, .int r1), (5, .int (0 : Int32)), (0, .ref b), (1, .ref a0), (2, .ref (zh z)), (3, .ref (zo z)), (4, .int (nI j))] dL_law_343 (by decide) rfl ?_
    refine g_aload_n h 4 dL_law_345 rfl ?_
    refine L_Mi hz h hkw hKs [] (c_X10_thrown (lEM_ok hz _ _) hkw σ1 _ rfl) yk_X10_thrown tW_1087 ⟨(Nat.le_of_ble_eq_true rfl), (Nat.le_of_ble_eq_true rfl)⟩ rfl rfl (Nat.le_of_ble_eq_true rfl) dL_law_346 ⟨(by show cc + 2 + 0 + 0 ≤ 601024; omega), (by show ss + 12 + 0 + 0 ≤ 7293034; omega)⟩ (fun n2 hn2 => ?_)
    refine g_iload h 1 dL_law_349 rfl ?_
    refine g_pos (cnd := σ1.1 0 = (0 : Int32)) q1 ?_
    refine g_icmp_eq h 356 dL_law_351 (by decide) ?_ g_none
    refine g_iload h 1 dL_law_356 rfl ?_
    refine g_pos (cnd := (0 : Int32) = 0) rfl ?_
    refine g_if_ne h 373 dL_law_358 (by decide) g_none ?_
    subst q2
    refine g_aload_n h 5 dL_law_361 rfl ?_
    refine g_iconst (v := 0) h dL_law_362 (by decide) ?_
    refine L_laload h dL_law_363 ?_
    refine g_iload h 0 dL_law_364 rfl ?_
    refine g_i2l h dL_law_366 ?_
    refine g_lcmp h dL_law_367 ?_
    refine g_pos (cnd := lg_cmp a.1.toInt64 a.1.toInt64 = 0) (lg_cmp_self _) ?_
    refine g_if_eq h 373 dL_law_368 (by decide) ?_ g_none
    refine g_goto h 1853 dL_law_373 (by decide) ?_
    refine g_lv [(0, .ref b), (1, .ref a0), (2, .ref (zh z)), (3, .ref (zo z)), (4, .int (nI j))] [2, 3, 4, 5, 6] rfl ?_
    refine g_wid (cc + 109) (ss + 690) (by show cc + 2 + 0 + 0 ≤ cc + 109; omega) (by show ss + 12 + 0 + 0 ≤ ss + 690; omega) ?_
    exact hk (ksn (ksn (a.2) n1) n2, σ1, a.1.toInt64) (hR.2 _ _ n2 hn2 (hR.2 _ _ n1 hn1 q3))
  | inr a =>
    obtain ⟨rfl, n0, hn0, rfl⟩ := hP
    obtain ⟨q0, q1, q3⟩ := hXX
    refine g_istore h [(5, .int (1 : Int32)), (0, .ref b), (1, .ref a0), (2, .ref (zh z)), (3, .ref (zo z)), (4, .int (nI j))] dL_law_325 (by decide) rfl ?_
    refine g_aload_n h 3 dL_law_327 rfl ?_
    refine g_aload_n h 1 dL_law_328 rfl ?_
    refine g_iload h 5 dL_law_329 rfl ?_
    refine g_iconst (v := 1) h dL_law_331 (by decide) ?_
    refine g_iadd h dL_law_332 ?_
    refine g_ti h (fun H hw => hT _ _ hw.2.1.1) (L_in (k := 1) hj hL (by decide) (by decide)) dL_law_333 ?_
    refine g_aload_n h 1 dL_law_334 rfl ?_
    refine g_iload h 5 dL_law_335 rfl ?_
    refine g_iconst (v := 2) h dL_law_337 (by decide) ?_
    refine g_iadd h dL_law_338 ?_
    refine g_ti h (fun H hw => hT _ _ hw.2.1.1) (L_in (k := 2) hj hL (by decide) (by decide)) dL_law_339 ?_
    refine L_Mi hz h hkw hKs [.int (xs (nI j + 1).toNatClampNeg), .int (xs (nI j + 2).toNatClampNeg)] (c_X10_later (lEM_ok hz _ _) hkw σ (xs (nI j + 1).toNatClampNeg) (xs (nI j + 2).toNatClampNeg) _ hM0) yk_X10_later tW_1128 ⟨(Nat.le_of_ble_eq_true rfl), (Nat.le_of_ble_eq_true rfl)⟩ rfl rfl (Nat.le_of_ble_eq_true rfl) dL_law_340 ⟨(by show cc + 2 + 0 ≤ 601024; omega), (by show ss + 12 + 0 ≤ 7293034; omega)⟩ (fun n1 hn1 => ?_)
    refine g_istore h [(6, .int r1), (5, .int (1 : Int32)), (0, .ref b), (1, .ref a0), (2, .ref (zh z)), (3, .ref (zo z)), (4, .int (nI j))] dL_law_343 (by decide) rfl ?_
    refine g_aload_n h 4 dL_law_345 rfl ?_
    refine L_Mi hz h hkw hKs [] (c_X10_thrown (lEM_ok hz _ _) hkw σ1 _ rfl) yk_X10_thrown tW_1087 ⟨(Nat.le_of_ble_eq_true rfl), (Nat.le_of_ble_eq_true rfl)⟩ rfl rfl (Nat.le_of_ble_eq_true rfl) dL_law_346 ⟨(by show cc + 2 + 0 + 0 ≤ 601024; omega), (by show ss + 12 + 0 + 0 ≤ 7293034; omega)⟩ (fun n2 hn2 => ?_)
    refine g_iload h 1 dL_law_349 rfl ?_
    refine g_pos (cnd := σ1.1 0 = (1 : Int32)) q1 ?_
    refine g_icmp_eq h 356 dL_law_351 (by decide) ?_ g_none
    refine g_iload h 1 dL_law_356 rfl ?_
    refine g_neg (cnd := (1 : Int32) = 0) (by decide) ?_
    refine g_if_ne h 373 dL_law_358 (by decide) ?_ g_none
    refine g_goto h 1853 dL_law_373 (by decide) ?_
    refine g_lv [(0, .ref b), (1, .ref a0), (2, .ref (zh z)), (3, .ref (zo z)), (4, .int (nI j))] [2, 3, 4, 5, 6] rfl ?_
    refine g_wid (cc + 109) (ss + 690) (by show cc + 2 + 0 + 0 ≤ cc + 109; omega) (by show ss + 12 + 0 + 0 ≤ ss + 690; omega) ?_
    exact hk (ksn (ksn (ksn a.2 n0) n1) n2, σ1, v) (hR.2 _ _ n2 hn2 (hR.2 _ _ n1 hn1 (hR.2 _ _ n0 hn0 q3)))
set_option maxHeartbeats 4000000 in
set_option maxRecDepth 100000 in
theorem lc_feed {p : Program} {l : Launch} {e : Env} {s : State} {m : MethodId} {below : List Frame} {meth : Method} {c : Code} {Ke : State → Prop} {z : Lp} {adS adV adM : Nat → Nat} {adD b L : Nat} {xs : Nat → Int32} {Rep : Km → Ms → Prop} {a0 : Nat} {Rt : Type} {QX : Rt → State → Prop} {o : Option Rt} (h : gOk p s m #[Value.ref b] meth c cL_law 7 "KeepForgetLaw" tb) (hKs : Ke s) (hC : lCx l Ke z adS adV adM adD b L xs) (hR : lRep Rep a0) (hO : op_feed Rep a0) (cc ss j : Nat) (hc1 : cc + 109 ≤ 601024) (hc2 : ss + 690 ≤ 7293034) (hj : j + 6 ≤ L) (μ : Km) (σ : Ms) (v : Int64) (h0 : Rep μ σ)
    (hk : ∀ w : Ls, Rep w.1 w.2.1 → gS p l e room_1 s m #[Value.ref b] below meth c 7 (lA z) (LW z) QX (cc + 109) (ss + 690) o (w) 1853 [(0, .ref b), (1, .ref a0), (2, .ref (zh z)), (3, .ref (zo z)), (4, .int (nI j))] []) : gS p l e room_1 s m #[Value.ref b] below meth c 7 (lA z) (LW z) QX (cc) (ss) o (μ, σ, v) 376 [(0, .ref b), (1, .ref a0), (2, .ref (zh z)), (3, .ref (zo z)), (4, .int (nI j))] [] := by
  obtain ⟨hz, hkw, hX, hSt, hStM, hN, hT, hL⟩ := hC
  have h9 := hR.1 _ _ h0
  obtain ⟨r1, μ1, σ1, hK0, hM0, q3⟩ := hO μ σ (xs (nI j + 1).toNatClampNeg) (xs (nI j + 2).toNatClampNeg) (xs (nI j + 3).toNatClampNeg) (xs (nI j + 4).toNatClampNeg) (xs (nI j + 5).toNatClampNeg) h0
  refine g_aload_n h 1 dL_law_376 rfl ?_
  refine g_aload_n h 0 dL_law_377 rfl ?_
  refine g_iload h 4 dL_law_378 rfl ?_
  refine g_iconst (v := 1) h dL_law_380 (by decide) ?_
  refine g_iadd h dL_law_381 ?_
  refine g_ti h (fun H hw => hT _ _ hw.2.1.1) (L_in (k := 1) hj hL (by decide) (by decide)) dL_law_382 ?_
  refine g_aload_n h 0 dL_law_383 rfl ?_
  refine g_iload h 4 dL_law_384 rfl ?_
  refine g_iconst (v := 2) h dL_law_386 (by decide) ?_
  refine g_iadd h dL_law_387 ?_
  refine g_ti h (fun H hw => hT _ _ hw.2.1.1) (L_in (k := 2) hj hL (by decide) (by decide)) dL_law_388 ?_
  refine g_aload_n h 0 dL_law_389 rfl ?_
  refine g_iload h 4 dL_law_390 rfl ?_
  refine g_iconst (v := 3) h dL_law_392 (by decide) ?_
  refine g_iadd h dL_law_393 ?_
  refine g_ti h (fun H hw => hT _ _ hw.2.1.1) (L_in (k := 3) hj hL (by decide) (by decide)) dL_law_394 ?_
  refine g_aload_n h 0 dL_law_395 rfl ?_
  refine g_iload h 4 dL_law_396 rfl ?_
  refine g_iconst (v := 4) h dL_law_398 (by decide) ?_
  refine g_iadd h dL_law_399 ?_
  refine g_ti h (fun H hw => hT _ _ hw.2.1.1) (L_in (k := 4) hj hL (by decide) (by decide)) dL_law_400 ?_
  refine g_aload_n h 0 dL_law_401 rfl ?_
  refine g_iload h 4 dL_law_402 rfl ?_
  refine g_iconst (v := 5) h dL_law_404 (by decide) ?_
  refine g_iadd h dL_law_405 ?_
  refine g_ti h (fun H hw => hT _ _ hw.2.1.1) (L_in (k := 5) hj hL (by decide) (by decide)) dL_law_406 ?_
  refine L_Ki hz h hkw hKs [.int (xs (nI j + 1).toNatClampNeg), .int (xs (nI j + 2).toNatClampNeg), .int (xs (nI j + 3).toNatClampNeg), .int (xs (nI j + 4).toNatClampNeg), .int (xs (nI j + 5).toNatClampNeg)] h9 (c_X9_feed (lEK_ok hz σ v) hkw (hX σ v) (hSt σ v) μ a0 (xs (nI j + 1).toNatClampNeg) (xs (nI j + 2).toNatClampNeg) (xs (nI j + 3).toNatClampNeg) (xs (nI j + 4).toNatClampNeg) (xs (nI j + 5).toNatClampNeg) _ hK0) yk_X9_feed tW_154 ⟨(Nat.le_of_ble_eq_true rfl), (Nat.le_of_ble_eq_true rfl)⟩ rfl rfl (Nat.le_of_ble_eq_true rfl) dL_law_407 ⟨(by show cc + 0 ≤ 601024; omega), (by show ss + 0 ≤ 7293034; omega)⟩ ?_
  refine g_aload_n h 2 dL_law_410 rfl ?_
  refine g_aload_n h 0 dL_law_411 rfl ?_
  refine g_iload h 4 dL_law_412 rfl ?_
  refine g_iconst (v := 1) h dL_law_414 (by decide) ?_
  refine g_iadd h dL_law_415 ?_
  refine g_ti h (fun H hw => hT _ _ hw.2.1.1) (L_in (k := 1) hj hL (by decide) (by decide)) dL_law_416 ?_
  refine g_aload_n h 0 dL_law_417 rfl ?_
  refine g_iload h 4 dL_law_418 rfl ?_
  refine g_iconst (v := 2) h dL_law_420 (by decide) ?_
  refine g_iadd h dL_law_421 ?_
  refine g_ti h (fun H hw => hT _ _ hw.2.1.1) (L_in (k := 2) hj hL (by decide) (by decide)) dL_law_422 ?_
  refine g_aload_n h 0 dL_law_423 rfl ?_
  refine g_iload h 4 dL_law_424 rfl ?_
  refine g_iconst (v := 3) h dL_law_426 (by decide) ?_
  refine g_iadd h dL_law_427 ?_
  refine g_ti h (fun H hw => hT _ _ hw.2.1.1) (L_in (k := 3) hj hL (by decide) (by decide)) dL_law_428 ?_
  refine g_aload_n h 0 dL_law_429 rfl ?_
  refine g_iload h 4 dL_law_430 rfl ?_
  refine g_iconst (v := 4) h dL_law_432 (by decide) ?_
  refine g_iadd h dL_law_433 ?_
  refine g_ti h (fun H hw => hT _ _ hw.2.1.1) (L_in (k := 4) hj hL (by decide) (by decide)) dL_law_434 ?_
  refine g_aload_n h 0 dL_law_435 rfl ?_
  refine g_iload h 4 dL_law_436 rfl ?_
  refine g_iconst (v := 5) h dL_law_438 (by decide) ?_
  refine g_iadd h dL_law_439 ?_
  refine g_ti h (fun H hw => hT _ _ hw.2.1.1) (L_in (k := 5) hj hL (by decide) (by decide)) dL_law_440 ?_
  refine L_Mi hz h hkw hKs [.int (xs (nI j + 1).toNatClampNeg), .int (xs (nI j + 2).toNatClampNeg), .int (xs (nI j + 3).toNatClampNeg), .int (xs (nI j + 4).toNatClampNeg), .int (xs (nI j + 5).toNatClampNeg)] (c_X10_feed (lEM_ok hz _ _) hkw σ (xs (nI j + 1).toNatClampNeg) (xs (nI j + 2).toNatClampNeg) (xs (nI j + 3).toNatClampNeg) (xs (nI j + 4).toNatClampNeg) (xs (nI j + 5).toNatClampNeg) _ hM0) yk_X10_feed tW_1138 ⟨(Nat.le_of_ble_eq_true rfl), (Nat.le_of_ble_eq_true rfl)⟩ rfl rfl (Nat.le_of_ble_eq_true rfl) dL_law_441 ⟨(by show cc + 0 + 0 ≤ 601024; omega), (by show ss + 0 + 0 ≤ 7293034; omega)⟩ (fun n1 hn1 => ?_)
  refine g_pos (cnd := r1 = r1) rfl ?_
  refine g_icmp_eq h 1853 dL_law_444 (by decide) ?_ g_none
  refine g_lv [(0, .ref b), (1, .ref a0), (2, .ref (zh z)), (3, .ref (zo z)), (4, .int (nI j))] [0, 1, 2, 3, 4] rfl ?_
  refine g_wid (cc + 109) (ss + 690) (by show cc + 0 + 0 ≤ cc + 109; omega) (by show ss + 0 + 0 ≤ ss + 690; omega) ?_
  exact hk (ksn μ1 n1, σ1, v) (hR.2 _ _ n1 hn1 q3)
set_option maxHeartbeats 4000000 in
set_option maxRecDepth 100000 in
theorem lc_rules {p : Program} {l : Launch} {e : Env} {s : State} {m : MethodId} {below : List Frame} {meth : Method} {c : Code} {Ke : State → Prop} {z : Lp} {adS adV adM : Nat → Nat} {adD b L : Nat} {xs : Nat → Int32} {Rep : Km → Ms → Prop} {a0 : Nat} {Rt : Type} {QX : Rt → State → Prop} {o : Option Rt} (h : gOk p s m #[Value.ref b] meth c cL_law 7 "KeepForgetLaw" tb) (hKs : Ke s) (hC : lCx l Ke z adS adV adM adD b L xs) (hR : lRep Rep a0) (hO : op_rules Rep a0) (cc ss j : Nat) (hc1 : cc + 109 ≤ 601024) (hc2 : ss + 690 ≤ 7293034) (hj : j + 6 ≤ L) (μ : Km) (σ : Ms) (v : Int64) (h0 : Rep μ σ)
    (hk : ∀ w : Ls, Rep w.1 w.2.1 → gS p l e room_1 s m #[Value.ref b] below meth c 7 (lA z) (LW z) QX (cc + 109) (ss + 690) o (w) 1853 [(0, .ref b), (1, .ref a0), (2, .ref (zh z)), (3, .ref (zo z)), (4, .int (nI j))] []) : gS p l e room_1 s m #[Value.ref b] below meth c 7 (lA z) (LW z) QX (cc) (ss) o (μ, σ, v) 449 [(0, .ref b), (1, .ref a0), (2, .ref (zh z)), (3, .ref (zo z)), (4, .int (nI j))] [] := by
  obtain ⟨hz, hkw, hX, hSt, hStM, hN, hT, hL⟩ := hC
  have h9 := hR.1 _ _ h0
  obtain ⟨X, r1, σ1, hK0, hM0, hXX⟩ := hO μ σ (xs (nI j + 1).toNatClampNeg) (xs (nI j + 2).toNatClampNeg) h0
  refine g_aload_n h 1 dL_law_449 rfl ?_
  refine g_aload_n h 0 dL_law_450 rfl ?_
  refine g_iload h 4 dL_law_451 rfl ?_
  refine g_iconst (v := 1) h dL_law_453 (by decide) ?_
  refine g_iadd h dL_law_454 ?_
  refine g_ti h (fun H hw => hT _ _ hw.2.1.1) (L_in (k := 1) hj hL (by decide) (by decide)) dL_law_455 ?_
  refine g_aload_n h 0 dL_law_456 rfl ?_
  refine g_iload h 4 dL_law_457 rfl ?_
  refine g_iconst (v := 2) h dL_law_459 (by decide) ?_
  refine g_iadd h dL_law_460 ?_
  refine g_ti h (fun H hw => hT _ _ hw.2.1.1) (L_in (k := 2) hj hL (by decide) (by decide)) dL_law_461 ?_
  refine g_aload_n h 3 dL_law_462 rfl ?_
  refine L_callW hz h hkw hKs [.ref a0, .int (xs (nI j + 1).toNatClampNeg), .int (xs (nI j + 2).toNatClampNeg), .ref (zo z)] (w_rules hz hkw (hX σ v) (hSt σ v) hN a0 h9 (xs (nI j + 1).toNatClampNeg) (xs (nI j + 2).toNatClampNeg) hK0 (fun b9 u9 q9 => by subst q9; have q8 := hXX.1; cases b9 <;> simp_all)) yk_L_rules tW_357 ⟨(Nat.le_of_ble_eq_true rfl), (Nat.le_of_ble_eq_true rfl)⟩ rfl rfl (Nat.le_of_ble_eq_true rfl) dL_law_463 ⟨(by show cc + 109 ≤ 601024; omega), (by show ss + 690 ≤ 7293034; omega)⟩ (fun r u hP => ?_)
  cases X with
  | inl a =>
    obtain ⟨rfl, rfl⟩ := hP
    obtain ⟨q1, q2, q3⟩ := hXX
    refine g_istore h [(5, .int (0 : Int32)), (0, .ref b), (1, .ref a0), (2, .ref (zh z)), (3, .ref (zo z)), (4, .int (nI j))] dL_law_466 (by decide) rfl ?_
    refine g_aload_n h 3 dL_law_468 rfl ?_
    refine g_aload_n h 1 dL_law_469 rfl ?_
    refine g_iload h 5 dL_law_470 rfl ?_
    refine g_iconst (v := 1) h dL_law_472 (by decide) ?_
    refine g_iadd h dL_law_473 ?_
    refine g_ti h (fun H hw => hT _ _ hw.2.1.1) (L_in (k := 1) hj hL (by decide) (by decide)) dL_law_474 ?_
    refine g_aload_n h 1 dL_law_475 rfl ?_
    refine g_iload h 5 dL_law_476 rfl ?_
    refine g_iconst (v := 2) h dL_law_478 (by decide) ?_
    refine g_iadd h dL_law_479 ?_
    refine g_ti h (fun H hw => hT _ _ hw.2.1.1) (L_in (k := 2) hj hL (by decide) (by decide)) dL_law_480 ?_
    refine L_Mi hz h hkw hKs [.int (xs (nI j + 1).toNatClampNeg), .int (xs (nI j + 2).toNatClampNeg)] (c_X10_rules (lEM_ok hz _ _) hkw (hStM _ _) σ (xs (nI j + 1).toNatClampNeg) (xs (nI j + 2).toNatClampNeg) _ hM0) yk_X10_rules tW_1142 ⟨(Nat.le_of_ble_eq_true rfl), (Nat.le_of_ble_eq_true rfl)⟩ rfl rfl (Nat.le_of_ble_eq_true rfl) dL_law_481 ⟨(by show cc + 109 + 0 ≤ 601024; omega), (by show ss + 690 + 0 ≤ 7293034; omega)⟩ (fun n1 hn1 => ?_)
    refine g_istore h [(6, .int r1), (5, .int (0 : Int32)), (0, .ref b), (1, .ref a0), (2, .ref (zh z)), (3, .ref (zo z)), (4, .int (nI j))] dL_law_484 (by decide) rfl ?_
    refine g_aload_n h 4 dL_law_486 rfl ?_
    refine L_Mi hz h hkw hKs [] (c_X10_thrown (lEM_ok hz _ _) hkw σ1 _ rfl) yk_X10_thrown tW_1087 ⟨(Nat.le_of_ble_eq_true rfl), (Nat.le_of_ble_eq_true rfl)⟩ rfl rfl (Nat.le_of_ble_eq_true rfl) dL_law_487 ⟨(by show cc + 109 + 0 + 0 ≤ 601024; omega), (by show ss + 690 + 0 + 0 ≤ 7293034; omega)⟩ (fun n2 hn2 => ?_)
    refine g_iload h 1 dL_law_490 rfl ?_
    refine g_pos (cnd := σ1.1 0 = (0 : Int32)) q1 ?_
    refine g_icmp_eq h 497 dL_law_492 (by decide) ?_ g_none
    refine g_iload h 1 dL_law_497 rfl ?_
    refine g_pos (cnd := (0 : Int32) = 0) rfl ?_
    refine g_if_ne h 514 dL_law_499 (by decide) g_none ?_
    subst q2
    refine g_aload_n h 5 dL_law_502 rfl ?_
    refine g_iconst (v := 0) h dL_law_503 (by decide) ?_
    refine L_laload h dL_law_504 ?_
    refine g_iload h 0 dL_law_505 rfl ?_
    refine g_i2l h dL_law_507 ?_
    refine g_lcmp h dL_law_508 ?_
    refine g_pos (cnd := lg_cmp a.1.toInt64 a.1.toInt64 = 0) (lg_cmp_self _) ?_
    refine g_if_eq h 514 dL_law_509 (by decide) ?_ g_none
    refine g_goto h 1853 dL_law_514 (by decide) ?_
    refine g_lv [(0, .ref b), (1, .ref a0), (2, .ref (zh z)), (3, .ref (zo z)), (4, .int (nI j))] [2, 3, 4, 5, 6] rfl ?_
    refine g_wid (cc + 109) (ss + 690) (by show cc + 109 + 0 + 0 ≤ cc + 109; omega) (by show ss + 690 + 0 + 0 ≤ ss + 690; omega) ?_
    exact hk (ksn (ksn (a.2) n1) n2, σ1, a.1.toInt64) (hR.2 _ _ n2 hn2 (hR.2 _ _ n1 hn1 q3))
  | inr a =>
    obtain ⟨rfl, n0, hn0, rfl⟩ := hP
    obtain ⟨q0, q1, q3⟩ := hXX
    refine g_istore h [(5, .int (1 : Int32)), (0, .ref b), (1, .ref a0), (2, .ref (zh z)), (3, .ref (zo z)), (4, .int (nI j))] dL_law_466 (by decide) rfl ?_
    refine g_aload_n h 3 dL_law_468 rfl ?_
    refine g_aload_n h 1 dL_law_469 rfl ?_
    refine g_iload h 5 dL_law_470 rfl ?_
    refine g_iconst (v := 1) h dL_law_472 (by decide) ?_
    refine g_iadd h dL_law_473 ?_
    refine g_ti h (fun H hw => hT _ _ hw.2.1.1) (L_in (k := 1) hj hL (by decide) (by decide)) dL_law_474 ?_
    refine g_aload_n h 1 dL_law_475 rfl ?_
    refine g_iload h 5 dL_law_476 rfl ?_
    refine g_iconst (v := 2) h dL_law_478 (by decide) ?_
    refine g_iadd h dL_law_479 ?_
    refine g_ti h (fun H hw => hT _ _ hw.2.1.1) (L_in (k := 2) hj hL (by decide) (by decide)) dL_law_480 ?_
    refine L_Mi hz h hkw hKs [.int (xs (nI j + 1).toNatClampNeg), .int (xs (nI j + 2).toNatClampNeg)] (c_X10_rules (lEM_ok hz _ _) hkw (hStM _ _) σ (xs (nI j + 1).toNatClampNeg) (xs (nI j + 2).toNatClampNeg) _ hM0) yk_X10_rules tW_1142 ⟨(Nat.le_of_ble_eq_true rfl), (Nat.le_of_ble_eq_true rfl)⟩ rfl rfl (Nat.le_of_ble_eq_true rfl) dL_law_481 ⟨(by show cc + 109 + 0 ≤ 601024; omega), (by show ss + 690 + 0 ≤ 7293034; omega)⟩ (fun n1 hn1 => ?_)
    refine g_istore h [(6, .int r1), (5, .int (1 : Int32)), (0, .ref b), (1, .ref a0), (2, .ref (zh z)), (3, .ref (zo z)), (4, .int (nI j))] dL_law_484 (by decide) rfl ?_
    refine g_aload_n h 4 dL_law_486 rfl ?_
    refine L_Mi hz h hkw hKs [] (c_X10_thrown (lEM_ok hz _ _) hkw σ1 _ rfl) yk_X10_thrown tW_1087 ⟨(Nat.le_of_ble_eq_true rfl), (Nat.le_of_ble_eq_true rfl)⟩ rfl rfl (Nat.le_of_ble_eq_true rfl) dL_law_487 ⟨(by show cc + 109 + 0 + 0 ≤ 601024; omega), (by show ss + 690 + 0 + 0 ≤ 7293034; omega)⟩ (fun n2 hn2 => ?_)
    refine g_iload h 1 dL_law_490 rfl ?_
    refine g_pos (cnd := σ1.1 0 = (1 : Int32)) q1 ?_
    refine g_icmp_eq h 497 dL_law_492 (by decide) ?_ g_none
    refine g_iload h 1 dL_law_497 rfl ?_
    refine g_neg (cnd := (1 : Int32) = 0) (by decide) ?_
    refine g_if_ne h 514 dL_law_499 (by decide) ?_ g_none
    refine g_goto h 1853 dL_law_514 (by decide) ?_
    refine g_lv [(0, .ref b), (1, .ref a0), (2, .ref (zh z)), (3, .ref (zo z)), (4, .int (nI j))] [2, 3, 4, 5, 6] rfl ?_
    refine g_wid (cc + 109) (ss + 690) (by show cc + 109 + 0 + 0 ≤ cc + 109; omega) (by show ss + 690 + 0 + 0 ≤ ss + 690; omega) ?_
    exact hk (ksn (ksn (ksn a.2 n0) n1) n2, σ1, v) (hR.2 _ _ n2 hn2 (hR.2 _ _ n1 hn1 (hR.2 _ _ n0 hn0 q3)))
set_option maxHeartbeats 4000000 in
set_option maxRecDepth 100000 in
theorem lc_fault {p : Program} {l : Launch} {e : Env} {s : State} {m : MethodId} {below : List Frame} {meth : Method} {c : Code} {Ke : State → Prop} {z : Lp} {adS adV adM : Nat → Nat} {adD b L : Nat} {xs : Nat → Int32} {Rep : Km → Ms → Prop} {a0 : Nat} {Rt : Type} {QX : Rt → State → Prop} {o : Option Rt} (h : gOk p s m #[Value.ref b] meth c cL_law 7 "KeepForgetLaw" tb) (hKs : Ke s) (hC : lCx l Ke z adS adV adM adD b L xs) (hR : lRep Rep a0) (hO : op_fault Rep a0) (cc ss j : Nat) (hc1 : cc + 109 ≤ 601024) (hc2 : ss + 690 ≤ 7293034) (hj : j + 6 ≤ L) (μ : Km) (σ : Ms) (v : Int64) (h0 : Rep μ σ)
    (hk : ∀ w : Ls, Rep w.1 w.2.1 → gS p l e room_1 s m #[Value.ref b] below meth c 7 (lA z) (LW z) QX (cc + 109) (ss + 690) o (w) 1853 [(0, .ref b), (1, .ref a0), (2, .ref (zh z)), (3, .ref (zo z)), (4, .int (nI j))] []) : gS p l e room_1 s m #[Value.ref b] below meth c 7 (lA z) (LW z) QX (cc) (ss) o (μ, σ, v) 517 [(0, .ref b), (1, .ref a0), (2, .ref (zh z)), (3, .ref (zo z)), (4, .int (nI j))] [] := by
  obtain ⟨hz, hkw, hX, hSt, hStM, hN, hT, hL⟩ := hC
  have h9 := hR.1 _ _ h0
  obtain ⟨r1, σ1, hK0, hM0, q3⟩ := hO μ σ h0
  refine g_aload_n h 1 dL_law_517 rfl ?_
  refine L_Ki hz h hkw hKs [] h9 (c_X9_fault (lEK_ok hz σ v) hkw (hX σ v) (hSt σ v) μ a0  _ hK0) yk_X9_fault tW_162 ⟨(Nat.le_of_ble_eq_true rfl), (Nat.le_of_ble_eq_true rfl)⟩ rfl rfl (Nat.le_of_ble_eq_true rfl) dL_law_518 ⟨(by show cc + 0 ≤ 601024; omega), (by show ss + 0 ≤ 7293034; omega)⟩ ?_
  refine g_aload_n h 2 dL_law_521 rfl ?_
  refine L_Mi hz h hkw hKs [] (c_X10_fault (lEM_ok hz _ _) hkw σ  _ hM0) yk_X10_fault tW_1210 ⟨(Nat.le_of_ble_eq_true rfl), (Nat.le_of_ble_eq_true rfl)⟩ rfl rfl (Nat.le_of_ble_eq_true rfl) dL_law_522 ⟨(by show cc + 0 + 0 ≤ 601024; omega), (by show ss + 0 + 0 ≤ 7293034; omega)⟩ (fun n1 hn1 => ?_)
  refine g_pos (cnd := r1 = r1) rfl ?_
  refine g_icmp_eq h 1853 dL_law_525 (by decide) ?_ g_none
  refine g_lv [(0, .ref b), (1, .ref a0), (2, .ref (zh z)), (3, .ref (zo z)), (4, .int (nI j))] [0, 1, 2, 3, 4] rfl ?_
  refine g_wid (cc + 109) (ss + 690) (by show cc + 0 + 0 ≤ cc + 109; omega) (by show ss + 0 + 0 ≤ ss + 690; omega) ?_
  exact hk (ksn μ n1, σ1, v) (hR.2 _ _ n1 hn1 q3)
set_option maxHeartbeats 4000000 in
set_option maxRecDepth 100000 in
theorem lc_thing {p : Program} {l : Launch} {e : Env} {s : State} {m : MethodId} {below : List Frame} {meth : Method} {c : Code} {Ke : State → Prop} {z : Lp} {adS adV adM : Nat → Nat} {adD b L : Nat} {xs : Nat → Int32} {Rep : Km → Ms → Prop} {a0 : Nat} {Rt : Type} {QX : Rt → State → Prop} {o : Option Rt} (h : gOk p s m #[Value.ref b] meth c cL_law 7 "KeepForgetLaw" tb) (hKs : Ke s) (hC : lCx l Ke z adS adV adM adD b L xs) (hR : lRep Rep a0) (hO : op_thing Rep a0) (cc ss j : Nat) (hc1 : cc + 109 ≤ 601024) (hc2 : ss + 690 ≤ 7293034) (hj : j + 6 ≤ L) (μ : Km) (σ : Ms) (v : Int64) (h0 : Rep μ σ)
    (hk : ∀ w : Ls, Rep w.1 w.2.1 → gS p l e room_1 s m #[Value.ref b] below meth c 7 (lA z) (LW z) QX (cc + 109) (ss + 690) o (w) 1853 [(0, .ref b), (1, .ref a0), (2, .ref (zh z)), (3, .ref (zo z)), (4, .int (nI j))] []) : gS p l e room_1 s m #[Value.ref b] below meth c 7 (lA z) (LW z) QX (cc) (ss) o (μ, σ, v) 530 [(0, .ref b), (1, .ref a0), (2, .ref (zh z)), (3, .ref (zo z)), (4, .int (nI j))] [] := by
  obtain ⟨hz, hkw, hX, hSt, hStM, hN, hT, hL⟩ := hC
  have h9 := hR.1 _ _ h0
  obtain ⟨r1, μ1, σ1, hK0, hM0, q3⟩ := hO μ σ (xs (nI j + 1).toNatClampNeg) h0
  refine g_aload_n h 1 dL_law_530 rfl ?_
  refine g_aload_n h 0 dL_law_531 rfl ?_
  refine g_iload h 4 dL_law_532 rfl ?_
  refine g_iconst (v := 1) h dL_law_534 (by decide) ?_
  refine g_iadd h dL_law_535 ?_
  refine g_ti h (fun H hw => hT _ _ hw.2.1.1) (L_in (k := 1) hj hL (by decide) (by decide)) dL_law_536 ?_
  refine L_Ki hz h hkw hKs [.int (xs (nI j + 1).toNatClampNeg)] h9 (c_X9_thing (lEK_ok hz σ v) hkw (hX σ v) (hSt σ v) μ a0 (xs (nI j + 1).toNatClampNeg) _ hK0) yk_X9_thing tW_166 ⟨(Nat.le_of_ble_eq_true rfl), (Nat.le_of_ble_eq_true rfl)⟩ rfl rfl (Nat.le_of_ble_eq_true rfl) dL_law_537 ⟨(by show cc + 4 ≤ 601024; omega), (by show ss + 22 ≤ 7293034; omega)⟩ ?_
  refine g_aload_n h 2 dL_law_540 rfl ?_
  refine g_aload_n h 0 dL_law_541 rfl ?_
  refine g_iload h 4 dL_law_542 rfl ?_
  refine g_iconst (v := 1) h dL_law_544 (by decide) ?_
  refine g_iadd h dL_law_545 ?_
  refine g_ti h (fun H hw => hT _ _ hw.2.1.1) (L_in (k := 1) hj hL (by decide) (by decide)) dL_law_546 ?_
  refine L_Mi hz h hkw hKs [.int (xs (nI j + 1).toNatClampNeg)] (c_X10_thing (lEM_ok hz _ _) hkw σ (xs (nI j + 1).toNatClampNeg) _ hM0) yk_X10_thing tW_1214 ⟨(Nat.le_of_ble_eq_true rfl), (Nat.le_of_ble_eq_true rfl)⟩ rfl rfl (Nat.le_of_ble_eq_true rfl) dL_law_547 ⟨(by show cc + 4 + 0 ≤ 601024; omega), (by show ss + 22 + 0 ≤ 7293034; omega)⟩ (fun n1 hn1 => ?_)
  refine g_pos (cnd := r1 = r1) rfl ?_
  refine g_icmp_eq h 1853 dL_law_550 (by decide) ?_ g_none
  refine g_lv [(0, .ref b), (1, .ref a0), (2, .ref (zh z)), (3, .ref (zo z)), (4, .int (nI j))] [0, 1, 2, 3, 4] rfl ?_
  refine g_wid (cc + 109) (ss + 690) (by show cc + 4 + 0 ≤ cc + 109; omega) (by show ss + 22 + 0 ≤ ss + 690; omega) ?_
  exact hk (ksn μ1 n1, σ1, v) (hR.2 _ _ n1 hn1 q3)
set_option maxHeartbeats 4000000 in
set_option maxRecDepth 100000 in
theorem lc_fact {p : Program} {l : Launch} {e : Env} {s : State} {m : MethodId} {below : List Frame} {meth : Method} {c : Code} {Ke : State → Prop} {z : Lp} {adS adV adM : Nat → Nat} {adD b L : Nat} {xs : Nat → Int32} {Rep : Km → Ms → Prop} {a0 : Nat} {Rt : Type} {QX : Rt → State → Prop} {o : Option Rt} (h : gOk p s m #[Value.ref b] meth c cL_law 7 "KeepForgetLaw" tb) (hKs : Ke s) (hC : lCx l Ke z adS adV adM adD b L xs) (hR : lRep Rep a0) (hO : op_fact Rep a0) (cc ss j : Nat) (hc1 : cc + 109 ≤ 601024) (hc2 : ss + 690 ≤ 7293034) (hj : j + 6 ≤ L) (μ : Km) (σ : Ms) (v : Int64) (h0 : Rep μ σ)
    (hk : ∀ w : Ls, Rep w.1 w.2.1 → gS p l e room_1 s m #[Value.ref b] below meth c 7 (lA z) (LW z) QX (cc + 109) (ss + 690) o (w) 1853 [(0, .ref b), (1, .ref a0), (2, .ref (zh z)), (3, .ref (zo z)), (4, .int (nI j))] []) : gS p l e room_1 s m #[Value.ref b] below meth c 7 (lA z) (LW z) QX (cc) (ss) o (μ, σ, v) 555 [(0, .ref b), (1, .ref a0), (2, .ref (zh z)), (3, .ref (zo z)), (4, .int (nI j))] [] := by
  obtain ⟨hz, hkw, hX, hSt, hStM, hN, hT, hL⟩ := hC
  have h9 := hR.1 _ _ h0
  obtain ⟨X, r1, σ1, hK0, hM0, hXX⟩ := hO μ σ (xs (nI j + 1).toNatClampNeg) (xs (nI j + 2).toNatClampNeg) (xs (nI j + 3).toNatClampNeg) h0
  refine g_aload_n h 1 dL_law_555 rfl ?_
  refine g_aload_n h 0 dL_law_556 rfl ?_
  refine g_iload h 4 dL_law_557 rfl ?_
  refine g_iconst (v := 1) h dL_law_559 (by decide) ?_
  refine g_iadd h dL_law_560 ?_
  refine g_ti h (fun H hw => hT _ _ hw.2.1.1) (L_in (k := 1) hj hL (by decide) (by decide)) dL_law_561 ?_
  refine g_aload_n h 0 dL_law_562 rfl ?_
  refine g_iload h 4 dL_law_563 rfl ?_
  refine g_iconst (v := 2) h dL_law_565 (by decide) ?_
  refine g_iadd h dL_law_566 ?_
  refine g_ti h (fun H hw => hT _ _ hw.2.1.1) (L_in (k := 2) hj hL (by decide) (by decide)) dL_law_567 ?_
  refine g_aload_n h 0 dL_law_568 rfl ?_
  refine g_iload h 4 dL_law_569 rfl ?_
  refine g_iconst (v := 3) h dL_law_571 (by decide) ?_
  refine g_iadd h dL_law_572 ?_
  refine g_ti h (fun H hw => hT _ _ hw.2.1.1) (L_in (k := 3) hj hL (by decide) (by decide)) dL_law_573 ?_
  refine g_aload_n h 3 dL_law_574 rfl ?_
  refine L_callW hz h hkw hKs [.ref a0, .int (xs (nI j + 1).toNatClampNeg), .int (xs (nI j + 2).toNatClampNeg), .int (xs (nI j + 3).toNatClampNeg), .ref (zo z)] (w_fact hz hkw (hX σ v) (hSt σ v) hN a0 h9 (xs (nI j + 1).toNatClampNeg) (xs (nI j + 2).toNatClampNeg) (xs (nI j + 3).toNatClampNeg) hK0) yk_L_fact tW_629 ⟨(Nat.le_of_ble_eq_true rfl), (Nat.le_of_ble_eq_true rfl)⟩ rfl rfl (Nat.le_of_ble_eq_true rfl) dL_law_575 ⟨(by show cc + 2 ≤ 601024; omega), (by show ss + 12 ≤ 7293034; omega)⟩ (fun r u hP => ?_)
  cases X with
  | inl a =>
    obtain ⟨rfl, rfl⟩ := hP
    obtain ⟨q1, q2, q3⟩ := hXX
    refine g_istore h [(5, .int (0 : Int32)), (0, .ref b), (1, .ref a0), (2, .ref (zh z)), (3, .ref (zo z)), (4, .int (nI j))] dL_law_578 (by decide) rfl ?_
    refine g_aload_n h 3 dL_law_580 rfl ?_
    refine g_aload_n h 1 dL_law_581 rfl ?_
    refine g_iload h 5 dL_law_582 rfl ?_
    refine g_iconst (v := 1) h dL_law_584 (by decide) ?_
    refine g_iadd h dL_law_585 ?_
    refine g_ti h (fun H hw => hT _ _ hw.2.1.1) (L_in (k := 1) hj hL (by decide) (by decide)) dL_law_586 ?_
    refine g_aload_n h 1 dL_law_587 rfl ?_
    refine g_iload h 5 dL_law_588 rfl ?_
    refine g_iconst (v := 2) h dL_law_590 (by decide) ?_
    refine g_iadd h dL_law_591 ?_
    refine g_ti h (fun H hw => hT _ _ hw.2.1.1) (L_in (k := 2) hj hL (by decide) (by decide)) dL_law_592 ?_
    refine g_aload_n h 1 dL_law_593 rfl ?_
    refine g_iload h 5 dL_law_594 rfl ?_
    refine g_iconst (v := 3) h dL_law_596 (by decide) ?_
    refine g_iadd h dL_law_597 ?_
    refine g_ti h (fun H hw => hT _ _ hw.2.1.1) (L_in (k := 3) hj hL (by decide) (by decide)) dL_law_598 ?_
    refine L_Mi hz h hkw hKs [.int (xs (nI j + 1).toNatClampNeg), .int (xs (nI j + 2).toNatClampNeg), .int (xs (nI j + 3).toNatClampNeg)] (c_X10_fact (lEM_ok hz _ _) hkw σ (xs (nI j + 1).toNatClampNeg) (xs (nI j + 2).toNatClampNeg) (xs (nI j + 3).toNatClampNeg) _ hM0) yk_X10_fact tW_1218 ⟨(Nat.le_of_ble_eq_true rfl), (Nat.le_of_ble_eq_true rfl)⟩ rfl rfl (Nat.le_of_ble_eq_true rfl) dL_law_599 ⟨(by show cc + 2 + 0 ≤ 601024; omega), (by show ss + 12 + 0 ≤ 7293034; omega)⟩ (fun n1 hn1 => ?_)
    refine g_istore h [(6, .int r1), (5, .int (0 : Int32)), (0, .ref b), (1, .ref a0), (2, .ref (zh z)), (3, .ref (zo z)), (4, .int (nI j))] dL_law_602 (by decide) rfl ?_
    refine g_aload_n h 4 dL_law_604 rfl ?_
    refine L_Mi hz h hkw hKs [] (c_X10_thrown (lEM_ok hz _ _) hkw σ1 _ rfl) yk_X10_thrown tW_1087 ⟨(Nat.le_of_ble_eq_true rfl), (Nat.le_of_ble_eq_true rfl)⟩ rfl rfl (Nat.le_of_ble_eq_true rfl) dL_law_605 ⟨(by show cc + 2 + 0 + 0 ≤ 601024; omega), (by show ss + 12 + 0 + 0 ≤ 7293034; omega)⟩ (fun n2 hn2 => ?_)
    refine g_iload h 1 dL_law_608 rfl ?_
    refine g_pos (cnd := σ1.1 0 = (0 : Int32)) q1 ?_
    refine g_icmp_eq h 615 dL_law_610 (by decide) ?_ g_none
    refine g_iload h 1 dL_law_615 rfl ?_
    refine g_pos (cnd := (0 : Int32) = 0) rfl ?_
    refine g_if_ne h 632 dL_law_617 (by decide) g_none ?_
    subst q2
    refine g_aload_n h 5 dL_law_620 rfl ?_
    refine g_iconst (v := 0) h dL_law_621 (by decide) ?_
    refine L_laload h dL_law_622 ?_
    refine g_iload h 0 dL_law_623 rfl ?_
    refine g_i2l h dL_law_625 ?_
    refine g_lcmp h dL_law_626 ?_
    refine g_pos (cnd := lg_cmp a.1.toInt64 a.1.toInt64 = 0) (lg_cmp_self _) ?_
    refine g_if_eq h 632 dL_law_627 (by decide) ?_ g_none
    refine g_goto h 1853 dL_law_632 (by decide) ?_
    refine g_lv [(0, .ref b), (1, .ref a0), (2, .ref (zh z)), (3, .ref (zo z)), (4, .int (nI j))] [2, 3, 4, 5, 6] rfl ?_
    refine g_wid (cc + 109) (ss + 690) (by show cc + 2 + 0 + 0 ≤ cc + 109; omega) (by show ss + 12 + 0 + 0 ≤ ss + 690; omega) ?_
    exact hk (ksn (ksn (a.2) n1) n2, σ1, a.1.toInt64) (hR.2 _ _ n2 hn2 (hR.2 _ _ n1 hn1 q3))
  | inr a =>
    obtain ⟨rfl, n0, hn0, rfl⟩ := hP
    obtain ⟨q0, q1, q3⟩ := hXX
    refine g_istore h [(5, .int (cond a.1 1 2 : Int32)), (0, .ref b), (1, .ref a0), (2, .ref (zh z)), (3, .ref (zo z)), (4, .int (nI j))] dL_law_578 (by decide) rfl ?_
    refine g_aload_n h 3 dL_law_580 rfl ?_
    refine g_aload_n h 1 dL_law_581 rfl ?_
    refine g_iload h 5 dL_law_582 rfl ?_
    refine g_iconst (v := 1) h dL_law_584 (by decide) ?_
    refine g_iadd h dL_law_585 ?_
    refine g_ti h (fun H hw => hT _ _ hw.2.1.1) (L_in (k := 1) hj hL (by decide) (by decide)) dL_law_586 ?_
    refine g_aload_n h 1 dL_law_587 rfl ?_
    refine g_iload h 5 dL_law_588 rfl ?_
    refine g_iconst (v := 2) h dL_law_590 (by decide) ?_
    refine g_iadd h dL_law_591 ?_
    refine g_ti h (fun H hw => hT _ _ hw.2.1.1) (L_in (k := 2) hj hL (by decide) (by decide)) dL_law_592 ?_
    refine g_aload_n h 1 dL_law_593 rfl ?_
    refine g_iload h 5 dL_law_594 rfl ?_
    refine g_iconst (v := 3) h dL_law_596 (by decide) ?_
    refine g_iadd h dL_law_597 ?_
    refine g_ti h (fun H hw => hT _ _ hw.2.1.1) (L_in (k := 3) hj hL (by decide) (by decide)) dL_law_598 ?_
    refine L_Mi hz h hkw hKs [.int (xs (nI j + 1).toNatClampNeg), .int (xs (nI j + 2).toNatClampNeg), .int (xs (nI j + 3).toNatClampNeg)] (c_X10_fact (lEM_ok hz _ _) hkw σ (xs (nI j + 1).toNatClampNeg) (xs (nI j + 2).toNatClampNeg) (xs (nI j + 3).toNatClampNeg) _ hM0) yk_X10_fact tW_1218 ⟨(Nat.le_of_ble_eq_true rfl), (Nat.le_of_ble_eq_true rfl)⟩ rfl rfl (Nat.le_of_ble_eq_true rfl) dL_law_599 ⟨(by show cc + 2 + 0 ≤ 601024; omega), (by show ss + 12 + 0 ≤ 7293034; omega)⟩ (fun n1 hn1 => ?_)
    refine g_istore h [(6, .int r1), (5, .int (cond a.1 1 2 : Int32)), (0, .ref b), (1, .ref a0), (2, .ref (zh z)), (3, .ref (zo z)), (4, .int (nI j))] dL_law_602 (by decide) rfl ?_
    refine g_aload_n h 4 dL_law_604 rfl ?_
    refine L_Mi hz h hkw hKs [] (c_X10_thrown (lEM_ok hz _ _) hkw σ1 _ rfl) yk_X10_thrown tW_1087 ⟨(Nat.le_of_ble_eq_true rfl), (Nat.le_of_ble_eq_true rfl)⟩ rfl rfl (Nat.le_of_ble_eq_true rfl) dL_law_605 ⟨(by show cc + 2 + 0 + 0 ≤ 601024; omega), (by show ss + 12 + 0 + 0 ≤ 7293034; omega)⟩ (fun n2 hn2 => ?_)
    refine g_iload h 1 dL_law_608 rfl ?_
    refine g_pos (cnd := σ1.1 0 = (cond a.1 1 2 : Int32)) q1 ?_
    refine g_icmp_eq h 615 dL_law_610 (by decide) ?_ g_none
    refine g_iload h 1 dL_law_615 rfl ?_
    refine g_neg (cnd := (cond a.1 1 2 : Int32) = 0) (by cases a.1 <;> decide) ?_
    refine g_if_ne h 632 dL_law_617 (by decide) ?_ g_none
    refine g_goto h 1853 dL_law_632 (by decide) ?_
    refine g_lv [(0, .ref b), (1, .ref a0), (2, .ref (zh z)), (3, .ref (zo z)), (4, .int (nI j))] [2, 3, 4, 5, 6] rfl ?_
    refine g_wid (cc + 109) (ss + 690) (by show cc + 2 + 0 + 0 ≤ cc + 109; omega) (by show ss + 12 + 0 + 0 ≤ ss + 690; omega) ?_
    exact hk (ksn (ksn (ksn a.2 n0) n1) n2, σ1, v) (hR.2 _ _ n2 hn2 (hR.2 _ _ n1 hn1 (hR.2 _ _ n0 hn0 q3)))
set_option maxHeartbeats 4000000 in
set_option maxRecDepth 100000 in
theorem lc_event {p : Program} {l : Launch} {e : Env} {s : State} {m : MethodId} {below : List Frame} {meth : Method} {c : Code} {Ke : State → Prop} {z : Lp} {adS adV adM : Nat → Nat} {adD b L : Nat} {xs : Nat → Int32} {Rep : Km → Ms → Prop} {a0 : Nat} {Rt : Type} {QX : Rt → State → Prop} {o : Option Rt} (h : gOk p s m #[Value.ref b] meth c cL_law 7 "KeepForgetLaw" tb) (hKs : Ke s) (hC : lCx l Ke z adS adV adM adD b L xs) (hR : lRep Rep a0) (hO : op_event Rep a0) (cc ss j : Nat) (hc1 : cc + 109 ≤ 601024) (hc2 : ss + 690 ≤ 7293034) (hj : j + 6 ≤ L) (μ : Km) (σ : Ms) (v : Int64) (h0 : Rep μ σ)
    (hk : ∀ w : Ls, Rep w.1 w.2.1 → gS p l e room_1 s m #[Value.ref b] below meth c 7 (lA z) (LW z) QX (cc + 109) (ss + 690) o (w) 1853 [(0, .ref b), (1, .ref a0), (2, .ref (zh z)), (3, .ref (zo z)), (4, .int (nI j))] []) : gS p l e room_1 s m #[Value.ref b] below meth c 7 (lA z) (LW z) QX (cc) (ss) o (μ, σ, v) 635 [(0, .ref b), (1, .ref a0), (2, .ref (zh z)), (3, .ref (zo z)), (4, .int (nI j))] [] := by
  obtain ⟨hz, hkw, hX, hSt, hStM, hN, hT, hL⟩ := hC
  have h9 := hR.1 _ _ h0
  obtain ⟨X, r1, σ1, hK0, hM0, hXX⟩ := hO μ σ (xs (nI j + 1).toNatClampNeg) (xs (nI j + 2).toNatClampNeg) (xs (nI j + 3).toNatClampNeg) h0
  refine g_aload_n h 1 dL_law_635 rfl ?_
  refine g_aload_n h 0 dL_law_636 rfl ?_
  refine g_iload h 4 dL_law_637 rfl ?_
  refine g_iconst (v := 1) h dL_law_639 (by decide) ?_
  refine g_iadd h dL_law_640 ?_
  refine g_ti h (fun H hw => hT _ _ hw.2.1.1) (L_in (k := 1) hj hL (by decide) (by decide)) dL_law_641 ?_
  refine g_aload_n h 0 dL_law_642 rfl ?_
  refine g_iload h 4 dL_law_643 rfl ?_
  refine g_iconst (v := 2) h dL_law_645 (by decide) ?_
  refine g_iadd h dL_law_646 ?_
  refine g_ti h (fun H hw => hT _ _ hw.2.1.1) (L_in (k := 2) hj hL (by decide) (by decide)) dL_law_647 ?_
  refine g_aload_n h 0 dL_law_648 rfl ?_
  refine g_iload h 4 dL_law_649 rfl ?_
  refine g_iconst (v := 3) h dL_law_651 (by decide) ?_
  refine g_iadd h dL_law_652 ?_
  refine g_ti h (fun H hw => hT _ _ hw.2.1.1) (L_in (k := 3) hj hL (by decide) (by decide)) dL_law_653 ?_
  refine g_aload_n h 3 dL_law_654 rfl ?_
  refine L_callW hz h hkw hKs [.ref a0, .int (xs (nI j + 1).toNatClampNeg), .int (xs (nI j + 2).toNatClampNeg), .int (xs (nI j + 3).toNatClampNeg), .ref (zo z)] (w_event hz hkw (hX σ v) (hSt σ v) hN a0 h9 (xs (nI j + 1).toNatClampNeg) (xs (nI j + 2).toNatClampNeg) (xs (nI j + 3).toNatClampNeg) hK0) yk_L_event tW_659 ⟨(Nat.le_of_ble_eq_true rfl), (Nat.le_of_ble_eq_true rfl)⟩ rfl rfl (Nat.le_of_ble_eq_true rfl) dL_law_655 ⟨(by show cc + 2 ≤ 601024; omega), (by show ss + 12 ≤ 7293034; omega)⟩ (fun r u hP => ?_)
  cases X with
  | inl a =>
    obtain ⟨rfl, rfl⟩ := hP
    obtain ⟨q1, q2, q3⟩ := hXX
    refine g_istore h [(5, .int (0 : Int32)), (0, .ref b), (1, .ref a0), (2, .ref (zh z)), (3, .ref (zo z)), (4, .int (nI j))] dL_law_658 (by decide) rfl ?_
    refine g_aload_n h 3 dL_law_660 rfl ?_
    refine g_aload_n h 1 dL_law_661 rfl ?_
    refine g_iload h 5 dL_law_662 rfl ?_
    refine g_iconst (v := 1) h dL_law_664 (by decide) ?_
    refine g_iadd h dL_law_665 ?_
    refine g_ti h (fun H hw => hT _ _ hw.2.1.1) (L_in (k := 1) hj hL (by decide) (by decide)) dL_law_666 ?_
    refine g_aload_n h 1 dL_law_667 rfl ?_
    refine g_iload h 5 dL_law_668 rfl ?_
    refine g_iconst (v := 2) h dL_law_670 (by decide) ?_
    refine g_iadd h dL_law_671 ?_
    refine g_ti h (fun H hw => hT _ _ hw.2.1.1) (L_in (k := 2) hj hL (by decide) (by decide)) dL_law_672 ?_
    refine g_aload_n h 1 dL_law_673 rfl ?_
    refine g_iload h 5 dL_law_674 rfl ?_
    refine g_iconst (v := 3) h dL_law_676 (by decide) ?_
    refine g_iadd h dL_law_677 ?_
    refine g_ti h (fun H hw => hT _ _ hw.2.1.1) (L_in (k := 3) hj hL (by decide) (by decide)) dL_law_678 ?_
    refine L_Mi hz h hkw hKs [.int (xs (nI j + 1).toNatClampNeg), .int (xs (nI j + 2).toNatClampNeg), .int (xs (nI j + 3).toNatClampNeg)] (c_X10_event (lEM_ok hz _ _) hkw σ (xs (nI j + 1).toNatClampNeg) (xs (nI j + 2).toNatClampNeg) (xs (nI j + 3).toNatClampNeg) _ hM0) yk_X10_event tW_1226 ⟨(Nat.le_of_ble_eq_true rfl), (Nat.le_of_ble_eq_true rfl)⟩ rfl rfl (Nat.le_of_ble_eq_true rfl) dL_law_679 ⟨(by show cc + 2 + 0 ≤ 601024; omega), (by show ss + 12 + 0 ≤ 7293034; omega)⟩ (fun n1 hn1 => ?_)
    refine g_istore h [(6, .int r1), (5, .int (0 : Int32)), (0, .ref b), (1, .ref a0), (2, .ref (zh z)), (3, .ref (zo z)), (4, .int (nI j))] dL_law_682 (by decide) rfl ?_
    refine g_aload_n h 4 dL_law_684 rfl ?_
    refine L_Mi hz h hkw hKs [] (c_X10_thrown (lEM_ok hz _ _) hkw σ1 _ rfl) yk_X10_thrown tW_1087 ⟨(Nat.le_of_ble_eq_true rfl), (Nat.le_of_ble_eq_true rfl)⟩ rfl rfl (Nat.le_of_ble_eq_true rfl) dL_law_685 ⟨(by show cc + 2 + 0 + 0 ≤ 601024; omega), (by show ss + 12 + 0 + 0 ≤ 7293034; omega)⟩ (fun n2 hn2 => ?_)
    refine g_iload h 1 dL_law_688 rfl ?_
    refine g_pos (cnd := σ1.1 0 = (0 : Int32)) q1 ?_
    refine g_icmp_eq h 695 dL_law_690 (by decide) ?_ g_none
    refine g_iload h 1 dL_law_695 rfl ?_
    refine g_pos (cnd := (0 : Int32) = 0) rfl ?_
    refine g_if_ne h 712 dL_law_697 (by decide) g_none ?_
    subst q2
    refine g_aload_n h 5 dL_law_700 rfl ?_
    refine g_iconst (v := 0) h dL_law_701 (by decide) ?_
    refine L_laload h dL_law_702 ?_
    refine g_iload h 0 dL_law_703 rfl ?_
    refine g_i2l h dL_law_705 ?_
    refine g_lcmp h dL_law_706 ?_
    refine g_pos (cnd := lg_cmp a.1.toInt64 a.1.toInt64 = 0) (lg_cmp_self _) ?_
    refine g_if_eq h 712 dL_law_707 (by decide) ?_ g_none
    refine g_goto h 1853 dL_law_712 (by decide) ?_
    refine g_lv [(0, .ref b), (1, .ref a0), (2, .ref (zh z)), (3, .ref (zo z)), (4, .int (nI j))] [2, 3, 4, 5, 6] rfl ?_
    refine g_wid (cc + 109) (ss + 690) (by show cc + 2 + 0 + 0 ≤ cc + 109; omega) (by show ss + 12 + 0 + 0 ≤ ss + 690; omega) ?_
    exact hk (ksn (ksn (a.2) n1) n2, σ1, a.1.toInt64) (hR.2 _ _ n2 hn2 (hR.2 _ _ n1 hn1 q3))
  | inr a =>
    obtain ⟨rfl, n0, hn0, rfl⟩ := hP
    obtain ⟨q0, q1, q3⟩ := hXX
    refine g_istore h [(5, .int (cond a.1 1 2 : Int32)), (0, .ref b), (1, .ref a0), (2, .ref (zh z)), (3, .ref (zo z)), (4, .int (nI j))] dL_law_658 (by decide) rfl ?_
    refine g_aload_n h 3 dL_law_660 rfl ?_
    refine g_aload_n h 1 dL_law_661 rfl ?_
    refine g_iload h 5 dL_law_662 rfl ?_
    refine g_iconst (v := 1) h dL_law_664 (by decide) ?_
    refine g_iadd h dL_law_665 ?_
    refine g_ti h (fun H hw => hT _ _ hw.2.1.1) (L_in (k := 1) hj hL (by decide) (by decide)) dL_law_666 ?_
    refine g_aload_n h 1 dL_law_667 rfl ?_
    refine g_iload h 5 dL_law_668 rfl ?_
    refine g_iconst (v := 2) h dL_law_670 (by decide) ?_
    refine g_iadd h dL_law_671 ?_
    refine g_ti h (fun H hw => hT _ _ hw.2.1.1) (L_in (k := 2) hj hL (by decide) (by decide)) dL_law_672 ?_
    refine g_aload_n h 1 dL_law_673 rfl ?_
    refine g_iload h 5 dL_law_674 rfl ?_
    refine g_iconst (v := 3) h dL_law_676 (by decide) ?_
    refine g_iadd h dL_law_677 ?_
    refine g_ti h (fun H hw => hT _ _ hw.2.1.1) (L_in (k := 3) hj hL (by decide) (by decide)) dL_law_678 ?_
    refine L_Mi hz h hkw hKs [.int (xs (nI j + 1).toNatClampNeg), .int (xs (nI j + 2).toNatClampNeg), .int (xs (nI j + 3).toNatClampNeg)] (c_X10_event (lEM_ok hz _ _) hkw σ (xs (nI j + 1).toNatClampNeg) (xs (nI j + 2).toNatClampNeg) (xs (nI j + 3).toNatClampNeg) _ hM0) yk_X10_event tW_1226 ⟨(Nat.le_of_ble_eq_true rfl), (Nat.le_of_ble_eq_true rfl)⟩ rfl rfl (Nat.le_of_ble_eq_true rfl) dL_law_679 ⟨(by show cc + 2 + 0 ≤ 601024; omega), (by show ss + 12 + 0 ≤ 7293034; omega)⟩ (fun n1 hn1 => ?_)
    refine g_istore h [(6, .int r1), (5, .int (cond a.1 1 2 : Int32)), (0, .ref b), (1, .ref a0), (2, .ref (zh z)), (3, .ref (zo z)), (4, .int (nI j))] dL_law_682 (by decide) rfl ?_
    refine g_aload_n h 4 dL_law_684 rfl ?_
    refine L_Mi hz h hkw hKs [] (c_X10_thrown (lEM_ok hz _ _) hkw σ1 _ rfl) yk_X10_thrown tW_1087 ⟨(Nat.le_of_ble_eq_true rfl), (Nat.le_of_ble_eq_true rfl)⟩ rfl rfl (Nat.le_of_ble_eq_true rfl) dL_law_685 ⟨(by show cc + 2 + 0 + 0 ≤ 601024; omega), (by show ss + 12 + 0 + 0 ≤ 7293034; omega)⟩ (fun n2 hn2 => ?_)
    refine g_iload h 1 dL_law_688 rfl ?_
    refine g_pos (cnd := σ1.1 0 = (cond a.1 1 2 : Int32)) q1 ?_
    refine g_icmp_eq h 695 dL_law_690 (by decide) ?_ g_none
    refine g_iload h 1 dL_law_695 rfl ?_
    refine g_neg (cnd := (cond a.1 1 2 : Int32) = 0) (by cases a.1 <;> decide) ?_
    refine g_if_ne h 712 dL_law_697 (by decide) ?_ g_none
    refine g_goto h 1853 dL_law_712 (by decide) ?_
    refine g_lv [(0, .ref b), (1, .ref a0), (2, .ref (zh z)), (3, .ref (zo z)), (4, .int (nI j))] [2, 3, 4, 5, 6] rfl ?_
    refine g_wid (cc + 109) (ss + 690) (by show cc + 2 + 0 + 0 ≤ cc + 109; omega) (by show ss + 12 + 0 + 0 ≤ ss + 690; omega) ?_
    exact hk (ksn (ksn (ksn a.2 n0) n1) n2, σ1, v) (hR.2 _ _ n2 hn2 (hR.2 _ _ n1 hn1 (hR.2 _ _ n0 hn0 q3)))
set_option maxHeartbeats 4000000 in
set_option maxRecDepth 100000 in
theorem lc_copy {p : Program} {l : Launch} {e : Env} {s : State} {m : MethodId} {below : List Frame} {meth : Method} {c : Code} {Ke : State → Prop} {z : Lp} {adS adV adM : Nat → Nat} {adD b L : Nat} {xs : Nat → Int32} {Rep : Km → Ms → Prop} {a0 : Nat} {Rt : Type} {QX : Rt → State → Prop} {o : Option Rt} (h : gOk p s m #[Value.ref b] meth c cL_law 7 "KeepForgetLaw" tb) (hKs : Ke s) (hC : lCx l Ke z adS adV adM adD b L xs) (hR : lRep Rep a0) (hO : op_copy Rep a0) (cc ss j : Nat) (hc1 : cc + 109 ≤ 601024) (hc2 : ss + 690 ≤ 7293034) (hj : j + 6 ≤ L) (μ : Km) (σ : Ms) (v : Int64) (h0 : Rep μ σ)
    (hk : ∀ w : Ls, Rep w.1 w.2.1 → gS p l e room_1 s m #[Value.ref b] below meth c 7 (lA z) (LW z) QX (cc + 109) (ss + 690) o (w) 1853 [(0, .ref b), (1, .ref a0), (2, .ref (zh z)), (3, .ref (zo z)), (4, .int (nI j))] []) : gS p l e room_1 s m #[Value.ref b] below meth c 7 (lA z) (LW z) QX (cc) (ss) o (μ, σ, v) 715 [(0, .ref b), (1, .ref a0), (2, .ref (zh z)), (3, .ref (zo z)), (4, .int (nI j))] [] := by
  obtain ⟨hz, hkw, hX, hSt, hStM, hN, hT, hL⟩ := hC
  have h9 := hR.1 _ _ h0
  obtain ⟨X, r1, σ1, hK0, hM0, hXX⟩ := hO μ σ (xs (nI j + 1).toNatClampNeg) (xs (nI j + 2).toNatClampNeg) (xs (nI j + 3).toNatClampNeg) h0
  refine g_aload_n h 1 dL_law_715 rfl ?_
  refine g_aload_n h 0 dL_law_716 rfl ?_
  refine g_iload h 4 dL_law_717 rfl ?_
  refine g_iconst (v := 1) h dL_law_719 (by decide) ?_
  refine g_iadd h dL_law_720 ?_
  refine g_ti h (fun H hw => hT _ _ hw.2.1.1) (L_in (k := 1) hj hL (by decide) (by decide)) dL_law_721 ?_
  refine g_aload_n h 0 dL_law_722 rfl ?_
  refine g_iload h 4 dL_law_723 rfl ?_
  refine g_iconst (v := 2) h dL_law_725 (by decide) ?_
  refine g_iadd h dL_law_726 ?_
  refine g_ti h (fun H hw => hT _ _ hw.2.1.1) (L_in (k := 2) hj hL (by decide) (by decide)) dL_law_727 ?_
  refine g_aload_n h 0 dL_law_728 rfl ?_
  refine g_iload h 4 dL_law_729 rfl ?_
  refine g_iconst (v := 3) h dL_law_731 (by decide) ?_
  refine g_iadd h dL_law_732 ?_
  refine g_ti h (fun H hw => hT _ _ hw.2.1.1) (L_in (k := 3) hj hL (by decide) (by decide)) dL_law_733 ?_
  refine g_aload_n h 3 dL_law_734 rfl ?_
  refine L_callW hz h hkw hKs [.ref a0, .int (xs (nI j + 1).toNatClampNeg), .int (xs (nI j + 2).toNatClampNeg), .int (xs (nI j + 3).toNatClampNeg), .ref (zo z)] (w_copy hz hkw (hX σ v) (hSt σ v) hN a0 h9 (xs (nI j + 1).toNatClampNeg) (xs (nI j + 2).toNatClampNeg) (xs (nI j + 3).toNatClampNeg) hK0 (fun b9 u9 q9 => by subst q9; exact hXX.1)) yk_L_copy tW_667 ⟨(Nat.le_of_ble_eq_true rfl), (Nat.le_of_ble_eq_true rfl)⟩ rfl rfl (Nat.le_of_ble_eq_true rfl) dL_law_735 ⟨(by show cc + 3 ≤ 601024; omega), (by show ss + 18 ≤ 7293034; omega)⟩ (fun r u hP => ?_)
  cases X with
  | inl a =>
    obtain ⟨rfl, rfl⟩ := hP
    obtain ⟨q1, q2, q3⟩ := hXX
    refine g_istore h [(5, .int (0 : Int32)), (0, .ref b), (1, .ref a0), (2, .ref (zh z)), (3, .ref (zo z)), (4, .int (nI j))] dL_law_738 (by decide) rfl ?_
    refine g_aload_n h 3 dL_law_740 rfl ?_
    refine g_aload_n h 1 dL_law_741 rfl ?_
    refine g_iload h 5 dL_law_742 rfl ?_
    refine g_iconst (v := 1) h dL_law_744 (by decide) ?_
    refine g_iadd h dL_law_745 ?_
    refine g_ti h (fun H hw => hT _ _ hw.2.1.1) (L_in (k := 1) hj hL (by decide) (by decide)) dL_law_746 ?_
    refine g_aload_n h 1 dL_law_747 rfl ?_
    refine g_iload h 5 dL_law_748 rfl ?_
    refine g_iconst (v := 2) h dL_law_750 (by decide) ?_
    refine g_iadd h dL_law_751 ?_
    refine g_ti h (fun H hw => hT _ _ hw.2.1.1) (L_in (k := 2) hj hL (by decide) (by decide)) dL_law_752 ?_
    refine g_aload_n h 1 dL_law_753 rfl ?_
    refine g_iload h 5 dL_law_754 rfl ?_
    refine g_iconst (v := 3) h dL_law_756 (by decide) ?_
    refine g_iadd h dL_law_757 ?_
    refine g_ti h (fun H hw => hT _ _ hw.2.1.1) (L_in (k := 3) hj hL (by decide) (by decide)) dL_law_758 ?_
    refine L_Mi hz h hkw hKs [.int (xs (nI j + 1).toNatClampNeg), .int (xs (nI j + 2).toNatClampNeg), .int (xs (nI j + 3).toNatClampNeg)] (c_X10_copy (lEM_ok hz _ _) hkw σ (xs (nI j + 1).toNatClampNeg) (xs (nI j + 2).toNatClampNeg) (xs (nI j + 3).toNatClampNeg) _ hM0) yk_X10_copy tW_1230 ⟨(Nat.le_of_ble_eq_true rfl), (Nat.le_of_ble_eq_true rfl)⟩ rfl rfl (Nat.le_of_ble_eq_true rfl) dL_law_759 ⟨(by show cc + 3 + 0 ≤ 601024; omega), (by show ss + 18 + 0 ≤ 7293034; omega)⟩ (fun n1 hn1 => ?_)
    refine g_istore h [(6, .int r1), (5, .int (0 : Int32)), (0, .ref b), (1, .ref a0), (2, .ref (zh z)), (3, .ref (zo z)), (4, .int (nI j))] dL_law_762 (by decide) rfl ?_
    refine g_aload_n h 4 dL_law_764 rfl ?_
    refine L_Mi hz h hkw hKs [] (c_X10_thrown (lEM_ok hz _ _) hkw σ1 _ rfl) yk_X10_thrown tW_1087 ⟨(Nat.le_of_ble_eq_true rfl), (Nat.le_of_ble_eq_true rfl)⟩ rfl rfl (Nat.le_of_ble_eq_true rfl) dL_law_765 ⟨(by show cc + 3 + 0 + 0 ≤ 601024; omega), (by show ss + 18 + 0 + 0 ≤ 7293034; omega)⟩ (fun n2 hn2 => ?_)
    refine g_iload h 1 dL_law_768 rfl ?_
    refine g_pos (cnd := σ1.1 0 = (0 : Int32)) q1 ?_
    refine g_icmp_eq h 775 dL_law_770 (by decide) ?_ g_none
    refine g_iload h 1 dL_law_775 rfl ?_
    refine g_pos (cnd := (0 : Int32) = 0) rfl ?_
    refine g_if_ne h 799 dL_law_777 (by decide) g_none ?_
    subst q2
    refine g_aload_n h 5 dL_law_780 rfl ?_
    refine g_iconst (v := 0) h dL_law_781 (by decide) ?_
    refine L_laload h dL_law_782 ?_
    refine g_iload h 0 dL_law_783 rfl ?_
    by_cases hb0 : a.1 = 0
    · refine g_pos (cnd := a.1 = 0) hb0 ?_
      refine g_if_eq h 792 dL_law_785 (by decide) ?_ g_none
      refine g_lconst (v := 0) h dL_law_792 (by decide) ?_
      refine g_lcmp h dL_law_793 ?_
      refine g_pos (cnd := lg_cmp (bz a.1) 0 = 0) (by rw [bz, if_pos hb0]; exact lg_cmp_self _) ?_
      refine g_if_eq h 799 dL_law_794 (by decide) ?_ g_none
      refine g_goto h 1853 dL_law_799 (by decide) ?_
      refine g_lv [(0, .ref b), (1, .ref a0), (2, .ref (zh z)), (3, .ref (zo z)), (4, .int (nI j))] [2, 3, 4, 5, 6] rfl ?_
      refine g_wid (cc + 109) (ss + 690) (by show cc + 3 + 0 + 0 ≤ cc + 109; omega) (by show ss + 18 + 0 + 0 ≤ ss + 690; omega) ?_
      exact hk (ksn (ksn (a.2) n1) n2, σ1, bz a.1) (hR.2 _ _ n2 hn2 (hR.2 _ _ n1 hn1 q3))
    · refine g_neg (cnd := a.1 = 0) hb0 ?_
      refine g_if_eq h 792 dL_law_785 (by decide) g_none ?_
      refine g_lconst (v := 1) h dL_law_788 (by decide) ?_
      refine g_goto h 793 dL_law_789 (by decide) ?_
      refine g_lcmp h dL_law_793 ?_
      refine g_pos (cnd := lg_cmp (bz a.1) 1 = 0) (by rw [bz, if_neg hb0]; exact lg_cmp_self _) ?_
      refine g_if_eq h 799 dL_law_794 (by decide) ?_ g_none
      refine g_goto h 1853 dL_law_799 (by decide) ?_
      refine g_lv [(0, .ref b), (1, .ref a0), (2, .ref (zh z)), (3, .ref (zo z)), (4, .int (nI j))] [2, 3, 4, 5, 6] rfl ?_
      refine g_wid (cc + 109) (ss + 690) (by show cc + 3 + 0 + 0 ≤ cc + 109; omega) (by show ss + 18 + 0 + 0 ≤ ss + 690; omega) ?_
      exact hk (ksn (ksn (a.2) n1) n2, σ1, bz a.1) (hR.2 _ _ n2 hn2 (hR.2 _ _ n1 hn1 q3))
  | inr a =>
    obtain ⟨rfl, n0, hn0, rfl⟩ := hP
    obtain ⟨q0, q1, q3⟩ := hXX
    refine g_istore h [(5, .int (1 : Int32)), (0, .ref b), (1, .ref a0), (2, .ref (zh z)), (3, .ref (zo z)), (4, .int (nI j))] dL_law_738 (by decide) rfl ?_
    refine g_aload_n h 3 dL_law_740 rfl ?_
    refine g_aload_n h 1 dL_law_741 rfl ?_
    refine g_iload h 5 dL_law_742 rfl ?_
    refine g_iconst (v := 1) h dL_law_744 (by decide) ?_
    refine g_iadd h dL_law_745 ?_
    refine g_ti h (fun H hw => hT _ _ hw.2.1.1) (L_in (k := 1) hj hL (by decide) (by decide)) dL_law_746 ?_
    refine g_aload_n h 1 dL_law_747 rfl ?_
    refine g_iload h 5 dL_law_748 rfl ?_
    refine g_iconst (v := 2) h dL_law_750 (by decide) ?_
    refine g_iadd h dL_law_751 ?_
    refine g_ti h (fun H hw => hT _ _ hw.2.1.1) (L_in (k := 2) hj hL (by decide) (by decide)) dL_law_752 ?_
    refine g_aload_n h 1 dL_law_753 rfl ?_
    refine g_iload h 5 dL_law_754 rfl ?_
    refine g_iconst (v := 3) h dL_law_756 (by decide) ?_
    refine g_iadd h dL_law_757 ?_
    refine g_ti h (fun H hw => hT _ _ hw.2.1.1) (L_in (k := 3) hj hL (by decide) (by decide)) dL_law_758 ?_
    refine L_Mi hz h hkw hKs [.int (xs (nI j + 1).toNatClampNeg), .int (xs (nI j + 2).toNatClampNeg), .int (xs (nI j + 3).toNatClampNeg)] (c_X10_copy (lEM_ok hz _ _) hkw σ (xs (nI j + 1).toNatClampNeg) (xs (nI j + 2).toNatClampNeg) (xs (nI j + 3).toNatClampNeg) _ hM0) yk_X10_copy tW_1230 ⟨(Nat.le_of_ble_eq_true rfl), (Nat.le_of_ble_eq_true rfl)⟩ rfl rfl (Nat.le_of_ble_eq_true rfl) dL_law_759 ⟨(by show cc + 3 + 0 ≤ 601024; omega), (by show ss + 18 + 0 ≤ 7293034; omega)⟩ (fun n1 hn1 => ?_)
    refine g_istore h [(6, .int r1), (5, .int (1 : Int32)), (0, .ref b), (1, .ref a0), (2, .ref (zh z)), (3, .ref (zo z)), (4, .int (nI j))] dL_law_762 (by decide) rfl ?_
    refine g_aload_n h 4 dL_law_764 rfl ?_
    refine L_Mi hz h hkw hKs [] (c_X10_thrown (lEM_ok hz _ _) hkw σ1 _ rfl) yk_X10_thrown tW_1087 ⟨(Nat.le_of_ble_eq_true rfl), (Nat.le_of_ble_eq_true rfl)⟩ rfl rfl (Nat.le_of_ble_eq_true rfl) dL_law_765 ⟨(by show cc + 3 + 0 + 0 ≤ 601024; omega), (by show ss + 18 + 0 + 0 ≤ 7293034; omega)⟩ (fun n2 hn2 => ?_)
    refine g_iload h 1 dL_law_768 rfl ?_
    refine g_pos (cnd := σ1.1 0 = (1 : Int32)) q1 ?_
    refine g_icmp_eq h 775 dL_law_770 (by decide) ?_ g_none
    refine g_iload h 1 dL_law_775 rfl ?_
    refine g_neg (cnd := (1 : Int32) = 0) (by decide) ?_
    refine g_if_ne h 799 dL_law_777 (by decide) ?_ g_none
    refine g_goto h 1853 dL_law_799 (by decide) ?_
    refine g_lv [(0, .ref b), (1, .ref a0), (2, .ref (zh z)), (3, .ref (zo z)), (4, .int (nI j))] [2, 3, 4, 5, 6] rfl ?_
    refine g_wid (cc + 109) (ss + 690) (by show cc + 3 + 0 + 0 ≤ cc + 109; omega) (by show ss + 18 + 0 + 0 ≤ ss + 690; omega) ?_
    exact hk (ksn (ksn (ksn a.2 n0) n1) n2, σ1, v) (hR.2 _ _ n2 hn2 (hR.2 _ _ n1 hn1 (hR.2 _ _ n0 hn0 q3)))
set_option maxHeartbeats 4000000 in
set_option maxRecDepth 100000 in
theorem lc_copies {p : Program} {l : Launch} {e : Env} {s : State} {m : MethodId} {below : List Frame} {meth : Method} {c : Code} {Ke : State → Prop} {z : Lp} {adS adV adM : Nat → Nat} {adD b L : Nat} {xs : Nat → Int32} {Rep : Km → Ms → Prop} {a0 : Nat} {Rt : Type} {QX : Rt → State → Prop} {o : Option Rt} (h : gOk p s m #[Value.ref b] meth c cL_law 7 "KeepForgetLaw" tb) (hKs : Ke s) (hC : lCx l Ke z adS adV adM adD b L xs) (hR : lRep Rep a0) (hO : op_copies Rep a0) (cc ss j : Nat) (hc1 : cc + 109 ≤ 601024) (hc2 : ss + 690 ≤ 7293034) (hj : j + 6 ≤ L) (μ : Km) (σ : Ms) (v : Int64) (h0 : Rep μ σ)
    (hk : ∀ w : Ls, Rep w.1 w.2.1 → gS p l e room_1 s m #[Value.ref b] below meth c 7 (lA z) (LW z) QX (cc + 109) (ss + 690) o (w) 1853 [(0, .ref b), (1, .ref a0), (2, .ref (zh z)), (3, .ref (zo z)), (4, .int (nI j))] []) : gS p l e room_1 s m #[Value.ref b] below meth c 7 (lA z) (LW z) QX (cc) (ss) o (μ, σ, v) 802 [(0, .ref b), (1, .ref a0), (2, .ref (zh z)), (3, .ref (zo z)), (4, .int (nI j))] [] := by
  obtain ⟨hz, hkw, hX, hSt, hStM, hN, hT, hL⟩ := hC
  have h9 := hR.1 _ _ h0
  obtain ⟨X, r1, σ1, hK0, hM0, hXX⟩ := hO μ σ (xs (nI j + 1).toNatClampNeg) (xs (nI j + 2).toNatClampNeg) h0
  refine g_aload_n h 1 dL_law_802 rfl ?_
  refine g_aload_n h 0 dL_law_803 rfl ?_
  refine g_iload h 4 dL_law_804 rfl ?_
  refine g_iconst (v := 1) h dL_law_806 (by decide) ?_
  refine g_iadd h dL_law_807 ?_
  refine g_ti h (fun H hw => hT _ _ hw.2.1.1) (L_in (k := 1) hj hL (by decide) (by decide)) dL_law_808 ?_
  refine g_aload_n h 0 dL_law_809 rfl ?_
  refine g_iload h 4 dL_law_810 rfl ?_
  refine g_iconst (v := 2) h dL_law_812 (by decide) ?_
  refine g_iadd h dL_law_813 ?_
  refine g_ti h (fun H hw => hT _ _ hw.2.1.1) (L_in (k := 2) hj hL (by decide) (by decide)) dL_law_814 ?_
  refine g_aload_n h 3 dL_law_815 rfl ?_
  refine L_callW hz h hkw hKs [.ref a0, .int (xs (nI j + 1).toNatClampNeg), .int (xs (nI j + 2).toNatClampNeg), .ref (zo z)] (w_copies hz hkw (hX σ v) (hSt σ v) hN a0 h9 (xs (nI j + 1).toNatClampNeg) (xs (nI j + 2).toNatClampNeg) hK0 (fun b9 u9 q9 => by subst q9; exact hXX.1)) yk_L_copies tW_686 ⟨(Nat.le_of_ble_eq_true rfl), (Nat.le_of_ble_eq_true rfl)⟩ rfl rfl (Nat.le_of_ble_eq_true rfl) dL_law_816 ⟨(by show cc + 2 ≤ 601024; omega), (by show ss + 12 ≤ 7293034; omega)⟩ (fun r u hP => ?_)
  cases X with
  | inl a =>
    obtain ⟨rfl, rfl⟩ := hP
    obtain ⟨q1, q2, q3⟩ := hXX
    refine g_istore h [(5, .int (0 : Int32)), (0, .ref b), (1, .ref a0), (2, .ref (zh z)), (3, .ref (zo z)), (4, .int (nI j))] dL_law_819 (by decide) rfl ?_
    refine g_aload_n h 3 dL_law_821 rfl ?_
    refine g_aload_n h 1 dL_law_822 rfl ?_
    refine g_iload h 5 dL_law_823 rfl ?_
    refine g_iconst (v := 1) h dL_law_825 (by decide) ?_
    refine g_iadd h dL_law_826 ?_
    refine g_ti h (fun H hw => hT _ _ hw.2.1.1) (L_in (k := 1) hj hL (by decide) (by decide)) dL_law_827 ?_
    refine g_aload_n h 1 dL_law_828 rfl ?_
    refine g_iload h 5 dL_law_829 rfl ?_
    refine g_iconst (v := 2) h dL_law_831 (by decide) ?_
    refine g_iadd h dL_law_832 ?_
    refine g_ti h (fun H hw => hT _ _ hw.2.1.1) (L_in (k := 2) hj hL (by decide) (by decide)) dL_law_833 ?_
    refine L_Mi hz h hkw hKs [.int (xs (nI j + 1).toNatClampNeg), .int (xs (nI j + 2).toNatClampNeg)] (c_X10_copies (lEM_ok hz _ _) hkw σ (xs (nI j + 1).toNatClampNeg) (xs (nI j + 2).toNatClampNeg) _ hM0) yk_X10_copies tW_1252 ⟨(Nat.le_of_ble_eq_true rfl), (Nat.le_of_ble_eq_true rfl)⟩ rfl rfl (Nat.le_of_ble_eq_true rfl) dL_law_834 ⟨(by show cc + 2 + 0 ≤ 601024; omega), (by show ss + 12 + 0 ≤ 7293034; omega)⟩ (fun n1 hn1 => ?_)
    refine g_istore h [(6, .int r1), (5, .int (0 : Int32)), (0, .ref b), (1, .ref a0), (2, .ref (zh z)), (3, .ref (zo z)), (4, .int (nI j))] dL_law_837 (by decide) rfl ?_
    refine g_aload_n h 4 dL_law_839 rfl ?_
    refine L_Mi hz h hkw hKs [] (c_X10_thrown (lEM_ok hz _ _) hkw σ1 _ rfl) yk_X10_thrown tW_1087 ⟨(Nat.le_of_ble_eq_true rfl), (Nat.le_of_ble_eq_true rfl)⟩ rfl rfl (Nat.le_of_ble_eq_true rfl) dL_law_840 ⟨(by show cc + 2 + 0 + 0 ≤ 601024; omega), (by show ss + 12 + 0 + 0 ≤ 7293034; omega)⟩ (fun n2 hn2 => ?_)
    refine g_iload h 1 dL_law_843 rfl ?_
    refine g_pos (cnd := σ1.1 0 = (0 : Int32)) q1 ?_
    refine g_icmp_eq h 850 dL_law_845 (by decide) ?_ g_none
    refine g_iload h 1 dL_law_850 rfl ?_
    refine g_pos (cnd := (0 : Int32) = 0) rfl ?_
    refine g_if_ne h 867 dL_law_852 (by decide) g_none ?_
    subst q2
    refine g_aload_n h 5 dL_law_855 rfl ?_
    refine g_iconst (v := 0) h dL_law_856 (by decide) ?_
    refine L_laload h dL_law_857 ?_
    refine g_iload h 0 dL_law_858 rfl ?_
    refine g_i2l h dL_law_860 ?_
    refine g_lcmp h dL_law_861 ?_
    refine g_pos (cnd := lg_cmp a.1.toInt64 a.1.toInt64 = 0) (lg_cmp_self _) ?_
    refine g_if_eq h 867 dL_law_862 (by decide) ?_ g_none
    refine g_goto h 1853 dL_law_867 (by decide) ?_
    refine g_lv [(0, .ref b), (1, .ref a0), (2, .ref (zh z)), (3, .ref (zo z)), (4, .int (nI j))] [2, 3, 4, 5, 6] rfl ?_
    refine g_wid (cc + 109) (ss + 690) (by show cc + 2 + 0 + 0 ≤ cc + 109; omega) (by show ss + 12 + 0 + 0 ≤ ss + 690; omega) ?_
    exact hk (ksn (ksn (a.2) n1) n2, σ1, a.1.toInt64) (hR.2 _ _ n2 hn2 (hR.2 _ _ n1 hn1 q3))
  | inr a =>
    obtain ⟨rfl, n0, hn0, rfl⟩ := hP
    obtain ⟨q0, q1, q3⟩ := hXX
    refine g_istore h [(5, .int (1 : Int32)), (0, .ref b), (1, .ref a0), (2, .ref (zh z)), (3, .ref (zo z)), (4, .int (nI j))] dL_law_819 (by decide) rfl ?_
    refine g_aload_n h 3 dL_law_821 rfl ?_
    refine g_aload_n h 1 dL_law_822 rfl ?_
    refine g_iload h 5 dL_law_823 rfl ?_
    refine g_iconst (v := 1) h dL_law_825 (by decide) ?_
    refine g_iadd h dL_law_826 ?_
    refine g_ti h (fun H hw => hT _ _ hw.2.1.1) (L_in (k := 1) hj hL (by decide) (by decide)) dL_law_827 ?_
    refine g_aload_n h 1 dL_law_828 rfl ?_
    refine g_iload h 5 dL_law_829 rfl ?_
    refine g_iconst (v := 2) h dL_law_831 (by decide) ?_
    refine g_iadd h dL_law_832 ?_
    refine g_ti h (fun H hw => hT _ _ hw.2.1.1) (L_in (k := 2) hj hL (by decide) (by decide)) dL_law_833 ?_
    refine L_Mi hz h hkw hKs [.int (xs (nI j + 1).toNatClampNeg), .int (xs (nI j + 2).toNatClampNeg)] (c_X10_copies (lEM_ok hz _ _) hkw σ (xs (nI j + 1).toNatClampNeg) (xs (nI j + 2).toNatClampNeg) _ hM0) yk_X10_copies tW_1252 ⟨(Nat.le_of_ble_eq_true rfl), (Nat.le_of_ble_eq_true rfl)⟩ rfl rfl (Nat.le_of_ble_eq_true rfl) dL_law_834 ⟨(by show cc + 2 + 0 ≤ 601024; omega), (by show ss + 12 + 0 ≤ 7293034; omega)⟩ (fun n1 hn1 => ?_)
    refine g_istore h [(6, .int r1), (5, .int (1 : Int32)), (0, .ref b), (1, .ref a0), (2, .ref (zh z)), (3, .ref (zo z)), (4, .int (nI j))] dL_law_837 (by decide) rfl ?_
    refine g_aload_n h 4 dL_law_839 rfl ?_
    refine L_Mi hz h hkw hKs [] (c_X10_thrown (lEM_ok hz _ _) hkw σ1 _ rfl) yk_X10_thrown tW_1087 ⟨(Nat.le_of_ble_eq_true rfl), (Nat.le_of_ble_eq_true rfl)⟩ rfl rfl (Nat.le_of_ble_eq_true rfl) dL_law_840 ⟨(by show cc + 2 + 0 + 0 ≤ 601024; omega), (by show ss + 12 + 0 + 0 ≤ 7293034; omega)⟩ (fun n2 hn2 => ?_)
    refine g_iload h 1 dL_law_843 rfl ?_
    refine g_pos (cnd := σ1.1 0 = (1 : Int32)) q1 ?_
    refine g_icmp_eq h 850 dL_law_845 (by decide) ?_ g_none
    refine g_iload h 1 dL_law_850 rfl ?_
    refine g_neg (cnd := (1 : Int32) = 0) (by decide) ?_
    refine g_if_ne h 867 dL_law_852 (by decide) ?_ g_none
    refine g_goto h 1853 dL_law_867 (by decide) ?_
    refine g_lv [(0, .ref b), (1, .ref a0), (2, .ref (zh z)), (3, .ref (zo z)), (4, .int (nI j))] [2, 3, 4, 5, 6] rfl ?_
    refine g_wid (cc + 109) (ss + 690) (by show cc + 2 + 0 + 0 ≤ cc + 109; omega) (by show ss + 12 + 0 + 0 ≤ ss + 690; omega) ?_
    exact hk (ksn (ksn (ksn a.2 n0) n1) n2, σ1, v) (hR.2 _ _ n2 hn2 (hR.2 _ _ n1 hn1 (hR.2 _ _ n0 hn0 q3)))
set_option maxHeartbeats 4000000 in
set_option maxRecDepth 100000 in
theorem lc_store {p : Program} {l : Launch} {e : Env} {s : State} {m : MethodId} {below : List Frame} {meth : Method} {c : Code} {Ke : State → Prop} {z : Lp} {adS adV adM : Nat → Nat} {adD b L : Nat} {xs : Nat → Int32} {Rep : Km → Ms → Prop} {a0 : Nat} {Rt : Type} {QX : Rt → State → Prop} {o : Option Rt} (h : gOk p s m #[Value.ref b] meth c cL_law 7 "KeepForgetLaw" tb) (hKs : Ke s) (hC : lCx l Ke z adS adV adM adD b L xs) (hR : lRep Rep a0) (hO : op_store Rep a0) (cc ss j : Nat) (hc1 : cc + 109 ≤ 601024) (hc2 : ss + 690 ≤ 7293034) (hj : j + 6 ≤ L) (μ : Km) (σ : Ms) (v : Int64) (h0 : Rep μ σ)
    (hk : ∀ w : Ls, Rep w.1 w.2.1 → gS p l e room_1 s m #[Value.ref b] below meth c 7 (lA z) (LW z) QX (cc + 109) (ss + 690) o (w) 1853 [(0, .ref b), (1, .ref a0), (2, .ref (zh z)), (3, .ref (zo z)), (4, .int (nI j))] []) : gS p l e room_1 s m #[Value.ref b] below meth c 7 (lA z) (LW z) QX (cc) (ss) o (μ, σ, v) 870 [(0, .ref b), (1, .ref a0), (2, .ref (zh z)), (3, .ref (zo z)), (4, .int (nI j))] [] := by
  obtain ⟨hz, hkw, hX, hSt, hStM, hN, hT, hL⟩ := hC
  have h9 := hR.1 _ _ h0
  obtain ⟨X, σ1, hK0, hM0, hXX⟩ := hO μ σ (xs (nI j + 1).toNatClampNeg) (xs (nI j + 2).toNatClampNeg) (xs (nI j + 3).toNatClampNeg) h0
  refine g_aload_n h 1 dL_law_870 rfl ?_
  refine g_aload_n h 0 dL_law_871 rfl ?_
  refine g_iload h 4 dL_law_872 rfl ?_
  refine g_iconst (v := 1) h dL_law_874 (by decide) ?_
  refine g_iadd h dL_law_875 ?_
  refine g_ti h (fun H hw => hT _ _ hw.2.1.1) (L_in (k := 1) hj hL (by decide) (by decide)) dL_law_876 ?_
  refine g_aload_n h 0 dL_law_877 rfl ?_
  refine g_iload h 4 dL_law_878 rfl ?_
  refine g_iconst (v := 2) h dL_law_880 (by decide) ?_
  refine g_iadd h dL_law_881 ?_
  refine g_ti h (fun H hw => hT _ _ hw.2.1.1) (L_in (k := 2) hj hL (by decide) (by decide)) dL_law_882 ?_
  refine g_aload_n h 0 dL_law_883 rfl ?_
  refine g_iload h 4 dL_law_884 rfl ?_
  refine g_iconst (v := 3) h dL_law_886 (by decide) ?_
  refine g_iadd h dL_law_887 ?_
  refine g_ti h (fun H hw => hT _ _ hw.2.1.1) (L_in (k := 3) hj hL (by decide) (by decide)) dL_law_888 ?_
  refine L_callW hz h hkw hKs [.ref a0, .int (xs (nI j + 1).toNatClampNeg), .int (xs (nI j + 2).toNatClampNeg), .int (xs (nI j + 3).toNatClampNeg)] (w_store hz hkw (hX σ v) (hSt σ v) hN a0 h9 (xs (nI j + 1).toNatClampNeg) (xs (nI j + 2).toNatClampNeg) (xs (nI j + 3).toNatClampNeg) hK0) yk_L_store tW_693 ⟨(Nat.le_of_ble_eq_true rfl), (Nat.le_of_ble_eq_true rfl)⟩ rfl rfl (Nat.le_of_ble_eq_true rfl) dL_law_889 ⟨(by show cc + 2 ≤ 601024; omega), (by show ss + 12 ≤ 7293034; omega)⟩ (fun r u hP => ?_)
  cases X with
  | inl a =>
    obtain ⟨rfl, rfl⟩ := hP
    obtain ⟨q1, q3⟩ := hXX
    refine g_istore h [(5, .int (0 : Int32)), (0, .ref b), (1, .ref a0), (2, .ref (zh z)), (3, .ref (zo z)), (4, .int (nI j))] dL_law_892 (by decide) rfl ?_
    refine g_aload_n h 3 dL_law_894 rfl ?_
    refine g_aload_n h 1 dL_law_895 rfl ?_
    refine g_iload h 5 dL_law_896 rfl ?_
    refine g_iconst (v := 1) h dL_law_898 (by decide) ?_
    refine g_iadd h dL_law_899 ?_
    refine g_ti h (fun H hw => hT _ _ hw.2.1.1) (L_in (k := 1) hj hL (by decide) (by decide)) dL_law_900 ?_
    refine g_aload_n h 1 dL_law_901 rfl ?_
    refine g_iload h 5 dL_law_902 rfl ?_
    refine g_iconst (v := 2) h dL_law_904 (by decide) ?_
    refine g_iadd h dL_law_905 ?_
    refine g_ti h (fun H hw => hT _ _ hw.2.1.1) (L_in (k := 2) hj hL (by decide) (by decide)) dL_law_906 ?_
    refine g_aload_n h 1 dL_law_907 rfl ?_
    refine g_iload h 5 dL_law_908 rfl ?_
    refine g_iconst (v := 3) h dL_law_910 (by decide) ?_
    refine g_iadd h dL_law_911 ?_
    refine g_ti h (fun H hw => hT _ _ hw.2.1.1) (L_in (k := 3) hj hL (by decide) (by decide)) dL_law_912 ?_
    refine L_Mv hz h hkw hKs [.int (xs (nI j + 1).toNatClampNeg), .int (xs (nI j + 2).toNatClampNeg), .int (xs (nI j + 3).toNatClampNeg)] (c_X10_store (lEM_ok hz _ _) hkw σ (xs (nI j + 1).toNatClampNeg) (xs (nI j + 2).toNatClampNeg) (xs (nI j + 3).toNatClampNeg) _ hM0) yk_X10_store tW_1256 ⟨(Nat.le_of_ble_eq_true rfl), (Nat.le_of_ble_eq_true rfl)⟩ rfl rfl (Nat.le_of_ble_eq_true rfl) dL_law_913 ⟨(by show cc + 2 + 0 ≤ 601024; omega), (by show ss + 12 + 0 ≤ 7293034; omega)⟩ (fun n1 hn1 => ?_)
    refine g_aload_n h 3 dL_law_916 rfl ?_
    refine L_Mi hz h hkw hKs [] (c_X10_thrown (lEM_ok hz _ _) hkw σ1 _ rfl) yk_X10_thrown tW_1087 ⟨(Nat.le_of_ble_eq_true rfl), (Nat.le_of_ble_eq_true rfl)⟩ rfl rfl (Nat.le_of_ble_eq_true rfl) dL_law_917 ⟨(by show cc + 2 + 0 + 0 ≤ 601024; omega), (by show ss + 12 + 0 + 0 ≤ 7293034; omega)⟩ (fun n2 hn2 => ?_)
    refine g_iload h 0 dL_law_920 rfl ?_
    refine g_pos (cnd := σ1.1 0 = (0 : Int32)) q1 ?_
    refine g_icmp_eq h 927 dL_law_922 (by decide) ?_ g_none
    refine g_goto h 1853 dL_law_927 (by decide) ?_
    refine g_lv [(0, .ref b), (1, .ref a0), (2, .ref (zh z)), (3, .ref (zo z)), (4, .int (nI j))] [1, 2, 3, 4, 5] rfl ?_
    refine g_wid (cc + 109) (ss + 690) (by show cc + 2 + 0 + 0 ≤ cc + 109; omega) (by show ss + 12 + 0 + 0 ≤ ss + 690; omega) ?_
    exact hk (ksn (ksn (a) n1) n2, σ1, v) (hR.2 _ _ n2 hn2 (hR.2 _ _ n1 hn1 q3))
  | inr a =>
    obtain ⟨rfl, n0, hn0, rfl⟩ := hP
    obtain ⟨q0, q1, q3⟩ := hXX
    refine g_istore h [(5, .int (cond a.1 1 2 : Int32)), (0, .ref b), (1, .ref a0), (2, .ref (zh z)), (3, .ref (zo z)), (4, .int (nI j))] dL_law_892 (by decide) rfl ?_
    refine g_aload_n h 3 dL_law_894 rfl ?_
    refine g_aload_n h 1 dL_law_895 rfl ?_
    refine g_iload h 5 dL_law_896 rfl ?_
    refine g_iconst (v := 1) h dL_law_898 (by decide) ?_
    refine g_iadd h dL_law_899 ?_
    refine g_ti h (fun H hw => hT _ _ hw.2.1.1) (L_in (k := 1) hj hL (by decide) (by decide)) dL_law_900 ?_
    refine g_aload_n h 1 dL_law_901 rfl ?_
    refine g_iload h 5 dL_law_902 rfl ?_
    refine g_iconst (v := 2) h dL_law_904 (by decide) ?_
    refine g_iadd h dL_law_905 ?_
    refine g_ti h (fun H hw => hT _ _ hw.2.1.1) (L_in (k := 2) hj hL (by decide) (by decide)) dL_law_906 ?_
    refine g_aload_n h 1 dL_law_907 rfl ?_
    refine g_iload h 5 dL_law_908 rfl ?_
    refine g_iconst (v := 3) h dL_law_910 (by decide) ?_
    refine g_iadd h dL_law_911 ?_
    refine g_ti h (fun H hw => hT _ _ hw.2.1.1) (L_in (k := 3) hj hL (by decide) (by decide)) dL_law_912 ?_
    refine L_Mv hz h hkw hKs [.int (xs (nI j + 1).toNatClampNeg), .int (xs (nI j + 2).toNatClampNeg), .int (xs (nI j + 3).toNatClampNeg)] (c_X10_store (lEM_ok hz _ _) hkw σ (xs (nI j + 1).toNatClampNeg) (xs (nI j + 2).toNatClampNeg) (xs (nI j + 3).toNatClampNeg) _ hM0) yk_X10_store tW_1256 ⟨(Nat.le_of_ble_eq_true rfl), (Nat.le_of_ble_eq_true rfl)⟩ rfl rfl (Nat.le_of_ble_eq_true rfl) dL_law_913 ⟨(by show cc + 2 + 0 ≤ 601024; omega), (by show ss + 12 + 0 ≤ 7293034; omega)⟩ (fun n1 hn1 => ?_)
    refine g_aload_n h 3 dL_law_916 rfl ?_
    refine L_Mi hz h hkw hKs [] (c_X10_thrown (lEM_ok hz _ _) hkw σ1 _ rfl) yk_X10_thrown tW_1087 ⟨(Nat.le_of_ble_eq_true rfl), (Nat.le_of_ble_eq_true rfl)⟩ rfl rfl (Nat.le_of_ble_eq_true rfl) dL_law_917 ⟨(by show cc + 2 + 0 + 0 ≤ 601024; omega), (by show ss + 12 + 0 + 0 ≤ 7293034; omega)⟩ (fun n2 hn2 => ?_)
    refine g_iload h 0 dL_law_920 rfl ?_
    refine g_pos (cnd := σ1.1 0 = (cond a.1 1 2 : Int32)) q1 ?_
    refine g_icmp_eq h 927 dL_law_922 (by decide) ?_ g_none
    refine g_goto h 1853 dL_law_927 (by decide) ?_
    refine g_lv [(0, .ref b), (1, .ref a0), (2, .ref (zh z)), (3, .ref (zo z)), (4, .int (nI j))] [1, 2, 3, 4, 5] rfl ?_
    refine g_wid (cc + 109) (ss + 690) (by show cc + 2 + 0 + 0 ≤ cc + 109; omega) (by show ss + 12 + 0 + 0 ≤ ss + 690; omega) ?_
    exact hk (ksn (ksn (ksn a.2 n0) n1) n2, σ1, v) (hR.2 _ _ n2 hn2 (hR.2 _ _ n1 hn1 (hR.2 _ _ n0 hn0 q3)))
set_option maxHeartbeats 4000000 in
set_option maxRecDepth 100000 in
theorem lc_hold {p : Program} {l : Launch} {e : Env} {s : State} {m : MethodId} {below : List Frame} {meth : Method} {c : Code} {Ke : State → Prop} {z : Lp} {adS adV adM : Nat → Nat} {adD b L : Nat} {xs : Nat → Int32} {Rep : Km → Ms → Prop} {a0 : Nat} {Rt : Type} {QX : Rt → State → Prop} {o : Option Rt} (h : gOk p s m #[Value.ref b] meth c cL_law 7 "KeepForgetLaw" tb) (hKs : Ke s) (hC : lCx l Ke z adS adV adM adD b L xs) (hR : lRep Rep a0) (hO : op_hold Rep a0) (cc ss j : Nat) (hc1 : cc + 109 ≤ 601024) (hc2 : ss + 690 ≤ 7293034) (hj : j + 6 ≤ L) (μ : Km) (σ : Ms) (v : Int64) (h0 : Rep μ σ)
    (hk : ∀ w : Ls, Rep w.1 w.2.1 → gS p l e room_1 s m #[Value.ref b] below meth c 7 (lA z) (LW z) QX (cc + 109) (ss + 690) o (w) 1853 [(0, .ref b), (1, .ref a0), (2, .ref (zh z)), (3, .ref (zo z)), (4, .int (nI j))] []) : gS p l e room_1 s m #[Value.ref b] below meth c 7 (lA z) (LW z) QX (cc) (ss) o (μ, σ, v) 930 [(0, .ref b), (1, .ref a0), (2, .ref (zh z)), (3, .ref (zo z)), (4, .int (nI j))] [] := by
  obtain ⟨hz, hkw, hX, hSt, hStM, hN, hT, hL⟩ := hC
  have h9 := hR.1 _ _ h0
  obtain ⟨X, r1, σ1, hK0, hM0, hXX⟩ := hO μ σ (xs (nI j + 1).toNatClampNeg) (xs (nI j + 2).toNatClampNeg) h0
  refine g_aload_n h 1 dL_law_930 rfl ?_
  refine g_aload_n h 0 dL_law_931 rfl ?_
  refine g_iload h 4 dL_law_932 rfl ?_
  refine g_iconst (v := 1) h dL_law_934 (by decide) ?_
  refine g_iadd h dL_law_935 ?_
  refine g_ti h (fun H hw => hT _ _ hw.2.1.1) (L_in (k := 1) hj hL (by decide) (by decide)) dL_law_936 ?_
  refine g_aload_n h 0 dL_law_937 rfl ?_
  refine g_iload h 4 dL_law_938 rfl ?_
  refine g_iconst (v := 2) h dL_law_940 (by decide) ?_
  refine g_iadd h dL_law_941 ?_
  refine g_ti h (fun H hw => hT _ _ hw.2.1.1) (L_in (k := 2) hj hL (by decide) (by decide)) dL_law_942 ?_
  refine g_aload_n h 3 dL_law_943 rfl ?_
  refine L_callW hz h hkw hKs [.ref a0, .int (xs (nI j + 1).toNatClampNeg), .int (xs (nI j + 2).toNatClampNeg), .ref (zo z)] (w_hold hz hkw (hX σ v) (hSt σ v) hN a0 h9 (xs (nI j + 1).toNatClampNeg) (xs (nI j + 2).toNatClampNeg) hK0 (fun b9 u9 q9 => by subst q9; exact hXX.1)) yk_L_hold tW_701 ⟨(Nat.le_of_ble_eq_true rfl), (Nat.le_of_ble_eq_true rfl)⟩ rfl rfl (Nat.le_of_ble_eq_true rfl) dL_law_944 ⟨(by show cc + 2 ≤ 601024; omega), (by show ss + 9 ≤ 7293034; omega)⟩ (fun r u hP => ?_)
  cases X with
  | inl a =>
    obtain ⟨rfl, rfl⟩ := hP
    obtain ⟨q1, q2, q3⟩ := hXX
    refine g_istore h [(5, .int (0 : Int32)), (0, .ref b), (1, .ref a0), (2, .ref (zh z)), (3, .ref (zo z)), (4, .int (nI j))] dL_law_947 (by decide) rfl ?_
    refine g_aload_n h 3 dL_law_949 rfl ?_
    refine g_aload_n h 1 dL_law_950 rfl ?_
    refine g_iload h 5 dL_law_951 rfl ?_
    refine g_iconst (v := 1) h dL_law_953 (by decide) ?_
    refine g_iadd h dL_law_954 ?_
    refine g_ti h (fun H hw => hT _ _ hw.2.1.1) (L_in (k := 1) hj hL (by decide) (by decide)) dL_law_955 ?_
    refine g_aload_n h 1 dL_law_956 rfl ?_
    refine g_iload h 5 dL_law_957 rfl ?_
    refine g_iconst (v := 2) h dL_law_959 (by decide) ?_
    refine g_iadd h dL_law_960 ?_
    refine g_ti h (fun H hw => hT _ _ hw.2.1.1) (L_in (k := 2) hj hL (by decide) (by decide)) dL_law_961 ?_
    refine L_Mi hz h hkw hKs [.int (xs (nI j + 1).toNatClampNeg), .int (xs (nI j + 2).toNatClampNeg)] (c_X10_hold (lEM_ok hz _ _) hkw σ (xs (nI j + 1).toNatClampNeg) (xs (nI j + 2).toNatClampNeg) _ hM0) yk_X10_hold tW_1260 ⟨(Nat.le_of_ble_eq_true rfl), (Nat.le_of_ble_eq_true rfl)⟩ rfl rfl (Nat.le_of_ble_eq_true rfl) dL_law_962 ⟨(by show cc + 2 + 0 ≤ 601024; omega), (by show ss + 9 + 0 ≤ 7293034; omega)⟩ (fun n1 hn1 => ?_)
    refine g_istore h [(6, .int r1), (5, .int (0 : Int32)), (0, .ref b), (1, .ref a0), (2, .ref (zh z)), (3, .ref (zo z)), (4, .int (nI j))] dL_law_965 (by decide) rfl ?_
    refine g_aload_n h 4 dL_law_967 rfl ?_
    refine L_Mi hz h hkw hKs [] (c_X10_thrown (lEM_ok hz _ _) hkw σ1 _ rfl) yk_X10_thrown tW_1087 ⟨(Nat.le_of_ble_eq_true rfl), (Nat.le_of_ble_eq_true rfl)⟩ rfl rfl (Nat.le_of_ble_eq_true rfl) dL_law_968 ⟨(by show cc + 2 + 0 + 0 ≤ 601024; omega), (by show ss + 9 + 0 + 0 ≤ 7293034; omega)⟩ (fun n2 hn2 => ?_)
    refine g_iload h 1 dL_law_971 rfl ?_
    refine g_pos (cnd := σ1.1 0 = (0 : Int32)) q1 ?_
    refine g_icmp_eq h 978 dL_law_973 (by decide) ?_ g_none
    refine g_iload h 1 dL_law_978 rfl ?_
    refine g_pos (cnd := (0 : Int32) = 0) rfl ?_
    refine g_if_ne h 995 dL_law_980 (by decide) g_none ?_
    subst q2
    refine g_aload_n h 5 dL_law_983 rfl ?_
    refine g_iconst (v := 0) h dL_law_984 (by decide) ?_
    refine L_laload h dL_law_985 ?_
    refine g_iload h 0 dL_law_986 rfl ?_
    refine g_i2l h dL_law_988 ?_
    refine g_lcmp h dL_law_989 ?_
    refine g_pos (cnd := lg_cmp a.1.toInt64 a.1.toInt64 = 0) (lg_cmp_self _) ?_
    refine g_if_eq h 995 dL_law_990 (by decide) ?_ g_none
    refine g_goto h 1853 dL_law_995 (by decide) ?_
    refine g_lv [(0, .ref b), (1, .ref a0), (2, .ref (zh z)), (3, .ref (zo z)), (4, .int (nI j))] [2, 3, 4, 5, 6] rfl ?_
    refine g_wid (cc + 109) (ss + 690) (by show cc + 2 + 0 + 0 ≤ cc + 109; omega) (by show ss + 9 + 0 + 0 ≤ ss + 690; omega) ?_
    exact hk (ksn (ksn (a.2) n1) n2, σ1, a.1.toInt64) (hR.2 _ _ n2 hn2 (hR.2 _ _ n1 hn1 q3))
  | inr a =>
    obtain ⟨rfl, n0, hn0, rfl⟩ := hP
    obtain ⟨q0, q1, q3⟩ := hXX
    refine g_istore h [(5, .int (1 : Int32)), (0, .ref b), (1, .ref a0), (2, .ref (zh z)), (3, .ref (zo z)), (4, .int (nI j))] dL_law_947 (by decide) rfl ?_
    refine g_aload_n h 3 dL_law_949 rfl ?_
    refine g_aload_n h 1 dL_law_950 rfl ?_
    refine g_iload h 5 dL_law_951 rfl ?_
    refine g_iconst (v := 1) h dL_law_953 (by decide) ?_
    refine g_iadd h dL_law_954 ?_
    refine g_ti h (fun H hw => hT _ _ hw.2.1.1) (L_in (k := 1) hj hL (by decide) (by decide)) dL_law_955 ?_
    refine g_aload_n h 1 dL_law_956 rfl ?_
    refine g_iload h 5 dL_law_957 rfl ?_
    refine g_iconst (v := 2) h dL_law_959 (by decide) ?_
    refine g_iadd h dL_law_960 ?_
    refine g_ti h (fun H hw => hT _ _ hw.2.1.1) (L_in (k := 2) hj hL (by decide) (by decide)) dL_law_961 ?_
    refine L_Mi hz h hkw hKs [.int (xs (nI j + 1).toNatClampNeg), .int (xs (nI j + 2).toNatClampNeg)] (c_X10_hold (lEM_ok hz _ _) hkw σ (xs (nI j + 1).toNatClampNeg) (xs (nI j + 2).toNatClampNeg) _ hM0) yk_X10_hold tW_1260 ⟨(Nat.le_of_ble_eq_true rfl), (Nat.le_of_ble_eq_true rfl)⟩ rfl rfl (Nat.le_of_ble_eq_true rfl) dL_law_962 ⟨(by show cc + 2 + 0 ≤ 601024; omega), (by show ss + 9 + 0 ≤ 7293034; omega)⟩ (fun n1 hn1 => ?_)
    refine g_istore h [(6, .int r1), (5, .int (1 : Int32)), (0, .ref b), (1, .ref a0), (2, .ref (zh z)), (3, .ref (zo z)), (4, .int (nI j))] dL_law_965 (by decide) rfl ?_
    refine g_aload_n h 4 dL_law_967 rfl ?_
    refine L_Mi hz h hkw hKs [] (c_X10_thrown (lEM_ok hz _ _) hkw σ1 _ rfl) yk_X10_thrown tW_1087 ⟨(Nat.le_of_ble_eq_true rfl), (Nat.le_of_ble_eq_true rfl)⟩ rfl rfl (Nat.le_of_ble_eq_true rfl) dL_law_968 ⟨(by show cc + 2 + 0 + 0 ≤ 601024; omega), (by show ss + 9 + 0 + 0 ≤ 7293034; omega)⟩ (fun n2 hn2 => ?_)
    refine g_iload h 1 dL_law_971 rfl ?_
    refine g_pos (cnd := σ1.1 0 = (1 : Int32)) q1 ?_
    refine g_icmp_eq h 978 dL_law_973 (by decide) ?_ g_none
    refine g_iload h 1 dL_law_978 rfl ?_
    refine g_neg (cnd := (1 : Int32) = 0) (by decide) ?_
    refine g_if_ne h 995 dL_law_980 (by decide) ?_ g_none
    refine g_goto h 1853 dL_law_995 (by decide) ?_
    refine g_lv [(0, .ref b), (1, .ref a0), (2, .ref (zh z)), (3, .ref (zo z)), (4, .int (nI j))] [2, 3, 4, 5, 6] rfl ?_
    refine g_wid (cc + 109) (ss + 690) (by show cc + 2 + 0 + 0 ≤ cc + 109; omega) (by show ss + 9 + 0 + 0 ≤ ss + 690; omega) ?_
    exact hk (ksn (ksn (ksn a.2 n0) n1) n2, σ1, v) (hR.2 _ _ n2 hn2 (hR.2 _ _ n1 hn1 (hR.2 _ _ n0 hn0 q3)))
set_option maxHeartbeats 4000000 in
set_option maxRecDepth 100000 in
theorem lc_lift {p : Program} {l : Launch} {e : Env} {s : State} {m : MethodId} {below : List Frame} {meth : Method} {c : Code} {Ke : State → Prop} {z : Lp} {adS adV adM : Nat → Nat} {adD b L : Nat} {xs : Nat → Int32} {Rep : Km → Ms → Prop} {a0 : Nat} {Rt : Type} {QX : Rt → State → Prop} {o : Option Rt} (h : gOk p s m #[Value.ref b] meth c cL_law 7 "KeepForgetLaw" tb) (hKs : Ke s) (hC : lCx l Ke z adS adV adM adD b L xs) (hR : lRep Rep a0) (hO : op_lift Rep a0) (cc ss j : Nat) (hc1 : cc + 109 ≤ 601024) (hc2 : ss + 690 ≤ 7293034) (hj : j + 6 ≤ L) (μ : Km) (σ : Ms) (v : Int64) (h0 : Rep μ σ)
    (hk : ∀ w : Ls, Rep w.1 w.2.1 → gS p l e room_1 s m #[Value.ref b] below meth c 7 (lA z) (LW z) QX (cc + 109) (ss + 690) o (w) 1853 [(0, .ref b), (1, .ref a0), (2, .ref (zh z)), (3, .ref (zo z)), (4, .int (nI j))] []) : gS p l e room_1 s m #[Value.ref b] below meth c 7 (lA z) (LW z) QX (cc) (ss) o (μ, σ, v) 998 [(0, .ref b), (1, .ref a0), (2, .ref (zh z)), (3, .ref (zo z)), (4, .int (nI j))] [] := by
  obtain ⟨hz, hkw, hX, hSt, hStM, hN, hT, hL⟩ := hC
  have h9 := hR.1 _ _ h0
  obtain ⟨X, r1, σ1, hK0, hM0, hXX⟩ := hO μ σ (xs (nI j + 1).toNatClampNeg) h0
  refine g_aload_n h 1 dL_law_998 rfl ?_
  refine g_aload_n h 0 dL_law_999 rfl ?_
  refine g_iload h 4 dL_law_1000 rfl ?_
  refine g_iconst (v := 1) h dL_law_1002 (by decide) ?_
  refine g_iadd h dL_law_1003 ?_
  refine g_ti h (fun H hw => hT _ _ hw.2.1.1) (L_in (k := 1) hj hL (by decide) (by decide)) dL_law_1004 ?_
  refine g_aload_n h 3 dL_law_1005 rfl ?_
  refine L_callW hz h hkw hKs [.ref a0, .int (xs (nI j + 1).toNatClampNeg), .ref (zo z)] (w_lift hz hkw (hX σ v) (hSt σ v) hN a0 h9 (xs (nI j + 1).toNatClampNeg) hK0 (fun b9 u9 q9 => by subst q9; exact hXX.1)) yk_L_lift tW_725 ⟨(Nat.le_of_ble_eq_true rfl), (Nat.le_of_ble_eq_true rfl)⟩ rfl rfl (Nat.le_of_ble_eq_true rfl) dL_law_1006 ⟨(by show cc + 1 ≤ 601024; omega), (by show ss + 6 ≤ 7293034; omega)⟩ (fun r u hP => ?_)
  cases X with
  | inl a =>
    obtain ⟨rfl, rfl⟩ := hP
    obtain ⟨q1, q2, q3⟩ := hXX
    refine g_istore h [(5, .int (0 : Int32)), (0, .ref b), (1, .ref a0), (2, .ref (zh z)), (3, .ref (zo z)), (4, .int (nI j))] dL_law_1009 (by decide) rfl ?_
    refine g_aload_n h 3 dL_law_1011 rfl ?_
    refine g_aload_n h 1 dL_law_1012 rfl ?_
    refine g_iload h 5 dL_law_1013 rfl ?_
    refine g_iconst (v := 1) h dL_law_1015 (by decide) ?_
    refine g_iadd h dL_law_1016 ?_
    refine g_ti h (fun H hw => hT _ _ hw.2.1.1) (L_in (k := 1) hj hL (by decide) (by decide)) dL_law_1017 ?_
    refine L_Mi hz h hkw hKs [.int (xs (nI j + 1).toNatClampNeg)] (c_X10_lift (lEM_ok hz _ _) hkw σ (xs (nI j + 1).toNatClampNeg) _ hM0) yk_X10_lift tW_1264 ⟨(Nat.le_of_ble_eq_true rfl), (Nat.le_of_ble_eq_true rfl)⟩ rfl rfl (Nat.le_of_ble_eq_true rfl) dL_law_1018 ⟨(by show cc + 1 + 0 ≤ 601024; omega), (by show ss + 6 + 0 ≤ 7293034; omega)⟩ (fun n1 hn1 => ?_)
    refine g_istore h [(6, .int r1), (5, .int (0 : Int32)), (0, .ref b), (1, .ref a0), (2, .ref (zh z)), (3, .ref (zo z)), (4, .int (nI j))] dL_law_1021 (by decide) rfl ?_
    refine g_aload_n h 4 dL_law_1023 rfl ?_
    refine L_Mi hz h hkw hKs [] (c_X10_thrown (lEM_ok hz _ _) hkw σ1 _ rfl) yk_X10_thrown tW_1087 ⟨(Nat.le_of_ble_eq_true rfl), (Nat.le_of_ble_eq_true rfl)⟩ rfl rfl (Nat.le_of_ble_eq_true rfl) dL_law_1024 ⟨(by show cc + 1 + 0 + 0 ≤ 601024; omega), (by show ss + 6 + 0 + 0 ≤ 7293034; omega)⟩ (fun n2 hn2 => ?_)
    refine g_iload h 1 dL_law_1027 rfl ?_
    refine g_pos (cnd := σ1.1 0 = (0 : Int32)) q1 ?_
    refine g_icmp_eq h 1034 dL_law_1029 (by decide) ?_ g_none
    refine g_iload h 1 dL_law_1034 rfl ?_
    refine g_pos (cnd := (0 : Int32) = 0) rfl ?_
    refine g_if_ne h 1058 dL_law_1036 (by decide) g_none ?_
    subst q2
    refine g_aload_n h 5 dL_law_1039 rfl ?_
    refine g_iconst (v := 0) h dL_law_1040 (by decide) ?_
    refine L_laload h dL_law_1041 ?_
    refine g_iload h 0 dL_law_1042 rfl ?_
    by_cases hb0 : a.1 = 0
    · refine g_pos (cnd := a.1 = 0) hb0 ?_
      refine g_if_eq h 1051 dL_law_1044 (by decide) ?_ g_none
      refine g_lconst (v := 0) h dL_law_1051 (by decide) ?_
      refine g_lcmp h dL_law_1052 ?_
      refine g_pos (cnd := lg_cmp (bz a.1) 0 = 0) (by rw [bz, if_pos hb0]; exact lg_cmp_self _) ?_
      refine g_if_eq h 1058 dL_law_1053 (by decide) ?_ g_none
      refine g_goto h 1853 dL_law_1058 (by decide) ?_
      refine g_lv [(0, .ref b), (1, .ref a0), (2, .ref (zh z)), (3, .ref (zo z)), (4, .int (nI j))] [2, 3, 4, 5, 6] rfl ?_
      refine g_wid (cc + 109) (ss + 690) (by show cc + 1 + 0 + 0 ≤ cc + 109; omega) (by show ss + 6 + 0 + 0 ≤ ss + 690; omega) ?_
      exact hk (ksn (ksn (a.2) n1) n2, σ1, bz a.1) (hR.2 _ _ n2 hn2 (hR.2 _ _ n1 hn1 q3))
    · refine g_neg (cnd := a.1 = 0) hb0 ?_
      refine g_if_eq h 1051 dL_law_1044 (by decide) g_none ?_
      refine g_lconst (v := 1) h dL_law_1047 (by decide) ?_
      refine g_goto h 1052 dL_law_1048 (by decide) ?_
      refine g_lcmp h dL_law_1052 ?_
      refine g_pos (cnd := lg_cmp (bz a.1) 1 = 0) (by rw [bz, if_neg hb0]; exact lg_cmp_self _) ?_
      refine g_if_eq h 1058 dL_law_1053 (by decide) ?_ g_none
      refine g_goto h 1853 dL_law_1058 (by decide) ?_
      refine g_lv [(0, .ref b), (1, .ref a0), (2, .ref (zh z)), (3, .ref (zo z)), (4, .int (nI j))] [2, 3, 4, 5, 6] rfl ?_
      refine g_wid (cc + 109) (ss + 690) (by show cc + 1 + 0 + 0 ≤ cc + 109; omega) (by show ss + 6 + 0 + 0 ≤ ss + 690; omega) ?_
      exact hk (ksn (ksn (a.2) n1) n2, σ1, bz a.1) (hR.2 _ _ n2 hn2 (hR.2 _ _ n1 hn1 q3))
  | inr a =>
    obtain ⟨rfl, n0, hn0, rfl⟩ := hP
    obtain ⟨q0, q1, q3⟩ := hXX
    refine g_istore h [(5, .int (1 : Int32)), (0, .ref b), (1, .ref a0), (2, .ref (zh z)), (3, .ref (zo z)), (4, .int (nI j))] dL_law_1009 (by decide) rfl ?_
    refine g_aload_n h 3 dL_law_1011 rfl ?_
    refine g_aload_n h 1 dL_law_1012 rfl ?_
    refine g_iload h 5 dL_law_1013 rfl ?_
    refine g_iconst (v := 1) h dL_law_1015 (by decide) ?_
    refine g_iadd h dL_law_1016 ?_
    refine g_ti h (fun H hw => hT _ _ hw.2.1.1) (L_in (k := 1) hj hL (by decide) (by decide)) dL_law_1017 ?_
    refine L_Mi hz h hkw hKs [.int (xs (nI j + 1).toNatClampNeg)] (c_X10_lift (lEM_ok hz _ _) hkw σ (xs (nI j + 1).toNatClampNeg) _ hM0) yk_X10_lift tW_1264 ⟨(Nat.le_of_ble_eq_true rfl), (Nat.le_of_ble_eq_true rfl)⟩ rfl rfl (Nat.le_of_ble_eq_true rfl) dL_law_1018 ⟨(by show cc + 1 + 0 ≤ 601024; omega), (by show ss + 6 + 0 ≤ 7293034; omega)⟩ (fun n1 hn1 => ?_)
    refine g_istore h [(6, .int r1), (5, .int (1 : Int32)), (0, .ref b), (1, .ref a0), (2, .ref (zh z)), (3, .ref (zo z)), (4, .int (nI j))] dL_law_1021 (by decide) rfl ?_
    refine g_aload_n h 4 dL_law_1023 rfl ?_
    refine L_Mi hz h hkw hKs [] (c_X10_thrown (lEM_ok hz _ _) hkw σ1 _ rfl) yk_X10_thrown tW_1087 ⟨(Nat.le_of_ble_eq_true rfl), (Nat.le_of_ble_eq_true rfl)⟩ rfl rfl (Nat.le_of_ble_eq_true rfl) dL_law_1024 ⟨(by show cc + 1 + 0 + 0 ≤ 601024; omega), (by show ss + 6 + 0 + 0 ≤ 7293034; omega)⟩ (fun n2 hn2 => ?_)
    refine g_iload h 1 dL_law_1027 rfl ?_
    refine g_pos (cnd := σ1.1 0 = (1 : Int32)) q1 ?_
    refine g_icmp_eq h 1034 dL_law_1029 (by decide) ?_ g_none
    refine g_iload h 1 dL_law_1034 rfl ?_
    refine g_neg (cnd := (1 : Int32) = 0) (by decide) ?_
    refine g_if_ne h 1058 dL_law_1036 (by decide) ?_ g_none
    refine g_goto h 1853 dL_law_1058 (by decide) ?_
    refine g_lv [(0, .ref b), (1, .ref a0), (2, .ref (zh z)), (3, .ref (zo z)), (4, .int (nI j))] [2, 3, 4, 5, 6] rfl ?_
    refine g_wid (cc + 109) (ss + 690) (by show cc + 1 + 0 + 0 ≤ cc + 109; omega) (by show ss + 6 + 0 + 0 ≤ ss + 690; omega) ?_
    exact hk (ksn (ksn (ksn a.2 n0) n1) n2, σ1, v) (hR.2 _ _ n2 hn2 (hR.2 _ _ n1 hn1 (hR.2 _ _ n0 hn0 q3)))
set_option maxHeartbeats 4000000 in
set_option maxRecDepth 100000 in
theorem lc_wish {p : Program} {l : Launch} {e : Env} {s : State} {m : MethodId} {below : List Frame} {meth : Method} {c : Code} {Ke : State → Prop} {z : Lp} {adS adV adM : Nat → Nat} {adD b L : Nat} {xs : Nat → Int32} {Rep : Km → Ms → Prop} {a0 : Nat} {Rt : Type} {QX : Rt → State → Prop} {o : Option Rt} (h : gOk p s m #[Value.ref b] meth c cL_law 7 "KeepForgetLaw" tb) (hKs : Ke s) (hC : lCx l Ke z adS adV adM adD b L xs) (hR : lRep Rep a0) (hO : op_wish Rep a0) (cc ss j : Nat) (hc1 : cc + 109 ≤ 601024) (hc2 : ss + 690 ≤ 7293034) (hj : j + 6 ≤ L) (μ : Km) (σ : Ms) (v : Int64) (h0 : Rep μ σ)
    (hk : ∀ w : Ls, Rep w.1 w.2.1 → gS p l e room_1 s m #[Value.ref b] below meth c 7 (lA z) (LW z) QX (cc + 109) (ss + 690) o (w) 1853 [(0, .ref b), (1, .ref a0), (2, .ref (zh z)), (3, .ref (zo z)), (4, .int (nI j))] []) : gS p l e room_1 s m #[Value.ref b] below meth c 7 (lA z) (LW z) QX (cc) (ss) o (μ, σ, v) 1061 [(0, .ref b), (1, .ref a0), (2, .ref (zh z)), (3, .ref (zo z)), (4, .int (nI j))] [] := by
  obtain ⟨hz, hkw, hX, hSt, hStM, hN, hT, hL⟩ := hC
  have h9 := hR.1 _ _ h0
  obtain ⟨X, r1, σ1, hK0, hM0, hXX⟩ := hO μ σ (xs (nI j + 1).toNatClampNeg) h0
  refine g_aload_n h 1 dL_law_1061 rfl ?_
  refine g_aload_n h 0 dL_law_1062 rfl ?_
  refine g_iload h 4 dL_law_1063 rfl ?_
  refine g_iconst (v := 1) h dL_law_1065 (by decide) ?_
  refine g_iadd h dL_law_1066 ?_
  refine g_ti h (fun H hw => hT _ _ hw.2.1.1) (L_in (k := 1) hj hL (by decide) (by decide)) dL_law_1067 ?_
  refine g_aload_n h 3 dL_law_1068 rfl ?_
  refine L_callW hz h hkw hKs [.ref a0, .int (xs (nI j + 1).toNatClampNeg), .ref (zo z)] (w_wish hz hkw (hX σ v) (hSt σ v) hN a0 h9 (xs (nI j + 1).toNatClampNeg) hK0 (fun b9 u9 q9 => by subst q9; exact hXX.1)) yk_L_wish tW_737 ⟨(Nat.le_of_ble_eq_true rfl), (Nat.le_of_ble_eq_true rfl)⟩ rfl rfl (Nat.le_of_ble_eq_true rfl) dL_law_1069 ⟨(by show cc + 1 ≤ 601024; omega), (by show ss + 6 ≤ 7293034; omega)⟩ (fun r u hP => ?_)
  cases X with
  | inl a =>
    obtain ⟨rfl, rfl⟩ := hP
    obtain ⟨q1, q2, q3⟩ := hXX
    refine g_istore h [(5, .int (0 : Int32)), (0, .ref b), (1, .ref a0), (2, .ref (zh z)), (3, .ref (zo z)), (4, .int (nI j))] dL_law_1072 (by decide) rfl ?_
    refine g_aload_n h 3 dL_law_1074 rfl ?_
    refine g_aload_n h 1 dL_law_1075 rfl ?_
    refine g_iload h 5 dL_law_1076 rfl ?_
    refine g_iconst (v := 1) h dL_law_1078 (by decide) ?_
    refine g_iadd h dL_law_1079 ?_
    refine g_ti h (fun H hw => hT _ _ hw.2.1.1) (L_in (k := 1) hj hL (by decide) (by decide)) dL_law_1080 ?_
    refine L_Mi hz h hkw hKs [.int (xs (nI j + 1).toNatClampNeg)] (c_X10_wish (lEM_ok hz _ _) hkw σ (xs (nI j + 1).toNatClampNeg) _ hM0) yk_X10_wish tW_1268 ⟨(Nat.le_of_ble_eq_true rfl), (Nat.le_of_ble_eq_true rfl)⟩ rfl rfl (Nat.le_of_ble_eq_true rfl) dL_law_1081 ⟨(by show cc + 1 + 0 ≤ 601024; omega), (by show ss + 6 + 0 ≤ 7293034; omega)⟩ (fun n1 hn1 => ?_)
    refine g_istore h [(6, .int r1), (5, .int (0 : Int32)), (0, .ref b), (1, .ref a0), (2, .ref (zh z)), (3, .ref (zo z)), (4, .int (nI j))] dL_law_1084 (by decide) rfl ?_
    refine g_aload_n h 4 dL_law_1086 rfl ?_
    refine L_Mi hz h hkw hKs [] (c_X10_thrown (lEM_ok hz _ _) hkw σ1 _ rfl) yk_X10_thrown tW_1087 ⟨(Nat.le_of_ble_eq_true rfl), (Nat.le_of_ble_eq_true rfl)⟩ rfl rfl (Nat.le_of_ble_eq_true rfl) dL_law_1087 ⟨(by show cc + 1 + 0 + 0 ≤ 601024; omega), (by show ss + 6 + 0 + 0 ≤ 7293034; omega)⟩ (fun n2 hn2 => ?_)
    refine g_iload h 1 dL_law_1090 rfl ?_
    refine g_pos (cnd := σ1.1 0 = (0 : Int32)) q1 ?_
    refine g_icmp_eq h 1097 dL_law_1092 (by decide) ?_ g_none
    refine g_iload h 1 dL_law_1097 rfl ?_
    refine g_pos (cnd := (0 : Int32) = 0) rfl ?_
    refine g_if_ne h 1114 dL_law_1099 (by decide) g_none ?_
    subst q2
    refine g_aload_n h 5 dL_law_1102 rfl ?_
    refine g_iconst (v := 0) h dL_law_1103 (by decide) ?_
    refine L_laload h dL_law_1104 ?_
    refine g_iload h 0 dL_law_1105 rfl ?_
    refine g_i2l h dL_law_1107 ?_
    refine g_lcmp h dL_law_1108 ?_
    refine g_pos (cnd := lg_cmp a.1.toInt64 a.1.toInt64 = 0) (lg_cmp_self _) ?_
    refine g_if_eq h 1114 dL_law_1109 (by decide) ?_ g_none
    refine g_goto h 1853 dL_law_1114 (by decide) ?_
    refine g_lv [(0, .ref b), (1, .ref a0), (2, .ref (zh z)), (3, .ref (zo z)), (4, .int (nI j))] [2, 3, 4, 5, 6] rfl ?_
    refine g_wid (cc + 109) (ss + 690) (by show cc + 1 + 0 + 0 ≤ cc + 109; omega) (by show ss + 6 + 0 + 0 ≤ ss + 690; omega) ?_
    exact hk (ksn (ksn (a.2) n1) n2, σ1, a.1.toInt64) (hR.2 _ _ n2 hn2 (hR.2 _ _ n1 hn1 q3))
  | inr a =>
    obtain ⟨rfl, n0, hn0, rfl⟩ := hP
    obtain ⟨q0, q1, q3⟩ := hXX
    refine g_istore h [(5, .int (1 : Int32)), (0, .ref b), (1, .ref a0), (2, .ref (zh z)), (3, .ref (zo z)), (4, .int (nI j))] dL_law_1072 (by decide) rfl ?_
    refine g_aload_n h 3 dL_law_1074 rfl ?_
    refine g_aload_n h 1 dL_law_1075 rfl ?_
    refine g_iload h 5 dL_law_1076 rfl ?_
    refine g_iconst (v := 1) h dL_law_1078 (by decide) ?_
    refine g_iadd h dL_law_1079 ?_
    refine g_ti h (fun H hw => hT _ _ hw.2.1.1) (L_in (k := 1) hj hL (by decide) (by decide)) dL_law_1080 ?_
    refine L_Mi hz h hkw hKs [.int (xs (nI j + 1).toNatClampNeg)] (c_X10_wish (lEM_ok hz _ _) hkw σ (xs (nI j + 1).toNatClampNeg) _ hM0) yk_X10_wish tW_1268 ⟨(Nat.le_of_ble_eq_true rfl), (Nat.le_of_ble_eq_true rfl)⟩ rfl rfl (Nat.le_of_ble_eq_true rfl) dL_law_1081 ⟨(by show cc + 1 + 0 ≤ 601024; omega), (by show ss + 6 + 0 ≤ 7293034; omega)⟩ (fun n1 hn1 => ?_)
    refine g_istore h [(6, .int r1), (5, .int (1 : Int32)), (0, .ref b), (1, .ref a0), (2, .ref (zh z)), (3, .ref (zo z)), (4, .int (nI j))] dL_law_1084 (by decide) rfl ?_
    refine g_aload_n h 4 dL_law_1086 rfl ?_
    refine L_Mi hz h hkw hKs [] (c_X10_thrown (lEM_ok hz _ _) hkw σ1 _ rfl) yk_X10_thrown tW_1087 ⟨(Nat.le_of_ble_eq_true rfl), (Nat.le_of_ble_eq_true rfl)⟩ rfl rfl (Nat.le_of_ble_eq_true rfl) dL_law_1087 ⟨(by show cc + 1 + 0 + 0 ≤ 601024; omega), (by show ss + 6 + 0 + 0 ≤ 7293034; omega)⟩ (fun n2 hn2 => ?_)
    refine g_iload h 1 dL_law_1090 rfl ?_
    refine g_pos (cnd := σ1.1 0 = (1 : Int32)) q1 ?_
    refine g_icmp_eq h 1097 dL_law_1092 (by decide) ?_ g_none
    refine g_iload h 1 dL_law_1097 rfl ?_
    refine g_neg (cnd := (1 : Int32) = 0) (by decide) ?_
    refine g_if_ne h 1114 dL_law_1099 (by decide) ?_ g_none
    refine g_goto h 1853 dL_law_1114 (by decide) ?_
    refine g_lv [(0, .ref b), (1, .ref a0), (2, .ref (zh z)), (3, .ref (zo z)), (4, .int (nI j))] [2, 3, 4, 5, 6] rfl ?_
    refine g_wid (cc + 109) (ss + 690) (by show cc + 1 + 0 + 0 ≤ cc + 109; omega) (by show ss + 6 + 0 + 0 ≤ ss + 690; omega) ?_
    exact hk (ksn (ksn (ksn a.2 n0) n1) n2, σ1, v) (hR.2 _ _ n2 hn2 (hR.2 _ _ n1 hn1 (hR.2 _ _ n0 hn0 q3)))
set_option maxHeartbeats 4000000 in
set_option maxRecDepth 100000 in
theorem lc_span {p : Program} {l : Launch} {e : Env} {s : State} {m : MethodId} {below : List Frame} {meth : Method} {c : Code} {Ke : State → Prop} {z : Lp} {adS adV adM : Nat → Nat} {adD b L : Nat} {xs : Nat → Int32} {Rep : Km → Ms → Prop} {a0 : Nat} {Rt : Type} {QX : Rt → State → Prop} {o : Option Rt} (h : gOk p s m #[Value.ref b] meth c cL_law 7 "KeepForgetLaw" tb) (hKs : Ke s) (hC : lCx l Ke z adS adV adM adD b L xs) (hR : lRep Rep a0) (hO : op_span Rep a0) (cc ss j : Nat) (hc1 : cc + 109 ≤ 601024) (hc2 : ss + 690 ≤ 7293034) (hj : j + 6 ≤ L) (μ : Km) (σ : Ms) (v : Int64) (h0 : Rep μ σ)
    (hk : ∀ w : Ls, Rep w.1 w.2.1 → gS p l e room_1 s m #[Value.ref b] below meth c 7 (lA z) (LW z) QX (cc + 109) (ss + 690) o (w) 1853 [(0, .ref b), (1, .ref a0), (2, .ref (zh z)), (3, .ref (zo z)), (4, .int (nI j))] []) : gS p l e room_1 s m #[Value.ref b] below meth c 7 (lA z) (LW z) QX (cc) (ss) o (μ, σ, v) 1117 [(0, .ref b), (1, .ref a0), (2, .ref (zh z)), (3, .ref (zo z)), (4, .int (nI j))] [] := by
  obtain ⟨hz, hkw, hX, hSt, hStM, hN, hT, hL⟩ := hC
  have h9 := hR.1 _ _ h0
  obtain ⟨X, r1, σ1, hK0, hM0, hXX⟩ := hO μ σ (xs (nI j + 1).toNatClampNeg) (xs (nI j + 2).toNatClampNeg) (xs (nI j + 3).toNatClampNeg) (xs (nI j + 4).toNatClampNeg) h0
  refine g_aload_n h 1 dL_law_1117 rfl ?_
  refine g_aload_n h 0 dL_law_1118 rfl ?_
  refine g_iload h 4 dL_law_1119 rfl ?_
  refine g_iconst (v := 1) h dL_law_1121 (by decide) ?_
  refine g_iadd h dL_law_1122 ?_
  refine g_ti h (fun H hw => hT _ _ hw.2.1.1) (L_in (k := 1) hj hL (by decide) (by decide)) dL_law_1123 ?_
  refine g_aload_n h 0 dL_law_1124 rfl ?_
  refine g_iload h 4 dL_law_1125 rfl ?_
  refine g_iconst (v := 2) h dL_law_1127 (by decide) ?_
  refine g_iadd h dL_law_1128 ?_
  refine g_ti h (fun H hw => hT _ _ hw.2.1.1) (L_in (k := 2) hj hL (by decide) (by decide)) dL_law_1129 ?_
  refine g_aload_n h 0 dL_law_1130 rfl ?_
  refine g_iload h 4 dL_law_1131 rfl ?_
  refine g_iconst (v := 3) h dL_law_1133 (by decide) ?_
  refine g_iadd h dL_law_1134 ?_
  refine g_ti h (fun H hw => hT _ _ hw.2.1.1) (L_in (k := 3) hj hL (by decide) (by decide)) dL_law_1135 ?_
  refine g_aload_n h 0 dL_law_1136 rfl ?_
  refine g_iload h 4 dL_law_1137 rfl ?_
  refine g_iconst (v := 4) h dL_law_1139 (by decide) ?_
  refine g_iadd h dL_law_1140 ?_
  refine g_ti h (fun H hw => hT _ _ hw.2.1.1) (L_in (k := 4) hj hL (by decide) (by decide)) dL_law_1141 ?_
  refine g_aload_n h 3 dL_law_1142 rfl ?_
  refine L_callW hz h hkw hKs [.ref a0, .int (xs (nI j + 1).toNatClampNeg), .int (xs (nI j + 2).toNatClampNeg), .int (xs (nI j + 3).toNatClampNeg), .int (xs (nI j + 4).toNatClampNeg), .ref (zo z)] (w_span hz hkw (hX σ v) (hSt σ v) hN a0 h9 (xs (nI j + 1).toNatClampNeg) (xs (nI j + 2).toNatClampNeg) (xs (nI j + 3).toNatClampNeg) (xs (nI j + 4).toNatClampNeg) hK0 (fun b9 u9 q9 => by subst q9; exact hXX.1)) yk_L_span tW_777 ⟨(Nat.le_of_ble_eq_true rfl), (Nat.le_of_ble_eq_true rfl)⟩ rfl rfl (Nat.le_of_ble_eq_true rfl) dL_law_1143 ⟨(by show cc + 4 ≤ 601024; omega), (by show ss + 24 ≤ 7293034; omega)⟩ (fun r u hP => ?_)
  cases X with
  | inl a =>
    obtain ⟨rfl, rfl⟩ := hP
    obtain ⟨q1, q2, q3⟩ := hXX
    refine g_istore h [(5, .int (0 : Int32)), (0, .ref b), (1, .ref a0), (2, .ref (zh z)), (3, .ref (zo z)), (4, .int (nI j))] dL_law_1146 (by decide) rfl ?_
    refine g_aload_n h 3 dL_law_1148 rfl ?_
    refine g_aload_n h 1 dL_law_1149 rfl ?_
    refine g_iload h 5 dL_law_1150 rfl ?_
    refine g_iconst (v := 1) h dL_law_1152 (by decide) ?_
    refine g_iadd h dL_law_1153 ?_
    refine g_ti h (fun H hw => hT _ _ hw.2.1.1) (L_in (k := 1) hj hL (by decide) (by decide)) dL_law_1154 ?_
    refine g_aload_n h 1 dL_law_1155 rfl ?_
    refine g_iload h 5 dL_law_1156 rfl ?_
    refine g_iconst (v := 2) h dL_law_1158 (by decide) ?_
    refine g_iadd h dL_law_1159 ?_
    refine g_ti h (fun H hw => hT _ _ hw.2.1.1) (L_in (k := 2) hj hL (by decide) (by decide)) dL_law_1160 ?_
    refine g_aload_n h 1 dL_law_1161 rfl ?_
    refine g_iload h 5 dL_law_1162 rfl ?_
    refine g_iconst (v := 3) h dL_law_1164 (by decide) ?_
    refine g_iadd h dL_law_1165 ?_
    refine g_ti h (fun H hw => hT _ _ hw.2.1.1) (L_in (k := 3) hj hL (by decide) (by decide)) dL_law_1166 ?_
    refine g_aload_n h 1 dL_law_1167 rfl ?_
    refine g_iload h 5 dL_law_1168 rfl ?_
    refine g_iconst (v := 4) h dL_law_1170 (by decide) ?_
    refine g_iadd h dL_law_1171 ?_
    refine g_ti h (fun H hw => hT _ _ hw.2.1.1) (L_in (k := 4) hj hL (by decide) (by decide)) dL_law_1172 ?_
    refine L_Mi hz h hkw hKs [.int (xs (nI j + 1).toNatClampNeg), .int (xs (nI j + 2).toNatClampNeg), .int (xs (nI j + 3).toNatClampNeg), .int (xs (nI j + 4).toNatClampNeg)] (c_X10_span (lEM_ok hz _ _) hkw σ (xs (nI j + 1).toNatClampNeg) (xs (nI j + 2).toNatClampNeg) (xs (nI j + 3).toNatClampNeg) (xs (nI j + 4).toNatClampNeg) _ hM0) yk_X10_span tW_1297 ⟨(Nat.le_of_ble_eq_true rfl), (Nat.le_of_ble_eq_true rfl)⟩ rfl rfl (Nat.le_of_ble_eq_true rfl) dL_law_1173 ⟨(by show cc + 4 + 0 ≤ 601024; omega), (by show ss + 24 + 0 ≤ 7293034; omega)⟩ (fun n1 hn1 => ?_)
    refine g_istore h [(6, .int r1), (5, .int (0 : Int32)), (0, .ref b), (1, .ref a0), (2, .ref (zh z)), (3, .ref (zo z)), (4, .int (nI j))] dL_law_1176 (by decide) rfl ?_
    refine g_aload_n h 4 dL_law_1178 rfl ?_
    refine L_Mi hz h hkw hKs [] (c_X10_thrown (lEM_ok hz _ _) hkw σ1 _ rfl) yk_X10_thrown tW_1087 ⟨(Nat.le_of_ble_eq_true rfl), (Nat.le_of_ble_eq_true rfl)⟩ rfl rfl (Nat.le_of_ble_eq_true rfl) dL_law_1179 ⟨(by show cc + 4 + 0 + 0 ≤ 601024; omega), (by show ss + 24 + 0 + 0 ≤ 7293034; omega)⟩ (fun n2 hn2 => ?_)
    refine g_iload h 1 dL_law_1182 rfl ?_
    refine g_pos (cnd := σ1.1 0 = (0 : Int32)) q1 ?_
    refine g_icmp_eq h 1189 dL_law_1184 (by decide) ?_ g_none
    refine g_iload h 1 dL_law_1189 rfl ?_
    refine g_pos (cnd := (0 : Int32) = 0) rfl ?_
    refine g_if_ne h 1206 dL_law_1191 (by decide) g_none ?_
    subst q2
    refine g_aload_n h 5 dL_law_1194 rfl ?_
    refine g_iconst (v := 0) h dL_law_1195 (by decide) ?_
    refine L_laload h dL_law_1196 ?_
    refine g_iload h 0 dL_law_1197 rfl ?_
    refine g_i2l h dL_law_1199 ?_
    refine g_lcmp h dL_law_1200 ?_
    refine g_pos (cnd := lg_cmp a.1.toInt64 a.1.toInt64 = 0) (lg_cmp_self _) ?_
    refine g_if_eq h 1206 dL_law_1201 (by decide) ?_ g_none
    refine g_goto h 1853 dL_law_1206 (by decide) ?_
    refine g_lv [(0, .ref b), (1, .ref a0), (2, .ref (zh z)), (3, .ref (zo z)), (4, .int (nI j))] [2, 3, 4, 5, 6] rfl ?_
    refine g_wid (cc + 109) (ss + 690) (by show cc + 4 + 0 + 0 ≤ cc + 109; omega) (by show ss + 24 + 0 + 0 ≤ ss + 690; omega) ?_
    exact hk (ksn (ksn (a.2) n1) n2, σ1, a.1.toInt64) (hR.2 _ _ n2 hn2 (hR.2 _ _ n1 hn1 q3))
  | inr a =>
    obtain ⟨rfl, n0, hn0, rfl⟩ := hP
    obtain ⟨q0, q1, q3⟩ := hXX
    refine g_istore h [(5, .int (1 : Int32)), (0, .ref b), (1, .ref a0), (2, .ref (zh z)), (3, .ref (zo z)), (4, .int (nI j))] dL_law_1146 (by decide) rfl ?_
    refine g_aload_n h 3 dL_law_1148 rfl ?_
    refine g_aload_n h 1 dL_law_1149 rfl ?_
    refine g_iload h 5 dL_law_1150 rfl ?_
    refine g_iconst (v := 1) h dL_law_1152 (by decide) ?_
    refine g_iadd h dL_law_1153 ?_
    refine g_ti h (fun H hw => hT _ _ hw.2.1.1) (L_in (k := 1) hj hL (by decide) (by decide)) dL_law_1154 ?_
    refine g_aload_n h 1 dL_law_1155 rfl ?_
    refine g_iload h 5 dL_law_1156 rfl ?_
    refine g_iconst (v := 2) h dL_law_1158 (by decide) ?_
    refine g_iadd h dL_law_1159 ?_
    refine g_ti h (fun H hw => hT _ _ hw.2.1.1) (L_in (k := 2) hj hL (by decide) (by decide)) dL_law_1160 ?_
    refine g_aload_n h 1 dL_law_1161 rfl ?_
    refine g_iload h 5 dL_law_1162 rfl ?_
    refine g_iconst (v := 3) h dL_law_1164 (by decide) ?_
    refine g_iadd h dL_law_1165 ?_
    refine g_ti h (fun H hw => hT _ _ hw.2.1.1) (L_in (k := 3) hj hL (by decide) (by decide)) dL_law_1166 ?_
    refine g_aload_n h 1 dL_law_1167 rfl ?_
    refine g_iload h 5 dL_law_1168 rfl ?_
    refine g_iconst (v := 4) h dL_law_1170 (by decide) ?_
    refine g_iadd h dL_law_1171 ?_
    refine g_ti h (fun H hw => hT _ _ hw.2.1.1) (L_in (k := 4) hj hL (by decide) (by decide)) dL_law_1172 ?_
    refine L_Mi hz h hkw hKs [.int (xs (nI j + 1).toNatClampNeg), .int (xs (nI j + 2).toNatClampNeg), .int (xs (nI j + 3).toNatClampNeg), .int (xs (nI j + 4).toNatClampNeg)] (c_X10_span (lEM_ok hz _ _) hkw σ (xs (nI j + 1).toNatClampNeg) (xs (nI j + 2).toNatClampNeg) (xs (nI j + 3).toNatClampNeg) (xs (nI j + 4).toNatClampNeg) _ hM0) yk_X10_span tW_1297 ⟨(Nat.le_of_ble_eq_true rfl), (Nat.le_of_ble_eq_true rfl)⟩ rfl rfl (Nat.le_of_ble_eq_true rfl) dL_law_1173 ⟨(by show cc + 4 + 0 ≤ 601024; omega), (by show ss + 24 + 0 ≤ 7293034; omega)⟩ (fun n1 hn1 => ?_)
    refine g_istore h [(6, .int r1), (5, .int (1 : Int32)), (0, .ref b), (1, .ref a0), (2, .ref (zh z)), (3, .ref (zo z)), (4, .int (nI j))] dL_law_1176 (by decide) rfl ?_
    refine g_aload_n h 4 dL_law_1178 rfl ?_
    refine L_Mi hz h hkw hKs [] (c_X10_thrown (lEM_ok hz _ _) hkw σ1 _ rfl) yk_X10_thrown tW_1087 ⟨(Nat.le_of_ble_eq_true rfl), (Nat.le_of_ble_eq_true rfl)⟩ rfl rfl (Nat.le_of_ble_eq_true rfl) dL_law_1179 ⟨(by show cc + 4 + 0 + 0 ≤ 601024; omega), (by show ss + 24 + 0 + 0 ≤ 7293034; omega)⟩ (fun n2 hn2 => ?_)
    refine g_iload h 1 dL_law_1182 rfl ?_
    refine g_pos (cnd := σ1.1 0 = (1 : Int32)) q1 ?_
    refine g_icmp_eq h 1189 dL_law_1184 (by decide) ?_ g_none
    refine g_iload h 1 dL_law_1189 rfl ?_
    refine g_neg (cnd := (1 : Int32) = 0) (by decide) ?_
    refine g_if_ne h 1206 dL_law_1191 (by decide) ?_ g_none
    refine g_goto h 1853 dL_law_1206 (by decide) ?_
    refine g_lv [(0, .ref b), (1, .ref a0), (2, .ref (zh z)), (3, .ref (zo z)), (4, .int (nI j))] [2, 3, 4, 5, 6] rfl ?_
    refine g_wid (cc + 109) (ss + 690) (by show cc + 4 + 0 + 0 ≤ cc + 109; omega) (by show ss + 24 + 0 + 0 ≤ ss + 690; omega) ?_
    exact hk (ksn (ksn (ksn a.2 n0) n1) n2, σ1, v) (hR.2 _ _ n2 hn2 (hR.2 _ _ n1 hn1 (hR.2 _ _ n0 hn0 q3)))
set_option maxHeartbeats 4000000 in
set_option maxRecDepth 100000 in
theorem lc_lost {p : Program} {l : Launch} {e : Env} {s : State} {m : MethodId} {below : List Frame} {meth : Method} {c : Code} {Ke : State → Prop} {z : Lp} {adS adV adM : Nat → Nat} {adD b L : Nat} {xs : Nat → Int32} {Rep : Km → Ms → Prop} {a0 : Nat} {Rt : Type} {QX : Rt → State → Prop} {o : Option Rt} (h : gOk p s m #[Value.ref b] meth c cL_law 7 "KeepForgetLaw" tb) (hKs : Ke s) (hC : lCx l Ke z adS adV adM adD b L xs) (hR : lRep Rep a0) (hO : op_lost Rep a0) (cc ss j : Nat) (hc1 : cc + 109 ≤ 601024) (hc2 : ss + 690 ≤ 7293034) (hj : j + 6 ≤ L) (μ : Km) (σ : Ms) (v : Int64) (h0 : Rep μ σ)
    (hk : ∀ w : Ls, Rep w.1 w.2.1 → gS p l e room_1 s m #[Value.ref b] below meth c 7 (lA z) (LW z) QX (cc + 109) (ss + 690) o (w) 1853 [(0, .ref b), (1, .ref a0), (2, .ref (zh z)), (3, .ref (zo z)), (4, .int (nI j))] []) : gS p l e room_1 s m #[Value.ref b] below meth c 7 (lA z) (LW z) QX (cc) (ss) o (μ, σ, v) 1209 [(0, .ref b), (1, .ref a0), (2, .ref (zh z)), (3, .ref (zo z)), (4, .int (nI j))] [] := by
  obtain ⟨hz, hkw, hX, hSt, hStM, hN, hT, hL⟩ := hC
  have h9 := hR.1 _ _ h0
  obtain ⟨X, r1, σ1, hK0, hM0, hXX⟩ := hO μ σ (xs (nI j + 1).toNatClampNeg) (xs (nI j + 2).toNatClampNeg) (xs (nI j + 3).toNatClampNeg) (xs (nI j + 4).toNatClampNeg) h0
  refine g_aload_n h 1 dL_law_1209 rfl ?_
  refine g_aload_n h 0 dL_law_1210 rfl ?_
  refine g_iload h 4 dL_law_1211 rfl ?_
  refine g_iconst (v := 1) h dL_law_1213 (by decide) ?_
  refine g_iadd h dL_law_1214 ?_
  refine g_ti h (fun H hw => hT _ _ hw.2.1.1) (L_in (k := 1) hj hL (by decide) (by decide)) dL_law_1215 ?_
  refine g_aload_n h 0 dL_law_1216 rfl ?_
  refine g_iload h 4 dL_law_1217 rfl ?_
  refine g_iconst (v := 2) h dL_law_1219 (by decide) ?_
  refine g_iadd h dL_law_1220 ?_
  refine g_ti h (fun H hw => hT _ _ hw.2.1.1) (L_in (k := 2) hj hL (by decide) (by decide)) dL_law_1221 ?_
  refine g_aload_n h 0 dL_law_1222 rfl ?_
  refine g_iload h 4 dL_law_1223 rfl ?_
  refine g_iconst (v := 3) h dL_law_1225 (by decide) ?_
  refine g_iadd h dL_law_1226 ?_
  refine g_ti h (fun H hw => hT _ _ hw.2.1.1) (L_in (k := 3) hj hL (by decide) (by decide)) dL_law_1227 ?_
  refine g_aload_n h 0 dL_law_1228 rfl ?_
  refine g_iload h 4 dL_law_1229 rfl ?_
  refine g_iconst (v := 4) h dL_law_1231 (by decide) ?_
  refine g_iadd h dL_law_1232 ?_
  refine g_ti h (fun H hw => hT _ _ hw.2.1.1) (L_in (k := 4) hj hL (by decide) (by decide)) dL_law_1233 ?_
  refine g_aload_n h 3 dL_law_1234 rfl ?_
  refine L_callW hz h hkw hKs [.ref a0, .int (xs (nI j + 1).toNatClampNeg), .int (xs (nI j + 2).toNatClampNeg), .int (xs (nI j + 3).toNatClampNeg), .int (xs (nI j + 4).toNatClampNeg), .ref (zo z)] (w_lost hz hkw (hX σ v) (hSt σ v) hN a0 h9 (xs (nI j + 1).toNatClampNeg) (xs (nI j + 2).toNatClampNeg) (xs (nI j + 3).toNatClampNeg) (xs (nI j + 4).toNatClampNeg) hK0 (fun b9 u9 q9 => by subst q9; exact hXX.1)) yk_L_lost tW_794 ⟨(Nat.le_of_ble_eq_true rfl), (Nat.le_of_ble_eq_true rfl)⟩ rfl rfl (Nat.le_of_ble_eq_true rfl) dL_law_1235 ⟨(by show cc + 4 ≤ 601024; omega), (by show ss + 24 ≤ 7293034; omega)⟩ (fun r u hP => ?_)
  cases X with
  | inl a =>
    obtain ⟨rfl, rfl⟩ := hP
    obtain ⟨q1, q2, q3⟩ := hXX
    refine g_istore h [(5, .int (0 : Int32)), (0, .ref b), (1, .ref a0), (2, .ref (zh z)), (3, .ref (zo z)), (4, .int (nI j))] dL_law_1238 (by decide) rfl ?_
    refine g_aload_n h 3 dL_law_1240 rfl ?_
    refine g_aload_n h 1 dL_law_1241 rfl ?_
    refine g_iload h 5 dL_law_1242 rfl ?_
    refine g_iconst (v := 1) h dL_law_1244 (by decide) ?_
    refine g_iadd h dL_law_1245 ?_
    refine g_ti h (fun H hw => hT _ _ hw.2.1.1) (L_in (k := 1) hj hL (by decide) (by decide)) dL_law_1246 ?_
    refine g_aload_n h 1 dL_law_1247 rfl ?_
    refine g_iload h 5 dL_law_1248 rfl ?_
    refine g_iconst (v := 2) h dL_law_1250 (by decide) ?_
    refine g_iadd h dL_law_1251 ?_
    refine g_ti h (fun H hw => hT _ _ hw.2.1.1) (L_in (k := 2) hj hL (by decide) (by decide)) dL_law_1252 ?_
    refine g_aload_n h 1 dL_law_1253 rfl ?_
    refine g_iload h 5 dL_law_1254 rfl ?_
    refine g_iconst (v := 3) h dL_law_1256 (by decide) ?_
    refine g_iadd h dL_law_1257 ?_
    refine g_ti h (fun H hw => hT _ _ hw.2.1.1) (L_in (k := 3) hj hL (by decide) (by decide)) dL_law_1258 ?_
    refine g_aload_n h 1 dL_law_1259 rfl ?_
    refine g_iload h 5 dL_law_1260 rfl ?_
    refine g_iconst (v := 4) h dL_law_1262 (by decide) ?_
    refine g_iadd h dL_law_1263 ?_
    refine g_ti h (fun H hw => hT _ _ hw.2.1.1) (L_in (k := 4) hj hL (by decide) (by decide)) dL_law_1264 ?_
    refine L_Mi hz h hkw hKs [.int (xs (nI j + 1).toNatClampNeg), .int (xs (nI j + 2).toNatClampNeg), .int (xs (nI j + 3).toNatClampNeg), .int (xs (nI j + 4).toNatClampNeg)] (c_X10_lost (lEM_ok hz _ _) hkw σ (xs (nI j + 1).toNatClampNeg) (xs (nI j + 2).toNatClampNeg) (xs (nI j + 3).toNatClampNeg) (xs (nI j + 4).toNatClampNeg) _ hM0) yk_X10_lost tW_1305 ⟨(Nat.le_of_ble_eq_true rfl), (Nat.le_of_ble_eq_true rfl)⟩ rfl rfl (Nat.le_of_ble_eq_true rfl) dL_law_1265 ⟨(by show cc + 4 + 0 ≤ 601024; omega), (by show ss + 24 + 0 ≤ 7293034; omega)⟩ (fun n1 hn1 => ?_)
    refine g_istore h [(6, .int r1), (5, .int (0 : Int32)), (0, .ref b), (1, .ref a0), (2, .ref (zh z)), (3, .ref (zo z)), (4, .int (nI j))] dL_law_1268 (by decide) rfl ?_
    refine g_aload_n h 4 dL_law_1270 rfl ?_
    refine L_Mi hz h hkw hKs [] (c_X10_thrown (lEM_ok hz _ _) hkw σ1 _ rfl) yk_X10_thrown tW_1087 ⟨(Nat.le_of_ble_eq_true rfl), (Nat.le_of_ble_eq_true rfl)⟩ rfl rfl (Nat.le_of_ble_eq_true rfl) dL_law_1271 ⟨(by show cc + 4 + 0 + 0 ≤ 601024; omega), (by show ss + 24 + 0 + 0 ≤ 7293034; omega)⟩ (fun n2 hn2 => ?_)
    refine g_iload h 1 dL_law_1274 rfl ?_
    refine g_pos (cnd := σ1.1 0 = (0 : Int32)) q1 ?_
    refine g_icmp_eq h 1281 dL_law_1276 (by decide) ?_ g_none
    refine g_iload h 1 dL_law_1281 rfl ?_
    refine g_pos (cnd := (0 : Int32) = 0) rfl ?_
    refine g_if_ne h 1298 dL_law_1283 (by decide) g_none ?_
    subst q2
    refine g_aload_n h 5 dL_law_1286 rfl ?_
    refine g_iconst (v := 0) h dL_law_1287 (by decide) ?_
    refine L_laload h dL_law_1288 ?_
    refine g_iload h 0 dL_law_1289 rfl ?_
    refine g_i2l h dL_law_1291 ?_
    refine g_lcmp h dL_law_1292 ?_
    refine g_pos (cnd := lg_cmp a.1.toInt64 a.1.toInt64 = 0) (lg_cmp_self _) ?_
    refine g_if_eq h 1298 dL_law_1293 (by decide) ?_ g_none
    refine g_goto h 1853 dL_law_1298 (by decide) ?_
    refine g_lv [(0, .ref b), (1, .ref a0), (2, .ref (zh z)), (3, .ref (zo z)), (4, .int (nI j))] [2, 3, 4, 5, 6] rfl ?_
    refine g_wid (cc + 109) (ss + 690) (by show cc + 4 + 0 + 0 ≤ cc + 109; omega) (by show ss + 24 + 0 + 0 ≤ ss + 690; omega) ?_
    exact hk (ksn (ksn (a.2) n1) n2, σ1, a.1.toInt64) (hR.2 _ _ n2 hn2 (hR.2 _ _ n1 hn1 q3))
  | inr a =>
    obtain ⟨rfl, n0, hn0, rfl⟩ := hP
    obtain ⟨q0, q1, q3⟩ := hXX
    refine g_istore h [(5, .int (1 : Int32)), (0, .ref b), (1, .ref a0), (2, .ref (zh z)), (3, .ref (zo z)), (4, .int (nI j))] dL_law_1238 (by decide) rfl ?_
    refine g_aload_n h 3 dL_law_1240 rfl ?_
    refine g_aload_n h 1 dL_law_1241 rfl ?_
    refine g_iload h 5 dL_law_1242 rfl ?_
    refine g_iconst (v := 1) h dL_law_1244 (by decide) ?_
    refine g_iadd h dL_law_1245 ?_
    refine g_ti h (fun H hw => hT _ _ hw.2.1.1) (L_in (k := 1) hj hL (by decide) (by decide)) dL_law_1246 ?_
    refine g_aload_n h 1 dL_law_1247 rfl ?_
    refine g_iload h 5 dL_law_1248 rfl ?_
    refine g_iconst (v := 2) h dL_law_1250 (by decide) ?_
    refine g_iadd h dL_law_1251 ?_
    refine g_ti h (fun H hw => hT _ _ hw.2.1.1) (L_in (k := 2) hj hL (by decide) (by decide)) dL_law_1252 ?_
    refine g_aload_n h 1 dL_law_1253 rfl ?_
    refine g_iload h 5 dL_law_1254 rfl ?_
    refine g_iconst (v := 3) h dL_law_1256 (by decide) ?_
    refine g_iadd h dL_law_1257 ?_
    refine g_ti h (fun H hw => hT _ _ hw.2.1.1) (L_in (k := 3) hj hL (by decide) (by decide)) dL_law_1258 ?_
    refine g_aload_n h 1 dL_law_1259 rfl ?_
    refine g_iload h 5 dL_law_1260 rfl ?_
    refine g_iconst (v := 4) h dL_law_1262 (by decide) ?_
    refine g_iadd h dL_law_1263 ?_
    refine g_ti h (fun H hw => hT _ _ hw.2.1.1) (L_in (k := 4) hj hL (by decide) (by decide)) dL_law_1264 ?_
    refine L_Mi hz h hkw hKs [.int (xs (nI j + 1).toNatClampNeg), .int (xs (nI j + 2).toNatClampNeg), .int (xs (nI j + 3).toNatClampNeg), .int (xs (nI j + 4).toNatClampNeg)] (c_X10_lost (lEM_ok hz _ _) hkw σ (xs (nI j + 1).toNatClampNeg) (xs (nI j + 2).toNatClampNeg) (xs (nI j + 3).toNatClampNeg) (xs (nI j + 4).toNatClampNeg) _ hM0) yk_X10_lost tW_1305 ⟨(Nat.le_of_ble_eq_true rfl), (Nat.le_of_ble_eq_true rfl)⟩ rfl rfl (Nat.le_of_ble_eq_true rfl) dL_law_1265 ⟨(by show cc + 4 + 0 ≤ 601024; omega), (by show ss + 24 + 0 ≤ 7293034; omega)⟩ (fun n1 hn1 => ?_)
    refine g_istore h [(6, .int r1), (5, .int (1 : Int32)), (0, .ref b), (1, .ref a0), (2, .ref (zh z)), (3, .ref (zo z)), (4, .int (nI j))] dL_law_1268 (by decide) rfl ?_
    refine g_aload_n h 4 dL_law_1270 rfl ?_
    refine L_Mi hz h hkw hKs [] (c_X10_thrown (lEM_ok hz _ _) hkw σ1 _ rfl) yk_X10_thrown tW_1087 ⟨(Nat.le_of_ble_eq_true rfl), (Nat.le_of_ble_eq_true rfl)⟩ rfl rfl (Nat.le_of_ble_eq_true rfl) dL_law_1271 ⟨(by show cc + 4 + 0 + 0 ≤ 601024; omega), (by show ss + 24 + 0 + 0 ≤ 7293034; omega)⟩ (fun n2 hn2 => ?_)
    refine g_iload h 1 dL_law_1274 rfl ?_
    refine g_pos (cnd := σ1.1 0 = (1 : Int32)) q1 ?_
    refine g_icmp_eq h 1281 dL_law_1276 (by decide) ?_ g_none
    refine g_iload h 1 dL_law_1281 rfl ?_
    refine g_neg (cnd := (1 : Int32) = 0) (by decide) ?_
    refine g_if_ne h 1298 dL_law_1283 (by decide) ?_ g_none
    refine g_goto h 1853 dL_law_1298 (by decide) ?_
    refine g_lv [(0, .ref b), (1, .ref a0), (2, .ref (zh z)), (3, .ref (zo z)), (4, .int (nI j))] [2, 3, 4, 5, 6] rfl ?_
    refine g_wid (cc + 109) (ss + 690) (by show cc + 4 + 0 + 0 ≤ cc + 109; omega) (by show ss + 24 + 0 + 0 ≤ ss + 690; omega) ?_
    exact hk (ksn (ksn (ksn a.2 n0) n1) n2, σ1, v) (hR.2 _ _ n2 hn2 (hR.2 _ _ n1 hn1 (hR.2 _ _ n0 hn0 q3)))
set_option maxHeartbeats 4000000 in
set_option maxRecDepth 100000 in
theorem lc_why {p : Program} {l : Launch} {e : Env} {s : State} {m : MethodId} {below : List Frame} {meth : Method} {c : Code} {Ke : State → Prop} {z : Lp} {adS adV adM : Nat → Nat} {adD b L : Nat} {xs : Nat → Int32} {Rep : Km → Ms → Prop} {a0 : Nat} {Rt : Type} {QX : Rt → State → Prop} {o : Option Rt} (h : gOk p s m #[Value.ref b] meth c cL_law 7 "KeepForgetLaw" tb) (hKs : Ke s) (hC : lCx l Ke z adS adV adM adD b L xs) (hR : lRep Rep a0) (hO : op_why Rep a0) (cc ss j : Nat) (hc1 : cc + 109 ≤ 601024) (hc2 : ss + 690 ≤ 7293034) (hj : j + 6 ≤ L) (μ : Km) (σ : Ms) (v : Int64) (h0 : Rep μ σ)
    (hk : ∀ w : Ls, Rep w.1 w.2.1 → gS p l e room_1 s m #[Value.ref b] below meth c 7 (lA z) (LW z) QX (cc + 109) (ss + 690) o (w) 1853 [(0, .ref b), (1, .ref a0), (2, .ref (zh z)), (3, .ref (zo z)), (4, .int (nI j))] []) : gS p l e room_1 s m #[Value.ref b] below meth c 7 (lA z) (LW z) QX (cc) (ss) o (μ, σ, v) 1301 [(0, .ref b), (1, .ref a0), (2, .ref (zh z)), (3, .ref (zo z)), (4, .int (nI j))] [] := by
  obtain ⟨hz, hkw, hX, hSt, hStM, hN, hT, hL⟩ := hC
  have h9 := hR.1 _ _ h0
  obtain ⟨X, r1, σ1, hK0, hM0, hXX⟩ := hO μ σ (xs (nI j + 1).toNatClampNeg) (xs (nI j + 2).toNatClampNeg) h0
  refine g_aload_n h 1 dL_law_1301 rfl ?_
  refine g_aload_n h 0 dL_law_1302 rfl ?_
  refine g_iload h 4 dL_law_1303 rfl ?_
  refine g_iconst (v := 1) h dL_law_1305 (by decide) ?_
  refine g_iadd h dL_law_1306 ?_
  refine g_ti h (fun H hw => hT _ _ hw.2.1.1) (L_in (k := 1) hj hL (by decide) (by decide)) dL_law_1307 ?_
  refine g_aload_n h 0 dL_law_1308 rfl ?_
  refine g_iload h 4 dL_law_1309 rfl ?_
  refine g_iconst (v := 2) h dL_law_1311 (by decide) ?_
  refine g_iadd h dL_law_1312 ?_
  refine g_ti h (fun H hw => hT _ _ hw.2.1.1) (L_in (k := 2) hj hL (by decide) (by decide)) dL_law_1313 ?_
  refine g_aload_n h 3 dL_law_1314 rfl ?_
  refine L_callW hz h hkw hKs [.ref a0, .int (xs (nI j + 1).toNatClampNeg), .int (xs (nI j + 2).toNatClampNeg), .ref (zo z)] (w_why hz hkw (hX σ v) (hSt σ v) hN a0 h9 (xs (nI j + 1).toNatClampNeg) (xs (nI j + 2).toNatClampNeg) hK0 (fun b9 u9 q9 => by subst q9; exact hXX.1)) yk_L_why tW_802 ⟨(Nat.le_of_ble_eq_true rfl), (Nat.le_of_ble_eq_true rfl)⟩ rfl rfl (Nat.le_of_ble_eq_true rfl) dL_law_1315 ⟨(by show cc + 2 ≤ 601024; omega), (by show ss + 12 ≤ 7293034; omega)⟩ (fun r u hP => ?_)
  cases X with
  | inl a =>
    obtain ⟨rfl, rfl⟩ := hP
    obtain ⟨q1, q2, q3⟩ := hXX
    refine g_istore h [(5, .int (0 : Int32)), (0, .ref b), (1, .ref a0), (2, .ref (zh z)), (3, .ref (zo z)), (4, .int (nI j))] dL_law_1318 (by decide) rfl ?_
    refine g_aload_n h 3 dL_law_1320 rfl ?_
    refine g_aload_n h 1 dL_law_1321 rfl ?_
    refine g_iload h 5 dL_law_1322 rfl ?_
    refine g_iconst (v := 1) h dL_law_1324 (by decide) ?_
    refine g_iadd h dL_law_1325 ?_
    refine g_ti h (fun H hw => hT _ _ hw.2.1.1) (L_in (k := 1) hj hL (by decide) (by decide)) dL_law_1326 ?_
    refine g_aload_n h 1 dL_law_1327 rfl ?_
    refine g_iload h 5 dL_law_1328 rfl ?_
    refine g_iconst (v := 2) h dL_law_1330 (by decide) ?_
    refine g_iadd h dL_law_1331 ?_
    refine g_ti h (fun H hw => hT _ _ hw.2.1.1) (L_in (k := 2) hj hL (by decide) (by decide)) dL_law_1332 ?_
    refine L_Mi hz h hkw hKs [.int (xs (nI j + 1).toNatClampNeg), .int (xs (nI j + 2).toNatClampNeg)] (c_X10_why (lEM_ok hz _ _) hkw σ (xs (nI j + 1).toNatClampNeg) (xs (nI j + 2).toNatClampNeg) _ hM0) yk_X10_why tW_1309 ⟨(Nat.le_of_ble_eq_true rfl), (Nat.le_of_ble_eq_true rfl)⟩ rfl rfl (Nat.le_of_ble_eq_true rfl) dL_law_1333 ⟨(by show cc + 2 + 0 ≤ 601024; omega), (by show ss + 12 + 0 ≤ 7293034; omega)⟩ (fun n1 hn1 => ?_)
    refine g_istore h [(6, .int r1), (5, .int (0 : Int32)), (0, .ref b), (1, .ref a0), (2, .ref (zh z)), (3, .ref (zo z)), (4, .int (nI j))] dL_law_1336 (by decide) rfl ?_
    refine g_aload_n h 4 dL_law_1338 rfl ?_
    refine L_Mi hz h hkw hKs [] (c_X10_thrown (lEM_ok hz _ _) hkw σ1 _ rfl) yk_X10_thrown tW_1087 ⟨(Nat.le_of_ble_eq_true rfl), (Nat.le_of_ble_eq_true rfl)⟩ rfl rfl (Nat.le_of_ble_eq_true rfl) dL_law_1339 ⟨(by show cc + 2 + 0 + 0 ≤ 601024; omega), (by show ss + 12 + 0 + 0 ≤ 7293034; omega)⟩ (fun n2 hn2 => ?_)
    refine g_iload h 1 dL_law_1342 rfl ?_
    refine g_pos (cnd := σ1.1 0 = (0 : Int32)) q1 ?_
    refine g_icmp_eq h 1349 dL_law_1344 (by decide) ?_ g_none
    refine g_iload h 1 dL_law_1349 rfl ?_
    refine g_pos (cnd := (0 : Int32) = 0) rfl ?_
    refine g_if_ne h 1366 dL_law_1351 (by decide) g_none ?_
    subst q2
    refine g_aload_n h 5 dL_law_1354 rfl ?_
    refine g_iconst (v := 0) h dL_law_1355 (by decide) ?_
    refine L_laload h dL_law_1356 ?_
    refine g_iload h 0 dL_law_1357 rfl ?_
    refine g_i2l h dL_law_1359 ?_
    refine g_lcmp h dL_law_1360 ?_
    refine g_pos (cnd := lg_cmp a.1.toInt64 a.1.toInt64 = 0) (lg_cmp_self _) ?_
    refine g_if_eq h 1366 dL_law_1361 (by decide) ?_ g_none
    refine g_goto h 1853 dL_law_1366 (by decide) ?_
    refine g_lv [(0, .ref b), (1, .ref a0), (2, .ref (zh z)), (3, .ref (zo z)), (4, .int (nI j))] [2, 3, 4, 5, 6] rfl ?_
    refine g_wid (cc + 109) (ss + 690) (by show cc + 2 + 0 + 0 ≤ cc + 109; omega) (by show ss + 12 + 0 + 0 ≤ ss + 690; omega) ?_
    exact hk (ksn (ksn (a.2) n1) n2, σ1, a.1.toInt64) (hR.2 _ _ n2 hn2 (hR.2 _ _ n1 hn1 q3))
  | inr a =>
    obtain ⟨rfl, n0, hn0, rfl⟩ := hP
    obtain ⟨q0, q1, q3⟩ := hXX
    refine g_istore h [(5, .int (1 : Int32)), (0, .ref b), (1, .ref a0), (2, .ref (zh z)), (3, .ref (zo z)), (4, .int (nI j))] dL_law_1318 (by decide) rfl ?_
    refine g_aload_n h 3 dL_law_1320 rfl ?_
    refine g_aload_n h 1 dL_law_1321 rfl ?_
    refine g_iload h 5 dL_law_1322 rfl ?_
    refine g_iconst (v := 1) h dL_law_1324 (by decide) ?_
    refine g_iadd h dL_law_1325 ?_
    refine g_ti h (fun H hw => hT _ _ hw.2.1.1) (L_in (k := 1) hj hL (by decide) (by decide)) dL_law_1326 ?_
    refine g_aload_n h 1 dL_law_1327 rfl ?_
    refine g_iload h 5 dL_law_1328 rfl ?_
    refine g_iconst (v := 2) h dL_law_1330 (by decide) ?_
    refine g_iadd h dL_law_1331 ?_
    refine g_ti h (fun H hw => hT _ _ hw.2.1.1) (L_in (k := 2) hj hL (by decide) (by decide)) dL_law_1332 ?_
    refine L_Mi hz h hkw hKs [.int (xs (nI j + 1).toNatClampNeg), .int (xs (nI j + 2).toNatClampNeg)] (c_X10_why (lEM_ok hz _ _) hkw σ (xs (nI j + 1).toNatClampNeg) (xs (nI j + 2).toNatClampNeg) _ hM0) yk_X10_why tW_1309 ⟨(Nat.le_of_ble_eq_true rfl), (Nat.le_of_ble_eq_true rfl)⟩ rfl rfl (Nat.le_of_ble_eq_true rfl) dL_law_1333 ⟨(by show cc + 2 + 0 ≤ 601024; omega), (by show ss + 12 + 0 ≤ 7293034; omega)⟩ (fun n1 hn1 => ?_)
    refine g_istore h [(6, .int r1), (5, .int (1 : Int32)), (0, .ref b), (1, .ref a0), (2, .ref (zh z)), (3, .ref (zo z)), (4, .int (nI j))] dL_law_1336 (by decide) rfl ?_
    refine g_aload_n h 4 dL_law_1338 rfl ?_
    refine L_Mi hz h hkw hKs [] (c_X10_thrown (lEM_ok hz _ _) hkw σ1 _ rfl) yk_X10_thrown tW_1087 ⟨(Nat.le_of_ble_eq_true rfl), (Nat.le_of_ble_eq_true rfl)⟩ rfl rfl (Nat.le_of_ble_eq_true rfl) dL_law_1339 ⟨(by show cc + 2 + 0 + 0 ≤ 601024; omega), (by show ss + 12 + 0 + 0 ≤ 7293034; omega)⟩ (fun n2 hn2 => ?_)
    refine g_iload h 1 dL_law_1342 rfl ?_
    refine g_pos (cnd := σ1.1 0 = (1 : Int32)) q1 ?_
    refine g_icmp_eq h 1349 dL_law_1344 (by decide) ?_ g_none
    refine g_iload h 1 dL_law_1349 rfl ?_
    refine g_neg (cnd := (1 : Int32) = 0) (by decide) ?_
    refine g_if_ne h 1366 dL_law_1351 (by decide) ?_ g_none
    refine g_goto h 1853 dL_law_1366 (by decide) ?_
    refine g_lv [(0, .ref b), (1, .ref a0), (2, .ref (zh z)), (3, .ref (zo z)), (4, .int (nI j))] [2, 3, 4, 5, 6] rfl ?_
    refine g_wid (cc + 109) (ss + 690) (by show cc + 2 + 0 + 0 ≤ cc + 109; omega) (by show ss + 12 + 0 + 0 ≤ ss + 690; omega) ?_
    exact hk (ksn (ksn (ksn a.2 n0) n1) n2, σ1, v) (hR.2 _ _ n2 hn2 (hR.2 _ _ n1 hn1 (hR.2 _ _ n0 hn0 q3)))
set_option maxHeartbeats 4000000 in
set_option maxRecDepth 100000 in
theorem lc_places {p : Program} {l : Launch} {e : Env} {s : State} {m : MethodId} {below : List Frame} {meth : Method} {c : Code} {Ke : State → Prop} {z : Lp} {adS adV adM : Nat → Nat} {adD b L : Nat} {xs : Nat → Int32} {Rep : Km → Ms → Prop} {a0 : Nat} {Rt : Type} {QX : Rt → State → Prop} {o : Option Rt} (h : gOk p s m #[Value.ref b] meth c cL_law 7 "KeepForgetLaw" tb) (hKs : Ke s) (hC : lCx l Ke z adS adV adM adD b L xs) (hR : lRep Rep a0) (hO : op_places Rep a0) (cc ss j : Nat) (hc1 : cc + 109 ≤ 601024) (hc2 : ss + 690 ≤ 7293034) (hj : j + 6 ≤ L) (μ : Km) (σ : Ms) (v : Int64) (h0 : Rep μ σ)
    (hk : ∀ w : Ls, Rep w.1 w.2.1 → gS p l e room_1 s m #[Value.ref b] below meth c 7 (lA z) (LW z) QX (cc + 109) (ss + 690) o (w) 1853 [(0, .ref b), (1, .ref a0), (2, .ref (zh z)), (3, .ref (zo z)), (4, .int (nI j))] []) : gS p l e room_1 s m #[Value.ref b] below meth c 7 (lA z) (LW z) QX (cc) (ss) o (μ, σ, v) 1369 [(0, .ref b), (1, .ref a0), (2, .ref (zh z)), (3, .ref (zo z)), (4, .int (nI j))] [] := by
  obtain ⟨hz, hkw, hX, hSt, hStM, hN, hT, hL⟩ := hC
  have h9 := hR.1 _ _ h0
  obtain ⟨X, r1, σ1, hK0, hM0, hXX⟩ := hO μ σ (xs (nI j + 1).toNatClampNeg) (xs (nI j + 2).toNatClampNeg) h0
  refine g_aload_n h 1 dL_law_1369 rfl ?_
  refine g_aload_n h 0 dL_law_1370 rfl ?_
  refine g_iload h 4 dL_law_1371 rfl ?_
  refine g_iconst (v := 1) h dL_law_1373 (by decide) ?_
  refine g_iadd h dL_law_1374 ?_
  refine g_ti h (fun H hw => hT _ _ hw.2.1.1) (L_in (k := 1) hj hL (by decide) (by decide)) dL_law_1375 ?_
  refine g_aload_n h 0 dL_law_1376 rfl ?_
  refine g_iload h 4 dL_law_1377 rfl ?_
  refine g_iconst (v := 2) h dL_law_1379 (by decide) ?_
  refine g_iadd h dL_law_1380 ?_
  refine g_ti h (fun H hw => hT _ _ hw.2.1.1) (L_in (k := 2) hj hL (by decide) (by decide)) dL_law_1381 ?_
  refine g_aload_n h 3 dL_law_1382 rfl ?_
  refine L_callW hz h hkw hKs [.ref a0, .int (xs (nI j + 1).toNatClampNeg), .int (xs (nI j + 2).toNatClampNeg), .ref (zo z)] (w_places hz hkw (hX σ v) (hSt σ v) hN a0 h9 (xs (nI j + 1).toNatClampNeg) (xs (nI j + 2).toNatClampNeg) hK0 (fun b9 u9 q9 => by subst q9; exact hXX.1)) yk_L_places tW_809 ⟨(Nat.le_of_ble_eq_true rfl), (Nat.le_of_ble_eq_true rfl)⟩ rfl rfl (Nat.le_of_ble_eq_true rfl) dL_law_1383 ⟨(by show cc + 2 ≤ 601024; omega), (by show ss + 12 ≤ 7293034; omega)⟩ (fun r u hP => ?_)
  cases X with
  | inl a =>
    obtain ⟨rfl, rfl⟩ := hP
    obtain ⟨q1, q2, q3⟩ := hXX
    refine g_istore h [(5, .int (0 : Int32)), (0, .ref b), (1, .ref a0), (2, .ref (zh z)), (3, .ref (zo z)), (4, .int (nI j))] dL_law_1386 (by decide) rfl ?_
    refine g_aload_n h 3 dL_law_1388 rfl ?_
    refine g_aload_n h 1 dL_law_1389 rfl ?_
    refine g_iload h 5 dL_law_1390 rfl ?_
    refine g_iconst (v := 1) h dL_law_1392 (by decide) ?_
    refine g_iadd h dL_law_1393 ?_
    refine g_ti h (fun H hw => hT _ _ hw.2.1.1) (L_in (k := 1) hj hL (by decide) (by decide)) dL_law_1394 ?_
    refine g_aload_n h 1 dL_law_1395 rfl ?_
    refine g_iload h 5 dL_law_1396 rfl ?_
    refine g_iconst (v := 2) h dL_law_1398 (by decide) ?_
    refine g_iadd h dL_law_1399 ?_
    refine g_ti h (fun H hw => hT _ _ hw.2.1.1) (L_in (k := 2) hj hL (by decide) (by decide)) dL_law_1400 ?_
    refine L_Mi hz h hkw hKs [.int (xs (nI j + 1).toNatClampNeg), .int (xs (nI j + 2).toNatClampNeg)] (c_X10_places (lEM_ok hz _ _) hkw σ (xs (nI j + 1).toNatClampNeg) (xs (nI j + 2).toNatClampNeg) _ hM0) yk_X10_places tW_1313 ⟨(Nat.le_of_ble_eq_true rfl), (Nat.le_of_ble_eq_true rfl)⟩ rfl rfl (Nat.le_of_ble_eq_true rfl) dL_law_1401 ⟨(by show cc + 2 + 0 ≤ 601024; omega), (by show ss + 12 + 0 ≤ 7293034; omega)⟩ (fun n1 hn1 => ?_)
    refine g_istore h [(6, .int r1), (5, .int (0 : Int32)), (0, .ref b), (1, .ref a0), (2, .ref (zh z)), (3, .ref (zo z)), (4, .int (nI j))] dL_law_1404 (by decide) rfl ?_
    refine g_aload_n h 4 dL_law_1406 rfl ?_
    refine L_Mi hz h hkw hKs [] (c_X10_thrown (lEM_ok hz _ _) hkw σ1 _ rfl) yk_X10_thrown tW_1087 ⟨(Nat.le_of_ble_eq_true rfl), (Nat.le_of_ble_eq_true rfl)⟩ rfl rfl (Nat.le_of_ble_eq_true rfl) dL_law_1407 ⟨(by show cc + 2 + 0 + 0 ≤ 601024; omega), (by show ss + 12 + 0 + 0 ≤ 7293034; omega)⟩ (fun n2 hn2 => ?_)
    refine g_iload h 1 dL_law_1410 rfl ?_
    refine g_pos (cnd := σ1.1 0 = (0 : Int32)) q1 ?_
    refine g_icmp_eq h 1417 dL_law_1412 (by decide) ?_ g_none
    refine g_iload h 1 dL_law_1417 rfl ?_
    refine g_pos (cnd := (0 : Int32) = 0) rfl ?_
    refine g_if_ne h 1434 dL_law_1419 (by decide) g_none ?_
    subst q2
    refine g_aload_n h 5 dL_law_1422 rfl ?_
    refine g_iconst (v := 0) h dL_law_1423 (by decide) ?_
    refine L_laload h dL_law_1424 ?_
    refine g_iload h 0 dL_law_1425 rfl ?_
    refine g_i2l h dL_law_1427 ?_
    refine g_lcmp h dL_law_1428 ?_
    refine g_pos (cnd := lg_cmp a.1.toInt64 a.1.toInt64 = 0) (lg_cmp_self _) ?_
    refine g_if_eq h 1434 dL_law_1429 (by decide) ?_ g_none
    refine g_goto h 1853 dL_law_1434 (by decide) ?_
    refine g_lv [(0, .ref b), (1, .ref a0), (2, .ref (zh z)), (3, .ref (zo z)), (4, .int (nI j))] [2, 3, 4, 5, 6] rfl ?_
    refine g_wid (cc + 109) (ss + 690) (by show cc + 2 + 0 + 0 ≤ cc + 109; omega) (by show ss + 12 + 0 + 0 ≤ ss + 690; omega) ?_
    exact hk (ksn (ksn (a.2) n1) n2, σ1, a.1.toInt64) (hR.2 _ _ n2 hn2 (hR.2 _ _ n1 hn1 q3))
  | inr a =>
    obtain ⟨rfl, n0, hn0, rfl⟩ := hP
    obtain ⟨q0, q1, q3⟩ := hXX
    refine g_istore h [(5, .int (1 : Int32)), (0, .ref b), (1, .ref a0), (2, .ref (zh z)), (3, .ref (zo z)), (4, .int (nI j))] dL_law_1386 (by decide) rfl ?_
    refine g_aload_n h 3 dL_law_1388 rfl ?_
    refine g_aload_n h 1 dL_law_1389 rfl ?_
    refine g_iload h 5 dL_law_1390 rfl ?_
    refine g_iconst (v := 1) h dL_law_1392 (by decide) ?_
    refine g_iadd h dL_law_1393 ?_
    refine g_ti h (fun H hw => hT _ _ hw.2.1.1) (L_in (k := 1) hj hL (by decide) (by decide)) dL_law_1394 ?_
    refine g_aload_n h 1 dL_law_1395 rfl ?_
    refine g_iload h 5 dL_law_1396 rfl ?_
    refine g_iconst (v := 2) h dL_law_1398 (by decide) ?_
    refine g_iadd h dL_law_1399 ?_
    refine g_ti h (fun H hw => hT _ _ hw.2.1.1) (L_in (k := 2) hj hL (by decide) (by decide)) dL_law_1400 ?_
    refine L_Mi hz h hkw hKs [.int (xs (nI j + 1).toNatClampNeg), .int (xs (nI j + 2).toNatClampNeg)] (c_X10_places (lEM_ok hz _ _) hkw σ (xs (nI j + 1).toNatClampNeg) (xs (nI j + 2).toNatClampNeg) _ hM0) yk_X10_places tW_1313 ⟨(Nat.le_of_ble_eq_true rfl), (Nat.le_of_ble_eq_true rfl)⟩ rfl rfl (Nat.le_of_ble_eq_true rfl) dL_law_1401 ⟨(by show cc + 2 + 0 ≤ 601024; omega), (by show ss + 12 + 0 ≤ 7293034; omega)⟩ (fun n1 hn1 => ?_)
    refine g_istore h [(6, .int r1), (5, .int (1 : Int32)), (0, .ref b), (1, .ref a0), (2, .ref (zh z)), (3, .ref (zo z)), (4, .int (nI j))] dL_law_1404 (by decide) rfl ?_
    refine g_aload_n h 4 dL_law_1406 rfl ?_
    refine L_Mi hz h hkw hKs [] (c_X10_thrown (lEM_ok hz _ _) hkw σ1 _ rfl) yk_X10_thrown tW_1087 ⟨(Nat.le_of_ble_eq_true rfl), (Nat.le_of_ble_eq_true rfl)⟩ rfl rfl (Nat.le_of_ble_eq_true rfl) dL_law_1407 ⟨(by show cc + 2 + 0 + 0 ≤ 601024; omega), (by show ss + 12 + 0 + 0 ≤ 7293034; omega)⟩ (fun n2 hn2 => ?_)
    refine g_iload h 1 dL_law_1410 rfl ?_
    refine g_pos (cnd := σ1.1 0 = (1 : Int32)) q1 ?_
    refine g_icmp_eq h 1417 dL_law_1412 (by decide) ?_ g_none
    refine g_iload h 1 dL_law_1417 rfl ?_
    refine g_neg (cnd := (1 : Int32) = 0) (by decide) ?_
    refine g_if_ne h 1434 dL_law_1419 (by decide) ?_ g_none
    refine g_goto h 1853 dL_law_1434 (by decide) ?_
    refine g_lv [(0, .ref b), (1, .ref a0), (2, .ref (zh z)), (3, .ref (zo z)), (4, .int (nI j))] [2, 3, 4, 5, 6] rfl ?_
    refine g_wid (cc + 109) (ss + 690) (by show cc + 2 + 0 + 0 ≤ cc + 109; omega) (by show ss + 12 + 0 + 0 ≤ ss + 690; omega) ?_
    exact hk (ksn (ksn (ksn a.2 n0) n1) n2, σ1, v) (hR.2 _ _ n2 hn2 (hR.2 _ _ n1 hn1 (hR.2 _ _ n0 hn0 q3)))
set_option maxHeartbeats 4000000 in
set_option maxRecDepth 100000 in
theorem lc_misplaced {p : Program} {l : Launch} {e : Env} {s : State} {m : MethodId} {below : List Frame} {meth : Method} {c : Code} {Ke : State → Prop} {z : Lp} {adS adV adM : Nat → Nat} {adD b L : Nat} {xs : Nat → Int32} {Rep : Km → Ms → Prop} {a0 : Nat} {Rt : Type} {QX : Rt → State → Prop} {o : Option Rt} (h : gOk p s m #[Value.ref b] meth c cL_law 7 "KeepForgetLaw" tb) (hKs : Ke s) (hC : lCx l Ke z adS adV adM adD b L xs) (hR : lRep Rep a0) (hO : op_misplaced Rep a0) (cc ss j : Nat) (hc1 : cc + 109 ≤ 601024) (hc2 : ss + 690 ≤ 7293034) (hj : j + 6 ≤ L) (μ : Km) (σ : Ms) (v : Int64) (h0 : Rep μ σ)
    (hk : ∀ w : Ls, Rep w.1 w.2.1 → gS p l e room_1 s m #[Value.ref b] below meth c 7 (lA z) (LW z) QX (cc + 109) (ss + 690) o (w) 1853 [(0, .ref b), (1, .ref a0), (2, .ref (zh z)), (3, .ref (zo z)), (4, .int (nI j))] []) : gS p l e room_1 s m #[Value.ref b] below meth c 7 (lA z) (LW z) QX (cc) (ss) o (μ, σ, v) 1437 [(0, .ref b), (1, .ref a0), (2, .ref (zh z)), (3, .ref (zo z)), (4, .int (nI j))] [] := by
  obtain ⟨hz, hkw, hX, hSt, hStM, hN, hT, hL⟩ := hC
  have h9 := hR.1 _ _ h0
  obtain ⟨r1, σ1, hK0, hM0, q3⟩ := hO μ σ h0
  refine g_aload_n h 1 dL_law_1437 rfl ?_
  refine L_Ki hz h hkw hKs [] h9 (c_X9_misplaced (lEK_ok hz σ v) hkw (hX σ v) (hSt σ v) μ a0  _ hK0) yk_X9_misplaced tW_202 ⟨(Nat.le_of_ble_eq_true rfl), (Nat.le_of_ble_eq_true rfl)⟩ rfl rfl (Nat.le_of_ble_eq_true rfl) dL_law_1438 ⟨(by show cc + 0 ≤ 601024; omega), (by show ss + 0 ≤ 7293034; omega)⟩ ?_
  refine g_aload_n h 2 dL_law_1441 rfl ?_
  refine L_Mi hz h hkw hKs [] (c_X10_misplaced (lEM_ok hz _ _) hkw σ  _ hM0) yk_X10_misplaced tW_1317 ⟨(Nat.le_of_ble_eq_true rfl), (Nat.le_of_ble_eq_true rfl)⟩ rfl rfl (Nat.le_of_ble_eq_true rfl) dL_law_1442 ⟨(by show cc + 0 + 0 ≤ 601024; omega), (by show ss + 0 + 0 ≤ 7293034; omega)⟩ (fun n1 hn1 => ?_)
  refine g_pos (cnd := r1 = r1) rfl ?_
  refine g_icmp_eq h 1853 dL_law_1445 (by decide) ?_ g_none
  refine g_lv [(0, .ref b), (1, .ref a0), (2, .ref (zh z)), (3, .ref (zo z)), (4, .int (nI j))] [0, 1, 2, 3, 4] rfl ?_
  refine g_wid (cc + 109) (ss + 690) (by show cc + 0 + 0 ≤ cc + 109; omega) (by show ss + 0 + 0 ≤ ss + 690; omega) ?_
  exact hk (ksn μ n1, σ1, v) (hR.2 _ _ n1 hn1 q3)
set_option maxHeartbeats 4000000 in
set_option maxRecDepth 100000 in
theorem lc_planned {p : Program} {l : Launch} {e : Env} {s : State} {m : MethodId} {below : List Frame} {meth : Method} {c : Code} {Ke : State → Prop} {z : Lp} {adS adV adM : Nat → Nat} {adD b L : Nat} {xs : Nat → Int32} {Rep : Km → Ms → Prop} {a0 : Nat} {Rt : Type} {QX : Rt → State → Prop} {o : Option Rt} (h : gOk p s m #[Value.ref b] meth c cL_law 7 "KeepForgetLaw" tb) (hKs : Ke s) (hC : lCx l Ke z adS adV adM adD b L xs) (hR : lRep Rep a0) (hO : op_planned Rep a0) (cc ss j : Nat) (hc1 : cc + 109 ≤ 601024) (hc2 : ss + 690 ≤ 7293034) (hj : j + 6 ≤ L) (μ : Km) (σ : Ms) (v : Int64) (h0 : Rep μ σ)
    (hk : ∀ w : Ls, Rep w.1 w.2.1 → gS p l e room_1 s m #[Value.ref b] below meth c 7 (lA z) (LW z) QX (cc + 109) (ss + 690) o (w) 1853 [(0, .ref b), (1, .ref a0), (2, .ref (zh z)), (3, .ref (zo z)), (4, .int (nI j))] []) : gS p l e room_1 s m #[Value.ref b] below meth c 7 (lA z) (LW z) QX (cc) (ss) o (μ, σ, v) 1450 [(0, .ref b), (1, .ref a0), (2, .ref (zh z)), (3, .ref (zo z)), (4, .int (nI j))] [] := by
  obtain ⟨hz, hkw, hX, hSt, hStM, hN, hT, hL⟩ := hC
  have h9 := hR.1 _ _ h0
  obtain ⟨X, r1, σ1, hK0, hM0, hXX⟩ := hO μ σ (xs (nI j + 1).toNatClampNeg) (xs (nI j + 2).toNatClampNeg) (xs (nI j + 3).toNatClampNeg) h0
  refine g_aload_n h 1 dL_law_1450 rfl ?_
  refine g_aload_n h 0 dL_law_1451 rfl ?_
  refine g_iload h 4 dL_law_1452 rfl ?_
  refine g_iconst (v := 1) h dL_law_1454 (by decide) ?_
  refine g_iadd h dL_law_1455 ?_
  refine g_ti h (fun H hw => hT _ _ hw.2.1.1) (L_in (k := 1) hj hL (by decide) (by decide)) dL_law_1456 ?_
  refine g_aload_n h 0 dL_law_1457 rfl ?_
  refine g_iload h 4 dL_law_1458 rfl ?_
  refine g_iconst (v := 2) h dL_law_1460 (by decide) ?_
  refine g_iadd h dL_law_1461 ?_
  refine g_ti h (fun H hw => hT _ _ hw.2.1.1) (L_in (k := 2) hj hL (by decide) (by decide)) dL_law_1462 ?_
  refine g_aload_n h 0 dL_law_1463 rfl ?_
  refine g_iload h 4 dL_law_1464 rfl ?_
  refine g_iconst (v := 3) h dL_law_1466 (by decide) ?_
  refine g_iadd h dL_law_1467 ?_
  refine g_ti h (fun H hw => hT _ _ hw.2.1.1) (L_in (k := 3) hj hL (by decide) (by decide)) dL_law_1468 ?_
  refine g_aload_n h 3 dL_law_1469 rfl ?_
  refine L_callW hz h hkw hKs [.ref a0, .int (xs (nI j + 1).toNatClampNeg), .int (xs (nI j + 2).toNatClampNeg), .int (xs (nI j + 3).toNatClampNeg), .ref (zo z)] (w_planned hz hkw (hX σ v) (hSt σ v) hN a0 h9 (xs (nI j + 1).toNatClampNeg) (xs (nI j + 2).toNatClampNeg) (xs (nI j + 3).toNatClampNeg) hK0 (fun b9 u9 q9 => by subst q9; exact hXX.1)) yk_L_planned tW_816 ⟨(Nat.le_of_ble_eq_true rfl), (Nat.le_of_ble_eq_true rfl)⟩ rfl rfl (Nat.le_of_ble_eq_true rfl) dL_law_1470 ⟨(by show cc + 3 ≤ 601024; omega), (by show ss + 18 ≤ 7293034; omega)⟩ (fun r u hP => ?_)
  cases X with
  | inl a =>
    obtain ⟨rfl, rfl⟩ := hP
    obtain ⟨q1, q2, q3⟩ := hXX
    refine g_istore h [(5, .int (0 : Int32)), (0, .ref b), (1, .ref a0), (2, .ref (zh z)), (3, .ref (zo z)), (4, .int (nI j))] dL_law_1473 (by decide) rfl ?_
    refine g_aload_n h 3 dL_law_1475 rfl ?_
    refine g_aload_n h 1 dL_law_1476 rfl ?_
    refine g_iload h 5 dL_law_1477 rfl ?_
    refine g_iconst (v := 1) h dL_law_1479 (by decide) ?_
    refine g_iadd h dL_law_1480 ?_
    refine g_ti h (fun H hw => hT _ _ hw.2.1.1) (L_in (k := 1) hj hL (by decide) (by decide)) dL_law_1481 ?_
    refine g_aload_n h 1 dL_law_1482 rfl ?_
    refine g_iload h 5 dL_law_1483 rfl ?_
    refine g_iconst (v := 2) h dL_law_1485 (by decide) ?_
    refine g_iadd h dL_law_1486 ?_
    refine g_ti h (fun H hw => hT _ _ hw.2.1.1) (L_in (k := 2) hj hL (by decide) (by decide)) dL_law_1487 ?_
    refine g_aload_n h 1 dL_law_1488 rfl ?_
    refine g_iload h 5 dL_law_1489 rfl ?_
    refine g_iconst (v := 3) h dL_law_1491 (by decide) ?_
    refine g_iadd h dL_law_1492 ?_
    refine g_ti h (fun H hw => hT _ _ hw.2.1.1) (L_in (k := 3) hj hL (by decide) (by decide)) dL_law_1493 ?_
    refine L_Mi hz h hkw hKs [.int (xs (nI j + 1).toNatClampNeg), .int (xs (nI j + 2).toNatClampNeg), .int (xs (nI j + 3).toNatClampNeg)] (c_X10_planned (lEM_ok hz _ _) hkw σ (xs (nI j + 1).toNatClampNeg) (xs (nI j + 2).toNatClampNeg) (xs (nI j + 3).toNatClampNeg) _ hM0) yk_X10_planned tW_1324 ⟨(Nat.le_of_ble_eq_true rfl), (Nat.le_of_ble_eq_true rfl)⟩ rfl rfl (Nat.le_of_ble_eq_true rfl) dL_law_1494 ⟨(by show cc + 3 + 0 ≤ 601024; omega), (by show ss + 18 + 0 ≤ 7293034; omega)⟩ (fun n1 hn1 => ?_)
    refine g_istore h [(6, .int r1), (5, .int (0 : Int32)), (0, .ref b), (1, .ref a0), (2, .ref (zh z)), (3, .ref (zo z)), (4, .int (nI j))] dL_law_1497 (by decide) rfl ?_
    refine g_aload_n h 4 dL_law_1499 rfl ?_
    refine L_Mi hz h hkw hKs [] (c_X10_thrown (lEM_ok hz _ _) hkw σ1 _ rfl) yk_X10_thrown tW_1087 ⟨(Nat.le_of_ble_eq_true rfl), (Nat.le_of_ble_eq_true rfl)⟩ rfl rfl (Nat.le_of_ble_eq_true rfl) dL_law_1500 ⟨(by show cc + 3 + 0 + 0 ≤ 601024; omega), (by show ss + 18 + 0 + 0 ≤ 7293034; omega)⟩ (fun n2 hn2 => ?_)
    refine g_iload h 1 dL_law_1503 rfl ?_
    refine g_pos (cnd := σ1.1 0 = (0 : Int32)) q1 ?_
    refine g_icmp_eq h 1510 dL_law_1505 (by decide) ?_ g_none
    refine g_iload h 1 dL_law_1510 rfl ?_
    refine g_pos (cnd := (0 : Int32) = 0) rfl ?_
    refine g_if_ne h 1527 dL_law_1512 (by decide) g_none ?_
    subst q2
    refine g_aload_n h 5 dL_law_1515 rfl ?_
    refine g_iconst (v := 0) h dL_law_1516 (by decide) ?_
    refine L_laload h dL_law_1517 ?_
    refine g_iload h 0 dL_law_1518 rfl ?_
    refine g_i2l h dL_law_1520 ?_
    refine g_lcmp h dL_law_1521 ?_
    refine g_pos (cnd := lg_cmp a.1.toInt64 a.1.toInt64 = 0) (lg_cmp_self _) ?_
    refine g_if_eq h 1527 dL_law_1522 (by decide) ?_ g_none
    refine g_goto h 1853 dL_law_1527 (by decide) ?_
    refine g_lv [(0, .ref b), (1, .ref a0), (2, .ref (zh z)), (3, .ref (zo z)), (4, .int (nI j))] [2, 3, 4, 5, 6] rfl ?_
    refine g_wid (cc + 109) (ss + 690) (by show cc + 3 + 0 + 0 ≤ cc + 109; omega) (by show ss + 18 + 0 + 0 ≤ ss + 690; omega) ?_
    exact hk (ksn (ksn (a.2) n1) n2, σ1, a.1.toInt64) (hR.2 _ _ n2 hn2 (hR.2 _ _ n1 hn1 q3))
  | inr a =>
    obtain ⟨rfl, n0, hn0, rfl⟩ := hP
    obtain ⟨q0, q1, q3⟩ := hXX
    refine g_istore h [(5, .int (1 : Int32)), (0, .ref b), (1, .ref a0), (2, .ref (zh z)), (3, .ref (zo z)), (4, .int (nI j))] dL_law_1473 (by decide) rfl ?_
    refine g_aload_n h 3 dL_law_1475 rfl ?_
    refine g_aload_n h 1 dL_law_1476 rfl ?_
    refine g_iload h 5 dL_law_1477 rfl ?_
    refine g_iconst (v := 1) h dL_law_1479 (by decide) ?_
    refine g_iadd h dL_law_1480 ?_
    refine g_ti h (fun H hw => hT _ _ hw.2.1.1) (L_in (k := 1) hj hL (by decide) (by decide)) dL_law_1481 ?_
    refine g_aload_n h 1 dL_law_1482 rfl ?_
    refine g_iload h 5 dL_law_1483 rfl ?_
    refine g_iconst (v := 2) h dL_law_1485 (by decide) ?_
    refine g_iadd h dL_law_1486 ?_
    refine g_ti h (fun H hw => hT _ _ hw.2.1.1) (L_in (k := 2) hj hL (by decide) (by decide)) dL_law_1487 ?_
    refine g_aload_n h 1 dL_law_1488 rfl ?_
    refine g_iload h 5 dL_law_1489 rfl ?_
    refine g_iconst (v := 3) h dL_law_1491 (by decide) ?_
    refine g_iadd h dL_law_1492 ?_
    refine g_ti h (fun H hw => hT _ _ hw.2.1.1) (L_in (k := 3) hj hL (by decide) (by decide)) dL_law_1493 ?_
    refine L_Mi hz h hkw hKs [.int (xs (nI j + 1).toNatClampNeg), .int (xs (nI j + 2).toNatClampNeg), .int (xs (nI j + 3).toNatClampNeg)] (c_X10_planned (lEM_ok hz _ _) hkw σ (xs (nI j + 1).toNatClampNeg) (xs (nI j + 2).toNatClampNeg) (xs (nI j + 3).toNatClampNeg) _ hM0) yk_X10_planned tW_1324 ⟨(Nat.le_of_ble_eq_true rfl), (Nat.le_of_ble_eq_true rfl)⟩ rfl rfl (Nat.le_of_ble_eq_true rfl) dL_law_1494 ⟨(by show cc + 3 + 0 ≤ 601024; omega), (by show ss + 18 + 0 ≤ 7293034; omega)⟩ (fun n1 hn1 => ?_)
    refine g_istore h [(6, .int r1), (5, .int (1 : Int32)), (0, .ref b), (1, .ref a0), (2, .ref (zh z)), (3, .ref (zo z)), (4, .int (nI j))] dL_law_1497 (by decide) rfl ?_
    refine g_aload_n h 4 dL_law_1499 rfl ?_
    refine L_Mi hz h hkw hKs [] (c_X10_thrown (lEM_ok hz _ _) hkw σ1 _ rfl) yk_X10_thrown tW_1087 ⟨(Nat.le_of_ble_eq_true rfl), (Nat.le_of_ble_eq_true rfl)⟩ rfl rfl (Nat.le_of_ble_eq_true rfl) dL_law_1500 ⟨(by show cc + 3 + 0 + 0 ≤ 601024; omega), (by show ss + 18 + 0 + 0 ≤ 7293034; omega)⟩ (fun n2 hn2 => ?_)
    refine g_iload h 1 dL_law_1503 rfl ?_
    refine g_pos (cnd := σ1.1 0 = (1 : Int32)) q1 ?_
    refine g_icmp_eq h 1510 dL_law_1505 (by decide) ?_ g_none
    refine g_iload h 1 dL_law_1510 rfl ?_
    refine g_neg (cnd := (1 : Int32) = 0) (by decide) ?_
    refine g_if_ne h 1527 dL_law_1512 (by decide) ?_ g_none
    refine g_goto h 1853 dL_law_1527 (by decide) ?_
    refine g_lv [(0, .ref b), (1, .ref a0), (2, .ref (zh z)), (3, .ref (zo z)), (4, .int (nI j))] [2, 3, 4, 5, 6] rfl ?_
    refine g_wid (cc + 109) (ss + 690) (by show cc + 3 + 0 + 0 ≤ cc + 109; omega) (by show ss + 18 + 0 + 0 ≤ ss + 690; omega) ?_
    exact hk (ksn (ksn (ksn a.2 n0) n1) n2, σ1, v) (hR.2 _ _ n2 hn2 (hR.2 _ _ n1 hn1 (hR.2 _ _ n0 hn0 q3)))
set_option maxHeartbeats 4000000 in
set_option maxRecDepth 100000 in
theorem lc_differ {p : Program} {l : Launch} {e : Env} {s : State} {m : MethodId} {below : List Frame} {meth : Method} {c : Code} {Ke : State → Prop} {z : Lp} {adS adV adM : Nat → Nat} {adD b L : Nat} {xs : Nat → Int32} {Rep : Km → Ms → Prop} {a0 : Nat} {Rt : Type} {QX : Rt → State → Prop} {o : Option Rt} (h : gOk p s m #[Value.ref b] meth c cL_law 7 "KeepForgetLaw" tb) (hKs : Ke s) (hC : lCx l Ke z adS adV adM adD b L xs) (hR : lRep Rep a0) (hO : op_differ Rep a0) (cc ss j : Nat) (hc1 : cc + 109 ≤ 601024) (hc2 : ss + 690 ≤ 7293034) (hj : j + 6 ≤ L) (μ : Km) (σ : Ms) (v : Int64) (h0 : Rep μ σ)
    (hk : ∀ w : Ls, Rep w.1 w.2.1 → gS p l e room_1 s m #[Value.ref b] below meth c 7 (lA z) (LW z) QX (cc + 109) (ss + 690) o (w) 1853 [(0, .ref b), (1, .ref a0), (2, .ref (zh z)), (3, .ref (zo z)), (4, .int (nI j))] []) : gS p l e room_1 s m #[Value.ref b] below meth c 7 (lA z) (LW z) QX (cc) (ss) o (μ, σ, v) 1530 [(0, .ref b), (1, .ref a0), (2, .ref (zh z)), (3, .ref (zo z)), (4, .int (nI j))] [] := by
  obtain ⟨hz, hkw, hX, hSt, hStM, hN, hT, hL⟩ := hC
  have h9 := hR.1 _ _ h0
  obtain ⟨X, r1, σ1, hK0, hM0, hXX⟩ := hO μ σ (xs (nI j + 1).toNatClampNeg) (xs (nI j + 2).toNatClampNeg) h0
  refine g_aload_n h 1 dL_law_1530 rfl ?_
  refine g_aload_n h 0 dL_law_1531 rfl ?_
  refine g_iload h 4 dL_law_1532 rfl ?_
  refine g_iconst (v := 1) h dL_law_1534 (by decide) ?_
  refine g_iadd h dL_law_1535 ?_
  refine g_ti h (fun H hw => hT _ _ hw.2.1.1) (L_in (k := 1) hj hL (by decide) (by decide)) dL_law_1536 ?_
  refine g_aload_n h 0 dL_law_1537 rfl ?_
  refine g_iload h 4 dL_law_1538 rfl ?_
  refine g_iconst (v := 2) h dL_law_1540 (by decide) ?_
  refine g_iadd h dL_law_1541 ?_
  refine g_ti h (fun H hw => hT _ _ hw.2.1.1) (L_in (k := 2) hj hL (by decide) (by decide)) dL_law_1542 ?_
  refine g_aload_n h 3 dL_law_1543 rfl ?_
  refine L_callW hz h hkw hKs [.ref a0, .int (xs (nI j + 1).toNatClampNeg), .int (xs (nI j + 2).toNatClampNeg), .ref (zo z)] (w_differ hz hkw (hX σ v) (hSt σ v) hN a0 h9 (xs (nI j + 1).toNatClampNeg) (xs (nI j + 2).toNatClampNeg) hK0 (fun b9 u9 q9 => by subst q9; exact hXX.1)) yk_L_differ tW_835 ⟨(Nat.le_of_ble_eq_true rfl), (Nat.le_of_ble_eq_true rfl)⟩ rfl rfl (Nat.le_of_ble_eq_true rfl) dL_law_1544 ⟨(by show cc + 2 ≤ 601024; omega), (by show ss + 12 ≤ 7293034; omega)⟩ (fun r u hP => ?_)
  cases X with
  | inl a =>
    obtain ⟨rfl, rfl⟩ := hP
    obtain ⟨q1, q2, q3⟩ := hXX
    refine g_istore h [(5, .int (0 : Int32)), (0, .ref b), (1, .ref a0), (2, .ref (zh z)), (3, .ref (zo z)), (4, .int (nI j))] dL_law_1547 (by decide) rfl ?_
    refine g_aload_n h 3 dL_law_1549 rfl ?_
    refine g_aload_n h 1 dL_law_1550 rfl ?_
    refine g_iload h 5 dL_law_1551 rfl ?_
    refine g_iconst (v := 1) h dL_law_1553 (by decide) ?_
    refine g_iadd h dL_law_1554 ?_
    refine g_ti h (fun H hw => hT _ _ hw.2.1.1) (L_in (k := 1) hj hL (by decide) (by decide)) dL_law_1555 ?_
    refine g_aload_n h 1 dL_law_1556 rfl ?_
    refine g_iload h 5 dL_law_1557 rfl ?_
    refine g_iconst (v := 2) h dL_law_1559 (by decide) ?_
    refine g_iadd h dL_law_1560 ?_
    refine g_ti h (fun H hw => hT _ _ hw.2.1.1) (L_in (k := 2) hj hL (by decide) (by decide)) dL_law_1561 ?_
    refine L_Mi hz h hkw hKs [.int (xs (nI j + 1).toNatClampNeg), .int (xs (nI j + 2).toNatClampNeg)] (c_X10_differ (lEM_ok hz _ _) hkw σ (xs (nI j + 1).toNatClampNeg) (xs (nI j + 2).toNatClampNeg) _ hM0) yk_X10_differ tW_1328 ⟨(Nat.le_of_ble_eq_true rfl), (Nat.le_of_ble_eq_true rfl)⟩ rfl rfl (Nat.le_of_ble_eq_true rfl) dL_law_1562 ⟨(by show cc + 2 + 0 ≤ 601024; omega), (by show ss + 12 + 0 ≤ 7293034; omega)⟩ (fun n1 hn1 => ?_)
    refine g_istore h [(6, .int r1), (5, .int (0 : Int32)), (0, .ref b), (1, .ref a0), (2, .ref (zh z)), (3, .ref (zo z)), (4, .int (nI j))] dL_law_1565 (by decide) rfl ?_
    refine g_aload_n h 4 dL_law_1567 rfl ?_
    refine L_Mi hz h hkw hKs [] (c_X10_thrown (lEM_ok hz _ _) hkw σ1 _ rfl) yk_X10_thrown tW_1087 ⟨(Nat.le_of_ble_eq_true rfl), (Nat.le_of_ble_eq_true rfl)⟩ rfl rfl (Nat.le_of_ble_eq_true rfl) dL_law_1568 ⟨(by show cc + 2 + 0 + 0 ≤ 601024; omega), (by show ss + 12 + 0 + 0 ≤ 7293034; omega)⟩ (fun n2 hn2 => ?_)
    refine g_iload h 1 dL_law_1571 rfl ?_
    refine g_pos (cnd := σ1.1 0 = (0 : Int32)) q1 ?_
    refine g_icmp_eq h 1578 dL_law_1573 (by decide) ?_ g_none
    refine g_iload h 1 dL_law_1578 rfl ?_
    refine g_pos (cnd := (0 : Int32) = 0) rfl ?_
    refine g_if_ne h 1595 dL_law_1580 (by decide) g_none ?_
    subst q2
    refine g_aload_n h 5 dL_law_1583 rfl ?_
    refine g_iconst (v := 0) h dL_law_1584 (by decide) ?_
    refine L_laload h dL_law_1585 ?_
    refine g_iload h 0 dL_law_1586 rfl ?_
    refine g_i2l h dL_law_1588 ?_
    refine g_lcmp h dL_law_1589 ?_
    refine g_pos (cnd := lg_cmp a.1.toInt64 a.1.toInt64 = 0) (lg_cmp_self _) ?_
    refine g_if_eq h 1595 dL_law_1590 (by decide) ?_ g_none
    refine g_goto h 1853 dL_law_1595 (by decide) ?_
    refine g_lv [(0, .ref b), (1, .ref a0), (2, .ref (zh z)), (3, .ref (zo z)), (4, .int (nI j))] [2, 3, 4, 5, 6] rfl ?_
    refine g_wid (cc + 109) (ss + 690) (by show cc + 2 + 0 + 0 ≤ cc + 109; omega) (by show ss + 12 + 0 + 0 ≤ ss + 690; omega) ?_
    exact hk (ksn (ksn (a.2) n1) n2, σ1, a.1.toInt64) (hR.2 _ _ n2 hn2 (hR.2 _ _ n1 hn1 q3))
  | inr a =>
    obtain ⟨rfl, n0, hn0, rfl⟩ := hP
    obtain ⟨q0, q1, q3⟩ := hXX
    refine g_istore h [(5, .int (1 : Int32)), (0, .ref b), (1, .ref a0), (2, .ref (zh z)), (3, .ref (zo z)), (4, .int (nI j))] dL_law_1547 (by decide) rfl ?_
    refine g_aload_n h 3 dL_law_1549 rfl ?_
    refine g_aload_n h 1 dL_law_1550 rfl ?_
    refine g_iload h 5 dL_law_1551 rfl ?_
    refine g_iconst (v := 1) h dL_law_1553 (by decide) ?_
    refine g_iadd h dL_law_1554 ?_
    refine g_ti h (fun H hw => hT _ _ hw.2.1.1) (L_in (k := 1) hj hL (by decide) (by decide)) dL_law_1555 ?_
    refine g_aload_n h 1 dL_law_1556 rfl ?_
    refine g_iload h 5 dL_law_1557 rfl ?_
    refine g_iconst (v := 2) h dL_law_1559 (by decide) ?_
    refine g_iadd h dL_law_1560 ?_
    refine g_ti h (fun H hw => hT _ _ hw.2.1.1) (L_in (k := 2) hj hL (by decide) (by decide)) dL_law_1561 ?_
    refine L_Mi hz h hkw hKs [.int (xs (nI j + 1).toNatClampNeg), .int (xs (nI j + 2).toNatClampNeg)] (c_X10_differ (lEM_ok hz _ _) hkw σ (xs (nI j + 1).toNatClampNeg) (xs (nI j + 2).toNatClampNeg) _ hM0) yk_X10_differ tW_1328 ⟨(Nat.le_of_ble_eq_true rfl), (Nat.le_of_ble_eq_true rfl)⟩ rfl rfl (Nat.le_of_ble_eq_true rfl) dL_law_1562 ⟨(by show cc + 2 + 0 ≤ 601024; omega), (by show ss + 12 + 0 ≤ 7293034; omega)⟩ (fun n1 hn1 => ?_)
    refine g_istore h [(6, .int r1), (5, .int (1 : Int32)), (0, .ref b), (1, .ref a0), (2, .ref (zh z)), (3, .ref (zo z)), (4, .int (nI j))] dL_law_1565 (by decide) rfl ?_
    refine g_aload_n h 4 dL_law_1567 rfl ?_
    refine L_Mi hz h hkw hKs [] (c_X10_thrown (lEM_ok hz _ _) hkw σ1 _ rfl) yk_X10_thrown tW_1087 ⟨(Nat.le_of_ble_eq_true rfl), (Nat.le_of_ble_eq_true rfl)⟩ rfl rfl (Nat.le_of_ble_eq_true rfl) dL_law_1568 ⟨(by show cc + 2 + 0 + 0 ≤ 601024; omega), (by show ss + 12 + 0 + 0 ≤ 7293034; omega)⟩ (fun n2 hn2 => ?_)
    refine g_iload h 1 dL_law_1571 rfl ?_
    refine g_pos (cnd := σ1.1 0 = (1 : Int32)) q1 ?_
    refine g_icmp_eq h 1578 dL_law_1573 (by decide) ?_ g_none
    refine g_iload h 1 dL_law_1578 rfl ?_
    refine g_neg (cnd := (1 : Int32) = 0) (by decide) ?_
    refine g_if_ne h 1595 dL_law_1580 (by decide) ?_ g_none
    refine g_goto h 1853 dL_law_1595 (by decide) ?_
    refine g_lv [(0, .ref b), (1, .ref a0), (2, .ref (zh z)), (3, .ref (zo z)), (4, .int (nI j))] [2, 3, 4, 5, 6] rfl ?_
    refine g_wid (cc + 109) (ss + 690) (by show cc + 2 + 0 + 0 ≤ cc + 109; omega) (by show ss + 12 + 0 + 0 ≤ ss + 690; omega) ?_
    exact hk (ksn (ksn (ksn a.2 n0) n1) n2, σ1, v) (hR.2 _ _ n2 hn2 (hR.2 _ _ n1 hn1 (hR.2 _ _ n0 hn0 q3)))
set_option maxHeartbeats 4000000 in
set_option maxRecDepth 100000 in
theorem lc_bites {p : Program} {l : Launch} {e : Env} {s : State} {m : MethodId} {below : List Frame} {meth : Method} {c : Code} {Ke : State → Prop} {z : Lp} {adS adV adM : Nat → Nat} {adD b L : Nat} {xs : Nat → Int32} {Rep : Km → Ms → Prop} {a0 : Nat} {Rt : Type} {QX : Rt → State → Prop} {o : Option Rt} (h : gOk p s m #[Value.ref b] meth c cL_law 7 "KeepForgetLaw" tb) (hKs : Ke s) (hC : lCx l Ke z adS adV adM adD b L xs) (hR : lRep Rep a0) (hO : op_bites Rep a0) (cc ss j : Nat) (hc1 : cc + 109 ≤ 601024) (hc2 : ss + 690 ≤ 7293034) (hj : j + 6 ≤ L) (μ : Km) (σ : Ms) (v : Int64) (h0 : Rep μ σ)
    (hk : ∀ w : Ls, Rep w.1 w.2.1 → gS p l e room_1 s m #[Value.ref b] below meth c 7 (lA z) (LW z) QX (cc + 109) (ss + 690) o (w) 1853 [(0, .ref b), (1, .ref a0), (2, .ref (zh z)), (3, .ref (zo z)), (4, .int (nI j))] []) : gS p l e room_1 s m #[Value.ref b] below meth c 7 (lA z) (LW z) QX (cc) (ss) o (μ, σ, v) 1598 [(0, .ref b), (1, .ref a0), (2, .ref (zh z)), (3, .ref (zo z)), (4, .int (nI j))] [] := by
  obtain ⟨hz, hkw, hX, hSt, hStM, hN, hT, hL⟩ := hC
  have h9 := hR.1 _ _ h0
  obtain ⟨X, r1, σ1, hK0, hM0, hXX⟩ := hO μ σ (xs (nI j + 1).toNatClampNeg) (xs (nI j + 2).toNatClampNeg) h0
  refine g_aload_n h 1 dL_law_1598 rfl ?_
  refine g_aload_n h 0 dL_law_1599 rfl ?_
  refine g_iload h 4 dL_law_1600 rfl ?_
  refine g_iconst (v := 1) h dL_law_1602 (by decide) ?_
  refine g_iadd h dL_law_1603 ?_
  refine g_ti h (fun H hw => hT _ _ hw.2.1.1) (L_in (k := 1) hj hL (by decide) (by decide)) dL_law_1604 ?_
  refine g_aload_n h 0 dL_law_1605 rfl ?_
  refine g_iload h 4 dL_law_1606 rfl ?_
  refine g_iconst (v := 2) h dL_law_1608 (by decide) ?_
  refine g_iadd h dL_law_1609 ?_
  refine g_ti h (fun H hw => hT _ _ hw.2.1.1) (L_in (k := 2) hj hL (by decide) (by decide)) dL_law_1610 ?_
  refine g_aload_n h 3 dL_law_1611 rfl ?_
  refine L_callW hz h hkw hKs [.ref a0, .int (xs (nI j + 1).toNatClampNeg), .int (xs (nI j + 2).toNatClampNeg), .ref (zo z)] (w_bites hz hkw (hX σ v) (hSt σ v) hN a0 h9 (xs (nI j + 1).toNatClampNeg) (xs (nI j + 2).toNatClampNeg) hK0 (fun b9 u9 q9 => by subst q9; exact hXX.1)) yk_L_bites tW_842 ⟨(Nat.le_of_ble_eq_true rfl), (Nat.le_of_ble_eq_true rfl)⟩ rfl rfl (Nat.le_of_ble_eq_true rfl) dL_law_1612 ⟨(by show cc + 2 ≤ 601024; omega), (by show ss + 12 ≤ 7293034; omega)⟩ (fun r u hP => ?_)
  cases X with
  | inl a =>
    obtain ⟨rfl, rfl⟩ := hP
    obtain ⟨q1, q2, q3⟩ := hXX
    refine g_istore h [(5, .int (0 : Int32)), (0, .ref b), (1, .ref a0), (2, .ref (zh z)), (3, .ref (zo z)), (4, .int (nI j))] dL_law_1615 (by decide) rfl ?_
    refine g_aload_n h 3 dL_law_1617 rfl ?_
    refine g_aload_n h 1 dL_law_1618 rfl ?_
    refine g_iload h 5 dL_law_1619 rfl ?_
    refine g_iconst (v := 1) h dL_law_1621 (by decide) ?_
    refine g_iadd h dL_law_1622 ?_
    refine g_ti h (fun H hw => hT _ _ hw.2.1.1) (L_in (k := 1) hj hL (by decide) (by decide)) dL_law_1623 ?_
    refine g_aload_n h 1 dL_law_1624 rfl ?_
    refine g_iload h 5 dL_law_1625 rfl ?_
    refine g_iconst (v := 2) h dL_law_1627 (by decide) ?_
    refine g_iadd h dL_law_1628 ?_
    refine g_ti h (fun H hw => hT _ _ hw.2.1.1) (L_in (k := 2) hj hL (by decide) (by decide)) dL_law_1629 ?_
    refine L_Mi hz h hkw hKs [.int (xs (nI j + 1).toNatClampNeg), .int (xs (nI j + 2).toNatClampNeg)] (c_X10_bites (lEM_ok hz _ _) hkw σ (xs (nI j + 1).toNatClampNeg) (xs (nI j + 2).toNatClampNeg) _ hM0) yk_X10_bites tW_1332 ⟨(Nat.le_of_ble_eq_true rfl), (Nat.le_of_ble_eq_true rfl)⟩ rfl rfl (Nat.le_of_ble_eq_true rfl) dL_law_1630 ⟨(by show cc + 2 + 0 ≤ 601024; omega), (by show ss + 12 + 0 ≤ 7293034; omega)⟩ (fun n1 hn1 => ?_)
    refine g_istore h [(6, .int r1), (5, .int (0 : Int32)), (0, .ref b), (1, .ref a0), (2, .ref (zh z)), (3, .ref (zo z)), (4, .int (nI j))] dL_law_1633 (by decide) rfl ?_
    refine g_aload_n h 4 dL_law_1635 rfl ?_
    refine L_Mi hz h hkw hKs [] (c_X10_thrown (lEM_ok hz _ _) hkw σ1 _ rfl) yk_X10_thrown tW_1087 ⟨(Nat.le_of_ble_eq_true rfl), (Nat.le_of_ble_eq_true rfl)⟩ rfl rfl (Nat.le_of_ble_eq_true rfl) dL_law_1636 ⟨(by show cc + 2 + 0 + 0 ≤ 601024; omega), (by show ss + 12 + 0 + 0 ≤ 7293034; omega)⟩ (fun n2 hn2 => ?_)
    refine g_iload h 1 dL_law_1639 rfl ?_
    refine g_pos (cnd := σ1.1 0 = (0 : Int32)) q1 ?_
    refine g_icmp_eq h 1646 dL_law_1641 (by decide) ?_ g_none
    refine g_iload h 1 dL_law_1646 rfl ?_
    refine g_pos (cnd := (0 : Int32) = 0) rfl ?_
    refine g_if_ne h 1670 dL_law_1648 (by decide) g_none ?_
    subst q2
    refine g_aload_n h 5 dL_law_1651 rfl ?_
    refine g_iconst (v := 0) h dL_law_1652 (by decide) ?_
    refine L_laload h dL_law_1653 ?_
    refine g_iload h 0 dL_law_1654 rfl ?_
    by_cases hb0 : a.1 = 0
    · refine g_pos (cnd := a.1 = 0) hb0 ?_
      refine g_if_eq h 1663 dL_law_1656 (by decide) ?_ g_none
      refine g_lconst (v := 0) h dL_law_1663 (by decide) ?_
      refine g_lcmp h dL_law_1664 ?_
      refine g_pos (cnd := lg_cmp (bz a.1) 0 = 0) (by rw [bz, if_pos hb0]; exact lg_cmp_self _) ?_
      refine g_if_eq h 1670 dL_law_1665 (by decide) ?_ g_none
      refine g_goto h 1853 dL_law_1670 (by decide) ?_
      refine g_lv [(0, .ref b), (1, .ref a0), (2, .ref (zh z)), (3, .ref (zo z)), (4, .int (nI j))] [2, 3, 4, 5, 6] rfl ?_
      refine g_wid (cc + 109) (ss + 690) (by show cc + 2 + 0 + 0 ≤ cc + 109; omega) (by show ss + 12 + 0 + 0 ≤ ss + 690; omega) ?_
      exact hk (ksn (ksn (a.2) n1) n2, σ1, bz a.1) (hR.2 _ _ n2 hn2 (hR.2 _ _ n1 hn1 q3))
    · refine g_neg (cnd := a.1 = 0) hb0 ?_
      refine g_if_eq h 1663 dL_law_1656 (by decide) g_none ?_
      refine g_lconst (v := 1) h dL_law_1659 (by decide) ?_
      refine g_goto h 1664 dL_law_1660 (by decide) ?_
      refine g_lcmp h dL_law_1664 ?_
      refine g_pos (cnd := lg_cmp (bz a.1) 1 = 0) (by rw [bz, if_neg hb0]; exact lg_cmp_self _) ?_
      refine g_if_eq h 1670 dL_law_1665 (by decide) ?_ g_none
      refine g_goto h 1853 dL_law_1670 (by decide) ?_
      refine g_lv [(0, .ref b), (1, .ref a0), (2, .ref (zh z)), (3, .ref (zo z)), (4, .int (nI j))] [2, 3, 4, 5, 6] rfl ?_
      refine g_wid (cc + 109) (ss + 690) (by show cc + 2 + 0 + 0 ≤ cc + 109; omega) (by show ss + 12 + 0 + 0 ≤ ss + 690; omega) ?_
      exact hk (ksn (ksn (a.2) n1) n2, σ1, bz a.1) (hR.2 _ _ n2 hn2 (hR.2 _ _ n1 hn1 q3))
  | inr a =>
    obtain ⟨rfl, n0, hn0, rfl⟩ := hP
    obtain ⟨q0, q1, q3⟩ := hXX
    refine g_istore h [(5, .int (1 : Int32)), (0, .ref b), (1, .ref a0), (2, .ref (zh z)), (3, .ref (zo z)), (4, .int (nI j))] dL_law_1615 (by decide) rfl ?_
    refine g_aload_n h 3 dL_law_1617 rfl ?_
    refine g_aload_n h 1 dL_law_1618 rfl ?_
    refine g_iload h 5 dL_law_1619 rfl ?_
    refine g_iconst (v := 1) h dL_law_1621 (by decide) ?_
    refine g_iadd h dL_law_1622 ?_
    refine g_ti h (fun H hw => hT _ _ hw.2.1.1) (L_in (k := 1) hj hL (by decide) (by decide)) dL_law_1623 ?_
    refine g_aload_n h 1 dL_law_1624 rfl ?_
    refine g_iload h 5 dL_law_1625 rfl ?_
    refine g_iconst (v := 2) h dL_law_1627 (by decide) ?_
    refine g_iadd h dL_law_1628 ?_
    refine g_ti h (fun H hw => hT _ _ hw.2.1.1) (L_in (k := 2) hj hL (by decide) (by decide)) dL_law_1629 ?_
    refine L_Mi hz h hkw hKs [.int (xs (nI j + 1).toNatClampNeg), .int (xs (nI j + 2).toNatClampNeg)] (c_X10_bites (lEM_ok hz _ _) hkw σ (xs (nI j + 1).toNatClampNeg) (xs (nI j + 2).toNatClampNeg) _ hM0) yk_X10_bites tW_1332 ⟨(Nat.le_of_ble_eq_true rfl), (Nat.le_of_ble_eq_true rfl)⟩ rfl rfl (Nat.le_of_ble_eq_true rfl) dL_law_1630 ⟨(by show cc + 2 + 0 ≤ 601024; omega), (by show ss + 12 + 0 ≤ 7293034; omega)⟩ (fun n1 hn1 => ?_)
    refine g_istore h [(6, .int r1), (5, .int (1 : Int32)), (0, .ref b), (1, .ref a0), (2, .ref (zh z)), (3, .ref (zo z)), (4, .int (nI j))] dL_law_1633 (by decide) rfl ?_
    refine g_aload_n h 4 dL_law_1635 rfl ?_
    refine L_Mi hz h hkw hKs [] (c_X10_thrown (lEM_ok hz _ _) hkw σ1 _ rfl) yk_X10_thrown tW_1087 ⟨(Nat.le_of_ble_eq_true rfl), (Nat.le_of_ble_eq_true rfl)⟩ rfl rfl (Nat.le_of_ble_eq_true rfl) dL_law_1636 ⟨(by show cc + 2 + 0 + 0 ≤ 601024; omega), (by show ss + 12 + 0 + 0 ≤ 7293034; omega)⟩ (fun n2 hn2 => ?_)
    refine g_iload h 1 dL_law_1639 rfl ?_
    refine g_pos (cnd := σ1.1 0 = (1 : Int32)) q1 ?_
    refine g_icmp_eq h 1646 dL_law_1641 (by decide) ?_ g_none
    refine g_iload h 1 dL_law_1646 rfl ?_
    refine g_neg (cnd := (1 : Int32) = 0) (by decide) ?_
    refine g_if_ne h 1670 dL_law_1648 (by decide) ?_ g_none
    refine g_goto h 1853 dL_law_1670 (by decide) ?_
    refine g_lv [(0, .ref b), (1, .ref a0), (2, .ref (zh z)), (3, .ref (zo z)), (4, .int (nI j))] [2, 3, 4, 5, 6] rfl ?_
    refine g_wid (cc + 109) (ss + 690) (by show cc + 2 + 0 + 0 ≤ cc + 109; omega) (by show ss + 12 + 0 + 0 ≤ ss + 690; omega) ?_
    exact hk (ksn (ksn (ksn a.2 n0) n1) n2, σ1, v) (hR.2 _ _ n2 hn2 (hR.2 _ _ n1 hn1 (hR.2 _ _ n0 hn0 q3)))
set_option maxHeartbeats 4000000 in
set_option maxRecDepth 100000 in
theorem lc_days {p : Program} {l : Launch} {e : Env} {s : State} {m : MethodId} {below : List Frame} {meth : Method} {c : Code} {Ke : State → Prop} {z : Lp} {adS adV adM : Nat → Nat} {adD b L : Nat} {xs : Nat → Int32} {Rep : Km → Ms → Prop} {a0 : Nat} {Rt : Type} {QX : Rt → State → Prop} {o : Option Rt} (h : gOk p s m #[Value.ref b] meth c cL_law 7 "KeepForgetLaw" tb) (hKs : Ke s) (hC : lCx l Ke z adS adV adM adD b L xs) (hR : lRep Rep a0) (hO : op_days Rep a0) (cc ss j : Nat) (hc1 : cc + 109 ≤ 601024) (hc2 : ss + 690 ≤ 7293034) (hj : j + 6 ≤ L) (μ : Km) (σ : Ms) (v : Int64) (h0 : Rep μ σ)
    (hk : ∀ w : Ls, Rep w.1 w.2.1 → gS p l e room_1 s m #[Value.ref b] below meth c 7 (lA z) (LW z) QX (cc + 109) (ss + 690) o (w) 1853 [(0, .ref b), (1, .ref a0), (2, .ref (zh z)), (3, .ref (zo z)), (4, .int (nI j))] []) : gS p l e room_1 s m #[Value.ref b] below meth c 7 (lA z) (LW z) QX (cc) (ss) o (μ, σ, v) 1673 [(0, .ref b), (1, .ref a0), (2, .ref (zh z)), (3, .ref (zo z)), (4, .int (nI j))] [] := by
  obtain ⟨hz, hkw, hX, hSt, hStM, hN, hT, hL⟩ := hC
  have h9 := hR.1 _ _ h0
  obtain ⟨X, r1, σ1, hK0, hM0, hXX⟩ := hO μ σ (xs (nI j + 1).toNatClampNeg) h0
  refine g_aload_n h 1 dL_law_1673 rfl ?_
  refine g_aload_n h 0 dL_law_1674 rfl ?_
  refine g_iload h 4 dL_law_1675 rfl ?_
  refine g_iconst (v := 1) h dL_law_1677 (by decide) ?_
  refine g_iadd h dL_law_1678 ?_
  refine g_ti h (fun H hw => hT _ _ hw.2.1.1) (L_in (k := 1) hj hL (by decide) (by decide)) dL_law_1679 ?_
  refine g_aload_n h 3 dL_law_1680 rfl ?_
  refine L_callW hz h hkw hKs [.ref a0, .int (xs (nI j + 1).toNatClampNeg), .ref (zo z)] (w_days hz hkw (hX σ v) (hSt σ v) hN a0 h9 (xs (nI j + 1).toNatClampNeg) hK0 (fun b9 u9 q9 => by subst q9; have q8 := hXX.1; cases b9 <;> simp_all)) yk_L_days tW_851 ⟨(Nat.le_of_ble_eq_true rfl), (Nat.le_of_ble_eq_true rfl)⟩ rfl rfl (Nat.le_of_ble_eq_true rfl) dL_law_1681 ⟨(by show cc + 1 ≤ 601024; omega), (by show ss + 6 ≤ 7293034; omega)⟩ (fun r u hP => ?_)
  cases X with
  | inl a =>
    obtain ⟨rfl, rfl⟩ := hP
    obtain ⟨q1, q2, q3⟩ := hXX
    refine g_istore h [(5, .int (0 : Int32)), (0, .ref b), (1, .ref a0), (2, .ref (zh z)), (3, .ref (zo z)), (4, .int (nI j))] dL_law_1684 (by decide) rfl ?_
    refine g_aload_n h 3 dL_law_1686 rfl ?_
    refine g_aload_n h 1 dL_law_1687 rfl ?_
    refine g_iload h 5 dL_law_1688 rfl ?_
    refine g_iconst (v := 1) h dL_law_1690 (by decide) ?_
    refine g_iadd h dL_law_1691 ?_
    refine g_ti h (fun H hw => hT _ _ hw.2.1.1) (L_in (k := 1) hj hL (by decide) (by decide)) dL_law_1692 ?_
    refine L_Mi hz h hkw hKs [.int (xs (nI j + 1).toNatClampNeg)] (c_X10_days (lEM_ok hz _ _) hkw σ (xs (nI j + 1).toNatClampNeg) _ hM0) yk_X10_days tW_1336 ⟨(Nat.le_of_ble_eq_true rfl), (Nat.le_of_ble_eq_true rfl)⟩ rfl rfl (Nat.le_of_ble_eq_true rfl) dL_law_1693 ⟨(by show cc + 1 + 0 ≤ 601024; omega), (by show ss + 6 + 0 ≤ 7293034; omega)⟩ (fun n1 hn1 => ?_)
    refine g_istore h [(6, .int r1), (5, .int (0 : Int32)), (0, .ref b), (1, .ref a0), (2, .ref (zh z)), (3, .ref (zo z)), (4, .int (nI j))] dL_law_1696 (by decide) rfl ?_
    refine g_aload_n h 4 dL_law_1698 rfl ?_
    refine L_Mi hz h hkw hKs [] (c_X10_thrown (lEM_ok hz _ _) hkw σ1 _ rfl) yk_X10_thrown tW_1087 ⟨(Nat.le_of_ble_eq_true rfl), (Nat.le_of_ble_eq_true rfl)⟩ rfl rfl (Nat.le_of_ble_eq_true rfl) dL_law_1699 ⟨(by show cc + 1 + 0 + 0 ≤ 601024; omega), (by show ss + 6 + 0 + 0 ≤ 7293034; omega)⟩ (fun n2 hn2 => ?_)
    refine g_iload h 1 dL_law_1702 rfl ?_
    refine g_pos (cnd := σ1.1 0 = (0 : Int32)) q1 ?_
    refine g_icmp_eq h 1709 dL_law_1704 (by decide) ?_ g_none
    refine g_iload h 1 dL_law_1709 rfl ?_
    refine g_pos (cnd := (0 : Int32) = 0) rfl ?_
    refine g_if_ne h 1726 dL_law_1711 (by decide) g_none ?_
    subst q2
    refine g_aload_n h 5 dL_law_1714 rfl ?_
    refine g_iconst (v := 0) h dL_law_1715 (by decide) ?_
    refine L_laload h dL_law_1716 ?_
    refine g_iload h 0 dL_law_1717 rfl ?_
    refine g_i2l h dL_law_1719 ?_
    refine g_lcmp h dL_law_1720 ?_
    refine g_pos (cnd := lg_cmp a.1.toInt64 a.1.toInt64 = 0) (lg_cmp_self _) ?_
    refine g_if_eq h 1726 dL_law_1721 (by decide) ?_ g_none
    refine g_goto h 1853 dL_law_1726 (by decide) ?_
    refine g_lv [(0, .ref b), (1, .ref a0), (2, .ref (zh z)), (3, .ref (zo z)), (4, .int (nI j))] [2, 3, 4, 5, 6] rfl ?_
    refine g_wid (cc + 109) (ss + 690) (by show cc + 1 + 0 + 0 ≤ cc + 109; omega) (by show ss + 6 + 0 + 0 ≤ ss + 690; omega) ?_
    exact hk (ksn (ksn (a.2) n1) n2, σ1, a.1.toInt64) (hR.2 _ _ n2 hn2 (hR.2 _ _ n1 hn1 q3))
  | inr a =>
    obtain ⟨rfl, n0, hn0, rfl⟩ := hP
    obtain ⟨q0, q1, q3⟩ := hXX
    refine g_istore h [(5, .int (1 : Int32)), (0, .ref b), (1, .ref a0), (2, .ref (zh z)), (3, .ref (zo z)), (4, .int (nI j))] dL_law_1684 (by decide) rfl ?_
    refine g_aload_n h 3 dL_law_1686 rfl ?_
    refine g_aload_n h 1 dL_law_1687 rfl ?_
    refine g_iload h 5 dL_law_1688 rfl ?_
    refine g_iconst (v := 1) h dL_law_1690 (by decide) ?_
    refine g_iadd h dL_law_1691 ?_
    refine g_ti h (fun H hw => hT _ _ hw.2.1.1) (L_in (k := 1) hj hL (by decide) (by decide)) dL_law_1692 ?_
    refine L_Mi hz h hkw hKs [.int (xs (nI j + 1).toNatClampNeg)] (c_X10_days (lEM_ok hz _ _) hkw σ (xs (nI j + 1).toNatClampNeg) _ hM0) yk_X10_days tW_1336 ⟨(Nat.le_of_ble_eq_true rfl), (Nat.le_of_ble_eq_true rfl)⟩ rfl rfl (Nat.le_of_ble_eq_true rfl) dL_law_1693 ⟨(by show cc + 1 + 0 ≤ 601024; omega), (by show ss + 6 + 0 ≤ 7293034; omega)⟩ (fun n1 hn1 => ?_)
    refine g_istore h [(6, .int r1), (5, .int (1 : Int32)), (0, .ref b), (1, .ref a0), (2, .ref (zh z)), (3, .ref (zo z)), (4, .int (nI j))] dL_law_1696 (by decide) rfl ?_
    refine g_aload_n h 4 dL_law_1698 rfl ?_
    refine L_Mi hz h hkw hKs [] (c_X10_thrown (lEM_ok hz _ _) hkw σ1 _ rfl) yk_X10_thrown tW_1087 ⟨(Nat.le_of_ble_eq_true rfl), (Nat.le_of_ble_eq_true rfl)⟩ rfl rfl (Nat.le_of_ble_eq_true rfl) dL_law_1699 ⟨(by show cc + 1 + 0 + 0 ≤ 601024; omega), (by show ss + 6 + 0 + 0 ≤ 7293034; omega)⟩ (fun n2 hn2 => ?_)
    refine g_iload h 1 dL_law_1702 rfl ?_
    refine g_pos (cnd := σ1.1 0 = (1 : Int32)) q1 ?_
    refine g_icmp_eq h 1709 dL_law_1704 (by decide) ?_ g_none
    refine g_iload h 1 dL_law_1709 rfl ?_
    refine g_neg (cnd := (1 : Int32) = 0) (by decide) ?_
    refine g_if_ne h 1726 dL_law_1711 (by decide) ?_ g_none
    refine g_goto h 1853 dL_law_1726 (by decide) ?_
    refine g_lv [(0, .ref b), (1, .ref a0), (2, .ref (zh z)), (3, .ref (zo z)), (4, .int (nI j))] [2, 3, 4, 5, 6] rfl ?_
    refine g_wid (cc + 109) (ss + 690) (by show cc + 1 + 0 + 0 ≤ cc + 109; omega) (by show ss + 6 + 0 + 0 ≤ ss + 690; omega) ?_
    exact hk (ksn (ksn (ksn a.2 n0) n1) n2, σ1, v) (hR.2 _ _ n2 hn2 (hR.2 _ _ n1 hn1 (hR.2 _ _ n0 hn0 q3)))
set_option maxHeartbeats 4000000 in
set_option maxRecDepth 100000 in
theorem lc_entry {p : Program} {l : Launch} {e : Env} {s : State} {m : MethodId} {below : List Frame} {meth : Method} {c : Code} {Ke : State → Prop} {z : Lp} {adS adV adM : Nat → Nat} {adD b L : Nat} {xs : Nat → Int32} {Rep : Km → Ms → Prop} {a0 : Nat} {Rt : Type} {QX : Rt → State → Prop} {o : Option Rt} (h : gOk p s m #[Value.ref b] meth c cL_law 7 "KeepForgetLaw" tb) (hKs : Ke s) (hC : lCx l Ke z adS adV adM adD b L xs) (hR : lRep Rep a0) (hO : op_entry Rep a0) (cc ss j : Nat) (hc1 : cc + 109 ≤ 601024) (hc2 : ss + 690 ≤ 7293034) (hj : j + 6 ≤ L) (μ : Km) (σ : Ms) (v : Int64) (h0 : Rep μ σ)
    (hk : ∀ w : Ls, Rep w.1 w.2.1 → gS p l e room_1 s m #[Value.ref b] below meth c 7 (lA z) (LW z) QX (cc + 109) (ss + 690) o (w) 1853 [(0, .ref b), (1, .ref a0), (2, .ref (zh z)), (3, .ref (zo z)), (4, .int (nI j))] []) : gS p l e room_1 s m #[Value.ref b] below meth c 7 (lA z) (LW z) QX (cc) (ss) o (μ, σ, v) 1729 [(0, .ref b), (1, .ref a0), (2, .ref (zh z)), (3, .ref (zo z)), (4, .int (nI j))] [] := by
  obtain ⟨hz, hkw, hX, hSt, hStM, hN, hT, hL⟩ := hC
  have h9 := hR.1 _ _ h0
  obtain ⟨X, r1, σ1, hK0, hM0, hXX⟩ := hO μ σ (xs (nI j + 1).toNatClampNeg) (xs (nI j + 2).toNatClampNeg) h0
  refine g_aload_n h 1 dL_law_1729 rfl ?_
  refine g_aload_n h 0 dL_law_1730 rfl ?_
  refine g_iload h 4 dL_law_1731 rfl ?_
  refine g_iconst (v := 1) h dL_law_1733 (by decide) ?_
  refine g_iadd h dL_law_1734 ?_
  refine g_ti h (fun H hw => hT _ _ hw.2.1.1) (L_in (k := 1) hj hL (by decide) (by decide)) dL_law_1735 ?_
  refine g_aload_n h 0 dL_law_1736 rfl ?_
  refine g_iload h 4 dL_law_1737 rfl ?_
  refine g_iconst (v := 2) h dL_law_1739 (by decide) ?_
  refine g_iadd h dL_law_1740 ?_
  refine g_ti h (fun H hw => hT _ _ hw.2.1.1) (L_in (k := 2) hj hL (by decide) (by decide)) dL_law_1741 ?_
  refine g_aload_n h 3 dL_law_1742 rfl ?_
  refine L_callW hz h hkw hKs [.ref a0, .int (xs (nI j + 1).toNatClampNeg), .int (xs (nI j + 2).toNatClampNeg), .ref (zo z)] (w_entry hz hkw (hX σ v) (hSt σ v) hN a0 h9 (xs (nI j + 1).toNatClampNeg) (xs (nI j + 2).toNatClampNeg) hK0 (fun b9 u9 q9 => by subst q9; exact hXX.1)) yk_L_entry tW_876 ⟨(Nat.le_of_ble_eq_true rfl), (Nat.le_of_ble_eq_true rfl)⟩ rfl rfl (Nat.le_of_ble_eq_true rfl) dL_law_1743 ⟨(by show cc + 1 ≤ 601024; omega), (by show ss + 6 ≤ 7293034; omega)⟩ (fun r u hP => ?_)
  cases X with
  | inl a =>
    obtain ⟨rfl, rfl⟩ := hP
    obtain ⟨q1, q2, q3⟩ := hXX
    refine g_istore h [(5, .int (0 : Int32)), (0, .ref b), (1, .ref a0), (2, .ref (zh z)), (3, .ref (zo z)), (4, .int (nI j))] dL_law_1746 (by decide) rfl ?_
    refine g_aload_n h 3 dL_law_1748 rfl ?_
    refine g_aload_n h 1 dL_law_1749 rfl ?_
    refine g_iload h 5 dL_law_1750 rfl ?_
    refine g_iconst (v := 1) h dL_law_1752 (by decide) ?_
    refine g_iadd h dL_law_1753 ?_
    refine g_ti h (fun H hw => hT _ _ hw.2.1.1) (L_in (k := 1) hj hL (by decide) (by decide)) dL_law_1754 ?_
    refine g_aload_n h 1 dL_law_1755 rfl ?_
    refine g_iload h 5 dL_law_1756 rfl ?_
    refine g_iconst (v := 2) h dL_law_1758 (by decide) ?_
    refine g_iadd h dL_law_1759 ?_
    refine g_ti h (fun H hw => hT _ _ hw.2.1.1) (L_in (k := 2) hj hL (by decide) (by decide)) dL_law_1760 ?_
    refine L_Mi hz h hkw hKs [.int (xs (nI j + 1).toNatClampNeg), .int (xs (nI j + 2).toNatClampNeg)] (c_X10_entry (lEM_ok hz _ _) hkw σ (xs (nI j + 1).toNatClampNeg) (xs (nI j + 2).toNatClampNeg) _ hM0) yk_X10_entry tW_1344 ⟨(Nat.le_of_ble_eq_true rfl), (Nat.le_of_ble_eq_true rfl)⟩ rfl rfl (Nat.le_of_ble_eq_true rfl) dL_law_1761 ⟨(by show cc + 1 + 0 ≤ 601024; omega), (by show ss + 6 + 0 ≤ 7293034; omega)⟩ (fun n1 hn1 => ?_)
    refine g_istore h [(6, .int r1), (5, .int (0 : Int32)), (0, .ref b), (1, .ref a0), (2, .ref (zh z)), (3, .ref (zo z)), (4, .int (nI j))] dL_law_1764 (by decide) rfl ?_
    refine g_aload_n h 4 dL_law_1766 rfl ?_
    refine L_Mi hz h hkw hKs [] (c_X10_thrown (lEM_ok hz _ _) hkw σ1 _ rfl) yk_X10_thrown tW_1087 ⟨(Nat.le_of_ble_eq_true rfl), (Nat.le_of_ble_eq_true rfl)⟩ rfl rfl (Nat.le_of_ble_eq_true rfl) dL_law_1767 ⟨(by show cc + 1 + 0 + 0 ≤ 601024; omega), (by show ss + 6 + 0 + 0 ≤ 7293034; omega)⟩ (fun n2 hn2 => ?_)
    refine g_iload h 1 dL_law_1770 rfl ?_
    refine g_pos (cnd := σ1.1 0 = (0 : Int32)) q1 ?_
    refine g_icmp_eq h 1777 dL_law_1772 (by decide) ?_ g_none
    refine g_iload h 1 dL_law_1777 rfl ?_
    refine g_pos (cnd := (0 : Int32) = 0) rfl ?_
    refine g_if_ne h 1794 dL_law_1779 (by decide) g_none ?_
    subst q2
    refine g_aload_n h 5 dL_law_1782 rfl ?_
    refine g_iconst (v := 0) h dL_law_1783 (by decide) ?_
    refine L_laload h dL_law_1784 ?_
    refine g_iload h 0 dL_law_1785 rfl ?_
    refine g_i2l h dL_law_1787 ?_
    refine g_lcmp h dL_law_1788 ?_
    refine g_pos (cnd := lg_cmp a.1.toInt64 a.1.toInt64 = 0) (lg_cmp_self _) ?_
    refine g_if_eq h 1794 dL_law_1789 (by decide) ?_ g_none
    refine g_goto h 1853 dL_law_1794 (by decide) ?_
    refine g_lv [(0, .ref b), (1, .ref a0), (2, .ref (zh z)), (3, .ref (zo z)), (4, .int (nI j))] [2, 3, 4, 5, 6] rfl ?_
    refine g_wid (cc + 109) (ss + 690) (by show cc + 1 + 0 + 0 ≤ cc + 109; omega) (by show ss + 6 + 0 + 0 ≤ ss + 690; omega) ?_
    exact hk (ksn (ksn (a.2) n1) n2, σ1, a.1.toInt64) (hR.2 _ _ n2 hn2 (hR.2 _ _ n1 hn1 q3))
  | inr a =>
    obtain ⟨rfl, n0, hn0, rfl⟩ := hP
    obtain ⟨q0, q1, q3⟩ := hXX
    refine g_istore h [(5, .int (1 : Int32)), (0, .ref b), (1, .ref a0), (2, .ref (zh z)), (3, .ref (zo z)), (4, .int (nI j))] dL_law_1746 (by decide) rfl ?_
    refine g_aload_n h 3 dL_law_1748 rfl ?_
    refine g_aload_n h 1 dL_law_1749 rfl ?_
    refine g_iload h 5 dL_law_1750 rfl ?_
    refine g_iconst (v := 1) h dL_law_1752 (by decide) ?_
    refine g_iadd h dL_law_1753 ?_
    refine g_ti h (fun H hw => hT _ _ hw.2.1.1) (L_in (k := 1) hj hL (by decide) (by decide)) dL_law_1754 ?_
    refine g_aload_n h 1 dL_law_1755 rfl ?_
    refine g_iload h 5 dL_law_1756 rfl ?_
    refine g_iconst (v := 2) h dL_law_1758 (by decide) ?_
    refine g_iadd h dL_law_1759 ?_
    refine g_ti h (fun H hw => hT _ _ hw.2.1.1) (L_in (k := 2) hj hL (by decide) (by decide)) dL_law_1760 ?_
    refine L_Mi hz h hkw hKs [.int (xs (nI j + 1).toNatClampNeg), .int (xs (nI j + 2).toNatClampNeg)] (c_X10_entry (lEM_ok hz _ _) hkw σ (xs (nI j + 1).toNatClampNeg) (xs (nI j + 2).toNatClampNeg) _ hM0) yk_X10_entry tW_1344 ⟨(Nat.le_of_ble_eq_true rfl), (Nat.le_of_ble_eq_true rfl)⟩ rfl rfl (Nat.le_of_ble_eq_true rfl) dL_law_1761 ⟨(by show cc + 1 + 0 ≤ 601024; omega), (by show ss + 6 + 0 ≤ 7293034; omega)⟩ (fun n1 hn1 => ?_)
    refine g_istore h [(6, .int r1), (5, .int (1 : Int32)), (0, .ref b), (1, .ref a0), (2, .ref (zh z)), (3, .ref (zo z)), (4, .int (nI j))] dL_law_1764 (by decide) rfl ?_
    refine g_aload_n h 4 dL_law_1766 rfl ?_
    refine L_Mi hz h hkw hKs [] (c_X10_thrown (lEM_ok hz _ _) hkw σ1 _ rfl) yk_X10_thrown tW_1087 ⟨(Nat.le_of_ble_eq_true rfl), (Nat.le_of_ble_eq_true rfl)⟩ rfl rfl (Nat.le_of_ble_eq_true rfl) dL_law_1767 ⟨(by show cc + 1 + 0 + 0 ≤ 601024; omega), (by show ss + 6 + 0 + 0 ≤ 7293034; omega)⟩ (fun n2 hn2 => ?_)
    refine g_iload h 1 dL_law_1770 rfl ?_
    refine g_pos (cnd := σ1.1 0 = (1 : Int32)) q1 ?_
    refine g_icmp_eq h 1777 dL_law_1772 (by decide) ?_ g_none
    refine g_iload h 1 dL_law_1777 rfl ?_
    refine g_neg (cnd := (1 : Int32) = 0) (by decide) ?_
    refine g_if_ne h 1794 dL_law_1779 (by decide) ?_ g_none
    refine g_goto h 1853 dL_law_1794 (by decide) ?_
    refine g_lv [(0, .ref b), (1, .ref a0), (2, .ref (zh z)), (3, .ref (zo z)), (4, .int (nI j))] [2, 3, 4, 5, 6] rfl ?_
    refine g_wid (cc + 109) (ss + 690) (by show cc + 1 + 0 + 0 ≤ cc + 109; omega) (by show ss + 6 + 0 + 0 ≤ ss + 690; omega) ?_
    exact hk (ksn (ksn (ksn a.2 n0) n1) n2, σ1, v) (hR.2 _ _ n2 hn2 (hR.2 _ _ n1 hn1 (hR.2 _ _ n0 hn0 q3)))
set_option maxHeartbeats 4000000 in
set_option maxRecDepth 100000 in
theorem lc_count {p : Program} {l : Launch} {e : Env} {s : State} {m : MethodId} {below : List Frame} {meth : Method} {c : Code} {Ke : State → Prop} {z : Lp} {adS adV adM : Nat → Nat} {adD b L : Nat} {xs : Nat → Int32} {Rep : Km → Ms → Prop} {a0 : Nat} {Rt : Type} {QX : Rt → State → Prop} {o : Option Rt} (h : gOk p s m #[Value.ref b] meth c cL_law 7 "KeepForgetLaw" tb) (hKs : Ke s) (hC : lCx l Ke z adS adV adM adD b L xs) (hR : lRep Rep a0) (hO : op_count Rep a0) (cc ss j : Nat) (hc1 : cc + 109 ≤ 601024) (hc2 : ss + 690 ≤ 7293034) (hj : j + 6 ≤ L) (μ : Km) (σ : Ms) (v : Int64) (h0 : Rep μ σ)
    (hk : ∀ w : Ls, Rep w.1 w.2.1 → gS p l e room_1 s m #[Value.ref b] below meth c 7 (lA z) (LW z) QX (cc + 109) (ss + 690) o (w) 1853 [(0, .ref b), (1, .ref a0), (2, .ref (zh z)), (3, .ref (zo z)), (4, .int (nI j))] []) : gS p l e room_1 s m #[Value.ref b] below meth c 7 (lA z) (LW z) QX (cc) (ss) o (μ, σ, v) 1797 [(0, .ref b), (1, .ref a0), (2, .ref (zh z)), (3, .ref (zo z)), (4, .int (nI j))] [] := by
  obtain ⟨hz, hkw, hX, hSt, hStM, hN, hT, hL⟩ := hC
  have h9 := hR.1 _ _ h0
  obtain ⟨X, r1, σ1, hK0, hM0, hXX⟩ := hO μ σ (xs (nI j + 1).toNatClampNeg) h0
  refine g_aload_n h 1 dL_law_1797 rfl ?_
  refine g_aload_n h 0 dL_law_1798 rfl ?_
  refine g_iload h 4 dL_law_1799 rfl ?_
  refine g_iconst (v := 1) h dL_law_1801 (by decide) ?_
  refine g_iadd h dL_law_1802 ?_
  refine g_ti h (fun H hw => hT _ _ hw.2.1.1) (L_in (k := 1) hj hL (by decide) (by decide)) dL_law_1803 ?_
  refine g_aload_n h 3 dL_law_1804 rfl ?_
  refine L_callW hz h hkw hKs [.ref a0, .int (xs (nI j + 1).toNatClampNeg), .ref (zo z)] (w_count hz hkw (hX σ v) (hSt σ v) hN a0 h9 (xs (nI j + 1).toNatClampNeg) hK0 (fun b9 u9 q9 => by subst q9; exact hXX.1)) yk_L_count tW_884 ⟨(Nat.le_of_ble_eq_true rfl), (Nat.le_of_ble_eq_true rfl)⟩ rfl rfl (Nat.le_of_ble_eq_true rfl) dL_law_1805 ⟨(by show cc + 1 ≤ 601024; omega), (by show ss + 6 ≤ 7293034; omega)⟩ (fun r u hP => ?_)
  cases X with
  | inl a =>
    obtain ⟨rfl, rfl⟩ := hP
    obtain ⟨q1, q2, q3⟩ := hXX
    refine g_istore h [(5, .int (0 : Int32)), (0, .ref b), (1, .ref a0), (2, .ref (zh z)), (3, .ref (zo z)), (4, .int (nI j))] dL_law_1808 (by decide) rfl ?_
    refine g_aload_n h 3 dL_law_1810 rfl ?_
    refine g_aload_n h 1 dL_law_1811 rfl ?_
    refine g_iload h 5 dL_law_1812 rfl ?_
    refine g_iconst (v := 1) h dL_law_1814 (by decide) ?_
    refine g_iadd h dL_law_1815 ?_
    refine g_ti h (fun H hw => hT _ _ hw.2.1.1) (L_in (k := 1) hj hL (by decide) (by decide)) dL_law_1816 ?_
    refine L_Mi hz h hkw hKs [.int (xs (nI j + 1).toNatClampNeg)] (c_X10_count (lEM_ok hz _ _) hkw σ (xs (nI j + 1).toNatClampNeg) _ hM0) yk_X10_count tW_1348 ⟨(Nat.le_of_ble_eq_true rfl), (Nat.le_of_ble_eq_true rfl)⟩ rfl rfl (Nat.le_of_ble_eq_true rfl) dL_law_1817 ⟨(by show cc + 1 + 0 ≤ 601024; omega), (by show ss + 6 + 0 ≤ 7293034; omega)⟩ (fun n1 hn1 => ?_)
    refine g_istore h [(6, .int r1), (5, .int (0 : Int32)), (0, .ref b), (1, .ref a0), (2, .ref (zh z)), (3, .ref (zo z)), (4, .int (nI j))] dL_law_1820 (by decide) rfl ?_
    refine g_aload_n h 4 dL_law_1822 rfl ?_
    refine L_Mi hz h hkw hKs [] (c_X10_thrown (lEM_ok hz _ _) hkw σ1 _ rfl) yk_X10_thrown tW_1087 ⟨(Nat.le_of_ble_eq_true rfl), (Nat.le_of_ble_eq_true rfl)⟩ rfl rfl (Nat.le_of_ble_eq_true rfl) dL_law_1823 ⟨(by show cc + 1 + 0 + 0 ≤ 601024; omega), (by show ss + 6 + 0 + 0 ≤ 7293034; omega)⟩ (fun n2 hn2 => ?_)
    refine g_iload h 1 dL_law_1826 rfl ?_
    refine g_pos (cnd := σ1.1 0 = (0 : Int32)) q1 ?_
    refine g_icmp_eq h 1833 dL_law_1828 (by decide) ?_ g_none
    refine g_iload h 1 dL_law_1833 rfl ?_
    refine g_pos (cnd := (0 : Int32) = 0) rfl ?_
    refine g_if_ne h 1850 dL_law_1835 (by decide) g_none ?_
    subst q2
    refine g_aload_n h 5 dL_law_1838 rfl ?_
    refine g_iconst (v := 0) h dL_law_1839 (by decide) ?_
    refine L_laload h dL_law_1840 ?_
    refine g_iload h 0 dL_law_1841 rfl ?_
    refine g_i2l h dL_law_1843 ?_
    refine g_lcmp h dL_law_1844 ?_
    refine g_pos (cnd := lg_cmp a.1.toInt64 a.1.toInt64 = 0) (lg_cmp_self _) ?_
    refine g_if_eq h 1850 dL_law_1845 (by decide) ?_ g_none
    refine g_goto h 1853 dL_law_1850 (by decide) ?_
    refine g_lv [(0, .ref b), (1, .ref a0), (2, .ref (zh z)), (3, .ref (zo z)), (4, .int (nI j))] [2, 3, 4, 5, 6] rfl ?_
    refine g_wid (cc + 109) (ss + 690) (by show cc + 1 + 0 + 0 ≤ cc + 109; omega) (by show ss + 6 + 0 + 0 ≤ ss + 690; omega) ?_
    exact hk (ksn (ksn (a.2) n1) n2, σ1, a.1.toInt64) (hR.2 _ _ n2 hn2 (hR.2 _ _ n1 hn1 q3))
  | inr a =>
    obtain ⟨rfl, n0, hn0, rfl⟩ := hP
    obtain ⟨q0, q1, q3⟩ := hXX
    refine g_istore h [(5, .int (1 : Int32)), (0, .ref b), (1, .ref a0), (2, .ref (zh z)), (3, .ref (zo z)), (4, .int (nI j))] dL_law_1808 (by decide) rfl ?_
    refine g_aload_n h 3 dL_law_1810 rfl ?_
    refine g_aload_n h 1 dL_law_1811 rfl ?_
    refine g_iload h 5 dL_law_1812 rfl ?_
    refine g_iconst (v := 1) h dL_law_1814 (by decide) ?_
    refine g_iadd h dL_law_1815 ?_
    refine g_ti h (fun H hw => hT _ _ hw.2.1.1) (L_in (k := 1) hj hL (by decide) (by decide)) dL_law_1816 ?_
    refine L_Mi hz h hkw hKs [.int (xs (nI j + 1).toNatClampNeg)] (c_X10_count (lEM_ok hz _ _) hkw σ (xs (nI j + 1).toNatClampNeg) _ hM0) yk_X10_count tW_1348 ⟨(Nat.le_of_ble_eq_true rfl), (Nat.le_of_ble_eq_true rfl)⟩ rfl rfl (Nat.le_of_ble_eq_true rfl) dL_law_1817 ⟨(by show cc + 1 + 0 ≤ 601024; omega), (by show ss + 6 + 0 ≤ 7293034; omega)⟩ (fun n1 hn1 => ?_)
    refine g_istore h [(6, .int r1), (5, .int (1 : Int32)), (0, .ref b), (1, .ref a0), (2, .ref (zh z)), (3, .ref (zo z)), (4, .int (nI j))] dL_law_1820 (by decide) rfl ?_
    refine g_aload_n h 4 dL_law_1822 rfl ?_
    refine L_Mi hz h hkw hKs [] (c_X10_thrown (lEM_ok hz _ _) hkw σ1 _ rfl) yk_X10_thrown tW_1087 ⟨(Nat.le_of_ble_eq_true rfl), (Nat.le_of_ble_eq_true rfl)⟩ rfl rfl (Nat.le_of_ble_eq_true rfl) dL_law_1823 ⟨(by show cc + 1 + 0 + 0 ≤ 601024; omega), (by show ss + 6 + 0 + 0 ≤ 7293034; omega)⟩ (fun n2 hn2 => ?_)
    refine g_iload h 1 dL_law_1826 rfl ?_
    refine g_pos (cnd := σ1.1 0 = (1 : Int32)) q1 ?_
    refine g_icmp_eq h 1833 dL_law_1828 (by decide) ?_ g_none
    refine g_iload h 1 dL_law_1833 rfl ?_
    refine g_neg (cnd := (1 : Int32) = 0) (by decide) ?_
    refine g_if_ne h 1850 dL_law_1835 (by decide) ?_ g_none
    refine g_goto h 1853 dL_law_1850 (by decide) ?_
    refine g_lv [(0, .ref b), (1, .ref a0), (2, .ref (zh z)), (3, .ref (zo z)), (4, .int (nI j))] [2, 3, 4, 5, 6] rfl ?_
    refine g_wid (cc + 109) (ss + 690) (by show cc + 1 + 0 + 0 ≤ cc + 109; omega) (by show ss + 6 + 0 + 0 ≤ ss + 690; omega) ?_
    exact hk (ksn (ksn (ksn a.2 n0) n1) n2, σ1, v) (hR.2 _ _ n2 hn2 (hR.2 _ _ n1 hn1 (hR.2 _ _ n0 hn0 q3)))
end LAW
