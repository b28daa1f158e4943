section WR
def wtW (y : MethodName) (cc : ByteArray) (n : Nat) (r : Option FieldType) (hh : List (Nat × Nat × Nat × Nat)) : List Cond := Cond.codeWith y cc n r hh :: tb
theorem tb_inW {y : MethodName} {cc : ByteArray} {n : Nat} {r : Option FieldType} {hh : List (Nat × Nat × Nat × Nat)} (h : Cond.codeWith y cc n r hh ∈ tb) : GoodIn tb (wtW y cc n r hh) := fun w hw => by
  have hm : w ∈ tb := (List.mem_cons.mp hw).elim (fun e => by rw [e]; exact h) id
  exact ⟨hm, good_of_word (List.mem_filter.mp hm).2⟩
def yOkW (y : MethodName) (bytes : ByteArray) (maxL : Nat) (ret : Option FieldType) (hh : List (Nat × Nat × Nat × Nat)) (n : Nat) : Prop := Cond.codeWith y bytes maxL ret hh ∈ tb ∧ Cond.initialized y.cls ∈ tb ∧ Cond.static y ∈ tb ∧ y.cls ≠ "java/lang/invoke/MethodHandle" ∧ y.cls ≠ "java/lang/invoke/VarHandle" ∧ (parseMethodDescriptor y.desc).map (fun d => d.parameters.length) = some n
def gW (l : Launch) (y : MethodName) (cc : ByteArray) (n : Nat) (ret : Option FieldType) (hh : List (Nat × Nat × Nat × Nat)) (rm : Room) (Ke : State → Prop) (z : Lp) (av : List Value) (w : Ls) (P : Int32 → Ls → Prop) : Prop := vx_Met l y (wtW y cc n ret hh) rm (gPre Ke (LW z) av w) (va_Qi P (fun u t => LW z u t t.heap) (lA z)) (vx_X (fun _ : Unit => False) (fun _ _ _ => False) (lA z)) rm.cells rm.slots (lA z)
/-- what a wrapper answers -/
def lWP (X : (Int32 × Km) ⊕ (Bool × Km)) (cd : Bool → Int32) (σ : Ms) (v : Int64) (f : Int32 → Int64) (r : Int32) (u : Ls) : Prop := match X with
  | .inl a => r = 0 ∧ u = (a.2, σ, f a.1)
  | .inr a => r = cd a.1 ∧ ∃ n, kn a.2 ≤ n ∧ u = (ksn a.2 n, σ, v)
def lWV (X : Km ⊕ (Bool × Km)) (cd : Bool → Int32) (σ : Ms) (v : Int64) (r : Int32) (u : Ls) : Prop := match X with
  | .inl a => r = 0 ∧ u = (a, σ, v)
  | .inr a => r = cd a.1 ∧ ∃ n, kn a.2 ≤ n ∧ u = (ksn a.2 n, σ, v)
def bz (r : Int32) : Int64 := if r = 0 then 0 else 1
variable {p : Program} {l : Launch} {e : Env} {R : Room} {s : State} {m : MethodId} {args : Array Value} {below : List Frame} {meth : Method} {c : Code}
variable {S Rt : Type} {cc : ByteArray} {nL : Nat} {own : String} {Ts : List Cond} {Ke : State → Prop} {z : Lp} {A : Nat → Prop} {Wd : S → State → Heap → Prop} {QX : Rt → State → Prop} {cells slots mc ms : Nat} {o : Option Rt} {τ : S} {w : Ls} {pc pc' : Nat} {lv : List (Nat × Value)} {st : List Value}
variable {y : MethodName} {bytes : ByteArray} {maxL n index : Nat} {ret : Option FieldType} {rm : Room} {hh : List (Nat × Nat × Nat × Nat)} {P : Int32 → Ls → Prop} {av : List Value}
theorem g_pc (e9 : pc = pc') (kk : gS p l e R s m args below meth c nL A Wd QX cells slots o τ pc' lv st) : gS p l e R s m args below meth c nL A Wd QX cells slots o τ pc lv st := e9 ▸ kk
theorem g_pos {cnd : Prop} [Decidable cnd] (hc : cnd) (kk : gS p l e R s m args below meth c nL A Wd QX cells slots (if cnd then o else none) τ pc lv st) : gS p l e R s m args below meth c nL A Wd QX cells slots o τ pc lv st := by
  rw [if_pos hc] at kk
  exact kk
theorem g_neg {cnd : Prop} [Decidable cnd] (hc : ¬ cnd) (kk : gS p l e R s m args below meth c nL A Wd QX cells slots (if cnd then none else o) τ pc lv st) : gS p l e R s m args below meth c nL A Wd QX cells slots o τ pc lv st := by
  rw [if_neg hc] at kk
  exact kk
theorem g_lcmp (h : gOk p s m args meth c cc nL own Ts) {x y : Int64} (hd : decode cc pc = .ok (.lcmp, 1)) (kk : gS p l e R s m args below meth c nL A Wd QX cells slots o τ (pc + 1) lv (.int (lg_cmp x y) :: st)) : gS p l e R s m args below meth c nL A Wd QX cells slots o τ pc lv (.long y :: .long x :: st) := fun X hX H locs ls hw hS hl => W.lcmp h.1.1 h.1.2.1 hd (kk X hX H locs ls hw hS hl)
theorem cwTW (ht : ∀ w ∈ tb, w.before args s = true) (hy : yOkW y bytes maxL ret hh n) (hl : Cond.methodLink own index y ∈ tb) (hR : yRm rm R maxL) : vx_CSW R s args own index y bytes maxL ret hh (wtW y bytes maxL ret hh) rm rm.cells rm.slots n := by
  refine ⟨⟨rfl, rfl, hR.1, hR.2, pay_in ht (tb_inW hy.1), List.mem_cons_self⟩, ht _ hy.1, ht _ hy.2.1, ⟨hy.2.2.2.1, hy.2.2.2.2.1⟩, fun sig h => ?_, ht _ hl, ht _ hy.2.2.1⟩
  have h2 := hy.2.2.2.2.2
  rw [h] at h2
  exact (Option.some.inj h2).symm
theorem L_metW (hy : plainName y.cls = true) (hav : (lg_sl av).length ≤ maxL)
    (body : ∀ (p : Program) (e : Env) (s : State) (m : MethodId) (below : List Frame) (meth : Method) (c : Code), gOk p s m av.toArray meth c cc maxL y.cls tb → meth.sig.returnType = ret → Ke s → c.exceptionTable.toList = tableOf hh → gS p l e rm s m av.toArray below meth c maxL (lA z) (LW z) (fun _ : Unit => vx_MQ below (va_Qi P (fun u t => LW z u t t.heap) (lA z)) (vx_X (fun _ : Unit => False) (fun _ _ _ => False) (lA z)) av.toArray s rm.cells rm.slots (lA z)) 0 0 (some ()) w 0 (lv_args 0 av) []) : gW l y cc maxL ret hh rm Ke z av w P := by
  refine vx_ofWH (cc := cc) (maxL := maxL) (ret := ret) (hh := hh) hy rfl ?_
  intro p e s m args below meth c s₁ B hml hv
  obtain ⟨rfl, hW0, hK0⟩ := hv
  have hl := lv_entry av (n := maxL) hav
  have hT : c.exceptionTable.toList = tableOf hh := vx_table (x := y) B (atoms_spec (ws := wtW y cc maxL ret hh) B.pre _ List.mem_cons_self)
  rw [lg_entry_eq]
  exact body p e s m below meth c ⟨⟨B.exec, B.bytes, hml, findClass_of_methodNamed B.named, fun w hw => atoms_spec (ws := wtW y cc maxL ret hh) B.pre w (List.mem_cons_of_mem _ hw)⟩, B.notSynchronized⟩ B.returns hK0 hT () rfl s.heap [] _ hW0 va_S.rf hl
theorem L_retW (hz : lOk z) (h : gOk p s m args meth c cc nL own tb) (hr : meth.sig.returnType = some .int) {r : Int32} (hP : P r w) (hc : cells ≤ mc) (hs : slots ≤ ms) (hd : decode cc pc = .ok (.ireturn, 1)) : gS p l e R s m args below meth c nL (lA z) (LW z) (fun _ : Unit => vx_MQ below (va_Qi P (fun u t => LW z u t t.heap) (lA z)) (vx_X (fun _ : Unit => False) (fun _ _ _ => False) (lA z)) args s mc ms (lA z)) cells slots (some ()) w pc lv [.int r] := by
  intro X hX H locs ls hw hS hl
  exact vx_ret (W.widen hc hs (W.iret (v := r) h.1.1 h.1.2.1 hr (fun t ht hW => ⟨⟨r, w, rfl, hP, by show LW z w t t.heap; rw [ht]; exact LW_mv hz _ _ _ _ hW.alike hw⟩, hS.F ht⟩) hS.2.2 hd h.2))
theorem L_callW (hz : lOk z) (h : gOk p s m args meth c cc nL own tb) (hkw : gKw Ke) (hKs : Ke s) (As : List Value) {stk : List Value} (hM : gW l y bytes maxL ret hh rm Ke z As w P) (hy : yOkW y bytes maxL ret hh n) (hml : Cond.methodLink own index y ∈ tb) (hR : yRm rm R maxL) (hn : As.length = n) (hst : stk = As.reverse ++ st) (hro : (st.map fun v => v.category).sum ≤ 8) (hd : decode cc pc = .ok (.invokestatic index, 3)) (hf : cells + rm.cells ≤ R.cells ∧ slots + rm.slots ≤ R.slots)
    (kk : ∀ r u, P r u → gS p l e R s m args below meth c nL (lA z) (LW z) QX (cells + rm.cells) (slots + rm.slots) o u (pc + 3) lv (.int r :: st)) : gS p l e R s m args below meth c nL (lA z) (LW z) QX cells slots o w pc lv stk := by
  intro X hX H locs ls hw hS hl
  subst hst
  refine vx_calli (vx_runSX (As := As) (rest := st) h.1 hM (cwTW h.1.2.2.2.2 hy hml hR) ⟨fun a U g mk q => ⟨q.1, LW_mv hz _ U (U.calling g mk a) _ (Vm.Alike.refl U.vm) q.2.1, hkw U (U.calling g mk a) (State.WarmedH.refl U) q.2.2⟩, fun U hU hW => ⟨rfl, by rw [hU]; exact LW_mv hz _ _ _ _ hW.alike hw, hkw _ _ hW hKs⟩⟩ rfl hn hl.1 rfl (lv_room hro) hd hf) hS (fun q _ q2 => q2) (fun q q2 => q2) (fun q _ q2 => q2) (fun E9 ce q9 u t H1 locs1 ht hvm hp9 hB hz1 hk hS1 hce hcv hcl => hp9.elim) (fun r0 u t H1 locs1 ht hvm hp9 hB hz1 hk hS1 => ?_)
  exact kk r0 u hp9 X hX H1 locs1 ls (by rw [← ht]; exact LW_mv hz _ _ _ _ hvm.symm hB) hS1 hl
end WR
theorem tW_234 : (Jvm.Cond.codeWith ({ cls := "KeepForgetLaw", name := "day", desc := "(LKeepForget;III[J)I" } : Jvm.MethodName) method_3_code (6 : Nat) (Option.some Jvm.ClassFile.FieldType.int) [((0 : Nat), (12 : Nat), (15 : Nat), (13 : Nat))]) ∈ tb := tb_t 234 (by decide +kernel) (by decide +kernel)
theorem yk_L_day : yOkW yL_day cL_day 6 (some .int) [(0, 12, 15, 13)] 5 := ⟨tW_234, tW_0, tW_233, by decide, by decide, by decide +kernel⟩
def rm_L_day : Room := { frames := 7, cells := 1, slots := 6, locals := 115 }
set_option maxHeartbeats 4000000 in
theorem w_day {l : Launch} {Ke : State → Prop} {z : Lp} {adS adV adM : Nat → Nat} {adD : Nat} {μ : Km} {σ : Ms} {v : Int64} (hz : lOk z) (hkw : gKw Ke) (hX : xSt l Ke (lEK z σ v) (lAK z) adM adD) (hSt : sSt Ke (lAK z) (LKW z σ v) adS adV) (hN : ∀ U, Ke U → va_Nc "java/lang/IllegalArgumentException" "java/util/NoSuchElementException" U) (a0 : Nat) (h9 : kK μ a0 = 9) (a1 a2 a3 : Int32) {X : (Int32 × Km) ⊕ (Bool × Km)} (hX0 : K9_day μ a0 a1 a2 a3 = some X) (hb : ∀ b u, X = .inr (b, u) → b = false) : gW l yL_day cL_day 6 (some .int) [(0, 12, 15, 13)] rm_L_day Ke z [.ref a0, .int a1, .int a2, .int a3, .ref (zo z)] (μ, σ, v) (lWP X (fun _ => 1) σ v (fun r => r.toInt64)) := by
  refine L_metW (by decide) (by simp [lg_sl, Value.category]) ?_
  intro p e s m below meth c h hr hKs hT
  refine g_lv [(0, .ref a0), (1, .int a1), (2, .int a2), (3, .int a3), (4, .ref (zo z))] [0, 1, 2, 3, 4] rfl ?_
  refine g_aload h 4 dL_day_0 rfl ?_
  refine g_iconst (v := 0) h dL_day_2 (by decide) ?_
  refine g_aload_n h 0 dL_day_3 rfl ?_
  refine g_iload_n h 1 dL_day_4 rfl ?_
  refine g_iload_n h 2 dL_day_5 rfl ?_
  refine g_iload_n h 3 dL_day_6 rfl ?_
  refine L_Xi hz h hkw hKs [.int a1, .int a2, .int a3] h9 (c_X9_day (lEK_ok hz σ v) hkw hX hSt μ a0 a1 a2 a3 X hX0) yk_X9_day tW_236 ⟨(Nat.le_of_ble_eq_true rfl), (Nat.le_of_ble_eq_true rfl)⟩ rfl rfl (Nat.le_of_ble_eq_true rfl) dL_day_7 ⟨(Nat.le_of_ble_eq_true rfl), (Nat.le_of_ble_eq_true rfl)⟩ (fun _ => 15) (fun b u q => ?_) (fun r u q => ?_) (fun b u n9 q9 q hn => ?_)
  · cases hb b u q
    exact ⟨[], ⟨0, 12, 15, 13⟩, [], "java/lang/IllegalArgumentException", hT, (fun q9 h9 => (by cases h9)), by decide, by decide, h.1.2.2.2.2 _ tW_235, va_Nw.use (xB_ot _ (by decide)) ((hX.2.1 s hKs).2.1 _ (by decide)), rfl⟩
  · subst q
    refine g_i2l h dL_day_10 ?_
    refine L_lastore hz h dL_day_11 ?_
    refine g_goto h 19 dL_day_12 (by decide) ?_
    refine g_iconst (v := 0) h dL_day_19 (by decide) ?_
    exact L_retW hz h hr ⟨rfl, rfl⟩ (Nat.le_of_ble_eq_true rfl) (Nat.le_of_ble_eq_true rfl) dL_day_20
  · subst q
    refine g_pc (pc' := 15) rfl ?_
    refine g_astore h [(5, .ref q9), (0, .ref a0), (1, .int a1), (2, .int a2), (3, .int a3), (4, .ref (zo z))] dL_day_15 (by decide) rfl ?_
    refine g_iconst (v := 1) h dL_day_17 (by decide) ?_
    exact L_retW hz h hr ⟨rfl, n9, hn, rfl⟩ (Nat.le_of_ble_eq_true rfl) (Nat.le_of_ble_eq_true rfl) dL_day_18
theorem tW_320 : (Jvm.Cond.codeWith ({ cls := "KeepForgetLaw", name := "date", desc := "(LKeepForget;II[J)I" } : Jvm.MethodName) method_4_code (5 : Nat) (Option.some Jvm.ClassFile.FieldType.int) [((0 : Nat), (10 : Nat), (13 : Nat), (13 : Nat))]) ∈ tb := tb_t 320 (by decide +kernel) (by decide +kernel)
theorem yk_L_date : yOkW yL_date cL_date 5 (some .int) [(0, 10, 13, 13)] 4 := ⟨tW_320, tW_0, tW_319, by decide, by decide, by decide +kernel⟩
def rm_L_date : Room := { frames := 8, cells := 2, slots := 12, locals := 133 }
set_option maxHeartbeats 4000000 in
theorem w_date {l : Launch} {Ke : State → Prop} {z : Lp} {adS adV adM : Nat → Nat} {adD : Nat} {μ : Km} {σ : Ms} {v : Int64} (hz : lOk z) (hkw : gKw Ke) (hX : xSt l Ke (lEK z σ v) (lAK z) adM adD) (hSt : sSt Ke (lAK z) (LKW z σ v) adS adV) (hN : ∀ U, Ke U → va_Nc "java/lang/IllegalArgumentException" "java/util/NoSuchElementException" U) (a0 : Nat) (h9 : kK μ a0 = 9) (a1 a2 : Int32) {X : (Int32 × Km) ⊕ (Bool × Km)} (hX0 : K9_date μ a0 a1 a2 = some X) (hb : ∀ b u, X = .inr (b, u) → b = false) : gW l yL_date cL_date 5 (some .int) [(0, 10, 13, 13)] rm_L_date Ke z [.ref a0, .int a1, .int a2, .ref (zo z)] (μ, σ, v) (lWP X (fun _ => 1) σ v (fun r => r.toInt64)) := by
  refine L_metW (by decide) (by simp [lg_sl, Value.category]) ?_
  intro p e s m below meth c h hr hKs hT
  refine g_lv [(0, .ref a0), (1, .int a1), (2, .int a2), (3, .ref (zo z))] [0, 1, 2, 3] rfl ?_
  refine g_aload_n h 3 dL_date_0 rfl ?_
  refine g_iconst (v := 0) h dL_date_1 (by decide) ?_
  refine g_aload_n h 0 dL_date_2 rfl ?_
  refine g_iload_n h 1 dL_date_3 rfl ?_
  refine g_iload_n h 2 dL_date_4 rfl ?_
  refine L_Xi hz h hkw hKs [.int a1, .int a2] h9 (c_X9_date (lEK_ok hz σ v) hkw hX hSt μ a0 a1 a2 X hX0) yk_X9_date tW_321 ⟨(Nat.le_of_ble_eq_true rfl), (Nat.le_of_ble_eq_true rfl)⟩ rfl rfl (Nat.le_of_ble_eq_true rfl) dL_date_5 ⟨(Nat.le_of_ble_eq_true rfl), (Nat.le_of_ble_eq_true rfl)⟩ (fun _ => 13) (fun b u q => ?_) (fun r u q => ?_) (fun b u n9 q9 q hn => ?_)
  · cases hb b u q
    exact ⟨[], ⟨0, 10, 13, 13⟩, [], "java/lang/IllegalArgumentException", hT, (fun q9 h9 => (by cases h9)), by decide, by decide, h.1.2.2.2.2 _ tW_235, va_Nw.use (xB_ot _ (by decide)) ((hX.2.1 s hKs).2.1 _ (by decide)), rfl⟩
  · subst q
    refine g_i2l h dL_date_8 ?_
    refine L_lastore hz h dL_date_9 ?_
    refine g_goto h 17 dL_date_10 (by decide) ?_
    refine g_iconst (v := 0) h dL_date_17 (by decide) ?_
    exact L_retW hz h hr ⟨rfl, rfl⟩ (Nat.le_of_ble_eq_true rfl) (Nat.le_of_ble_eq_true rfl) dL_date_18
  · subst q
    refine g_pc (pc' := 13) rfl ?_
    refine g_astore h [(4, .ref q9), (0, .ref a0), (1, .int a1), (2, .int a2), (3, .ref (zo z))] dL_date_13 (by decide) rfl ?_
    refine g_iconst (v := 1) h dL_date_15 (by decide) ?_
    exact L_retW hz h hr ⟨rfl, n9, hn, rfl⟩ (Nat.le_of_ble_eq_true rfl) (Nat.le_of_ble_eq_true rfl) dL_date_16
theorem tW_340 : (Jvm.Cond.codeWith ({ cls := "KeepForgetLaw", name := "later", desc := "(LKeepForget;II[J)I" } : Jvm.MethodName) method_5_code (5 : Nat) (Option.some Jvm.ClassFile.FieldType.int) [((0 : Nat), (10 : Nat), (13 : Nat), (13 : Nat))]) ∈ tb := tb_t 340 (by decide +kernel) (by decide +kernel)
theorem yk_L_later : yOkW yL_later cL_later 5 (some .int) [(0, 10, 13, 13)] 4 := ⟨tW_340, tW_0, tW_339, by decide, by decide, by decide +kernel⟩
def rm_L_later : Room := { frames := 8, cells := 2, slots := 12, locals := 132 }
set_option maxHeartbeats 4000000 in
theorem w_later {l : Launch} {Ke : State → Prop} {z : Lp} {adS adV adM : Nat → Nat} {adD : Nat} {μ : Km} {σ : Ms} {v : Int64} (hz : lOk z) (hkw : gKw Ke) (hX : xSt l Ke (lEK z σ v) (lAK z) adM adD) (hSt : sSt Ke (lAK z) (LKW z σ v) adS adV) (hN : ∀ U, Ke U → va_Nc "java/lang/IllegalArgumentException" "java/util/NoSuchElementException" U) (a0 : Nat) (h9 : kK μ a0 = 9) (a1 a2 : Int32) {X : (Int32 × Km) ⊕ (Bool × Km)} (hX0 : K9_later μ a0 a1 a2 = some X) (hb : ∀ b u, X = .inr (b, u) → b = false) : gW l yL_later cL_later 5 (some .int) [(0, 10, 13, 13)] rm_L_later Ke z [.ref a0, .int a1, .int a2, .ref (zo z)] (μ, σ, v) (lWP X (fun _ => 1) σ v (fun r => r.toInt64)) := by
  refine L_metW (by decide) (by simp [lg_sl, Value.category]) ?_
  intro p e s m below meth c h hr hKs hT
  refine g_lv [(0, .ref a0), (1, .int a1), (2, .int a2), (3, .ref (zo z))] [0, 1, 2, 3] rfl ?_
  refine g_aload_n h 3 dL_later_0 rfl ?_
  refine g_iconst (v := 0) h dL_later_1 (by decide) ?_
  refine g_aload_n h 0 dL_later_2 rfl ?_
  refine g_iload_n h 1 dL_later_3 rfl ?_
  refine g_iload_n h 2 dL_later_4 rfl ?_
  refine L_Xi hz h hkw hKs [.int a1, .int a2] h9 (c_X9_later (lEK_ok hz σ v) hkw hX hSt μ a0 a1 a2 X hX0) yk_X9_later tW_341 ⟨(Nat.le_of_ble_eq_true rfl), (Nat.le_of_ble_eq_true rfl)⟩ rfl rfl (Nat.le_of_ble_eq_true rfl) dL_later_5 ⟨(Nat.le_of_ble_eq_true rfl), (Nat.le_of_ble_eq_true rfl)⟩ (fun _ => 13) (fun b u q => ?_) (fun r u q => ?_) (fun b u n9 q9 q hn => ?_)
  · cases hb b u q
    exact ⟨[], ⟨0, 10, 13, 13⟩, [], "java/lang/IllegalArgumentException", hT, (fun q9 h9 => (by cases h9)), by decide, by decide, h.1.2.2.2.2 _ tW_235, va_Nw.use (xB_ot _ (by decide)) ((hX.2.1 s hKs).2.1 _ (by decide)), rfl⟩
  · subst q
    refine g_i2l h dL_later_8 ?_
    refine L_lastore hz h dL_later_9 ?_
    refine g_goto h 17 dL_later_10 (by decide) ?_
    refine g_iconst (v := 0) h dL_later_17 (by decide) ?_
    exact L_retW hz h hr ⟨rfl, rfl⟩ (Nat.le_of_ble_eq_true rfl) (Nat.le_of_ble_eq_true rfl) dL_later_18
  · subst q
    refine g_pc (pc' := 13) rfl ?_
    refine g_astore h [(4, .ref q9), (0, .ref a0), (1, .int a1), (2, .int a2), (3, .ref (zo z))] dL_later_13 (by decide) rfl ?_
    refine g_iconst (v := 1) h dL_later_15 (by decide) ?_
    exact L_retW hz h hr ⟨rfl, n9, hn, rfl⟩ (Nat.le_of_ble_eq_true rfl) (Nat.le_of_ble_eq_true rfl) dL_later_16
theorem tW_359 : (Jvm.Cond.codeWith ({ cls := "KeepForgetLaw", name := "rules", desc := "(LKeepForget;II[J)I" } : Jvm.MethodName) method_6_code (5 : Nat) (Option.some Jvm.ClassFile.FieldType.int) [((0 : Nat), (10 : Nat), (13 : Nat), (13 : Nat))]) ∈ tb := tb_t 359 (by decide +kernel) (by decide +kernel)
theorem yk_L_rules : yOkW yL_rules cL_rules 5 (some .int) [(0, 10, 13, 13)] 4 := ⟨tW_359, tW_0, tW_358, by decide, by decide, by decide +kernel⟩
def rm_L_rules : Room := { frames := 9, cells := 109, slots := 690, locals := 199 }
set_option maxHeartbeats 4000000 in
theorem w_rules {l : Launch} {Ke : State → Prop} {z : Lp} {adS adV adM : Nat → Nat} {adD : Nat} {μ : Km} {σ : Ms} {v : Int64} (hz : lOk z) (hkw : gKw Ke) (hX : xSt l Ke (lEK z σ v) (lAK z) adM adD) (hSt : sSt Ke (lAK z) (LKW z σ v) adS adV) (hN : ∀ U, Ke U → va_Nc "java/lang/IllegalArgumentException" "java/util/NoSuchElementException" U) (a0 : Nat) (h9 : kK μ a0 = 9) (a1 a2 : Int32) {X : (Int32 × Km) ⊕ (Bool × Km)} (hX0 : K9_rules μ a0 a1 a2 = some X) (hb : ∀ b u, X = .inr (b, u) → b = false) : gW l yL_rules cL_rules 5 (some .int) [(0, 10, 13, 13)] rm_L_rules Ke z [.ref a0, .int a1, .int a2, .ref (zo z)] (μ, σ, v) (lWP X (fun _ => 1) σ v (fun r => r.toInt64)) := by
  refine L_metW (by decide) (by simp [lg_sl, Value.category]) ?_
  intro p e s m below meth c h hr hKs hT
  refine g_lv [(0, .ref a0), (1, .int a1), (2, .int a2), (3, .ref (zo z))] [0, 1, 2, 3] rfl ?_
  refine g_aload_n h 3 dL_rules_0 rfl ?_
  refine g_iconst (v := 0) h dL_rules_1 (by decide) ?_
  refine g_aload_n h 0 dL_rules_2 rfl ?_
  refine g_iload_n h 1 dL_rules_3 rfl ?_
  refine g_iload_n h 2 dL_rules_4 rfl ?_
  refine L_Xi hz h hkw hKs [.int a1, .int a2] h9 (c_X9_rules (lEK_ok hz σ v) hkw hX hSt μ a0 a1 a2 X hX0) yk_X9_rules tW_360 ⟨(Nat.le_of_ble_eq_true rfl), (Nat.le_of_ble_eq_true rfl)⟩ rfl rfl (Nat.le_of_ble_eq_true rfl) dL_rules_5 ⟨(Nat.le_of_ble_eq_true rfl), (Nat.le_of_ble_eq_true rfl)⟩ (fun _ => 13) (fun b u q => ?_) (fun r u q => ?_) (fun b u n9 q9 q hn => ?_)
  · cases hb b u q
    exact ⟨[], ⟨0, 10, 13, 13⟩, [], "java/lang/IllegalArgumentException", hT, (fun q9 h9 => (by cases h9)), by decide, by decide, h.1.2.2.2.2 _ tW_235, va_Nw.use (xB_ot _ (by decide)) ((hX.2.1 s hKs).2.1 _ (by decide)), rfl⟩
  · subst q
    refine g_i2l h dL_rules_8 ?_
    refine L_lastore hz h dL_rules_9 ?_
    refine g_goto h 17 dL_rules_10 (by decide) ?_
    refine g_iconst (v := 0) h dL_rules_17 (by decide) ?_
    exact L_retW hz h hr ⟨rfl, rfl⟩ (Nat.le_of_ble_eq_true rfl) (Nat.le_of_ble_eq_true rfl) dL_rules_18
  · subst q
    refine g_pc (pc' := 13) rfl ?_
    refine g_astore h [(4, .ref q9), (0, .ref a0), (1, .int a1), (2, .int a2), (3, .ref (zo z))] dL_rules_13 (by decide) rfl ?_
    refine g_iconst (v := 1) h dL_rules_15 (by decide) ?_
    exact L_retW hz h hr ⟨rfl, n9, hn, rfl⟩ (Nat.le_of_ble_eq_true rfl) (Nat.le_of_ble_eq_true rfl) dL_rules_16
theorem tW_631 : (Jvm.Cond.codeWith ({ cls := "KeepForgetLaw", name := "fact", desc := "(LKeepForget;III[J)I" } : Jvm.MethodName) method_7_code (6 : Nat) (Option.some Jvm.ClassFile.FieldType.int) [((0 : Nat), (12 : Nat), (15 : Nat), (28 : Nat)), ((0 : Nat), (12 : Nat), (19 : Nat), (13 : Nat))]) ∈ tb := tb_t 631 (by decide +kernel) (by decide +kernel)
theorem yk_L_fact : yOkW yL_fact cL_fact 6 (some .int) [(0, 12, 15, 28), (0, 12, 19, 13)] 5 := ⟨tW_631, tW_0, tW_630, by decide, by decide, by decide +kernel⟩
def rm_L_fact : Room := { frames := 8, cells := 2, slots := 12, locals := 136 }
set_option maxHeartbeats 4000000 in
theorem w_fact {l : Launch} {Ke : State → Prop} {z : Lp} {adS adV adM : Nat → Nat} {adD : Nat} {μ : Km} {σ : Ms} {v : Int64} (hz : lOk z) (hkw : gKw Ke) (hX : xSt l Ke (lEK z σ v) (lAK z) adM adD) (hSt : sSt Ke (lAK z) (LKW z σ v) adS adV) (hN : ∀ U, Ke U → va_Nc "java/lang/IllegalArgumentException" "java/util/NoSuchElementException" U) (a0 : Nat) (h9 : kK μ a0 = 9) (a1 a2 a3 : Int32) {X : (Int32 × Km) ⊕ (Bool × Km)} (hX0 : K9_fact μ a0 a1 a2 a3 = some X) : gW l yL_fact cL_fact 6 (some .int) [(0, 12, 15, 28), (0, 12, 19, 13)] rm_L_fact Ke z [.ref a0, .int a1, .int a2, .int a3, .ref (zo z)] (μ, σ, v) (lWP X (fun b => cond b 1 2) σ v (fun r => r.toInt64)) := by
  refine L_metW (by decide) (by simp [lg_sl, Value.category]) ?_
  intro p e s m below meth c h hr hKs hT
  refine g_lv [(0, .ref a0), (1, .int a1), (2, .int a2), (3, .int a3), (4, .ref (zo z))] [0, 1, 2, 3, 4] rfl ?_
  refine g_aload h 4 dL_fact_0 rfl ?_
  refine g_iconst (v := 0) h dL_fact_2 (by decide) ?_
  refine g_aload_n h 0 dL_fact_3 rfl ?_
  refine g_iload_n h 1 dL_fact_4 rfl ?_
  refine g_iload_n h 2 dL_fact_5 rfl ?_
  refine g_iload_n h 3 dL_fact_6 rfl ?_
  refine L_Xi hz h hkw hKs [.int a1, .int a2, .int a3] h9 (c_X9_fact (lEK_ok hz σ v) hkw hX hSt μ a0 a1 a2 a3 X hX0) yk_X9_fact tW_633 ⟨(Nat.le_of_ble_eq_true rfl), (Nat.le_of_ble_eq_true rfl)⟩ rfl rfl (Nat.le_of_ble_eq_true rfl) dL_fact_7 ⟨(Nat.le_of_ble_eq_true rfl), (Nat.le_of_ble_eq_true rfl)⟩ (fun b => cond b 15 19) (fun b u q => ?_) (fun r u q => ?_) (fun b u n9 q9 q hn => ?_)
  · cases b with
    | true => exact ⟨[], ⟨0, 12, 15, 28⟩, [⟨0, 12, 19, 13⟩], "java/util/NoSuchElementException", hT, (fun q9 h9 => (by cases h9)), by decide, by decide, h.1.2.2.2.2 _ tW_632, va_Nw.use (xB_ot _ (by decide)) ((hX.2.1 s hKs).2.1 _ (by decide)), rfl⟩
    | false => exact ⟨[⟨0, 12, 15, 28⟩], ⟨0, 12, 19, 13⟩, [], "java/lang/IllegalArgumentException", hT, (fun q9 h9 => by
      cases List.mem_singleton.mp h9
      exact Or.inr ⟨by decide, "java/util/NoSuchElementException", h.1.2.2.2.2 _ tW_632, hN s hKs⟩), by decide, by decide, h.1.2.2.2.2 _ tW_235, va_Nw.use (xB_ot _ (by decide)) ((hX.2.1 s hKs).2.1 _ (by decide)), rfl⟩
  · subst q
    refine g_i2l h dL_fact_10 ?_
    refine L_lastore hz h dL_fact_11 ?_
    refine g_goto h 23 dL_fact_12 (by decide) ?_
    refine g_iconst (v := 0) h dL_fact_23 (by decide) ?_
    exact L_retW hz h hr ⟨rfl, rfl⟩ (Nat.le_of_ble_eq_true rfl) (Nat.le_of_ble_eq_true rfl) dL_fact_24
  · subst q
    cases b with
    | true =>
      refine g_pc (pc' := 15) rfl ?_
      refine g_astore h [(5, .ref q9), (0, .ref a0), (1, .int a1), (2, .int a2), (3, .int a3), (4, .ref (zo z))] dL_fact_15 (by decide) rfl ?_
      refine g_iconst (v := 1) h dL_fact_17 (by decide) ?_
      exact L_retW hz h hr ⟨rfl, n9, hn, rfl⟩ (Nat.le_of_ble_eq_true rfl) (Nat.le_of_ble_eq_true rfl) dL_fact_18
    | false =>
      refine g_pc (pc' := 19) rfl ?_
      refine g_astore h [(5, .ref q9), (0, .ref a0), (1, .int a1), (2, .int a2), (3, .int a3), (4, .ref (zo z))] dL_fact_19 (by decide) rfl ?_
      refine g_iconst (v := 2) h dL_fact_21 (by decide) ?_
      exact L_retW hz h hr ⟨rfl, n9, hn, rfl⟩ (Nat.le_of_ble_eq_true rfl) (Nat.le_of_ble_eq_true rfl) dL_fact_22
theorem tW_661 : (Jvm.Cond.codeWith ({ cls := "KeepForgetLaw", name := "event", desc := "(LKeepForget;III[J)I" } : Jvm.MethodName) method_8_code (6 : Nat) (Option.some Jvm.ClassFile.FieldType.int) [((0 : Nat), (12 : Nat), (15 : Nat), (28 : Nat)), ((0 : Nat), (12 : Nat), (19 : Nat), (13 : Nat))]) ∈ tb := tb_t 661 (by decide +kernel) (by decide +kernel)
theorem yk_L_event : yOkW yL_event cL_event 6 (some .int) [(0, 12, 15, 28), (0, 12, 19, 13)] 5 := ⟨tW_661, tW_0, tW_660, by decide, by decide, by decide +kernel⟩
def rm_L_event : Room := { frames := 8, cells := 2, slots := 12, locals := 136 }
set_option maxHeartbeats 4000000 in
theorem w_event {l : Launch} {Ke : State → Prop} {z : Lp} {adS adV adM : Nat → Nat} {adD : Nat} {μ : Km} {σ : Ms} {v : Int64} (hz : lOk z) (hkw : gKw Ke) (hX : xSt l Ke (lEK z σ v) (lAK z) adM adD) (hSt : sSt Ke (lAK z) (LKW z σ v) adS adV) (hN : ∀ U, Ke U → va_Nc "java/lang/IllegalArgumentException" "java/util/NoSuchElementException" U) (a0 : Nat) (h9 : kK μ a0 = 9) (a1 a2 a3 : Int32) {X : (Int32 × Km) ⊕ (Bool × Km)} (hX0 : K9_event μ a0 a1 a2 a3 = some X) : gW l yL_event cL_event 6 (some .int) [(0, 12, 15, 28), (0, 12, 19, 13)] rm_L_event Ke z [.ref a0, .int a1, .int a2, .int a3, .ref (zo z)] (μ, σ, v) (lWP X (fun b => cond b 1 2) σ v (fun r => r.toInt64)) := by
  refine L_metW (by decide) (by simp [lg_sl, Value.category]) ?_
  intro p e s m below meth c h hr hKs hT
  refine g_lv [(0, .ref a0), (1, .int a1), (2, .int a2), (3, .int a3), (4, .ref (zo z))] [0, 1, 2, 3, 4] rfl ?_
  refine g_aload h 4 dL_event_0 rfl ?_
  refine g_iconst (v := 0) h dL_event_2 (by decide) ?_
  refine g_aload_n h 0 dL_event_3 rfl ?_
  refine g_iload_n h 1 dL_event_4 rfl ?_
  refine g_iload_n h 2 dL_event_5 rfl ?_
  refine g_iload_n h 3 dL_event_6 rfl ?_
  refine L_Xi hz h hkw hKs [.int a1, .int a2, .int a3] h9 (c_X9_event (lEK_ok hz σ v) hkw hX hSt μ a0 a1 a2 a3 X hX0) yk_X9_event tW_662 ⟨(Nat.le_of_ble_eq_true rfl), (Nat.le_of_ble_eq_true rfl)⟩ rfl rfl (Nat.le_of_ble_eq_true rfl) dL_event_7 ⟨(Nat.le_of_ble_eq_true rfl), (Nat.le_of_ble_eq_true rfl)⟩ (fun b => cond b 15 19) (fun b u q => ?_) (fun r u q => ?_) (fun b u n9 q9 q hn => ?_)
  · cases b with
    | true => exact ⟨[], ⟨0, 12, 15, 28⟩, [⟨0, 12, 19, 13⟩], "java/util/NoSuchElementException", hT, (fun q9 h9 => (by cases h9)), by decide, by decide, h.1.2.2.2.2 _ tW_632, va_Nw.use (xB_ot _ (by decide)) ((hX.2.1 s hKs).2.1 _ (by decide)), rfl⟩
    | false => exact ⟨[⟨0, 12, 15, 28⟩], ⟨0, 12, 19, 13⟩, [], "java/lang/IllegalArgumentException", hT, (fun q9 h9 => by
      cases List.mem_singleton.mp h9
      exact Or.inr ⟨by decide, "java/util/NoSuchElementException", h.1.2.2.2.2 _ tW_632, hN s hKs⟩), by decide, by decide, h.1.2.2.2.2 _ tW_235, va_Nw.use (xB_ot _ (by decide)) ((hX.2.1 s hKs).2.1 _ (by decide)), rfl⟩
  · subst q
    refine g_i2l h dL_event_10 ?_
    refine L_lastore hz h dL_event_11 ?_
    refine g_goto h 23 dL_event_12 (by decide) ?_
    refine g_iconst (v := 0) h dL_event_23 (by decide) ?_
    exact L_retW hz h hr ⟨rfl, rfl⟩ (Nat.le_of_ble_eq_true rfl) (Nat.le_of_ble_eq_true rfl) dL_event_24
  · subst q
    cases b with
    | true =>
      refine g_pc (pc' := 15) rfl ?_
      refine g_astore h [(5, .ref q9), (0, .ref a0), (1, .int a1), (2, .int a2), (3, .int a3), (4, .ref (zo z))] dL_event_15 (by decide) rfl ?_
      refine g_iconst (v := 1) h dL_event_17 (by decide) ?_
      exact L_retW hz h hr ⟨rfl, n9, hn, rfl⟩ (Nat.le_of_ble_eq_true rfl) (Nat.le_of_ble_eq_true rfl) dL_event_18
    | false =>
      refine g_pc (pc' := 19) rfl ?_
      refine g_astore h [(5, .ref q9), (0, .ref a0), (1, .int a1), (2, .int a2), (3, .int a3), (4, .ref (zo z))] dL_event_19 (by decide) rfl ?_
      refine g_iconst (v := 2) h dL_event_21 (by decide) ?_
      exact L_retW hz h hr ⟨rfl, n9, hn, rfl⟩ (Nat.le_of_ble_eq_true rfl) (Nat.le_of_ble_eq_true rfl) dL_event_22
theorem tW_669 : (Jvm.Cond.codeWith ({ cls := "KeepForgetLaw", name := "copy", desc := "(LKeepForget;III[J)I" } : Jvm.MethodName) method_9_code (6 : Nat) (Option.some Jvm.ClassFile.FieldType.int) [((0 : Nat), (19 : Nat), (22 : Nat), (28 : Nat))]) ∈ tb := tb_t 669 (by decide +kernel) (by decide +kernel)
theorem yk_L_copy : yOkW yL_copy cL_copy 6 (some .int) [(0, 19, 22, 28)] 5 := ⟨tW_669, tW_0, tW_668, by decide, by decide, by decide +kernel⟩
def rm_L_copy : Room := { frames := 8, cells := 3, slots := 18, locals := 135 }
set_option maxHeartbeats 4000000 in
theorem w_copy {l : Launch} {Ke : State → Prop} {z : Lp} {adS adV adM : Nat → Nat} {adD : Nat} {μ : Km} {σ : Ms} {v : Int64} (hz : lOk z) (hkw : gKw Ke) (hX : xSt l Ke (lEK z σ v) (lAK z) adM adD) (hSt : sSt Ke (lAK z) (LKW z σ v) adS adV) (hN : ∀ U, Ke U → va_Nc "java/lang/IllegalArgumentException" "java/util/NoSuchElementException" U) (a0 : Nat) (h9 : kK μ a0 = 9) (a1 a2 a3 : Int32) {X : (Int32 × Km) ⊕ (Bool × Km)} (hX0 : K9_copy μ a0 a1 a2 a3 = some X) (hb : ∀ b u, X = .inr (b, u) → b = true) : gW l yL_copy cL_copy 6 (some .int) [(0, 19, 22, 28)] rm_L_copy Ke z [.ref a0, .int a1, .int a2, .int a3, .ref (zo z)] (μ, σ, v) (lWP X (fun _ => 1) σ v bz) := by
  refine L_metW (by decide) (by simp [lg_sl, Value.category]) ?_
  intro p e s m below meth c h hr hKs hT
  refine g_lv [(0, .ref a0), (1, .int a1), (2, .int a2), (3, .int a3), (4, .ref (zo z))] [0, 1, 2, 3, 4] rfl ?_
  refine g_aload h 4 dL_copy_0 rfl ?_
  refine g_iconst (v := 0) h dL_copy_2 (by decide) ?_
  refine g_aload_n h 0 dL_copy_3 rfl ?_
  refine g_iload_n h 1 dL_copy_4 rfl ?_
  refine g_iload_n h 2 dL_copy_5 rfl ?_
  refine g_iload_n h 3 dL_copy_6 rfl ?_
  refine L_Xi hz h hkw hKs [.int a1, .int a2, .int a3] h9 (c_X9_copy (lEK_ok hz σ v) hkw hX hSt μ a0 a1 a2 a3 X hX0) yk_X9_copy tW_670 ⟨(Nat.le_of_ble_eq_true rfl), (Nat.le_of_ble_eq_true rfl)⟩ rfl rfl (Nat.le_of_ble_eq_true rfl) dL_copy_7 ⟨(Nat.le_of_ble_eq_true rfl), (Nat.le_of_ble_eq_true rfl)⟩ (fun _ => 22) (fun b u q => ?_) (fun r u q => ?_) (fun b u n9 q9 q hn => ?_)
  · cases hb b u q
    exact ⟨[], ⟨0, 19, 22, 28⟩, [], "java/util/NoSuchElementException", hT, (fun q9 h9 => (by cases h9)), by decide, by decide, h.1.2.2.2.2 _ tW_632, va_Nw.use (xB_ot _ (by decide)) ((hX.2.1 s hKs).2.1 _ (by decide)), rfl⟩
  · subst q
    by_cases hr0 : r = 0
    · refine g_pos (cnd := r = 0) hr0 ?_
      refine g_if_eq h 17 dL_copy_10 (by decide) ?_ g_none
      refine g_lconst (v := 0) h dL_copy_17 (by decide) ?_
      refine L_lastore hz h dL_copy_18 ?_
      refine g_goto h 26 dL_copy_19 (by decide) ?_
      refine g_iconst (v := 0) h dL_copy_26 (by decide) ?_
      exact L_retW hz h hr ⟨rfl, by simp [bz, hr0]⟩ (Nat.le_of_ble_eq_true rfl) (Nat.le_of_ble_eq_true rfl) dL_copy_27
    · refine g_neg (cnd := r = 0) hr0 ?_
      refine g_if_eq h 17 dL_copy_10 (by decide) g_none ?_
      refine g_lconst (v := 1) h dL_copy_13 (by decide) ?_
      refine g_goto h 18 dL_copy_14 (by decide) ?_
      refine L_lastore hz h dL_copy_18 ?_
      refine g_goto h 26 dL_copy_19 (by decide) ?_
      refine g_iconst (v := 0) h dL_copy_26 (by decide) ?_
      exact L_retW hz h hr ⟨rfl, by simp [bz, hr0]⟩ (Nat.le_of_ble_eq_true rfl) (Nat.le_of_ble_eq_true rfl) dL_copy_27
  · subst q
    refine g_pc (pc' := 22) rfl ?_
    refine g_astore h [(5, .ref q9), (0, .ref a0), (1, .int a1), (2, .int a2), (3, .int a3), (4, .ref (zo z))] dL_copy_22 (by decide) rfl ?_
    refine g_iconst (v := 1) h dL_copy_24 (by decide) ?_
    exact L_retW hz h hr ⟨rfl, n9, hn, rfl⟩ (Nat.le_of_ble_eq_true rfl) (Nat.le_of_ble_eq_true rfl) dL_copy_25
theorem tW_688 : (Jvm.Cond.codeWith ({ cls := "KeepForgetLaw", name := "copies", desc := "(LKeepForget;II[J)I" } : Jvm.MethodName) method_10_code (5 : Nat) (Option.some Jvm.ClassFile.FieldType.int) [((0 : Nat), (10 : Nat), (13 : Nat), (28 : Nat))]) ∈ tb := tb_t 688 (by decide +kernel) (by decide +kernel)
theorem yk_L_copies : yOkW yL_copies cL_copies 5 (some .int) [(0, 10, 13, 28)] 4 := ⟨tW_688, tW_0, tW_687, by decide, by decide, by decide +kernel⟩
def rm_L_copies : Room := { frames := 8, cells := 2, slots := 12, locals := 134 }
set_option maxHeartbeats 4000000 in
theorem w_copies {l : Launch} {Ke : State → Prop} {z : Lp} {adS adV adM : Nat → Nat} {adD : Nat} {μ : Km} {σ : Ms} {v : Int64} (hz : lOk z) (hkw : gKw Ke) (hX : xSt l Ke (lEK z σ v) (lAK z) adM adD) (hSt : sSt Ke (lAK z) (LKW z σ v) adS adV) (hN : ∀ U, Ke U → va_Nc "java/lang/IllegalArgumentException" "java/util/NoSuchElementException" U) (a0 : Nat) (h9 : kK μ a0 = 9) (a1 a2 : Int32) {X : (Int32 × Km) ⊕ (Bool × Km)} (hX0 : K9_copies μ a0 a1 a2 = some X) (hb : ∀ b u, X = .inr (b, u) → b = true) : gW l yL_copies cL_copies 5 (some .int) [(0, 10, 13, 28)] rm_L_copies Ke z [.ref a0, .int a1, .int a2, .ref (zo z)] (μ, σ, v) (lWP X (fun _ => 1) σ v (fun r => r.toInt64)) := by
  refine L_metW (by decide) (by simp [lg_sl, Value.category]) ?_
  intro p e s m below meth c h hr hKs hT
  refine g_lv [(0, .ref a0), (1, .int a1), (2, .int a2), (3, .ref (zo z))] [0, 1, 2, 3] rfl ?_
  refine g_aload_n h 3 dL_copies_0 rfl ?_
  refine g_iconst (v := 0) h dL_copies_1 (by decide) ?_
  refine g_aload_n h 0 dL_copies_2 rfl ?_
  refine g_iload_n h 1 dL_copies_3 rfl ?_
  refine g_iload_n h 2 dL_copies_4 rfl ?_
  refine L_Xi hz h hkw hKs [.int a1, .int a2] h9 (c_X9_copies (lEK_ok hz σ v) hkw hX hSt μ a0 a1 a2 X hX0) yk_X9_copies tW_689 ⟨(Nat.le_of_ble_eq_true rfl), (Nat.le_of_ble_eq_true rfl)⟩ rfl rfl (Nat.le_of_ble_eq_true rfl) dL_copies_5 ⟨(Nat.le_of_ble_eq_true rfl), (Nat.le_of_ble_eq_true rfl)⟩ (fun _ => 13) (fun b u q => ?_) (fun r u q => ?_) (fun b u n9 q9 q hn => ?_)
  · cases hb b u q
    exact ⟨[], ⟨0, 10, 13, 28⟩, [], "java/util/NoSuchElementException", hT, (fun q9 h9 => (by cases h9)), by decide, by decide, h.1.2.2.2.2 _ tW_632, va_Nw.use (xB_ot _ (by decide)) ((hX.2.1 s hKs).2.1 _ (by decide)), rfl⟩
  · subst q
    refine g_i2l h dL_copies_8 ?_
    refine L_lastore hz h dL_copies_9 ?_
    refine g_goto h 17 dL_copies_10 (by decide) ?_
    refine g_iconst (v := 0) h dL_copies_17 (by decide) ?_
    exact L_retW hz h hr ⟨rfl, rfl⟩ (Nat.le_of_ble_eq_true rfl) (Nat.le_of_ble_eq_true rfl) dL_copies_18
  · subst q
    refine g_pc (pc' := 13) rfl ?_
    refine g_astore h [(4, .ref q9), (0, .ref a0), (1, .int a1), (2, .int a2), (3, .ref (zo z))] dL_copies_13 (by decide) rfl ?_
    refine g_iconst (v := 1) h dL_copies_15 (by decide) ?_
    exact L_retW hz h hr ⟨rfl, n9, hn, rfl⟩ (Nat.le_of_ble_eq_true rfl) (Nat.le_of_ble_eq_true rfl) dL_copies_16
theorem tW_695 : (Jvm.Cond.codeWith ({ cls := "KeepForgetLaw", name := "store", desc := "(LKeepForget;III)I" } : Jvm.MethodName) method_11_code (5 : Nat) (Option.some Jvm.ClassFile.FieldType.int) [((0 : Nat), (7 : Nat), (10 : Nat), (28 : Nat)), ((0 : Nat), (7 : Nat), (14 : Nat), (13 : Nat))]) ∈ tb := tb_t 695 (by decide +kernel) (by decide +kernel)
theorem yk_L_store : yOkW yL_store cL_store 5 (some .int) [(0, 7, 10, 28), (0, 7, 14, 13)] 4 := ⟨tW_695, tW_0, tW_694, by decide, by decide, by decide +kernel⟩
def rm_L_store : Room := { frames := 8, cells := 2, slots := 12, locals := 133 }
set_option maxHeartbeats 4000000 in
theorem w_store {l : Launch} {Ke : State → Prop} {z : Lp} {adS adV adM : Nat → Nat} {adD : Nat} {μ : Km} {σ : Ms} {v : Int64} (hz : lOk z) (hkw : gKw Ke) (hX : xSt l Ke (lEK z σ v) (lAK z) adM adD) (hSt : sSt Ke (lAK z) (LKW z σ v) adS adV) (hN : ∀ U, Ke U → va_Nc "java/lang/IllegalArgumentException" "java/util/NoSuchElementException" U) (a0 : Nat) (h9 : kK μ a0 = 9) (a1 a2 a3 : Int32) {X : Km ⊕ (Bool × Km)} (hX0 : K9_store μ a0 a1 a2 a3 = some X) : gW l yL_store cL_store 5 (some .int) [(0, 7, 10, 28), (0, 7, 14, 13)] rm_L_store Ke z [.ref a0, .int a1, .int a2, .int a3] (μ, σ, v) (lWV X (fun b => cond b 1 2) σ v) := by
  refine L_metW (by decide) (by simp [lg_sl, Value.category]) ?_
  intro p e s m below meth c h hr hKs hT
  refine g_lv [(0, .ref a0), (1, .int a1), (2, .int a2), (3, .int a3)] [0, 1, 2, 3] rfl ?_
  refine g_aload_n h 0 dL_store_0 rfl ?_
  refine g_iload_n h 1 dL_store_1 rfl ?_
  refine g_iload_n h 2 dL_store_2 rfl ?_
  refine g_iload_n h 3 dL_store_3 rfl ?_
  refine L_Xv hz h hkw hKs [.int a1, .int a2, .int a3] h9 (c_X9_store (lEK_ok hz σ v) hkw hX hSt μ a0 a1 a2 a3 X hX0) yk_X9_store tW_696 ⟨(Nat.le_of_ble_eq_true rfl), (Nat.le_of_ble_eq_true rfl)⟩ rfl rfl (Nat.le_of_ble_eq_true rfl) dL_store_4 ⟨(Nat.le_of_ble_eq_true rfl), (Nat.le_of_ble_eq_true rfl)⟩ (fun b => cond b 10 14) (fun b u q => ?_) (fun u q => ?_) (fun b u n9 q9 q hn => ?_)
  · cases b with
    | true => exact ⟨[], ⟨0, 7, 10, 28⟩, [⟨0, 7, 14, 13⟩], "java/util/NoSuchElementException", hT, (fun q9 h9 => (by cases h9)), by decide, by decide, h.1.2.2.2.2 _ tW_632, va_Nw.use (xB_ot _ (by decide)) ((hX.2.1 s hKs).2.1 _ (by decide)), rfl⟩
    | false => exact ⟨[⟨0, 7, 10, 28⟩], ⟨0, 7, 14, 13⟩, [], "java/lang/IllegalArgumentException", hT, (fun q9 h9 => by
      cases List.mem_singleton.mp h9
      exact Or.inr ⟨by decide, "java/util/NoSuchElementException", h.1.2.2.2.2 _ tW_632, hN s hKs⟩), by decide, by decide, h.1.2.2.2.2 _ tW_235, va_Nw.use (xB_ot _ (by decide)) ((hX.2.1 s hKs).2.1 _ (by decide)), rfl⟩
  · subst q
    refine g_goto h 18 dL_store_7 (by decide) ?_
    refine g_iconst (v := 0) h dL_store_18 (by decide) ?_
    exact L_retW hz h hr ⟨rfl, rfl⟩ (Nat.le_of_ble_eq_true rfl) (Nat.le_of_ble_eq_true rfl) dL_store_19
  · subst q
    cases b with
    | true =>
      refine g_pc (pc' := 10) rfl ?_
      refine g_astore h [(4, .ref q9), (0, .ref a0), (1, .int a1), (2, .int a2), (3, .int a3)] dL_store_10 (by decide) rfl ?_
      refine g_iconst (v := 1) h dL_store_12 (by decide) ?_
      exact L_retW hz h hr ⟨rfl, n9, hn, rfl⟩ (Nat.le_of_ble_eq_true rfl) (Nat.le_of_ble_eq_true rfl) dL_store_13
    | false =>
      refine g_pc (pc' := 14) rfl ?_
      refine g_astore h [(4, .ref q9), (0, .ref a0), (1, .int a1), (2, .int a2), (3, .int a3)] dL_store_14 (by decide) rfl ?_
      refine g_iconst (v := 2) h dL_store_16 (by decide) ?_
      exact L_retW hz h hr ⟨rfl, n9, hn, rfl⟩ (Nat.le_of_ble_eq_true rfl) (Nat.le_of_ble_eq_true rfl) dL_store_17
theorem tW_703 : (Jvm.Cond.codeWith ({ cls := "KeepForgetLaw", name := "hold", desc := "(LKeepForget;II[J)I" } : Jvm.MethodName) method_12_code (5 : Nat) (Option.some Jvm.ClassFile.FieldType.int) [((0 : Nat), (10 : Nat), (13 : Nat), (28 : Nat))]) ∈ tb := tb_t 703 (by decide +kernel) (by decide +kernel)
theorem yk_L_hold : yOkW yL_hold cL_hold 5 (some .int) [(0, 10, 13, 28)] 4 := ⟨tW_703, tW_0, tW_702, by decide, by decide, by decide +kernel⟩
def rm_L_hold : Room := { frames := 8, cells := 2, slots := 9, locals := 134 }
set_option maxHeartbeats 4000000 in
theorem w_hold {l : Launch} {Ke : State → Prop} {z : Lp} {adS adV adM : Nat → Nat} {adD : Nat} {μ : Km} {σ : Ms} {v : Int64} (hz : lOk z) (hkw : gKw Ke) (hX : xSt l Ke (lEK z σ v) (lAK z) adM adD) (hSt : sSt Ke (lAK z) (LKW z σ v) adS adV) (hN : ∀ U, Ke U → va_Nc "java/lang/IllegalArgumentException" "java/util/NoSuchElementException" U) (a0 : Nat) (h9 : kK μ a0 = 9) (a1 a2 : Int32) {X : (Int32 × Km) ⊕ (Bool × Km)} (hX0 : K9_hold μ a0 a1 a2 = some X) (hb : ∀ b u, X = .inr (b, u) → b = true) : gW l yL_hold cL_hold 5 (some .int) [(0, 10, 13, 28)] rm_L_hold Ke z [.ref a0, .int a1, .int a2, .ref (zo z)] (μ, σ, v) (lWP X (fun _ => 1) σ v (fun r => r.toInt64)) := by
  refine L_metW (by decide) (by simp [lg_sl, Value.category]) ?_
  intro p e s m below meth c h hr hKs hT
  refine g_lv [(0, .ref a0), (1, .int a1), (2, .int a2), (3, .ref (zo z))] [0, 1, 2, 3] rfl ?_
  refine g_aload_n h 3 dL_hold_0 rfl ?_
  refine g_iconst (v := 0) h dL_hold_1 (by decide) ?_
  refine g_aload_n h 0 dL_hold_2 rfl ?_
  refine g_iload_n h 1 dL_hold_3 rfl ?_
  refine g_iload_n h 2 dL_hold_4 rfl ?_
  refine L_Xi hz h hkw hKs [.int a1, .int a2] h9 (c_X9_hold (lEK_ok hz σ v) hkw hX hSt μ a0 a1 a2 X hX0) yk_X9_hold tW_704 ⟨(Nat.le_of_ble_eq_true rfl), (Nat.le_of_ble_eq_true rfl)⟩ rfl rfl (Nat.le_of_ble_eq_true rfl) dL_hold_5 ⟨(Nat.le_of_ble_eq_true rfl), (Nat.le_of_ble_eq_true rfl)⟩ (fun _ => 13) (fun b u q => ?_) (fun r u q => ?_) (fun b u n9 q9 q hn => ?_)
  · cases hb b u q
    exact ⟨[], ⟨0, 10, 13, 28⟩, [], "java/util/NoSuchElementException", hT, (fun q9 h9 => (by cases h9)), by decide, by decide, h.1.2.2.2.2 _ tW_632, va_Nw.use (xB_ot _ (by decide)) ((hX.2.1 s hKs).2.1 _ (by decide)), rfl⟩
  · subst q
    refine g_i2l h dL_hold_8 ?_
    refine L_lastore hz h dL_hold_9 ?_
    refine g_goto h 17 dL_hold_10 (by decide) ?_
    refine g_iconst (v := 0) h dL_hold_17 (by decide) ?_
    exact L_retW hz h hr ⟨rfl, rfl⟩ (Nat.le_of_ble_eq_true rfl) (Nat.le_of_ble_eq_true rfl) dL_hold_18
  · subst q
    refine g_pc (pc' := 13) rfl ?_
    refine g_astore h [(4, .ref q9), (0, .ref a0), (1, .int a1), (2, .int a2), (3, .ref (zo z))] dL_hold_13 (by decide) rfl ?_
    refine g_iconst (v := 1) h dL_hold_15 (by decide) ?_
    exact L_retW hz h hr ⟨rfl, n9, hn, rfl⟩ (Nat.le_of_ble_eq_true rfl) (Nat.le_of_ble_eq_true rfl) dL_hold_16
theorem tW_727 : (Jvm.Cond.codeWith ({ cls := "KeepForgetLaw", name := "lift", desc := "(LKeepForget;I[J)I" } : Jvm.MethodName) method_13_code (4 : Nat) (Option.some Jvm.ClassFile.FieldType.int) [((0 : Nat), (16 : Nat), (19 : Nat), (28 : Nat))]) ∈ tb := tb_t 727 (by decide +kernel) (by decide +kernel)
theorem yk_L_lift : yOkW yL_lift cL_lift 4 (some .int) [(0, 16, 19, 28)] 3 := ⟨tW_727, tW_0, tW_726, by decide, by decide, by decide +kernel⟩
def rm_L_lift : Room := { frames := 7, cells := 1, slots := 6, locals := 112 }
set_option maxHeartbeats 4000000 in
theorem w_lift {l : Launch} {Ke : State → Prop} {z : Lp} {adS adV adM : Nat → Nat} {adD : Nat} {μ : Km} {σ : Ms} {v : Int64} (hz : lOk z) (hkw : gKw Ke) (hX : xSt l Ke (lEK z σ v) (lAK z) adM adD) (hSt : sSt Ke (lAK z) (LKW z σ v) adS adV) (hN : ∀ U, Ke U → va_Nc "java/lang/IllegalArgumentException" "java/util/NoSuchElementException" U) (a0 : Nat) (h9 : kK μ a0 = 9) (a1 : Int32) {X : (Int32 × Km) ⊕ (Bool × Km)} (hX0 : K9_lift μ a0 a1 = some X) (hb : ∀ b u, X = .inr (b, u) → b = true) : gW l yL_lift cL_lift 4 (some .int) [(0, 16, 19, 28)] rm_L_lift Ke z [.ref a0, .int a1, .ref (zo z)] (μ, σ, v) (lWP X (fun _ => 1) σ v bz) := by
  refine L_metW (by decide) (by simp [lg_sl, Value.category]) ?_
  intro p e s m below meth c h hr hKs hT
  refine g_lv [(0, .ref a0), (1, .int a1), (2, .ref (zo z))] [0, 1, 2] rfl ?_
  refine g_aload_n h 2 dL_lift_0 rfl ?_
  refine g_iconst (v := 0) h dL_lift_1 (by decide) ?_
  refine g_aload_n h 0 dL_lift_2 rfl ?_
  refine g_iload_n h 1 dL_lift_3 rfl ?_
  refine L_Xi hz h hkw hKs [.int a1] h9 (c_X9_lift (lEK_ok hz σ v) hkw hX hSt μ a0 a1 X hX0) yk_X9_lift tW_728 ⟨(Nat.le_of_ble_eq_true rfl), (Nat.le_of_ble_eq_true rfl)⟩ rfl rfl (Nat.le_of_ble_eq_true rfl) dL_lift_4 ⟨(Nat.le_of_ble_eq_true rfl), (Nat.le_of_ble_eq_true rfl)⟩ (fun _ => 19) (fun b u q => ?_) (fun r u q => ?_) (fun b u n9 q9 q hn => ?_)
  · cases hb b u q
    exact ⟨[], ⟨0, 16, 19, 28⟩, [], "java/util/NoSuchElementException", hT, (fun q9 h9 => (by cases h9)), by decide, by decide, h.1.2.2.2.2 _ tW_632, va_Nw.use (xB_ot _ (by decide)) ((hX.2.1 s hKs).2.1 _ (by decide)), rfl⟩
  · subst q
    by_cases hr0 : r = 0
    · refine g_pos (cnd := r = 0) hr0 ?_
      refine g_if_eq h 14 dL_lift_7 (by decide) ?_ g_none
      refine g_lconst (v := 0) h dL_lift_14 (by decide) ?_
      refine L_lastore hz h dL_lift_15 ?_
      refine g_goto h 22 dL_lift_16 (by decide) ?_
      refine g_iconst (v := 0) h dL_lift_22 (by decide) ?_
      exact L_retW hz h hr ⟨rfl, by simp [bz, hr0]⟩ (Nat.le_of_ble_eq_true rfl) (Nat.le_of_ble_eq_true rfl) dL_lift_23
    · refine g_neg (cnd := r = 0) hr0 ?_
      refine g_if_eq h 14 dL_lift_7 (by decide) g_none ?_
      refine g_lconst (v := 1) h dL_lift_10 (by decide) ?_
      refine g_goto h 15 dL_lift_11 (by decide) ?_
      refine L_lastore hz h dL_lift_15 ?_
      refine g_goto h 22 dL_lift_16 (by decide) ?_
      refine g_iconst (v := 0) h dL_lift_22 (by decide) ?_
      exact L_retW hz h hr ⟨rfl, by simp [bz, hr0]⟩ (Nat.le_of_ble_eq_true rfl) (Nat.le_of_ble_eq_true rfl) dL_lift_23
  · subst q
    refine g_pc (pc' := 19) rfl ?_
    refine g_astore_n h [(3, .ref q9), (0, .ref a0), (1, .int a1), (2, .ref (zo z))] dL_lift_19 (by decide) rfl ?_
    refine g_iconst (v := 1) h dL_lift_20 (by decide) ?_
    exact L_retW hz h hr ⟨rfl, n9, hn, rfl⟩ (Nat.le_of_ble_eq_true rfl) (Nat.le_of_ble_eq_true rfl) dL_lift_21
theorem tW_739 : (Jvm.Cond.codeWith ({ cls := "KeepForgetLaw", name := "wish", desc := "(LKeepForget;I[J)I" } : Jvm.MethodName) method_14_code (4 : Nat) (Option.some Jvm.ClassFile.FieldType.int) [((0 : Nat), (9 : Nat), (12 : Nat), (28 : Nat))]) ∈ tb := tb_t 739 (by decide +kernel) (by decide +kernel)
theorem yk_L_wish : yOkW yL_wish cL_wish 4 (some .int) [(0, 9, 12, 28)] 3 := ⟨tW_739, tW_0, tW_738, by decide, by decide, by decide +kernel⟩
def rm_L_wish : Room := { frames := 8, cells := 1, slots := 6, locals := 143 }
set_option maxHeartbeats 4000000 in
theorem w_wish {l : Launch} {Ke : State → Prop} {z : Lp} {adS adV adM : Nat → Nat} {adD : Nat} {μ : Km} {σ : Ms} {v : Int64} (hz : lOk z) (hkw : gKw Ke) (hX : xSt l Ke (lEK z σ v) (lAK z) adM adD) (hSt : sSt Ke (lAK z) (LKW z σ v) adS adV) (hN : ∀ U, Ke U → va_Nc "java/lang/IllegalArgumentException" "java/util/NoSuchElementException" U) (a0 : Nat) (h9 : kK μ a0 = 9) (a1 : Int32) {X : (Int32 × Km) ⊕ (Bool × Km)} (hX0 : K9_wish μ a0 a1 = some X) (hb : ∀ b u, X = .inr (b, u) → b = true) : gW l yL_wish cL_wish 4 (some .int) [(0, 9, 12, 28)] rm_L_wish Ke z [.ref a0, .int a1, .ref (zo z)] (μ, σ, v) (lWP X (fun _ => 1) σ v (fun r => r.toInt64)) := by
  refine L_metW (by decide) (by simp [lg_sl, Value.category]) ?_
  intro p e s m below meth c h hr hKs hT
  refine g_lv [(0, .ref a0), (1, .int a1), (2, .ref (zo z))] [0, 1, 2] rfl ?_
  refine g_aload_n h 2 dL_wish_0 rfl ?_
  refine g_iconst (v := 0) h dL_wish_1 (by decide) ?_
  refine g_aload_n h 0 dL_wish_2 rfl ?_
  refine g_iload_n h 1 dL_wish_3 rfl ?_
  refine L_Xi hz h hkw hKs [.int a1] h9 (c_X9_wish (lEK_ok hz σ v) hkw hX hSt μ a0 a1 X hX0) yk_X9_wish tW_740 ⟨(Nat.le_of_ble_eq_true rfl), (Nat.le_of_ble_eq_true rfl)⟩ rfl rfl (Nat.le_of_ble_eq_true rfl) dL_wish_4 ⟨(Nat.le_of_ble_eq_true rfl), (Nat.le_of_ble_eq_true rfl)⟩ (fun _ => 12) (fun b u q => ?_) (fun r u q => ?_) (fun b u n9 q9 q hn => ?_)
  · cases hb b u q
    exact ⟨[], ⟨0, 9, 12, 28⟩, [], "java/util/NoSuchElementException", hT, (fun q9 h9 => (by cases h9)), by decide, by decide, h.1.2.2.2.2 _ tW_632, va_Nw.use (xB_ot _ (by decide)) ((hX.2.1 s hKs).2.1 _ (by decide)), rfl⟩
  · subst q
    refine g_i2l h dL_wish_7 ?_
    refine L_lastore hz h dL_wish_8 ?_
    refine g_goto h 15 dL_wish_9 (by decide) ?_
    refine g_iconst (v := 0) h dL_wish_15 (by decide) ?_
    exact L_retW hz h hr ⟨rfl, rfl⟩ (Nat.le_of_ble_eq_true rfl) (Nat.le_of_ble_eq_true rfl) dL_wish_16
  · subst q
    refine g_pc (pc' := 12) rfl ?_
    refine g_astore_n h [(3, .ref q9), (0, .ref a0), (1, .int a1), (2, .ref (zo z))] dL_wish_12 (by decide) rfl ?_
    refine g_iconst (v := 1) h dL_wish_13 (by decide) ?_
    exact L_retW hz h hr ⟨rfl, n9, hn, rfl⟩ (Nat.le_of_ble_eq_true rfl) (Nat.le_of_ble_eq_true rfl) dL_wish_14
theorem tW_779 : (Jvm.Cond.codeWith ({ cls := "KeepForgetLaw", name := "span", desc := "(LKeepForget;IIII[J)I" } : Jvm.MethodName) method_15_code (7 : Nat) (Option.some Jvm.ClassFile.FieldType.int) [((0 : Nat), (14 : Nat), (17 : Nat), (28 : Nat))]) ∈ tb := tb_t 779 (by decide +kernel) (by decide +kernel)
theorem yk_L_span : yOkW yL_span cL_span 7 (some .int) [(0, 14, 17, 28)] 6 := ⟨tW_779, tW_0, tW_778, by decide, by decide, by decide +kernel⟩
def rm_L_span : Room := { frames := 9, cells := 4, slots := 24, locals := 157 }
set_option maxHeartbeats 4000000 in
theorem w_span {l : Launch} {Ke : State → Prop} {z : Lp} {adS adV adM : Nat → Nat} {adD : Nat} {μ : Km} {σ : Ms} {v : Int64} (hz : lOk z) (hkw : gKw Ke) (hX : xSt l Ke (lEK z σ v) (lAK z) adM adD) (hSt : sSt Ke (lAK z) (LKW z σ v) adS adV) (hN : ∀ U, Ke U → va_Nc "java/lang/IllegalArgumentException" "java/util/NoSuchElementException" U) (a0 : Nat) (h9 : kK μ a0 = 9) (a1 a2 a3 a4 : Int32) {X : (Int32 × Km) ⊕ (Bool × Km)} (hX0 : K9_span μ a0 a1 a2 a3 a4 = some X) (hb : ∀ b u, X = .inr (b, u) → b = true) : gW l yL_span cL_span 7 (some .int) [(0, 14, 17, 28)] rm_L_span Ke z [.ref a0, .int a1, .int a2, .int a3, .int a4, .ref (zo z)] (μ, σ, v) (lWP X (fun _ => 1) σ v (fun r => r.toInt64)) := by
  refine L_metW (by decide) (by simp [lg_sl, Value.category]) ?_
  intro p e s m below meth c h hr hKs hT
  refine g_lv [(0, .ref a0), (1, .int a1), (2, .int a2), (3, .int a3), (4, .int a4), (5, .ref (zo z))] [0, 1, 2, 3, 4, 5] rfl ?_
  refine g_aload h 5 dL_span_0 rfl ?_
  refine g_iconst (v := 0) h dL_span_2 (by decide) ?_
  refine g_aload_n h 0 dL_span_3 rfl ?_
  refine g_iload_n h 1 dL_span_4 rfl ?_
  refine g_iload_n h 2 dL_span_5 rfl ?_
  refine g_iload_n h 3 dL_span_6 rfl ?_
  refine g_iload h 4 dL_span_7 rfl ?_
  refine L_Xi hz h hkw hKs [.int a1, .int a2, .int a3, .int a4] h9 (c_X9_span (lEK_ok hz σ v) hkw hX hSt μ a0 a1 a2 a3 a4 X hX0) yk_X9_span tW_780 ⟨(Nat.le_of_ble_eq_true rfl), (Nat.le_of_ble_eq_true rfl)⟩ rfl rfl (Nat.le_of_ble_eq_true rfl) dL_span_9 ⟨(Nat.le_of_ble_eq_true rfl), (Nat.le_of_ble_eq_true rfl)⟩ (fun _ => 17) (fun b u q => ?_) (fun r u q => ?_) (fun b u n9 q9 q hn => ?_)
  · cases hb b u q
    exact ⟨[], ⟨0, 14, 17, 28⟩, [], "java/util/NoSuchElementException", hT, (fun q9 h9 => (by cases h9)), by decide, by decide, h.1.2.2.2.2 _ tW_632, va_Nw.use (xB_ot _ (by decide)) ((hX.2.1 s hKs).2.1 _ (by decide)), rfl⟩
  · subst q
    refine g_i2l h dL_span_12 ?_
    refine L_lastore hz h dL_span_13 ?_
    refine g_goto h 21 dL_span_14 (by decide) ?_
    refine g_iconst (v := 0) h dL_span_21 (by decide) ?_
    exact L_retW hz h hr ⟨rfl, rfl⟩ (Nat.le_of_ble_eq_true rfl) (Nat.le_of_ble_eq_true rfl) dL_span_22
  · subst q
    refine g_pc (pc' := 17) rfl ?_
    refine g_astore h [(6, .ref q9), (0, .ref a0), (1, .int a1), (2, .int a2), (3, .int a3), (4, .int a4), (5, .ref (zo z))] dL_span_17 (by decide) rfl ?_
    refine g_iconst (v := 1) h dL_span_19 (by decide) ?_
    exact L_retW hz h hr ⟨rfl, n9, hn, rfl⟩ (Nat.le_of_ble_eq_true rfl) (Nat.le_of_ble_eq_true rfl) dL_span_20
theorem tW_796 : (Jvm.Cond.codeWith ({ cls := "KeepForgetLaw", name := "lost", desc := "(LKeepForget;IIII[J)I" } : Jvm.MethodName) method_16_code (7 : Nat) (Option.some Jvm.ClassFile.FieldType.int) [((0 : Nat), (14 : Nat), (17 : Nat), (28 : Nat))]) ∈ tb := tb_t 796 (by decide +kernel) (by decide +kernel)
theorem yk_L_lost : yOkW yL_lost cL_lost 7 (some .int) [(0, 14, 17, 28)] 6 := ⟨tW_796, tW_0, tW_795, by decide, by decide, by decide +kernel⟩
def rm_L_lost : Room := { frames := 9, cells := 4, slots := 24, locals := 157 }
set_option maxHeartbeats 4000000 in
theorem w_lost {l : Launch} {Ke : State → Prop} {z : Lp} {adS adV adM : Nat → Nat} {adD : Nat} {μ : Km} {σ : Ms} {v : Int64} (hz : lOk z) (hkw : gKw Ke) (hX : xSt l Ke (lEK z σ v) (lAK z) adM adD) (hSt : sSt Ke (lAK z) (LKW z σ v) adS adV) (hN : ∀ U, Ke U → va_Nc "java/lang/IllegalArgumentException" "java/util/NoSuchElementException" U) (a0 : Nat) (h9 : kK μ a0 = 9) (a1 a2 a3 a4 : Int32) {X : (Int32 × Km) ⊕ (Bool × Km)} (hX0 : K9_lost μ a0 a1 a2 a3 a4 = some X) (hb : ∀ b u, X = .inr (b, u) → b = true) : gW l yL_lost cL_lost 7 (some .int) [(0, 14, 17, 28)] rm_L_lost Ke z [.ref a0, .int a1, .int a2, .int a3, .int a4, .ref (zo z)] (μ, σ, v) (lWP X (fun _ => 1) σ v (fun r => r.toInt64)) := by
  refine L_metW (by decide) (by simp [lg_sl, Value.category]) ?_
  intro p e s m below meth c h hr hKs hT
  refine g_lv [(0, .ref a0), (1, .int a1), (2, .int a2), (3, .int a3), (4, .int a4), (5, .ref (zo z))] [0, 1, 2, 3, 4, 5] rfl ?_
  refine g_aload h 5 dL_lost_0 rfl ?_
  refine g_iconst (v := 0) h dL_lost_2 (by decide) ?_
  refine g_aload_n h 0 dL_lost_3 rfl ?_
  refine g_iload_n h 1 dL_lost_4 rfl ?_
  refine g_iload_n h 2 dL_lost_5 rfl ?_
  refine g_iload_n h 3 dL_lost_6 rfl ?_
  refine g_iload h 4 dL_lost_7 rfl ?_
  refine L_Xi hz h hkw hKs [.int a1, .int a2, .int a3, .int a4] h9 (c_X9_lost (lEK_ok hz σ v) hkw hX hSt μ a0 a1 a2 a3 a4 X hX0) yk_X9_lost tW_797 ⟨(Nat.le_of_ble_eq_true rfl), (Nat.le_of_ble_eq_true rfl)⟩ rfl rfl (Nat.le_of_ble_eq_true rfl) dL_lost_9 ⟨(Nat.le_of_ble_eq_true rfl), (Nat.le_of_ble_eq_true rfl)⟩ (fun _ => 17) (fun b u q => ?_) (fun r u q => ?_) (fun b u n9 q9 q hn => ?_)
  · cases hb b u q
    exact ⟨[], ⟨0, 14, 17, 28⟩, [], "java/util/NoSuchElementException", hT, (fun q9 h9 => (by cases h9)), by decide, by decide, h.1.2.2.2.2 _ tW_632, va_Nw.use (xB_ot _ (by decide)) ((hX.2.1 s hKs).2.1 _ (by decide)), rfl⟩
  · subst q
    refine g_i2l h dL_lost_12 ?_
    refine L_lastore hz h dL_lost_13 ?_
    refine g_goto h 21 dL_lost_14 (by decide) ?_
    refine g_iconst (v := 0) h dL_lost_21 (by decide) ?_
    exact L_retW hz h hr ⟨rfl, rfl⟩ (Nat.le_of_ble_eq_true rfl) (Nat.le_of_ble_eq_true rfl) dL_lost_22
  · subst q
    refine g_pc (pc' := 17) rfl ?_
    refine g_astore h [(6, .ref q9), (0, .ref a0), (1, .int a1), (2, .int a2), (3, .int a3), (4, .int a4), (5, .ref (zo z))] dL_lost_17 (by decide) rfl ?_
    refine g_iconst (v := 1) h dL_lost_19 (by decide) ?_
    exact L_retW hz h hr ⟨rfl, n9, hn, rfl⟩ (Nat.le_of_ble_eq_true rfl) (Nat.le_of_ble_eq_true rfl) dL_lost_20
theorem tW_804 : (Jvm.Cond.codeWith ({ cls := "KeepForgetLaw", name := "why", desc := "(LKeepForget;II[J)I" } : Jvm.MethodName) method_17_code (5 : Nat) (Option.some Jvm.ClassFile.FieldType.int) [((0 : Nat), (10 : Nat), (13 : Nat), (28 : Nat))]) ∈ tb := tb_t 804 (by decide +kernel) (by decide +kernel)
theorem yk_L_why : yOkW yL_why cL_why 5 (some .int) [(0, 10, 13, 28)] 4 := ⟨tW_804, tW_0, tW_803, by decide, by decide, by decide +kernel⟩
def rm_L_why : Room := { frames := 8, cells := 2, slots := 12, locals := 141 }
set_option maxHeartbeats 4000000 in
theorem w_why {l : Launch} {Ke : State → Prop} {z : Lp} {adS adV adM : Nat → Nat} {adD : Nat} {μ : Km} {σ : Ms} {v : Int64} (hz : lOk z) (hkw : gKw Ke) (hX : xSt l Ke (lEK z σ v) (lAK z) adM adD) (hSt : sSt Ke (lAK z) (LKW z σ v) adS adV) (hN : ∀ U, Ke U → va_Nc "java/lang/IllegalArgumentException" "java/util/NoSuchElementException" U) (a0 : Nat) (h9 : kK μ a0 = 9) (a1 a2 : Int32) {X : (Int32 × Km) ⊕ (Bool × Km)} (hX0 : K9_why μ a0 a1 a2 = some X) (hb : ∀ b u, X = .inr (b, u) → b = true) : gW l yL_why cL_why 5 (some .int) [(0, 10, 13, 28)] rm_L_why Ke z [.ref a0, .int a1, .int a2, .ref (zo z)] (μ, σ, v) (lWP X (fun _ => 1) σ v (fun r => r.toInt64)) := by
  refine L_metW (by decide) (by simp [lg_sl, Value.category]) ?_
  intro p e s m below meth c h hr hKs hT
  refine g_lv [(0, .ref a0), (1, .int a1), (2, .int a2), (3, .ref (zo z))] [0, 1, 2, 3] rfl ?_
  refine g_aload_n h 3 dL_why_0 rfl ?_
  refine g_iconst (v := 0) h dL_why_1 (by decide) ?_
  refine g_aload_n h 0 dL_why_2 rfl ?_
  refine g_iload_n h 1 dL_why_3 rfl ?_
  refine g_iload_n h 2 dL_why_4 rfl ?_
  refine L_Xi hz h hkw hKs [.int a1, .int a2] h9 (c_X9_why (lEK_ok hz σ v) hkw hX hSt μ a0 a1 a2 X hX0) yk_X9_why tW_805 ⟨(Nat.le_of_ble_eq_true rfl), (Nat.le_of_ble_eq_true rfl)⟩ rfl rfl (Nat.le_of_ble_eq_true rfl) dL_why_5 ⟨(Nat.le_of_ble_eq_true rfl), (Nat.le_of_ble_eq_true rfl)⟩ (fun _ => 13) (fun b u q => ?_) (fun r u q => ?_) (fun b u n9 q9 q hn => ?_)
  · cases hb b u q
    exact ⟨[], ⟨0, 10, 13, 28⟩, [], "java/util/NoSuchElementException", hT, (fun q9 h9 => (by cases h9)), by decide, by decide, h.1.2.2.2.2 _ tW_632, va_Nw.use (xB_ot _ (by decide)) ((hX.2.1 s hKs).2.1 _ (by decide)), rfl⟩
  · subst q
    refine g_i2l h dL_why_8 ?_
    refine L_lastore hz h dL_why_9 ?_
    refine g_goto h 17 dL_why_10 (by decide) ?_
    refine g_iconst (v := 0) h dL_why_17 (by decide) ?_
    exact L_retW hz h hr ⟨rfl, rfl⟩ (Nat.le_of_ble_eq_true rfl) (Nat.le_of_ble_eq_true rfl) dL_why_18
  · subst q
    refine g_pc (pc' := 13) rfl ?_
    refine g_astore h [(4, .ref q9), (0, .ref a0), (1, .int a1), (2, .int a2), (3, .ref (zo z))] dL_why_13 (by decide) rfl ?_
    refine g_iconst (v := 1) h dL_why_15 (by decide) ?_
    exact L_retW hz h hr ⟨rfl, n9, hn, rfl⟩ (Nat.le_of_ble_eq_true rfl) (Nat.le_of_ble_eq_true rfl) dL_why_16
theorem tW_811 : (Jvm.Cond.codeWith ({ cls := "KeepForgetLaw", name := "places", desc := "(LKeepForget;II[J)I" } : Jvm.MethodName) method_18_code (5 : Nat) (Option.some Jvm.ClassFile.FieldType.int) [((0 : Nat), (10 : Nat), (13 : Nat), (28 : Nat))]) ∈ tb := tb_t 811 (by decide +kernel) (by decide +kernel)
theorem yk_L_places : yOkW yL_places cL_places 5 (some .int) [(0, 10, 13, 28)] 4 := ⟨tW_811, tW_0, tW_810, by decide, by decide, by decide +kernel⟩
def rm_L_places : Room := { frames := 8, cells := 2, slots := 12, locals := 134 }
set_option maxHeartbeats 4000000 in
theorem w_places {l : Launch} {Ke : State → Prop} {z : Lp} {adS adV adM : Nat → Nat} {adD : Nat} {μ : Km} {σ : Ms} {v : Int64} (hz : lOk z) (hkw : gKw Ke) (hX : xSt l Ke (lEK z σ v) (lAK z) adM adD) (hSt : sSt Ke (lAK z) (LKW z σ v) adS adV) (hN : ∀ U, Ke U → va_Nc "java/lang/IllegalArgumentException" "java/util/NoSuchElementException" U) (a0 : Nat) (h9 : kK μ a0 = 9) (a1 a2 : Int32) {X : (Int32 × Km) ⊕ (Bool × Km)} (hX0 : K9_places μ a0 a1 a2 = some X) (hb : ∀ b u, X = .inr (b, u) → b = true) : gW l yL_places cL_places 5 (some .int) [(0, 10, 13, 28)] rm_L_places Ke z [.ref a0, .int a1, .int a2, .ref (zo z)] (μ, σ, v) (lWP X (fun _ => 1) σ v (fun r => r.toInt64)) := by
  refine L_metW (by decide) (by simp [lg_sl, Value.category]) ?_
  intro p e s m below meth c h hr hKs hT
  refine g_lv [(0, .ref a0), (1, .int a1), (2, .int a2), (3, .ref (zo z))] [0, 1, 2, 3] rfl ?_
  refine g_aload_n h 3 dL_places_0 rfl ?_
  refine g_iconst (v := 0) h dL_places_1 (by decide) ?_
  refine g_aload_n h 0 dL_places_2 rfl ?_
  refine g_iload_n h 1 dL_places_3 rfl ?_
  refine g_iload_n h 2 dL_places_4 rfl ?_
  refine L_Xi hz h hkw hKs [.int a1, .int a2] h9 (c_X9_places (lEK_ok hz σ v) hkw hX hSt μ a0 a1 a2 X hX0) yk_X9_places tW_812 ⟨(Nat.le_of_ble_eq_true rfl), (Nat.le_of_ble_eq_true rfl)⟩ rfl rfl (Nat.le_of_ble_eq_true rfl) dL_places_5 ⟨(Nat.le_of_ble_eq_true rfl), (Nat.le_of_ble_eq_true rfl)⟩ (fun _ => 13) (fun b u q => ?_) (fun r u q => ?_) (fun b u n9 q9 q hn => ?_)
  · cases hb b u q
    exact ⟨[], ⟨0, 10, 13, 28⟩, [], "java/util/NoSuchElementException", hT, (fun q9 h9 => (by cases h9)), by decide, by decide, h.1.2.2.2.2 _ tW_632, va_Nw.use (xB_ot _ (by decide)) ((hX.2.1 s hKs).2.1 _ (by decide)), rfl⟩
  · subst q
    refine g_i2l h dL_places_8 ?_
    refine L_lastore hz h dL_places_9 ?_
    refine g_goto h 17 dL_places_10 (by decide) ?_
    refine g_iconst (v := 0) h dL_places_17 (by decide) ?_
    exact L_retW hz h hr ⟨rfl, rfl⟩ (Nat.le_of_ble_eq_true rfl) (Nat.le_of_ble_eq_true rfl) dL_places_18
  · subst q
    refine g_pc (pc' := 13) rfl ?_
    refine g_astore h [(4, .ref q9), (0, .ref a0), (1, .int a1), (2, .int a2), (3, .ref (zo z))] dL_places_13 (by decide) rfl ?_
    refine g_iconst (v := 1) h dL_places_15 (by decide) ?_
    exact L_retW hz h hr ⟨rfl, n9, hn, rfl⟩ (Nat.le_of_ble_eq_true rfl) (Nat.le_of_ble_eq_true rfl) dL_places_16
theorem tW_818 : (Jvm.Cond.codeWith ({ cls := "KeepForgetLaw", name := "planned", desc := "(LKeepForget;III[J)I" } : Jvm.MethodName) method_19_code (6 : Nat) (Option.some Jvm.ClassFile.FieldType.int) [((0 : Nat), (12 : Nat), (15 : Nat), (28 : Nat))]) ∈ tb := tb_t 818 (by decide +kernel) (by decide +kernel)
theorem yk_L_planned : yOkW yL_planned cL_planned 6 (some .int) [(0, 12, 15, 28)] 5 := ⟨tW_818, tW_0, tW_817, by decide, by decide, by decide +kernel⟩
def rm_L_planned : Room := { frames := 8, cells := 3, slots := 18, locals := 142 }
set_option maxHeartbeats 4000000 in
theorem w_planned {l : Launch} {Ke : State → Prop} {z : Lp} {adS adV adM : Nat → Nat} {adD : Nat} {μ : Km} {σ : Ms} {v : Int64} (hz : lOk z) (hkw : gKw Ke) (hX : xSt l Ke (lEK z σ v) (lAK z) adM adD) (hSt : sSt Ke (lAK z) (LKW z σ v) adS adV) (hN : ∀ U, Ke U → va_Nc "java/lang/IllegalArgumentException" "java/util/NoSuchElementException" U) (a0 : Nat) (h9 : kK μ a0 = 9) (a1 a2 a3 : Int32) {X : (Int32 × Km) ⊕ (Bool × Km)} (hX0 : K9_planned μ a0 a1 a2 a3 = some X) (hb : ∀ b u, X = .inr (b, u) → b = true) : gW l yL_planned cL_planned 6 (some .int) [(0, 12, 15, 28)] rm_L_planned Ke z [.ref a0, .int a1, .int a2, .int a3, .ref (zo z)] (μ, σ, v) (lWP X (fun _ => 1) σ v (fun r => r.toInt64)) := by
  refine L_metW (by decide) (by simp [lg_sl, Value.category]) ?_
  intro p e s m below meth c h hr hKs hT
  refine g_lv [(0, .ref a0), (1, .int a1), (2, .int a2), (3, .int a3), (4, .ref (zo z))] [0, 1, 2, 3, 4] rfl ?_
  refine g_aload h 4 dL_planned_0 rfl ?_
  refine g_iconst (v := 0) h dL_planned_2 (by decide) ?_
  refine g_aload_n h 0 dL_planned_3 rfl ?_
  refine g_iload_n h 1 dL_planned_4 rfl ?_
  refine g_iload_n h 2 dL_planned_5 rfl ?_
  refine g_iload_n h 3 dL_planned_6 rfl ?_
  refine L_Xi hz h hkw hKs [.int a1, .int a2, .int a3] h9 (c_X9_planned (lEK_ok hz σ v) hkw hX hSt μ a0 a1 a2 a3 X hX0) yk_X9_planned tW_819 ⟨(Nat.le_of_ble_eq_true rfl), (Nat.le_of_ble_eq_true rfl)⟩ rfl rfl (Nat.le_of_ble_eq_true rfl) dL_planned_7 ⟨(Nat.le_of_ble_eq_true rfl), (Nat.le_of_ble_eq_true rfl)⟩ (fun _ => 15) (fun b u q => ?_) (fun r u q => ?_) (fun b u n9 q9 q hn => ?_)
  · cases hb b u q
    exact ⟨[], ⟨0, 12, 15, 28⟩, [], "java/util/NoSuchElementException", hT, (fun q9 h9 => (by cases h9)), by decide, by decide, h.1.2.2.2.2 _ tW_632, va_Nw.use (xB_ot _ (by decide)) ((hX.2.1 s hKs).2.1 _ (by decide)), rfl⟩
  · subst q
    refine g_i2l h dL_planned_10 ?_
    refine L_lastore hz h dL_planned_11 ?_
    refine g_goto h 19 dL_planned_12 (by decide) ?_
    refine g_iconst (v := 0) h dL_planned_19 (by decide) ?_
    exact L_retW hz h hr ⟨rfl, rfl⟩ (Nat.le_of_ble_eq_true rfl) (Nat.le_of_ble_eq_true rfl) dL_planned_20
  · subst q
    refine g_pc (pc' := 15) rfl ?_
    refine g_astore h [(5, .ref q9), (0, .ref a0), (1, .int a1), (2, .int a2), (3, .int a3), (4, .ref (zo z))] dL_planned_15 (by decide) rfl ?_
    refine g_iconst (v := 1) h dL_planned_17 (by decide) ?_
    exact L_retW hz h hr ⟨rfl, n9, hn, rfl⟩ (Nat.le_of_ble_eq_true rfl) (Nat.le_of_ble_eq_true rfl) dL_planned_18
theorem tW_837 : (Jvm.Cond.codeWith ({ cls := "KeepForgetLaw", name := "differ", desc := "(LKeepForget;II[J)I" } : Jvm.MethodName) method_20_code (5 : Nat) (Option.some Jvm.ClassFile.FieldType.int) [((0 : Nat), (10 : Nat), (13 : Nat), (28 : Nat))]) ∈ tb := tb_t 837 (by decide +kernel) (by decide +kernel)
theorem yk_L_differ : yOkW yL_differ cL_differ 5 (some .int) [(0, 10, 13, 28)] 4 := ⟨tW_837, tW_0, tW_836, by decide, by decide, by decide +kernel⟩
def rm_L_differ : Room := { frames := 8, cells := 2, slots := 12, locals := 147 }
set_option maxHeartbeats 4000000 in
theorem w_differ {l : Launch} {Ke : State → Prop} {z : Lp} {adS adV adM : Nat → Nat} {adD : Nat} {μ : Km} {σ : Ms} {v : Int64} (hz : lOk z) (hkw : gKw Ke) (hX : xSt l Ke (lEK z σ v) (lAK z) adM adD) (hSt : sSt Ke (lAK z) (LKW z σ v) adS adV) (hN : ∀ U, Ke U → va_Nc "java/lang/IllegalArgumentException" "java/util/NoSuchElementException" U) (a0 : Nat) (h9 : kK μ a0 = 9) (a1 a2 : Int32) {X : (Int32 × Km) ⊕ (Bool × Km)} (hX0 : K9_differ μ a0 a1 a2 = some X) (hb : ∀ b u, X = .inr (b, u) → b = true) : gW l yL_differ cL_differ 5 (some .int) [(0, 10, 13, 28)] rm_L_differ Ke z [.ref a0, .int a1, .int a2, .ref (zo z)] (μ, σ, v) (lWP X (fun _ => 1) σ v (fun r => r.toInt64)) := by
  refine L_metW (by decide) (by simp [lg_sl, Value.category]) ?_
  intro p e s m below meth c h hr hKs hT
  refine g_lv [(0, .ref a0), (1, .int a1), (2, .int a2), (3, .ref (zo z))] [0, 1, 2, 3] rfl ?_
  refine g_aload_n h 3 dL_differ_0 rfl ?_
  refine g_iconst (v := 0) h dL_differ_1 (by decide) ?_
  refine g_aload_n h 0 dL_differ_2 rfl ?_
  refine g_iload_n h 1 dL_differ_3 rfl ?_
  refine g_iload_n h 2 dL_differ_4 rfl ?_
  refine L_Xi hz h hkw hKs [.int a1, .int a2] h9 (c_X9_differ (lEK_ok hz σ v) hkw hX hSt μ a0 a1 a2 X hX0) yk_X9_differ tW_838 ⟨(Nat.le_of_ble_eq_true rfl), (Nat.le_of_ble_eq_true rfl)⟩ rfl rfl (Nat.le_of_ble_eq_true rfl) dL_differ_5 ⟨(Nat.le_of_ble_eq_true rfl), (Nat.le_of_ble_eq_true rfl)⟩ (fun _ => 13) (fun b u q => ?_) (fun r u q => ?_) (fun b u n9 q9 q hn => ?_)
  · cases hb b u q
    exact ⟨[], ⟨0, 10, 13, 28⟩, [], "java/util/NoSuchElementException", hT, (fun q9 h9 => (by cases h9)), by decide, by decide, h.1.2.2.2.2 _ tW_632, va_Nw.use (xB_ot _ (by decide)) ((hX.2.1 s hKs).2.1 _ (by decide)), rfl⟩
  · subst q
    refine g_i2l h dL_differ_8 ?_
    refine L_lastore hz h dL_differ_9 ?_
    refine g_goto h 17 dL_differ_10 (by decide) ?_
    refine g_iconst (v := 0) h dL_differ_17 (by decide) ?_
    exact L_retW hz h hr ⟨rfl, rfl⟩ (Nat.le_of_ble_eq_true rfl) (Nat.le_of_ble_eq_true rfl) dL_differ_18
  · subst q
    refine g_pc (pc' := 13) rfl ?_
    refine g_astore h [(4, .ref q9), (0, .ref a0), (1, .int a1), (2, .int a2), (3, .ref (zo z))] dL_differ_13 (by decide) rfl ?_
    refine g_iconst (v := 1) h dL_differ_15 (by decide) ?_
    exact L_retW hz h hr ⟨rfl, n9, hn, rfl⟩ (Nat.le_of_ble_eq_true rfl) (Nat.le_of_ble_eq_true rfl) dL_differ_16
theorem tW_844 : (Jvm.Cond.codeWith ({ cls := "KeepForgetLaw", name := "bites", desc := "(LKeepForget;II[J)I" } : Jvm.MethodName) method_21_code (5 : Nat) (Option.some Jvm.ClassFile.FieldType.int) [((0 : Nat), (17 : Nat), (20 : Nat), (28 : Nat))]) ∈ tb := tb_t 844 (by decide +kernel) (by decide +kernel)
theorem yk_L_bites : yOkW yL_bites cL_bites 5 (some .int) [(0, 17, 20, 28)] 4 := ⟨tW_844, tW_0, tW_843, by decide, by decide, by decide +kernel⟩
def rm_L_bites : Room := { frames := 8, cells := 2, slots := 12, locals := 136 }
set_option maxHeartbeats 4000000 in
theorem w_bites {l : Launch} {Ke : State → Prop} {z : Lp} {adS adV adM : Nat → Nat} {adD : Nat} {μ : Km} {σ : Ms} {v : Int64} (hz : lOk z) (hkw : gKw Ke) (hX : xSt l Ke (lEK z σ v) (lAK z) adM adD) (hSt : sSt Ke (lAK z) (LKW z σ v) adS adV) (hN : ∀ U, Ke U → va_Nc "java/lang/IllegalArgumentException" "java/util/NoSuchElementException" U) (a0 : Nat) (h9 : kK μ a0 = 9) (a1 a2 : Int32) {X : (Int32 × Km) ⊕ (Bool × Km)} (hX0 : K9_bites μ a0 a1 a2 = some X) (hb : ∀ b u, X = .inr (b, u) → b = true) : gW l yL_bites cL_bites 5 (some .int) [(0, 17, 20, 28)] rm_L_bites Ke z [.ref a0, .int a1, .int a2, .ref (zo z)] (μ, σ, v) (lWP X (fun _ => 1) σ v bz) := by
  refine L_metW (by decide) (by simp [lg_sl, Value.category]) ?_
  intro p e s m below meth c h hr hKs hT
  refine g_lv [(0, .ref a0), (1, .int a1), (2, .int a2), (3, .ref (zo z))] [0, 1, 2, 3] rfl ?_
  refine g_aload_n h 3 dL_bites_0 rfl ?_
  refine g_iconst (v := 0) h dL_bites_1 (by decide) ?_
  refine g_aload_n h 0 dL_bites_2 rfl ?_
  refine g_iload_n h 1 dL_bites_3 rfl ?_
  refine g_iload_n h 2 dL_bites_4 rfl ?_
  refine L_Xi hz h hkw hKs [.int a1, .int a2] h9 (c_X9_bites (lEK_ok hz σ v) hkw hX hSt μ a0 a1 a2 X hX0) yk_X9_bites tW_845 ⟨(Nat.le_of_ble_eq_true rfl), (Nat.le_of_ble_eq_true rfl)⟩ rfl rfl (Nat.le_of_ble_eq_true rfl) dL_bites_5 ⟨(Nat.le_of_ble_eq_true rfl), (Nat.le_of_ble_eq_true rfl)⟩ (fun _ => 20) (fun b u q => ?_) (fun r u q => ?_) (fun b u n9 q9 q hn => ?_)
  · cases hb b u q
    exact ⟨[], ⟨0, 17, 20, 28⟩, [], "java/util/NoSuchElementException", hT, (fun q9 h9 => (by cases h9)), by decide, by decide, h.1.2.2.2.2 _ tW_632, va_Nw.use (xB_ot _ (by decide)) ((hX.2.1 s hKs).2.1 _ (by decide)), rfl⟩
  · subst q
    by_cases hr0 : r = 0
    · refine g_pos (cnd := r = 0) hr0 ?_
      refine g_if_eq h 15 dL_bites_8 (by decide) ?_ g_none
      refine g_lconst (v := 0) h dL_bites_15 (by decide) ?_
      refine L_lastore hz h dL_bites_16 ?_
      refine g_goto h 24 dL_bites_17 (by decide) ?_
      refine g_iconst (v := 0) h dL_bites_24 (by decide) ?_
      exact L_retW hz h hr ⟨rfl, by simp [bz, hr0]⟩ (Nat.le_of_ble_eq_true rfl) (Nat.le_of_ble_eq_true rfl) dL_bites_25
    · refine g_neg (cnd := r = 0) hr0 ?_
      refine g_if_eq h 15 dL_bites_8 (by decide) g_none ?_
      refine g_lconst (v := 1) h dL_bites_11 (by decide) ?_
      refine g_goto h 16 dL_bites_12 (by decide) ?_
      refine L_lastore hz h dL_bites_16 ?_
      refine g_goto h 24 dL_bites_17 (by decide) ?_
      refine g_iconst (v := 0) h dL_bites_24 (by decide) ?_
      exact L_retW hz h hr ⟨rfl, by simp [bz, hr0]⟩ (Nat.le_of_ble_eq_true rfl) (Nat.le_of_ble_eq_true rfl) dL_bites_25
  · subst q
    refine g_pc (pc' := 20) rfl ?_
    refine g_astore h [(4, .ref q9), (0, .ref a0), (1, .int a1), (2, .int a2), (3, .ref (zo z))] dL_bites_20 (by decide) rfl ?_
    refine g_iconst (v := 1) h dL_bites_22 (by decide) ?_
    exact L_retW hz h hr ⟨rfl, n9, hn, rfl⟩ (Nat.le_of_ble_eq_true rfl) (Nat.le_of_ble_eq_true rfl) dL_bites_23
theorem tW_853 : (Jvm.Cond.codeWith ({ cls := "KeepForgetLaw", name := "days", desc := "(LKeepForget;I[J)I" } : Jvm.MethodName) method_22_code (4 : Nat) (Option.some Jvm.ClassFile.FieldType.int) [((0 : Nat), (9 : Nat), (12 : Nat), (13 : Nat))]) ∈ tb := tb_t 853 (by decide +kernel) (by decide +kernel)
theorem yk_L_days : yOkW yL_days cL_days 4 (some .int) [(0, 9, 12, 13)] 3 := ⟨tW_853, tW_0, tW_852, by decide, by decide, by decide +kernel⟩
def rm_L_days : Room := { frames := 7, cells := 1, slots := 6, locals := 167 }
set_option maxHeartbeats 4000000 in
theorem w_days {l : Launch} {Ke : State → Prop} {z : Lp} {adS adV adM : Nat → Nat} {adD : Nat} {μ : Km} {σ : Ms} {v : Int64} (hz : lOk z) (hkw : gKw Ke) (hX : xSt l Ke (lEK z σ v) (lAK z) adM adD) (hSt : sSt Ke (lAK z) (LKW z σ v) adS adV) (hN : ∀ U, Ke U → va_Nc "java/lang/IllegalArgumentException" "java/util/NoSuchElementException" U) (a0 : Nat) (h9 : kK μ a0 = 9) (a1 : Int32) {X : (Int32 × Km) ⊕ (Bool × Km)} (hX0 : K9_days μ a0 a1 = some X) (hb : ∀ b u, X = .inr (b, u) → b = false) : gW l yL_days cL_days 4 (some .int) [(0, 9, 12, 13)] rm_L_days Ke z [.ref a0, .int a1, .ref (zo z)] (μ, σ, v) (lWP X (fun _ => 1) σ v (fun r => r.toInt64)) := by
  refine L_metW (by decide) (by simp [lg_sl, Value.category]) ?_
  intro p e s m below meth c h hr hKs hT
  refine g_lv [(0, .ref a0), (1, .int a1), (2, .ref (zo z))] [0, 1, 2] rfl ?_
  refine g_aload_n h 2 dL_days_0 rfl ?_
  refine g_iconst (v := 0) h dL_days_1 (by decide) ?_
  refine g_aload_n h 0 dL_days_2 rfl ?_
  refine g_iload_n h 1 dL_days_3 rfl ?_
  refine L_Xi hz h hkw hKs [.int a1] h9 (c_X9_days (lEK_ok hz σ v) hkw hX hSt μ a0 a1 X hX0) yk_X9_days tW_854 ⟨(Nat.le_of_ble_eq_true rfl), (Nat.le_of_ble_eq_true rfl)⟩ rfl rfl (Nat.le_of_ble_eq_true rfl) dL_days_4 ⟨(Nat.le_of_ble_eq_true rfl), (Nat.le_of_ble_eq_true rfl)⟩ (fun _ => 12) (fun b u q => ?_) (fun r u q => ?_) (fun b u n9 q9 q hn => ?_)
  · cases hb b u q
    exact ⟨[], ⟨0, 9, 12, 13⟩, [], "java/lang/IllegalArgumentException", hT, (fun q9 h9 => (by cases h9)), by decide, by decide, h.1.2.2.2.2 _ tW_235, va_Nw.use (xB_ot _ (by decide)) ((hX.2.1 s hKs).2.1 _ (by decide)), rfl⟩
  · subst q
    refine g_i2l h dL_days_7 ?_
    refine L_lastore hz h dL_days_8 ?_
    refine g_goto h 15 dL_days_9 (by decide) ?_
    refine g_iconst (v := 0) h dL_days_15 (by decide) ?_
    exact L_retW hz h hr ⟨rfl, rfl⟩ (Nat.le_of_ble_eq_true rfl) (Nat.le_of_ble_eq_true rfl) dL_days_16
  · subst q
    refine g_pc (pc' := 12) rfl ?_
    refine g_astore_n h [(3, .ref q9), (0, .ref a0), (1, .int a1), (2, .ref (zo z))] dL_days_12 (by decide) rfl ?_
    refine g_iconst (v := 1) h dL_days_13 (by decide) ?_
    exact L_retW hz h hr ⟨rfl, n9, hn, rfl⟩ (Nat.le_of_ble_eq_true rfl) (Nat.le_of_ble_eq_true rfl) dL_days_14
theorem tW_878 : (Jvm.Cond.codeWith ({ cls := "KeepForgetLaw", name := "entry", desc := "(LKeepForget;II[J)I" } : Jvm.MethodName) method_23_code (5 : Nat) (Option.some Jvm.ClassFile.FieldType.int) [((0 : Nat), (10 : Nat), (13 : Nat), (28 : Nat))]) ∈ tb := tb_t 878 (by decide +kernel) (by decide +kernel)
theorem yk_L_entry : yOkW yL_entry cL_entry 5 (some .int) [(0, 10, 13, 28)] 4 := ⟨tW_878, tW_0, tW_877, by decide, by decide, by decide +kernel⟩
def rm_L_entry : Room := { frames := 7, cells := 1, slots := 6, locals := 112 }
set_option maxHeartbeats 4000000 in
theorem w_entry {l : Launch} {Ke : State → Prop} {z : Lp} {adS adV adM : Nat → Nat} {adD : Nat} {μ : Km} {σ : Ms} {v : Int64} (hz : lOk z) (hkw : gKw Ke) (hX : xSt l Ke (lEK z σ v) (lAK z) adM adD) (hSt : sSt Ke (lAK z) (LKW z σ v) adS adV) (hN : ∀ U, Ke U → va_Nc "java/lang/IllegalArgumentException" "java/util/NoSuchElementException" U) (a0 : Nat) (h9 : kK μ a0 = 9) (a1 a2 : Int32) {X : (Int32 × Km) ⊕ (Bool × Km)} (hX0 : K9_entry μ a0 a1 a2 = some X) (hb : ∀ b u, X = .inr (b, u) → b = true) : gW l yL_entry cL_entry 5 (some .int) [(0, 10, 13, 28)] rm_L_entry Ke z [.ref a0, .int a1, .int a2, .ref (zo z)] (μ, σ, v) (lWP X (fun _ => 1) σ v (fun r => r.toInt64)) := by
  refine L_metW (by decide) (by simp [lg_sl, Value.category]) ?_
  intro p e s m below meth c h hr hKs hT
  refine g_lv [(0, .ref a0), (1, .int a1), (2, .int a2), (3, .ref (zo z))] [0, 1, 2, 3] rfl ?_
  refine g_aload_n h 3 dL_entry_0 rfl ?_
  refine g_iconst (v := 0) h dL_entry_1 (by decide) ?_
  refine g_aload_n h 0 dL_entry_2 rfl ?_
  refine g_iload_n h 1 dL_entry_3 rfl ?_
  refine g_iload_n h 2 dL_entry_4 rfl ?_
  refine L_Xi hz h hkw hKs [.int a1, .int a2] h9 (c_X9_entry (lEK_ok hz σ v) hkw hX hSt μ a0 a1 a2 X hX0) yk_X9_entry tW_879 ⟨(Nat.le_of_ble_eq_true rfl), (Nat.le_of_ble_eq_true rfl)⟩ rfl rfl (Nat.le_of_ble_eq_true rfl) dL_entry_5 ⟨(Nat.le_of_ble_eq_true rfl), (Nat.le_of_ble_eq_true rfl)⟩ (fun _ => 13) (fun b u q => ?_) (fun r u q => ?_) (fun b u n9 q9 q hn => ?_)
  · cases hb b u q
    exact ⟨[], ⟨0, 10, 13, 28⟩, [], "java/util/NoSuchElementException", hT, (fun q9 h9 => (by cases h9)), by decide, by decide, h.1.2.2.2.2 _ tW_632, va_Nw.use (xB_ot _ (by decide)) ((hX.2.1 s hKs).2.1 _ (by decide)), rfl⟩
  · subst q
    refine g_i2l h dL_entry_8 ?_
    refine L_lastore hz h dL_entry_9 ?_
    refine g_goto h 17 dL_entry_10 (by decide) ?_
    refine g_iconst (v := 0) h dL_entry_17 (by decide) ?_
    exact L_retW hz h hr ⟨rfl, rfl⟩ (Nat.le_of_ble_eq_true rfl) (Nat.le_of_ble_eq_true rfl) dL_entry_18
  · subst q
    refine g_pc (pc' := 13) rfl ?_
    refine g_astore h [(4, .ref q9), (0, .ref a0), (1, .int a1), (2, .int a2), (3, .ref (zo z))] dL_entry_13 (by decide) rfl ?_
    refine g_iconst (v := 1) h dL_entry_15 (by decide) ?_
    exact L_retW hz h hr ⟨rfl, n9, hn, rfl⟩ (Nat.le_of_ble_eq_true rfl) (Nat.le_of_ble_eq_true rfl) dL_entry_16
theorem tW_886 : (Jvm.Cond.codeWith ({ cls := "KeepForgetLaw", name := "count", desc := "(LKeepForget;I[J)I" } : Jvm.MethodName) method_24_code (4 : Nat) (Option.some Jvm.ClassFile.FieldType.int) [((0 : Nat), (9 : Nat), (12 : Nat), (28 : Nat))]) ∈ tb := tb_t 886 (by decide +kernel) (by decide +kernel)
theorem yk_L_count : yOkW yL_count cL_count 4 (some .int) [(0, 9, 12, 28)] 3 := ⟨tW_886, tW_0, tW_885, by decide, by decide, by decide +kernel⟩
def rm_L_count : Room := { frames := 7, cells := 1, slots := 6, locals := 112 }
set_option maxHeartbeats 4000000 in
theorem w_count {l : Launch} {Ke : State → Prop} {z : Lp} {adS adV adM : Nat → Nat} {adD : Nat} {μ : Km} {σ : Ms} {v : Int64} (hz : lOk z) (hkw : gKw Ke) (hX : xSt l Ke (lEK z σ v) (lAK z) adM adD) (hSt : sSt Ke (lAK z) (LKW z σ v) adS adV) (hN : ∀ U, Ke U → va_Nc "java/lang/IllegalArgumentException" "java/util/NoSuchElementException" U) (a0 : Nat) (h9 : kK μ a0 = 9) (a1 : Int32) {X : (Int32 × Km) ⊕ (Bool × Km)} (hX0 : K9_count μ a0 a1 = some X) (hb : ∀ b u, X = .inr (b, u) → b = true) : gW l yL_count cL_count 4 (some .int) [(0, 9, 12, 28)] rm_L_count Ke z [.ref a0, .int a1, .ref (zo z)] (μ, σ, v) (lWP X (fun _ => 1) σ v (fun r => r.toInt64)) := by
  refine L_metW (by decide) (by simp [lg_sl, Value.category]) ?_
  intro p e s m below meth c h hr hKs hT
  refine g_lv [(0, .ref a0), (1, .int a1), (2, .ref (zo z))] [0, 1, 2] rfl ?_
  refine g_aload_n h 2 dL_count_0 rfl ?_
  refine g_iconst (v := 0) h dL_count_1 (by decide) ?_
  refine g_aload_n h 0 dL_count_2 rfl ?_
  refine g_iload_n h 1 dL_count_3 rfl ?_
  refine L_Xi hz h hkw hKs [.int a1] h9 (c_X9_count (lEK_ok hz σ v) hkw hX hSt μ a0 a1 X hX0) yk_X9_count tW_887 ⟨(Nat.le_of_ble_eq_true rfl), (Nat.le_of_ble_eq_true rfl)⟩ rfl rfl (Nat.le_of_ble_eq_true rfl) dL_count_4 ⟨(Nat.le_of_ble_eq_true rfl), (Nat.le_of_ble_eq_true rfl)⟩ (fun _ => 12) (fun b u q => ?_) (fun r u q => ?_) (fun b u n9 q9 q hn => ?_)
  · cases hb b u q
    exact ⟨[], ⟨0, 9, 12, 28⟩, [], "java/util/NoSuchElementException", hT, (fun q9 h9 => (by cases h9)), by decide, by decide, h.1.2.2.2.2 _ tW_632, va_Nw.use (xB_ot _ (by decide)) ((hX.2.1 s hKs).2.1 _ (by decide)), rfl⟩
  · subst q
    refine g_i2l h dL_count_7 ?_
    refine L_lastore hz h dL_count_8 ?_
    refine g_goto h 15 dL_count_9 (by decide) ?_
    refine g_iconst (v := 0) h dL_count_15 (by decide) ?_
    exact L_retW hz h hr ⟨rfl, rfl⟩ (Nat.le_of_ble_eq_true rfl) (Nat.le_of_ble_eq_true rfl) dL_count_16
  · subst q
    refine g_pc (pc' := 12) rfl ?_
    refine g_astore_n h [(3, .ref q9), (0, .ref a0), (1, .int a1), (2, .ref (zo z))] dL_count_12 (by decide) rfl ?_
    refine g_iconst (v := 1) h dL_count_13 (by decide) ?_
    exact L_retW hz h hr ⟨rfl, n9, hn, rfl⟩ (Nat.le_of_ble_eq_true rfl) (Nat.le_of_ble_eq_true rfl) dL_count_14
