section GQ
def om {Rt : Type} (r : Option Nat) (o1 : Option Rt) (k : Nat → Option Rt) : Option Rt := match r with
  | none => o1
  | some a => k a
def gPq {S : Type} (Wd : S → State → Heap → Prop) (A : Nat → Prop) (X : Option Nat × S) : Array Value → State → Outcome → State → Prop := va_Qq (fun r u => (r, u) = X) (fun u t => Wd u t t.heap) A
def gCq {S : Type} (l : Launch) (y : MethodName) (cc : ByteArray) (n : Nat) (ret : Option FieldType) (rm : Room) (Ke : State → Prop) (Wd : S → State → Heap → Prop) (A : Nat → Prop) (av : List Value) (σ : S) (o : Option (Option Nat)) : Prop := ∀ r, o = some r → Met l y (wt y cc n ret) rm (gPre Ke Wd av σ) (gPq Wd A (r, σ)) rm.cells rm.slots A
variable {p : Program} {l : Launch} {e : Env} {R : Room} {s : State} {m : MethodId} {args : Array Value} {below : List Frame} {meth : Method} {c : Code}
variable {S Rt : Type} {cc : ByteArray} {nL : Nat} {own : String} {Ts : List Cond} {A : Nat → Prop} {Ke : State → Prop} {Wd : S → State → Heap → Prop} {QX : Rt → State → Prop} {cells slots mc ms : Nat} {o o1 o2 : Option Rt} {σ : S} {pc : Nat} {lv : List (Nat × Value)} {st : List Value}
theorem g_ldcw (h : gOk p s m args meth c cc nL own Ts) {index : Nat} {v : Int32} (hc : Cond.constant own index v ∈ Ts) (hd : decode cc pc = .ok (.ldc_w index, 3)) (kk : gS p l e R s m args below meth c nL A Wd QX cells slots o σ (pc + 3) lv (.int v :: st)) : gS p l e R s m args below meth c nL A Wd QX cells slots o σ pc lv (st) := fun X hX H locs ls hw hS hl => lv_ldcw h.1.1 h.1.2.1 h.1.2.2.2.1 (h.1.2.2.2.2 _ hc) hd (kk X hX H locs ls hw hS hl)
theorem g_wid (c2 s2 : Nat) (h1 : cells ≤ c2) (h2 : slots ≤ s2) (kk : gS p l e R s m args below meth c nL A Wd QX c2 s2 o σ pc lv st) : gS p l e R s m args below meth c nL A Wd QX cells slots o σ pc lv st := fun X hX H locs ls hw hS hl => W.widen h1 h2 (kk X hX H locs ls hw hS hl)
theorem g_ob {r : Option Nat} {k : Nat → Option Rt} (kk : ∀ b : Nat, gS p l e R s m args below meth c nL A Wd QX cells slots (k b) σ pc lv (.ref b :: st)) : gS p l e R s m args below meth c nL A Wd QX cells slots (r.bind k) σ pc lv (va_rf r :: st) := by
  cases r with
  | none => exact g_none
  | some b => exact kk b
theorem g_aload_nq (h : gOk p s m args meth c cc nL own Ts) {k : Fin 4} {r : Option Nat} (i : Nat) (hd : decode cc pc = .ok (.aload_n k, 1)) (hi : lv[i]? = some ((k : Nat), va_rf r)) (kk : gS p l e R s m args below meth c nL A Wd QX cells slots o σ (pc + 1) lv (va_rf r :: st)) : gS p l e R s m args below meth c nL A Wd QX cells slots o σ pc lv st := fun X hX H locs ls hw hS hl => by
  cases r with
  | none => exact lv_aload_nN h.1.1 h.1.2.1 hd rfl (lv_at hl i hi) (kk X hX H locs ls hw hS hl)
  | some b => exact lv_aload_n h.1.1 h.1.2.1 hd rfl (lv_at hl i hi) (kk X hX H locs ls hw hS hl)
theorem g_aloadq (h : gOk p s m args meth c cc nL own Ts) {k : Nat} {r : Option Nat} (i : Nat) (hd : decode cc pc = .ok (.aload k, 2)) (hi : lv[i]? = some (k, va_rf r)) (kk : gS p l e R s m args below meth c nL A Wd QX cells slots o σ (pc + 2) lv (va_rf r :: st)) : gS p l e R s m args below meth c nL A Wd QX cells slots o σ pc lv st := fun X hX H locs ls hw hS hl => by
  cases r with
  | none => exact lv_aloadN h.1.1 h.1.2.1 hd (lv_at hl i hi) (kk X hX H locs ls hw hS hl)
  | some b => exact lv_aload h.1.1 h.1.2.1 hd (lv_at hl i hi) (kk X hX H locs ls hw hS hl)
theorem g_astore_nq (h : gOk p s m args meth c cc nL own Ts) {k : Fin 4} {r : Option Nat} (lv' : List (Nat × Value)) (hd : decode cc pc = .ok (.astore_n k, 1)) (hn : (k : Nat) < nL) (hv : ((k : Nat), va_rf r) :: lv.filter (fun q => !(q.1 == (k : Nat)) && !(q.1 + 1 == (k : Nat) && q.2.category == 2)) = lv') (kk : gS p l e R s m args below meth c nL A Wd QX cells slots o σ (pc + 1) lv' st) : gS p l e R s m args below meth c nL A Wd QX cells slots o σ pc lv (va_rf r :: st) := fun X hX H locs ls hw hS hl => by
  cases r with
  | none => exact lv_astore_nN h.1.1 h.1.2.1 hd rfl hl hn hv (fun ls' hl' => kk X hX H locs ls' hw hS hl')
  | some b => exact lv_astore_n h.1.1 h.1.2.1 hd rfl hl hn hv (fun ls' hl' => kk X hX H locs ls' hw hS hl')
theorem g_astoreq (h : gOk p s m args meth c cc nL own Ts) {k : Nat} {r : Option Nat} (lv' : List (Nat × Value)) (hd : decode cc pc = .ok (.astore k, 2)) (hn : k < nL) (hv : (k, va_rf r) :: lv.filter (fun q => !(q.1 == k) && !(q.1 + 1 == k && q.2.category == 2)) = lv') (kk : gS p l e R s m args below meth c nL A Wd QX cells slots o σ (pc + 2) lv' st) : gS p l e R s m args below meth c nL A Wd QX cells slots o σ pc lv (va_rf r :: st) := fun X hX H locs ls hw hS hl => by
  cases r with
  | none => exact lv_astoreN h.1.1 h.1.2.1 hd hl hn hv (fun ls' hl' => kk X hX H locs ls' hw hS hl')
  | some b => exact lv_astore h.1.1 h.1.2.1 hd hl hn hv (fun ls' hl' => kk X hX H locs ls' hw hS hl')
theorem g_ifnonnull (h : gOk p s m args meth c cc nL own Ts) {r : Option Nat} {k : Nat → Option Rt} {off : Int} (L : Option Nat → List (Nat × Value)) (tgt : Nat) (hd : decode cc pc = .ok (.ifnonnull off, 3)) (ht : (pc : Int) + off = (tgt : Int)) (k1 : gS p l e R s m args below meth c nL A Wd QX cells slots o1 σ (pc + 3) (L none) st) (k2 : ∀ a : Nat, gS p l e R s m args below meth c nL A Wd QX cells slots (k a) σ tgt (L (some a)) st) : gS p l e R s m args below meth c nL A Wd QX cells slots (om r o1 k) σ pc (L r) (va_rf r :: st) := by
  cases r with
  | none => exact fun X hX H locs ls hw hS hl => lv_ifnonnullN h.1.1 h.1.2.1 hd (k1 X hX H locs ls hw hS hl)
  | some a => exact fun X hX H locs ls hw hS hl => lv_ifnonnull h.1.1 h.1.2.1 hd ht (k2 a X hX H locs ls hw hS hl)
theorem g_ifnull (h : gOk p s m args meth c cc nL own Ts) {r : Option Nat} {k : Nat → Option Rt} {off : Int} (L : Option Nat → List (Nat × Value)) (tgt : Nat) (hd : decode cc pc = .ok (.ifnull off, 3)) (ht : (pc : Int) + off = (tgt : Int)) (k1 : gS p l e R s m args below meth c nL A Wd QX cells slots o1 σ tgt (L none) st) (k2 : ∀ a : Nat, gS p l e R s m args below meth c nL A Wd QX cells slots (k a) σ (pc + 3) (L (some a)) st) : gS p l e R s m args below meth c nL A Wd QX cells slots (om r o1 k) σ pc (L r) (va_rf r :: st) := by
  cases r with
  | none => exact fun X hX H locs ls hw hS hl => lv_ifnullN h.1.1 h.1.2.1 hd ht (k1 X hX H locs ls hw hS hl)
  | some a => exact fun X hX H locs ls hw hS hl => lv_ifnull h.1.1 h.1.2.1 hd (k2 a X hX H locs ls hw hS hl)
theorem g_acmp_ne (h : gOk p s m args meth c cc nL own Ts) {x y : Nat} {off : Int} (tgt : Nat) (hd : decode cc pc = .ok (.if_acmp .ne off, 3)) (ht : (pc : Int) + off = (tgt : Int)) (k1 : gS p l e R s m args below meth c nL A Wd QX cells slots o1 σ tgt lv st) (k2 : gS p l e R s m args below meth c nL A Wd QX cells slots o2 σ (pc + 3) lv st) : gS p l e R s m args below meth c nL A Wd QX cells slots (if x = y then o2 else o1) σ pc lv (.ref y :: .ref x :: st) := fun X hX H locs ls hw hS hl =>
  lv_acmp_ne (rx := some x) (ry := some y) h.1.1 h.1.2.1 hd ht (fun q => k1 X (by rw [if_neg (fun z => q (by rw [z]))] at hX; exact hX) H locs ls hw hS hl) (fun q => k2 X (by rw [if_pos (Option.some.inj q)] at hX; exact hX) H locs ls hw hS hl)
theorem g_null (h : gOk p s m args meth c cc nL own Ts) (hd : decode cc pc = .ok (.aconst_null, 1)) (kk : gS p l e R s m args below meth c nL A Wd QX cells slots o σ (pc + 1) lv (.null :: st)) : gS p l e R s m args below meth c nL A Wd QX cells slots o σ pc lv st := fun X hX H locs ls hw hS hl => lv_null h.1.1 h.1.2.1 hd (kk X hX H locs ls hw hS hl)
theorem g_objInit (h : gOk p s m args meth c cc nL own Ts) {a idx : Nat} (hw1 : Cond.methodLink own idx Lib.objectInit ∈ Ts) (hw2 : Cond.instanceMethod Lib.objectInit ∈ Ts) (hw3 : Cond.code Lib.objectInit ⟨#[0xb1]⟩ 1 none ∈ Ts) (hf : 1 ≤ R.frames) (hlo : (st.map fun v => v.category).sum + 12 ≤ R.locals) (hd : decode cc pc = .ok (.invokespecial idx, 3)) (kk : gS p l e R s m args below meth c nL A Wd QX cells slots o σ (pc + 3) lv st) : gS p l e R s m args below meth c nL A Wd QX cells slots o σ pc lv (.ref a :: st) := fun X hX H locs ls hw hS hl =>
  W.objInit h.1.1 h.1.2.1 h.1.2.2.2.1 (h.1.2.2.2.2 _ hw1) (h.1.2.2.2.2 _ hw2) (h.1.2.2.2.2 _ hw3) rfl (hl.1.trans h.1.2.2.1.symm) rfl hd hf (by show 2 * 0 + _ + 12 ≤ _; omega) (kk X hX H locs ls hw hS hl)
theorem g_qret (h : gOk p s m args meth c cc nL own Ts) (hmv : gMv Wd) {rt : FieldType} (hr : meth.sig.returnType = some rt) (href : rt.isReference = true) (hc : cells ≤ mc) (hs : slots ≤ ms) {r : Option Nat} (hd : decode cc pc = .ok (.areturn, 1)) : gS p l e R s m args below meth c nL A Wd (fun r => MQ below (gPq Wd A (r, σ)) args s mc ms A) cells slots (some r) σ pc lv [va_rf r] := by
  intro X hX H locs ls hw hS hl
  cases hX
  refine W.widen hc hs (W.aret (v := va_rf r) (rt := rt) h.1.1 h.1.2.1 hr ?_ ?_ (fun t ht hW => ⟨⟨r, σ, rfl, rfl, by show Wd σ t t.heap; rw [ht]; exact hmv _ _ _ _ hW.alike hw⟩, hS.F ht⟩) hS.2.2 hd h.2)
  all_goals (cases r <;> cases rt <;> first | (cases href; done) | rfl | exact Or.inl rfl | exact Or.inr ⟨_, rfl⟩ | exact Or.inl ⟨_, rfl⟩ | exact Or.inr rfl)
theorem g_metq {l : Launch} {y : MethodName} {rm : Room} {cc : ByteArray} {maxL : Nat} {ret : Option FieldType} {av : List Value} {o : Option (Option Nat)} (hy : plainName y.cls = true) (hav : (lg_sl av).length ≤ maxL)
    (body : ∀ (p : Program) (e : Env) (s : State) (m : MethodId) (below : List Frame) (meth : Method) (c : Code), gOk p s m av.toArray meth c cc maxL y.cls tb → meth.sig.returnType = ret → Ke s → gS p l e rm s m av.toArray below meth c maxL A Wd (fun X => MQ below (gPq Wd A (X, σ)) av.toArray s rm.cells rm.slots A) 0 0 o σ 0 (lv_args 0 av) []) : gCq l y cc maxL ret rm Ke Wd A av σ o := by
  intro X hX
  refine Met.ofW (cc := cc) (maxL := maxL) (ret := ret) hy rfl ?_
  intro p e s m args below meth c s₁ B hml hv
  obtain ⟨rfl, hW0, hK0⟩ := hv
  have hl := lv_entry av (n := maxL) hav
  rw [lg_entry_eq]
  exact body p e s m below meth c ⟨⟨B.exec, B.bytes, hml, findClass_of_methodNamed B.named, fun w hw => atoms_spec (ws := wt y cc maxL ret) B.pre w (List.mem_cons_of_mem _ hw)⟩, B.notSynchronized⟩ B.returns hK0 X hX s.heap [] _ hW0 va_S.rf hl
theorem g_metI {l : Launch} {y : MethodName} {rm : Room} {cc : ByteArray} {maxL : Nat} {av : List Value} {o : Option S} (hy : plainName y.cls = true) (hyn : y.name = "<init>") (hav : (lg_sl av).length ≤ maxL)
    (body : ∀ (p : Program) (e : Env) (s : State) (m : MethodId) (below : List Frame) (meth : Method) (c : Code), gOk p s m av.toArray meth c cc maxL y.cls tb → meth.sig.returnType = none → meth.name = "<init>" → Ke s → gS p l e rm s m av.toArray below meth c maxL A Wd (fun X => MQ below (gPv Wd A X) av.toArray s rm.cells rm.slots A) 0 0 o σ 0 (lv_args 0 av) []) : gCv l y cc maxL none rm Ke Wd A av σ o := by
  intro X hX
  refine Met.ofW (cc := cc) (maxL := maxL) (ret := none) hy rfl ?_
  intro p e s m args below meth c s₁ B hml hv
  obtain ⟨rfl, hW0, hK0⟩ := hv
  have hl := lv_entry av (n := maxL) hav
  rw [lg_entry_eq]
  exact body p e s m below meth c ⟨⟨B.exec, B.bytes, hml, findClass_of_methodNamed B.named, fun w hw => atoms_spec (ws := wt y cc maxL none) B.pre w (List.mem_cons_of_mem _ hw)⟩, B.notSynchronized⟩ B.returns ((name_of_methodNamed B.named B.method).1.trans hyn) hK0 X hX s.heap [] _ hW0 va_S.rf hl
variable {y : MethodName} {bytes : ByteArray} {maxL n index : Nat} {ret : Option FieldType} {rm : Room}
def yOkI (y : MethodName) (bytes : ByteArray) (maxL : Nat) (n : Nat) : Prop := Cond.code y bytes maxL none ∈ tb ∧ Cond.initialized y.cls ∈ tb ∧ Cond.instanceMethod y ∈ tb ∧ y.name = "<init>" ∧ y.cls ≠ "java/lang/invoke/MethodHandle" ∧ y.cls ≠ "java/lang/invoke/VarHandle" ∧ (parseMethodDescriptor y.desc).map (fun d => d.parameters.length) = some n
theorem g_callIv (h : gOk p s m args meth c cc nL own tb) (hmv : gMv Wd) (hkw : gKw Ke) (hKs : Ke s) {b : Nat} (As : List Value) {stk : List Value} {f : Option S} {k : S → Option Rt} (hM : gCv l y bytes maxL none rm Ke Wd A (.ref b :: As) σ f) (hy : yOkI y bytes maxL n) (hml : Cond.methodLink own index y ∈ tb) (hR : yRm rm R maxL) (hn : As.length = n) (hst : stk = As.reverse ++ .ref b :: st) (hro : (st.map fun v => v.category).sum ≤ 8) (hd : decode cc pc = .ok (.invokespecial index, 3)) (hf : cells + rm.cells ≤ R.cells ∧ slots + rm.slots ≤ R.slots) (kk : ∀ σ', f = some σ' → gS p l e R s m args below meth c nL A Wd QX (cells + rm.cells) (slots + rm.slots) (k σ') σ' (pc + 3) lv st) : gS p l e R s m args below meth c nL A Wd QX cells slots (f.bind k) σ pc lv stk := by
  intro X hX H locs ls hw hS hl
  subst hst
  cases hf0 : f with
  | none => rw [hf0] at hX; cases hX
  | some u0 =>
  rw [hf0] at hX
  refine va_callv (va_runI (As := As) (rest := st) h.1 (hM u0 hf0) ⟨callB_of n h.1.2.2.2.2 (tb_in hy.1) rfl rfl rfl (h.1.2.2.2.2 _ hy.2.1) (h.1.2.2.2.2 _ hml) hy.2.2.2.2 hR, hy.2.2.2.1, h.1.2.2.2.2 _ hy.2.2.1⟩ ⟨fun a U g mk q => ⟨q.1, hmv _ U (U.calling g mk a) _ (Vm.Alike.refl U.vm) q.2.1, hkw U (U.calling g mk a) (State.WarmedH.refl U) q.2.2⟩, fun U hU hW => ⟨rfl, by rw [hU]; exact hmv _ _ _ _ hW.alike hw, hkw _ _ hW hKs⟩⟩ rfl hn hl.1 rfl (lv_room hro) hd hf) hS (fun q _ z => z) (fun q z => z) (fun u t H1 locs1 ht hvm hp hB hz hk hS1 => ?_)
  subst hp
  exact kk u hf0 X hX H1 locs1 ls (by rw [← ht]; exact hmv _ _ _ _ hvm.symm hB) hS1 hl
theorem g_callV0q (h : gOk p s m args meth c cc nL own tb) (hmv : gMv Wd) (hkw : gKw Ke) (hKs : Ke s) {C : String} {b : Nat} (As : List Value) {stk : List Value} {f : Option (Option Nat)} {k : Option Nat → Option Rt} (hM : gCq l y bytes maxL ret rm Ke Wd A (.ref b :: As) σ f) (hy : yOkV y bytes maxL ret C n) (hml : Cond.methodLink own index y ∈ tb) (hR : yRm rm R maxL) (hrc : ∀ H, Wd σ s H → ∃ cellB : Cell, H[b]? = some cellB ∧ cellB.vm.isStatics = false ∧ s.vm.findClass C = some cellB.cls) (hn : As.length = n) (hst : stk = As.reverse ++ .ref b :: st) (h0c : rm.cells = 0) (h0s : rm.slots = 0) (hro : (st.map fun v => v.category).sum ≤ 8) (hd : decode cc pc = .ok (.invokevirtual index, 3)) (hf : cells ≤ R.cells ∧ slots ≤ R.slots) (kk : ∀ r, gS p l e R s m args below meth c nL A Wd QX cells slots (k r) σ (pc + 3) lv (va_rf r :: st)) : gS p l e R s m args below meth c nL A Wd QX cells slots (f.bind k) σ pc lv stk := by
  intro X hX H locs ls hw hS hl
  subst hst
  cases hf0 : f with
  | none => rw [hf0] at hX; cases hX
  | some u0 =>
  rw [hf0] at hX
  refine va_callq (va_runV (As := As) (rest := st) h.1 (hM u0 hf0) (cwT h.1.2.2.2.2 hy hml hR) ⟨fun a U g mk q => ⟨q.1, hmv _ U (U.calling g mk a) _ (Vm.Alike.refl U.vm) q.2.1, hkw U (U.calling g mk a) (State.WarmedH.refl U) q.2.2⟩, hrc H hw, fun U hU hW => ⟨rfl, by rw [hU]; exact hmv _ _ _ _ hW.alike hw, hkw _ _ hW hKs⟩⟩ rfl hn hl.1 rfl (lv_room hro) hd ⟨by rw [h0c]; exact hf.1, by rw [h0s]; exact hf.2⟩) hS (fun q _ z => z) (fun q z => z) (fun r u t H1 locs1 ht hvm hp hB hz hk hS1 => ?_)
  cases hp
  rw [h0c, h0s]
  exact kk _ X hX H1 locs1 ls (by rw [← ht]; exact hmv _ _ _ _ hvm.symm hB) hS1 hl
end GQ
section KW
abbrev Km : Type := (Nat → Nat) × (Nat → Nat → Int32) × (Nat → Nat → Option Nat) × (Nat → Nat) × Nat
def kK (μ : Km) (a : Nat) : Nat := μ.1 a
def kI (μ : Km) (a j : Nat) : Int32 := μ.2.1 a j
def kR (μ : Km) (a j : Nat) : Option Nat := μ.2.2.1 a j
def kN (μ : Km) (a : Nat) : Nat := μ.2.2.2.1 a
def kn (μ : Km) : Nat := μ.2.2.2.2
def kSetI (μ : Km) (a j : Nat) (x : Int32) : Km := (μ.1, va_up μ.2.1 a (upd (μ.2.1 a) j x), μ.2.2)
def kSetR (μ : Km) (a j : Nat) (r : Option Nat) : Km := (μ.1, μ.2.1, va_up μ.2.2.1 a (va_up (μ.2.2.1 a) j r), μ.2.2.2)
def kNew (μ : Km) (k z : Nat) : Km := (va_up μ.1 μ.2.2.2.2 k, va_up μ.2.1 μ.2.2.2.2 (fun _ => 0), va_up μ.2.2.1 μ.2.2.2.2 (fun _ => none), va_up μ.2.2.2.1 μ.2.2.2.2 z, μ.2.2.2.2 + 1)
def ksn (μ : Km) (n : Nat) : Km := (μ.1, μ.2.1, μ.2.2.1, μ.2.2.2.1, n)
def kL (ci : Nat) : List Bool := match ci with
  | 0 => [true, false, false]
  | 1 => [true, false, false]
  | 2 => [false, false, false, false, false, false, false, false, false, true, true, true]
  | 3 => [true, false, false, false, false, false, false]
  | 4 => [false, true, false, true, false]
  | 5 => [false, false, false, false, true, false, false, false]
  | 6 => [false, false]
  | 7 => [false, true, true, true, false, false]
  | 8 => [true, false, false, true, false, true, false, true, true, false, true, true, false]
  | 9 => [false, false, false, false, false, false, false, false, false, true, true, true, true, true, true, true, true, true, true, true, true, true, true, true, true, true, true, true, true, true, true, true, true, true, true, true, true, true, true, false, false, false, false, false, false, false, false, false, false, false, false, false, false, true, false, true, true, true, true, true]
  | _ => []
def kFl (μ : Km) (a : Nat) : Nat → List Bool → List Value
  | _, [] => []
  | j, b :: L => (if b = true then va_rf (kR μ a j) else .int (kI μ a j)) :: kFl μ a (j + 1) L
theorem kFl_get {μ : Km} {a : Nat} : ∀ (L : List Bool) (j i : Nat), (kFl μ a j L)[i]? = (L[i]?).map (fun b => if b = true then va_rf (kR μ a (j + i)) else .int (kI μ a (j + i)))
  | [], j, i => by simp [kFl]
  | b :: L, j, 0 => by simp [kFl]
  | b :: L, j, i + 1 => by
    rw [kFl, List.getElem?_cons_succ, List.getElem?_cons_succ, kFl_get L (j + 1) i, show j + 1 + i = j + (i + 1) by omega]
theorem kFl_len {μ : Km} {a : Nat} : ∀ (L : List Bool) (j : Nat), (kFl μ a j L).length = L.length
  | [], j => rfl
  | b :: L, j => by rw [kFl, List.length_cons, List.length_cons, kFl_len L (j + 1)]
theorem kFl_cong {μ ν : Km} {a : Nat} {L : List Bool} (h1 : ∀ j, kI μ a j = kI ν a j) (h2 : ∀ j, kR μ a j = kR ν a j) : kFl μ a 0 L = kFl ν a 0 L := by
  apply List.ext_getElem?
  intro i
  rw [kFl_get, kFl_get]
  simp [h1, h2]
theorem kI_set {μ : Km} {a j : Nat} {x : Int32} (b i : Nat) : kI (kSetI μ a j x) b i = if b = a ∧ i = j then x else kI μ b i := by
  by_cases h : b = a
  · subst h
    by_cases h2 : i = j
    · subst h2; simp [kI, kSetI, va_up, upd]
    · simp [kI, kSetI, va_up, upd, h2]
  · simp [kI, kSetI, va_up, h]
theorem kR_set {μ : Km} {a j : Nat} {x : Option Nat} (b i : Nat) : kR (kSetR μ a j x) b i = if b = a ∧ i = j then x else kR μ b i := by
  by_cases h : b = a
  · subst h
    by_cases h2 : i = j
    · subst h2; simp [kR, kSetR, va_up]
    · simp [kR, kSetR, va_up, h2]
  · simp [kR, kSetR, va_up, h]
theorem kFl_setI {μ : Km} {a k : Nat} {x : Int32} {L : List Bool} (h : L[k]? = some false) : kFl (kSetI μ a k x) a 0 L = (kFl μ a 0 L).set k (.int x) := by
  have hl : k < L.length := (List.getElem?_eq_some_iff.mp h).1
  apply List.ext_getElem?
  intro i
  by_cases e : k = i
  · subst e
    rw [List.getElem?_set_self (by rw [kFl_len]; exact hl), kFl_get, h]
    simp [kI_set]
  · rw [List.getElem?_set_ne e, kFl_get, kFl_get]
    have e2 : ¬ i = k := fun z => e z.symm
    simp only [Nat.zero_add, kI_set, e2, and_false, if_false]
    rfl
theorem kFl_setR {μ : Km} {a k : Nat} {x : Option Nat} {L : List Bool} (h : L[k]? = some true) : kFl (kSetR μ a k x) a 0 L = (kFl μ a 0 L).set k (va_rf x) := by
  have hl : k < L.length := (List.getElem?_eq_some_iff.mp h).1
  apply List.ext_getElem?
  intro i
  by_cases e : k = i
  · subst e
    rw [List.getElem?_set_self (by rw [kFl_len]; exact hl), kFl_get, h]
    simp [kR_set]
  · rw [List.getElem?_set_ne e, kFl_get, kFl_get]
    have e2 : ¬ i = k := fun z => e z.symm
    simp only [Nat.zero_add, kR_set, e2, and_false, if_false]
    rfl
def kE (cA : Nat → ClassId) (μ : Km) (a : Nat) : va_E := if kK μ a ≤ 10 then .inr (kK μ a - 1, kFl μ a 0 (kL (kK μ a - 1))) else if kK μ a ≤ 13 then .inl (cA (kK μ a), kN μ a, .inl (kI μ a)) else .inl (cA (kK μ a), kN μ a, .inr (.inr (.inr (.inr (kR μ a)))))
theorem kE_obj {cA : Nat → ClassId} {μ : Km} {a ci : Nat} (h : kK μ a = ci + 1) (hc : ci < 10) : kE cA μ a = .inr (ci, kFl μ a 0 (kL ci)) := by
  unfold kE
  rw [h, if_pos (by omega), show ci + 1 - 1 = ci by omega]
theorem kE_int {cA : Nat → ClassId} {μ : Km} {a k : Nat} (h : kK μ a = k) (h1 : 10 < k) (h2 : k ≤ 13) : kE cA μ a = .inl (cA k, kN μ a, .inl (kI μ a)) := by
  unfold kE
  rw [h, if_neg (by omega), if_pos h2]
theorem kE_ref {cA : Nat → ClassId} {μ : Km} {a k : Nat} (h : kK μ a = k) (h1 : 13 < k) : kE cA μ a = .inl (cA k, kN μ a, .inr (.inr (.inr (.inr (kR μ a))))) := by
  unfold kE
  rw [h, if_neg (by omega), if_neg (by omega)]
theorem kE_cong {cA : Nat → ClassId} {μ ν : Km} {a : Nat} (h0 : kK μ a = kK ν a) (h1 : kI μ a = kI ν a) (h2 : kR μ a = kR ν a) (h3 : kN μ a = kN ν a) : kE cA μ a = kE cA ν a := by
  unfold kE
  rw [h0, h1, h2, h3, kFl_cong (ν := ν) (fun j => by rw [h1]) (fun j => by rw [h2])]
def kTys (cA : Nat → ClassId) : List (ClassId × FieldType) := [(cA 11, .byte), (cA 12, .int), (cA 13, .boolean), (cA 14, .object "KeepForget$Hold"), (cA 15, .object "KeepForget$Rule"), (cA 16, .object "KeepForget$RuleSet"), (cA 17, .object "KeepForget$Sweeper"), (cA 18, .object "KeepForget$Thing")]
def KW (D : va_G) (cA : Nat → ClassId) (E : State → Heap → Prop) (A : Nat → Prop) (μ : Km) (U : State) (H : Heap) : Prop :=
  va_K D vwCl (kTys cA) U ∧ E U H ∧ kn μ = H.size ∧ (∀ q, H.size ≤ q → A q) ∧ ∀ a, kK μ a ≠ 0 → A a ∧ va_at D vwCl (a, kE cA μ a) H
theorem KW_mv {D : va_G} {cA : Nat → ClassId} {E : State → Heap → Prop} {A : Nat → Prop} (hE : mEok E A) : gMv (KW D cA E A) := fun μ u U H hvm h => ⟨h.1.moved hvm, hE.1 _ _ _ hvm h.2.1, h.2.2⟩
theorem KW_obj {D : va_G} {cA : Nat → ClassId} {E : State → Heap → Prop} {A : Nat → Prop} {μ : Km} {U : State} {H : Heap} (h : KW D cA E A μ U H) {a ci : Nat} (hk : kK μ a = ci + 1) (hc : ci < 10) : A a ∧ va_at D vwCl (a, .inr (ci, kFl μ a 0 (kL ci))) H := by
  have := h.2.2.2.2 a (by rw [hk]; omega)
  rw [kE_obj hk hc] at this
  exact this
theorem KW_recv {D : va_G} {cA : Nat → ClassId} {E : State → Heap → Prop} {A : Nat → Prop} {μ : Km} {s : State} (a ci : Nat) {r : vw_C} (hk : kK μ a = ci + 1) (hc : ci < 10) (hr : vwCl[ci]? = some r) : ∀ H, KW D cA E A μ s H → ∃ cellB : Cell, H[a]? = some cellB ∧ cellB.vm.isStatics = false ∧ s.vm.findClass r.1 = some cellB.cls := fun H h => va_recv (ci := ci) (q0 := 0) h.1 (va_P1 (KW_obj h hk hc).2) hr rfl
/-- one cell is written, all else stays -/
theorem KW_put {D : va_G} {cA : Nat → ClassId} {E : State → Heap → Prop} {A : Nat → Prop} {μ ν : Km} {U : State} {H H1 : Heap} {a : Nat} (hE : mEok E A) (h : KW D cA E A μ U H) (ha : kK μ a ≠ 0) (hz : H1.size = H.size) (oq : ∀ q, q ≠ a → H1[q]? = H[q]?) (hn : kn ν = kn μ) (hk : ∀ b, kK ν b = kK μ b) (hc : ∀ b, b ≠ a → kE cA ν b = kE cA μ b) (hat : va_at D vwCl (a, kE cA ν a) H1) : KW D cA E A ν U H1 := by
  obtain ⟨h1, h2, h3, h4, h5⟩ := h
  have hA := (h5 a ha).1
  refine ⟨h1, hE.2 _ _ _ (fun q _ hq => oq q (fun z => hq (z ▸ hA))) h2, by rw [hn, hz]; exact h3, fun q hq => h4 q (by omega), fun b hb => ?_⟩
  rw [hk] at hb
  by_cases e : b = a
  · subst e; exact ⟨hA, hat⟩
  · refine ⟨(h5 b hb).1, ?_⟩
    rw [hc b e]
    exact (h5 b hb).2.kept (oq b e)
theorem kSetI_ne {cA : Nat → ClassId} {μ : Km} {a k : Nat} {x : Int32} (b : Nat) (h : b ≠ a) : kE cA (kSetI μ a k x) b = kE cA μ b := kE_cong rfl (by funext j; simp [kI, kSetI, va_up, h]) rfl rfl
theorem kSetR_ne {cA : Nat → ClassId} {μ : Km} {a k : Nat} {x : Option Nat} (b : Nat) (h : b ≠ a) : kE cA (kSetR μ a k x) b = kE cA μ b := kE_cong rfl rfl (by funext j; simp [kR, kSetR, va_up, h]) rfl
theorem kNew_ne {cA : Nat → ClassId} {μ : Km} {k z : Nat} (b : Nat) (h : b ≠ kn μ) : kE cA (kNew μ k z) b = kE cA μ b := by
  have h : ¬ b = μ.2.2.2.2 := h
  exact kE_cong (by simp [kK, kNew, va_up, h]) (by funext j; simp [kI, kNew, va_up, h]) (by funext j; simp [kR, kNew, va_up, h]) (by simp [kN, kNew, va_up, h])
/-- one cell more -/
theorem KW_new {D : va_G} {cA : Nat → ClassId} {E : State → Heap → Prop} {A : Nat → Prop} {μ : Km} {U : State} {H H1 : Heap} {k z : Nat} (hE : mEok E A) (h : KW D cA E A μ U H) (hz : H1.size = H.size + 1) (oq : ∀ q, q < H.size → H1[q]? = H[q]?) (hat : va_at D vwCl (kn μ, kE cA (kNew μ k z) (kn μ)) H1) : KW D cA E A (kNew μ k z) U H1 := by
  obtain ⟨h1, h2, h3, h4, h5⟩ := h
  refine ⟨h1, hE.2 _ _ _ (fun q hq _ => oq q hq) h2, by rw [hz, ← h3]; rfl, fun q hq => h4 q (by omega), fun b hb => ?_⟩
  by_cases e : b = kn μ
  · subst e; exact ⟨h4 _ (by omega), hat⟩
  · have e9 : ¬ b = μ.2.2.2.2 := e
    have hb2 : kK μ b ≠ 0 := by
      have : kK (kNew μ k z) b = kK μ b := by simp [kK, kNew, va_up, e9]
      rw [this] at hb; exact hb
    refine ⟨(h5 b hb2).1, ?_⟩
    rw [kNew_ne b e]
    exact (h5 b hb2).2.kept (oq b (h5 b hb2).2.lt)
theorem kNew_K {μ : Km} {k z : Nat} : kK (kNew μ k z) (kn μ) = k := by simp [kK, kNew, kn, va_up]
theorem kNew_I {μ : Km} {k z j : Nat} : kI (kNew μ k z) (kn μ) j = 0 := by simp [kI, kNew, kn, va_up]
theorem kNew_R {μ : Km} {k z j : Nat} : kR (kNew μ k z) (kn μ) j = none := by simp [kR, kNew, kn, va_up]
theorem kNew_N {μ : Km} {k z : Nat} : kN (kNew μ k z) (kn μ) = z := by simp [kN, kNew, kn, va_up]
variable {p : Program} {l : Launch} {e : Env} {R : Room} {s : State} {m : MethodId} {args : Array Value} {below : List Frame} {meth : Method} {c : Code}
variable {Rt : Type} {cc : ByteArray} {nL : Nat} {own : String} {Ts : List Cond} {A : Nat → Prop} {D : va_G} {cA : Nat → ClassId} {E : State → Heap → Prop} {QX : Rt → State → Prop} {cells slots : Nat} {o : Option Rt} {μ : Km} {pc : Nat} {lv : List (Nat × Value)} {st : List Value}
theorem k_geti (h : gOk p s m args meth c cc nL own Ts) (r : vw_C) (ci : Nat) (hc : ci < 10) (hr : vwCl[ci]? = some r) (hin : ∀ w ∈ u_ws r.1 r.2.1 r.2.2, w ∈ Ts) (k : Nat) (hk : k < r.2.2) (hL : (kL ci)[k]? = some false) {index : Nat} (hlk : Cond.fieldLink own index (r.2.1 k).1 (r.2.1 k).2.1 (r.2.1 k).2.2.1 ∈ Ts) {a : Nat} (hd : decode cc pc = .ok (.getfield index, 3)) (hK : kK μ a = ci + 1) (kk : gS p l e R s m args below meth c nL A (KW D cA E A) QX cells slots o μ (pc + 3) lv (.int (kI μ a k) :: st)) : gS p l e R s m args below meth c nL A (KW D cA E A) QX cells slots o μ pc lv (.ref a :: st) := fun X hX H locs ls hw hS hl =>
  va_get (D := D) (cl := vwCl) (ws := [(a, .inr (ci, kFl μ a 0 (kL ci)))]) (ci := ci) (C := r.1) (T := r.2.1) (N := r.2.2) (v := .int (kI μ a k)) h.1.1 h.1.2.1 h.1.2.2.2.2 hin h.1.2.2.2.1 hw.1 (va_P1 (KW_obj hw hK hc).2) 0 rfl hr k hk (h.1.2.2.2.2 _ hlk) (fun _ q => q) (by rw [kFl_get, hL]; simp) hd (kk X hX H locs ls hw hS hl)
theorem k_getr (h : gOk p s m args meth c cc nL own Ts) (r : vw_C) (ci : Nat) (hc : ci < 10) (hr : vwCl[ci]? = some r) (hin : ∀ w ∈ u_ws r.1 r.2.1 r.2.2, w ∈ Ts) (k : Nat) (hk : k < r.2.2) (hL : (kL ci)[k]? = some true) {index : Nat} (hlk : Cond.fieldLink own index (r.2.1 k).1 (r.2.1 k).2.1 (r.2.1 k).2.2.1 ∈ Ts) {a : Nat} (hd : decode cc pc = .ok (.getfield index, 3)) (hK : kK μ a = ci + 1) (kk : gS p l e R s m args below meth c nL A (KW D cA E A) QX cells slots o μ (pc + 3) lv (va_rf (kR μ a k) :: st)) : gS p l e R s m args below meth c nL A (KW D cA E A) QX cells slots o μ pc lv (.ref a :: st) := fun X hX H locs ls hw hS hl =>
  va_get (D := D) (cl := vwCl) (ws := [(a, .inr (ci, kFl μ a 0 (kL ci)))]) (ci := ci) (C := r.1) (T := r.2.1) (N := r.2.2) (v := va_rf (kR μ a k)) h.1.1 h.1.2.1 h.1.2.2.2.2 hin h.1.2.2.2.1 hw.1 (va_P1 (KW_obj hw hK hc).2) 0 rfl hr k hk (h.1.2.2.2.2 _ hlk) (fun _ q => q) (by rw [kFl_get, hL]; simp) hd (kk X hX H locs ls hw hS hl)
theorem k_kind {a k : Nat} {o : Option Rt} (kk : kK μ a = k → gS p l e R s m args below meth c nL A (KW D cA E A) QX cells slots o μ pc lv st) : gS p l e R s m args below meth c nL A (KW D cA E A) QX cells slots (if kK μ a = k then o else none) μ pc lv st := by
  intro X hX
  by_cases q : kK μ a = k
  · rw [if_pos q] at hX; exact kk q X hX
  · rw [if_neg q] at hX; cases hX
theorem k_puti (h : gOk p s m args meth c cc nL own Ts) (hE : mEok E A) (r : vw_C) (ci : Nat) (hc : ci < 10) (hr : vwCl[ci]? = some r) (hin : ∀ w ∈ u_ws r.1 r.2.1 r.2.2, w ∈ Ts) (k : Nat) (hk : k < r.2.2) (hL : (kL ci)[k]? = some false) (ty0 : Nat → FieldType) (hty : ∀ k, k < r.2.2 → parseFieldDescriptor (r.2.1 k).2.2.1 = some (ty0 k)) (hnmx : ∀ a, a < r.2.2 → ∀ b, b < r.2.2 → a ≠ b → (r.2.1 a).2.1 ≠ (r.2.1 b).2.1) (hfin : (r.2.1 k).2.2.2 = false) {index : Nat} (hlk : Cond.fieldLink own index (r.2.1 k).1 (r.2.1 k).2.1 (r.2.1 k).2.2.1 ∈ Ts) {a : Nat} {x : Int32} (hnar : narrow (ty0 k) (.int x) = .int x) (hfit : fits (ty0 k) (.int x) = true) (hd : decode cc pc = .ok (.putfield index, 3)) (hK : kK μ a = ci + 1) (kk : gS p l e R s m args below meth c nL A (KW D cA E A) QX cells slots o (kSetI μ a k x) (pc + 3) lv st) : gS p l e R s m args below meth c nL A (KW D cA E A) QX cells slots o μ pc lv (.int x :: .ref a :: st) := by
  intro X hX H locs ls hw hS hl
  have hw0 := hw
  obtain ⟨hA0, hO⟩ := KW_obj hw hK hc
  have hKa := hw.1
  have hts := h.1.2.2.2.2
  have hap := va_apart (own := own) (D := D) (cl := vwCl) (ci := ci) hts hin ty0 hty hnmx hKa hr
  obtain ⟨r', h1, cell, q1, q2, q3, q4⟩ := hO
  have hr' : r' = r := Option.some.inj (h1.symm.trans hr)
  subst hr'
  obtain ⟨hSl, hfc, kC, hkC, hkind⟩ := hKa.1 ci _ hr
  obtain ⟨cf, kf, fi, f, hi, hsl⟩ := hSl k hk
  have hlay := hts _ (hin _ (u_in_lay hk))
  unfold u_lay at hlay
  rw [if_neg (by rw [hfin]; decide)] at hlay
  have hst := (u_facts hfc hkC (u_lays hts hin hk) hi).1
  have h6 := u_store (v := .int x) hfc hkC hkind hlay hi (hty k hk) hnar hfit
  refine W.putK h.1.1 h.1.2.1 (f := f) ⟨h.1.2.2.2.1, hts _ hlk, ⟨_, _, _, hi⟩, hst⟩ (by rw [q2]; exact h6) q1 q3 (by rw [hsl]; exact k2_hasslot (q4 k hk)) rfl rfl hd fun H' e1 e2 e3 => ?_
  rw [hsl] at e1 ⊢
  refine kk X hX H' _ ls (KW_put hE hw0 (by rw [hK]; omega) e2 e3 rfl (fun _ => rfl) (fun b hb => kSetI_ne b hb) ?_) (hS.put e2 e3 hA0) hl
  rw [kE_obj (show kK (kSetI μ a k x) a = ci + 1 from hK) hc]
  refine ⟨_, hr, ?_⟩
  have hlen : k < (kFl μ a 0 (kL ci)).length := by rw [kFl_len]; exact (List.getElem?_eq_some_iff.mp hL).1
  exact t_OB.to (V := updV (vp_V (kFl μ a 0 (kL ci))) k (.int x)) ⟨_, e1, q2, q3, t_set q4 hap hk _⟩ (fun j _ => (vp_updV_set hlen _ j).trans (by rw [kFl_setI hL]))
theorem k_putFi (h : gOk p s m args meth c cc nL own Ts) (hE : mEok E A) (r : vw_C) (ci : Nat) (hc : ci < 10) (hr : vwCl[ci]? = some r) (hin : ∀ w ∈ u_ws r.1 r.2.1 r.2.2, w ∈ Ts) (k : Nat) (hk : k < r.2.2) (hL : (kL ci)[k]? = some false) (ty0 : Nat → FieldType) (hty : ∀ k, k < r.2.2 → parseFieldDescriptor (r.2.1 k).2.2.1 = some (ty0 k)) (hnmx : ∀ a, a < r.2.2 → ∀ b, b < r.2.2 → a ≠ b → (r.2.1 a).2.1 ≠ (r.2.1 b).2.1) (hfin : (r.2.1 k).2.2.2 = true) (hnm : meth.name = "<init>") (hdecl : (r.2.1 k).1 = own) {index : Nat} (hlk : Cond.fieldLink own index (r.2.1 k).1 (r.2.1 k).2.1 (r.2.1 k).2.2.1 ∈ Ts) {a : Nat} {x : Int32} (hnar : narrow (ty0 k) (.int x) = .int x) (hfit : fits (ty0 k) (.int x) = true) (hd : decode cc pc = .ok (.putfield index, 3)) (hK : kK μ a = ci + 1) (kk : gS p l e R s m args below meth c nL A (KW D cA E A) QX cells slots o (kSetI μ a k x) (pc + 3) lv st) : gS p l e R s m args below meth c nL A (KW D cA E A) QX cells slots o μ pc lv (.int x :: .ref a :: st) := by
  intro X hX H locs ls hw hS hl
  have hw0 := hw
  obtain ⟨hA0, hO⟩ := KW_obj hw hK hc
  have hKa := hw.1
  have hts := h.1.2.2.2.2
  have hap := va_apart (own := own) (D := D) (cl := vwCl) (ci := ci) hts hin ty0 hty hnmx hKa hr
  obtain ⟨r', h1, cell, q1, q2, q3, q4⟩ := hO
  have hr' : r' = r := Option.some.inj (h1.symm.trans hr)
  subst hr'
  obtain ⟨hSl, hfc, kC, hkC, hkind⟩ := hKa.1 ci _ hr
  obtain ⟨cf, kf, fi, f, hi, hsl⟩ := hSl k hk
  have hlay := hts _ (hin _ (u_in_lay hk))
  unfold u_lay at hlay
  rw [if_pos hfin] at hlay
  have hst := (u_facts hfc hkC (u_lays hts hin hk) hi).1
  have h6 := u_fits (v := .int x) hfc hkC hkind (Or.inr hlay) hi (hty k hk) hnar hfit
  have hcf : m.cls = cf := by
    obtain ⟨_, _, c', _, _, _, -, -, hf', -, -, -, hown2, -⟩ := Cond.laysFinal_spec hlay
    have e1 : c' = cf := by have := hi.symm.trans hf'; simp at this; exact this.1.symm
    rw [hdecl] at hown2
    rw [← e1]; exact Option.some.inj (h.1.2.2.2.1.symm.trans hown2)
  refine W.putFinK h.1.1 h.1.2.1 h.1.2.2.2.1 (hts _ hlk) hi hst hcf hnm (by rw [q2]; exact h6) q1 q3 (by rw [hsl]; exact k2_hasslot (q4 k hk)) rfl rfl hd fun H' e1 e2 e3 => ?_
  rw [hsl] at e1 ⊢
  refine kk X hX H' _ ls (KW_put hE hw0 (by rw [hK]; omega) e2 e3 rfl (fun _ => rfl) (fun b hb => kSetI_ne b hb) ?_) (hS.put e2 e3 hA0) hl
  rw [kE_obj (show kK (kSetI μ a k x) a = ci + 1 from hK) hc]
  refine ⟨_, hr, ?_⟩
  have hlen : k < (kFl μ a 0 (kL ci)).length := by rw [kFl_len]; exact (List.getElem?_eq_some_iff.mp hL).1
  exact t_OB.to (V := updV (vp_V (kFl μ a 0 (kL ci))) k (.int x)) ⟨_, e1, q2, q3, t_set q4 hap hk _⟩ (fun j _ => (vp_updV_set hlen _ j).trans (by rw [kFl_setI hL]))
theorem k_putFr (h : gOk p s m args meth c cc nL own Ts) (hE : mEok E A) (r : vw_C) (ci : Nat) (hc : ci < 10) (hr : vwCl[ci]? = some r) (hin : ∀ w ∈ u_ws r.1 r.2.1 r.2.2, w ∈ Ts) (k : Nat) (hk : k < r.2.2) (hL : (kL ci)[k]? = some true) (ty0 : Nat → FieldType) (hty : ∀ k, k < r.2.2 → parseFieldDescriptor (r.2.1 k).2.2.1 = some (ty0 k)) (hnmx : ∀ a, a < r.2.2 → ∀ b, b < r.2.2 → a ≠ b → (r.2.1 a).2.1 ≠ (r.2.1 b).2.1) (hfin : (r.2.1 k).2.2.2 = true) (hnm : meth.name = "<init>") (hdecl : (r.2.1 k).1 = own) {index : Nat} (hlk : Cond.fieldLink own index (r.2.1 k).1 (r.2.1 k).2.1 (r.2.1 k).2.2.1 ∈ Ts) {a : Nat} {x : Option Nat} (hnar : narrow (ty0 k) (va_rf x) = va_rf x) (hfit : fits (ty0 k) (va_rf x) = true) (hd : decode cc pc = .ok (.putfield index, 3)) (hK : kK μ a = ci + 1) (kk : gS p l e R s m args below meth c nL A (KW D cA E A) QX cells slots o (kSetR μ a k x) (pc + 3) lv st) : gS p l e R s m args below meth c nL A (KW D cA E A) QX cells slots o μ pc lv (va_rf x :: .ref a :: st) := by
  intro X hX H locs ls hw hS hl
  have hw0 := hw
  obtain ⟨hA0, hO⟩ := KW_obj hw hK hc
  have hKa := hw.1
  have hts := h.1.2.2.2.2
  have hap := va_apart (own := own) (D := D) (cl := vwCl) (ci := ci) hts hin ty0 hty hnmx hKa hr
  obtain ⟨r', h1, cell, q1, q2, q3, q4⟩ := hO
  have hr' : r' = r := Option.some.inj (h1.symm.trans hr)
  subst hr'
  obtain ⟨hSl, hfc, kC, hkC, hkind⟩ := hKa.1 ci _ hr
  obtain ⟨cf, kf, fi, f, hi, hsl⟩ := hSl k hk
  have hlay := hts _ (hin _ (u_in_lay hk))
  unfold u_lay at hlay
  rw [if_pos hfin] at hlay
  have hst := (u_facts hfc hkC (u_lays hts hin hk) hi).1
  have h6 := u_fits (v := va_rf x) hfc hkC hkind (Or.inr hlay) hi (hty k hk) hnar hfit
  have hcf : m.cls = cf := by
    obtain ⟨_, _, c', _, _, _, -, -, hf', -, -, -, hown2, -⟩ := Cond.laysFinal_spec hlay
    have e1 : c' = cf := by have := hi.symm.trans hf'; simp at this; exact this.1.symm
    rw [hdecl] at hown2
    rw [← e1]; exact Option.some.inj (h.1.2.2.2.1.symm.trans hown2)
  refine W.putFinK h.1.1 h.1.2.1 h.1.2.2.2.1 (hts _ hlk) hi hst hcf hnm (by rw [q2]; exact h6) q1 q3 (by rw [hsl]; exact k2_hasslot (q4 k hk)) rfl rfl hd fun H' e1 e2 e3 => ?_
  rw [hsl] at e1 ⊢
  refine kk X hX H' _ ls (KW_put hE hw0 (by rw [hK]; omega) e2 e3 rfl (fun _ => rfl) (fun b hb => kSetR_ne b hb) ?_) (hS.put e2 e3 hA0) hl
  rw [kE_obj (show kK (kSetR μ a k x) a = ci + 1 from hK) hc]
  refine ⟨_, hr, ?_⟩
  have hlen : k < (kFl μ a 0 (kL ci)).length := by rw [kFl_len]; exact (List.getElem?_eq_some_iff.mp hL).1
  exact t_OB.to (V := updV (vp_V (kFl μ a 0 (kL ci))) k (va_rf x)) ⟨_, e1, q2, q3, t_set q4 hap hk _⟩ (fun j _ => (vp_updV_set hlen _ j).trans (by rw [kFl_setR hL]))
theorem k_iald (h : gOk p s m args meth c cc nL own Ts) {a : Nat} {i : Int32} (hd : decode cc pc = .ok (.iaload, 1)) (hK : kK μ a = 12) (kk : gS p l e R s m args below meth c nL A (KW D cA E A) QX cells slots o μ (pc + 1) lv (.int (kI μ a i.toNatClampNeg) :: st)) : gS p l e R s m args below meth c nL A (KW D cA E A) QX cells slots (if okI i (kN μ a) = true then o else none) μ pc lv (.int i :: .ref a :: st) :=
  g_guard fun hi => fun X hX H locs ls hw hS hl => by
    have hc := (hw.2.2.2.2 a (by rw [hK]; decide)).2
    rw [kE_int hK (by decide) (by decide)] at hc
    exact va_iald (D := D) (cl := vwCl) (ws := [(a, .inl (cA 12, kN μ a, .inl (kI μ a)))]) h.1.1 h.1.2.1 hw.1 (va_P1 hc) 0 1 rfl rfl (okI_in hi) hd (kk X hX H locs ls hw hS hl)
theorem k_bald (h : gOk p s m args meth c cc nL own Ts) {a : Nat} {i : Int32} (hd : decode cc pc = .ok (.baload, 1)) (hK : kK μ a = 11) (kk : gS p l e R s m args below meth c nL A (KW D cA E A) QX cells slots o μ (pc + 1) lv (.int (kI μ a i.toNatClampNeg) :: st)) : gS p l e R s m args below meth c nL A (KW D cA E A) QX cells slots (if okI i (kN μ a) = true then o else none) μ pc lv (.int i :: .ref a :: st) :=
  g_guard fun hi => fun X hX H locs ls hw hS hl => by
    have hc := (hw.2.2.2.2 a (by rw [hK]; decide)).2
    rw [kE_int hK (by decide) (by decide)] at hc
    exact va_bald (D := D) (cl := vwCl) (ws := [(a, .inl (cA 11, kN μ a, .inl (kI μ a)))]) h.1.1 h.1.2.1 hw.1 (va_P1 hc) 0 0 rfl rfl (okI_in hi) hd (kk X hX H locs ls hw hS hl)
theorem k_zald (h : gOk p s m args meth c cc nL own Ts) {a : Nat} {i : Int32} (hd : decode cc pc = .ok (.baload, 1)) (hK : kK μ a = 13) (kk : gS p l e R s m args below meth c nL A (KW D cA E A) QX cells slots o μ (pc + 1) lv (.int (kI μ a i.toNatClampNeg) :: st)) : gS p l e R s m args below meth c nL A (KW D cA E A) QX cells slots (if okI i (kN μ a) = true then o else none) μ pc lv (.int i :: .ref a :: st) :=
  g_guard fun hi => fun X hX H locs ls hw hS hl => by
    have hc := (hw.2.2.2.2 a (by rw [hK]; decide)).2
    rw [kE_int hK (by decide) (by decide)] at hc
    exact va_zald (D := D) (cl := vwCl) (ws := [(a, .inl (cA 13, kN μ a, .inl (kI μ a)))]) h.1.1 h.1.2.1 hw.1 (va_P1 hc) 0 2 rfl rfl (okI_in hi) hd (kk X hX H locs ls hw hS hl)
theorem k_aald (h : gOk p s m args meth c cc nL own Ts) (kd t0 : Nat) (h13 : 13 < kd) (C : String) (ht : (kTys cA)[t0]? = some (cA kd, .object C)) {a : Nat} {i : Int32} (hd : decode cc pc = .ok (.aaload, 1)) (hK : kK μ a = kd) (kk : gS p l e R s m args below meth c nL A (KW D cA E A) QX cells slots o μ (pc + 1) lv (va_rf (kR μ a i.toNatClampNeg) :: st)) : gS p l e R s m args below meth c nL A (KW D cA E A) QX cells slots (if okI i (kN μ a) = true then o else none) μ pc lv (.int i :: .ref a :: st) :=
  g_guard fun hi => fun X hX H locs ls hw hS hl => by
    have hc := (hw.2.2.2.2 a (by rw [hK]; omega)).2
    rw [kE_ref hK h13] at hc
    exact va_aldq (D := D) (cl := vwCl) (ws := [(a, .inl (cA kd, kN μ a, .inr (.inr (.inr (.inr (kR μ a))))))]) (C := C) h.1.1 h.1.2.1 hw.1 (va_P1 hc) 0 t0 rfl ht (okI_in hi) hd (kk X hX H locs ls hw hS hl)
theorem k_alenI (h : gOk p s m args meth c cc nL own Ts) (kd t0 : Nat) (h10 : 10 < kd) (h13 : kd ≤ 13) (ty : FieldType) (ht : (kTys cA)[t0]? = some (cA kd, ty)) {a : Nat} (hd : decode cc pc = .ok (.arraylength, 1)) (hK : kK μ a = kd) (kk : gS p l e R s m args below meth c nL A (KW D cA E A) QX cells slots o μ (pc + 1) lv (.int (nI (kN μ a)) :: st)) : gS p l e R s m args below meth c nL A (KW D cA E A) QX cells slots o μ pc lv (.ref a :: st) := fun X hX H locs ls hw hS hl => by
  have hc := (hw.2.2.2.2 a (by rw [hK]; omega)).2
  rw [kE_int hK h10 h13] at hc
  exact va_alen (D := D) (cl := vwCl) (ws := [(a, .inl (cA kd, kN μ a, .inl (kI μ a)))]) h.1.1 h.1.2.1 hw.1 (va_P1 hc) 0 t0 rfl ht rfl hd (kk X hX H locs ls hw hS hl)
theorem k_iast (h : gOk p s m args meth c cc nL own Ts) (hE : mEok E A) {a : Nat} {i x : Int32} (hd : decode cc pc = .ok (.iastore, 1)) (hK : kK μ a = 12) (kk : gS p l e R s m args below meth c nL A (KW D cA E A) QX cells slots o (kSetI μ a i.toNatClampNeg x) (pc + 1) lv st) : gS p l e R s m args below meth c nL A (KW D cA E A) QX cells slots (if okI i (kN μ a) = true then o else none) μ pc lv (.int x :: .int i :: .ref a :: st) := by
  refine g_guard fun hi => ?_
  intro X hX H locs ls hw hS hl
  obtain ⟨hA0, hc⟩ := hw.2.2.2.2 a (by rw [hK]; decide)
  rw [kE_int hK (by decide) (by decide)] at hc
  have hin := okI_in hi
  refine W.iast h.1.1 h.1.2.1 hc ((hw.1.2 1 (cA 12, .int) rfl).1 (kN μ a) (fun j => .int (kI μ a j))) (fun q => by cases q) (by show ¬ (i < 0 ∨ (arrV _ _ _).slots.size ≤ _); rw [arrV_size]; exact hin) rfl rfl hd fun H1 e z oq => ?_
  refine kk X hX H1 _ ls (KW_put hE hw (by rw [hK]; decide) z oq rfl (fun _ => rfl) (fun b hb => kSetI_ne b hb) ?_) (hS.put z oq hA0) hl
  rw [kE_int (show kK (kSetI μ a i.toNatClampNeg x) a = 12 from hK) (by decide) (by decide)]
  show H1[a]? = some (vp_cell _ (kN μ a, .inl (kI (kSetI μ a i.toNatClampNeg x) a)))
  rw [e, vp_cell_i, vp_cell_i, arrV_store]
  congr 2
  funext q
  by_cases hq : q = i.toNatClampNeg
  · subst hq
    simp [kI_set, updV]
    try rfl
  · simp [kI_set, updV, hq]
theorem k_bast (h : gOk p s m args meth c cc nL own Ts) (hE : mEok E A) {a : Nat} {i x : Int32} (hd : decode cc pc = .ok (.bastore, 1)) (hK : kK μ a = 11) (kk : gS p l e R s m args below meth c nL A (KW D cA E A) QX cells slots o (kSetI μ a i.toNatClampNeg (vp_nar .byte x)) (pc + 1) lv st) : gS p l e R s m args below meth c nL A (KW D cA E A) QX cells slots (if okI i (kN μ a) = true then o else none) μ pc lv (.int x :: .int i :: .ref a :: st) := by
  refine g_guard fun hi => ?_
  intro X hX H locs ls hw hS hl
  obtain ⟨hA0, hc⟩ := hw.2.2.2.2 a (by rw [hK]; decide)
  rw [kE_int hK (by decide) (by decide)] at hc
  have hin := okI_in hi
  refine W.bast h.1.1 h.1.2.1 hc ((hw.1.2 0 (cA 11, .byte) rfl).1 (kN μ a) (fun j => .int (kI μ a j))) (fun q => by cases q) (by show ¬ (i < 0 ∨ (arrV _ _ _).slots.size ≤ _); rw [arrV_size]; exact hin) rfl rfl hd fun H1 e z oq => ?_
  refine kk X hX H1 _ ls (KW_put hE hw (by rw [hK]; decide) z oq rfl (fun _ => rfl) (fun b hb => kSetI_ne b hb) ?_) (hS.put z oq hA0) hl
  rw [kE_int (show kK (kSetI μ a i.toNatClampNeg (vp_nar .byte x)) a = 11 from hK) (by decide) (by decide)]
  show H1[a]? = some (vp_cell _ (kN μ a, .inl (kI (kSetI μ a i.toNatClampNeg (vp_nar .byte x)) a)))
  rw [e, vp_cell_i, vp_cell_i, arrV_store]
  congr 2
  funext q
  by_cases hq : q = i.toNatClampNeg
  · subst hq
    simp [kI_set, updV, vp_nar]
    try rfl
  · simp [kI_set, updV, hq]
theorem k_zast (h : gOk p s m args meth c cc nL own Ts) (hE : mEok E A) {a : Nat} {i x : Int32} (hok : okZ x = true) (hd : decode cc pc = .ok (.bastore, 1)) (hK : kK μ a = 13) (kk : gS p l e R s m args below meth c nL A (KW D cA E A) QX cells slots o (kSetI μ a i.toNatClampNeg x) (pc + 1) lv st) : gS p l e R s m args below meth c nL A (KW D cA E A) QX cells slots (if okI i (kN μ a) = true then o else none) μ pc lv (.int x :: .int i :: .ref a :: st) := by
  refine g_guard fun hi => ?_
  intro X hX H locs ls hw hS hl
  obtain ⟨hA0, hc⟩ := hw.2.2.2.2 a (by rw [hK]; decide)
  rw [kE_int hK (by decide) (by decide)] at hc
  have hin := okI_in hi
  refine W.zast h.1.1 h.1.2.1 hc ((hw.1.2 2 (cA 13, .boolean) rfl).1 (kN μ a) (fun j => .int (kI μ a j))) (fun q => by cases q) (by show ¬ (i < 0 ∨ (arrV _ _ _).slots.size ≤ _); rw [arrV_size]; exact hin) rfl rfl hd fun H1 e z oq => ?_
  refine kk X hX H1 _ ls (KW_put hE hw (by rw [hK]; decide) z oq rfl (fun _ => rfl) (fun b hb => kSetI_ne b hb) ?_) (hS.put z oq hA0) hl
  rw [kE_int (show kK (kSetI μ a i.toNatClampNeg x) a = 13 from hK) (by decide) (by decide)]
  show H1[a]? = some (vp_cell _ (kN μ a, .inl (kI (kSetI μ a i.toNatClampNeg x) a)))
  rw [e, vp_cell_i, vp_cell_i, arrV_store]
  congr 2
  funext q
  by_cases hq : q = i.toNatClampNeg
  · subst hq
    simp [kI_set, updV, okZ_nar hok]
    try rfl
  · simp [kI_set, updV, hq]
theorem k_aast (h : gOk p s m args meth c cc nL own Ts) (hE : mEok E A) (kd t0 ci : Nat) (h13 : 13 < kd) (hc10 : ci < 10) (r : vw_C) (hr : vwCl[ci]? = some r) (ht : (kTys cA)[t0]? = some (cA kd, .object r.1)) {a b : Nat} {i : Int32} (hd : decode cc pc = .ok (.aastore, 1)) (hK : kK μ a = kd) (hKb : kK μ b = ci + 1) (kk : gS p l e R s m args below meth c nL A (KW D cA E A) QX cells slots o (kSetR μ a i.toNatClampNeg (some b)) (pc + 1) lv st) : gS p l e R s m args below meth c nL A (KW D cA E A) QX cells slots (if okI i (kN μ a) = true then o else none) μ pc lv (.ref b :: .int i :: .ref a :: st) := by
  refine g_guard fun hi => ?_
  intro X hX H locs ls hw hS hl
  obtain ⟨hA0, hc⟩ := hw.2.2.2.2 a (by rw [hK]; omega)
  rw [kE_ref hK h13] at hc
  have hin := okI_in hi
  have hlt : i.toNatClampNeg < kN μ a := Nat.not_le.mp fun q => hin (Or.inr q)
  have h0 : ¬ i < 0 := fun q => hin (Or.inl q)
  obtain ⟨r', hr', cellV, g1, g2, g3, -⟩ := (KW_obj hw hKb hc10).2
  have hcls := (hw.1.1 ci r hr).2
  obtain ⟨kA, comp, k1, k2, k3, -⟩ := (hw.1.2 t0 _ ht).2
  have hcomp : comp = D.1 ci := Option.some.inj (k3.symm.trans hcls.1)
  subst hcomp
  obtain ⟨kC, hkC, -⟩ := hcls.2
  refine W.aast h.1.1 h.1.2.1 hc (fun q h => by cases h) (fun h => by cases h) k1 k2 rfl hkC ⟨h0, by show _ < (arrV _ _ _).slots.size; rw [arrV_size]; exact hlt⟩ g1 (fun q h => by rw [g3] at h; cases h) (by rw [g2]; exact hkC) (by rw [g2]; exact va_assign hcls) rfl rfl hd fun H1 e z oq => ?_
  refine kk X hX H1 _ ls (KW_put hE hw (by rw [hK]; omega) z oq rfl (fun _ => rfl) (fun b hb => kSetR_ne b hb) ?_) (hS.put z oq hA0) hl
  rw [kE_ref (show kK (kSetR μ a i.toNatClampNeg (some b)) a = kd from hK) h13]
  show H1[a]? = some (vp_cell _ (kN μ a, .inr (.inr (.inr (.inr (kR (kSetR μ a i.toNatClampNeg (some b)) a))))))
  rw [e, vp_cell_q, vp_cell_q, arrV_store]
  congr 2
  funext q
  by_cases hq : q = i.toNatClampNeg
  · subst hq
    simp [kR_set, updV, va_rf]
  · simp [kR_set, updV, hq]
theorem k_new (h : gOk p s m args meth c cc nL own Ts) (hE : mEok E A) (r : vw_C) (ci : Nat) (hc : ci < 10) (hr : vwCl[ci]? = some r) (hin : ∀ w ∈ u_ws r.1 r.2.1 r.2.2, w ∈ Ts) (ty0 : Nat → FieldType) (hty : ∀ k, k < r.2.2 → parseFieldDescriptor (r.2.1 k).2.2.1 = some (ty0 k)) (hdf : ∀ k, k < r.2.2 → ((kL ci)[k]?).map (fun b => if b = true then Value.null else Value.int 0) = some (defaultValue (ty0 k))) {index : Nat} (hcl : Cond.classLink own index r.1 ∈ Ts) (hinst : Cond.instantiable r.1 r.2.2 ∈ Ts) (hini : Cond.initialized r.1 ∈ Ts) (hcells : cells + 1 ≤ R.cells) (hslots : slots + r.2.2 ≤ R.slots) (hd : decode cc pc = .ok (.new index, 3)) (kk : gS p l e R s m args below meth c nL A (KW D cA E A) QX (cells + 1) (slots + r.2.2) o (kNew μ (ci + 1) 0) (pc + 3) lv (.ref (kn μ) :: st)) : gS p l e R s m args below meth c nL A (KW D cA E A) QX cells slots o μ pc lv st := by
  intro X hX H locs ls hw hS hl
  have hts := h.1.2.2.2.2
  have hKn := hw.1.1 ci _ hr
  refine W.newcK (h := kn μ) h.1.1 h.1.2.1 h.1.2.2.2.1 (hts _ hcl) (hts _ hinst) (hts _ hini) rfl hd hcells hslots hKn.2.1 hw.2.2.1.symm fun H1 kC hkC e1 z1 o1 => ?_
  have hnH : kn μ = H.size := hw.2.2.1
  refine kk X hX H1 locs ls (KW_new hE hw (by rw [z1, hnH]) (fun q hq => o1 q (by rw [hnH]; exact hq)) ?_) ⟨Nat.le_trans hS.1 (by omega), fun x h1 h2 => (o1 x (by rw [hnH]; exact Nat.lt_of_lt_of_le h1 hS.1)).trans (hS.2.1 x h1 h2), hS.2.2⟩ hl
  rw [kE_obj kNew_K hc]
  refine ⟨_, hr, (u_born ty0 hts hin hKn hkC e1 hty).to (fun j hj => ?_)⟩
  have hj2 := hdf j hj
  unfold vp_V
  rw [List.getD_eq_getElem?_getD, kFl_get]
  cases hb : (kL ci)[j]? with
  | none => rw [hb] at hj2; cases hj2
  | some b =>
    rw [hb] at hj2
    have := Option.some.inj hj2
    rw [← this]
    cases b <;> simp [kNew_I, kNew_R, va_rf]
theorem k_newi (h : gOk p s m args meth c cc nL own Ts) (hE : mEok E A) (kd t0 : Nat) (h10 : 10 < kd) (h13 : kd ≤ 13) {atype : ArrayType} (ty : FieldType) (hty : newarray.typeOf atype = ty) (hdf : defaultValue ty = .int 0) (ht : (kTys cA)[t0]? = some (cA kd, ty)) (hra : ∀ U c, va_RA U c ty → U.vm.findClass ("[" ++ ty.toString) = some c) (harr : Cond.arrayClass ty ∈ Ts) {n : Int32} (z : Nat) (hn : ¬ n < 0) (hz : n.toNatClampNeg = z) (hby : z * componentBytes ty ≤ 536870912) (hcells : cells + 1 ≤ R.cells) (hslots : slots + z ≤ R.slots) (hd : decode cc pc = .ok (.newarray atype, 2)) (kk : gS p l e R s m args below meth c nL A (KW D cA E A) QX (cells + 1) (slots + z) o (kNew μ kd z) (pc + 2) lv (.ref (kn μ) :: st)) : gS p l e R s m args below meth c nL A (KW D cA E A) QX cells slots o μ pc lv (.int n :: st) := by
  intro X hX H locs ls hw hS hl
  subst hty
  have hnH : kn μ = H.size := hw.2.2.1
  refine va_newaK (h := kn μ) h.1.1 h.1.2.1 (h.1.2.2.2.2 _ harr) rfl hd rfl hn hz hby hcells hslots hnH.symm fun H1 c9 e1 z1 o1 hAr hNm => ?_
  have hcc : c9 = cA kd := Option.some.inj (hNm.symm.trans (hra _ _ (hw.1.2 t0 _ ht).2))
  subst hcc
  refine kk X hX H1 locs ls (KW_new hE hw (by rw [z1, hnH]) (fun q hq => o1 q (by rw [hnH]; exact hq)) ?_) ⟨Nat.le_trans hS.1 (by omega), fun x h1 h2 => (o1 x (by rw [hnH]; exact Nat.lt_of_lt_of_le h1 hS.1)).trans (hS.2.1 x h1 h2), hS.2.2⟩ hl
  rw [kE_int kNew_K h10 h13]
  show H1[kn μ]? = some (vp_cell _ _)
  rw [vp_cell_i, kNew_N, e1, hdf]
  congr 2
  funext q
  rw [kNew_I]
theorem k_newq (h : gOk p s m args meth c cc nL own Ts) (hE : mEok E A) (kd t0 : Nat) (h13 : 13 < kd) (C : String) (ht : (kTys cA)[t0]? = some (cA kd, .object C)) {index : Nat} (hcl : Cond.classLink own index C ∈ Ts) (hov : va_AO C s) {n : Int32} (z : Nat) (hn : ¬ n < 0) (hz : n.toNatClampNeg = z) (hby : z * 4 ≤ 536870912) (hcells : cells + 1 ≤ R.cells) (hslots : slots + z ≤ R.slots) (hd : decode cc pc = .ok (.anewarray index, 3)) (kk : gS p l e R s m args below meth c nL A (KW D cA E A) QX (cells + 1) (slots + z) o (kNew μ kd z) (pc + 3) lv (.ref (kn μ) :: st)) : gS p l e R s m args below meth c nL A (KW D cA E A) QX cells slots o μ pc lv (.int n :: st) := by
  intro X hX H locs ls hw hS hl
  subst hz
  have hnH : kn μ = H.size := hw.2.2.1
  refine W.anew h.1.1 h.1.2.1 h.1.2.2.2.1 (h.1.2.2.2.2 _ hcl) (va_AO.use hov) rfl hd rfl hn hby hcells hslots fun c9 kA comp f1 f2 f3 f4 => ?_
  have hcc : c9 = cA kd := by
    obtain ⟨kA', comp', -, -, -, g4⟩ := (hw.1.2 t0 _ ht).2
    exact Option.some.inj (f1.symm.trans g4)
  subst hcc
  generalize hH1 : H.push ({ cls := cA kd, slots := Array.replicate n.toNatClampNeg .null, vm := .none } : Cell) = H1
  have z1 : H1.size = H.size + 1 := by rw [← hH1, Array.size_push]
  have e1 : H1[H.size]? = some (arrV (cA kd) n.toNatClampNeg (fun _ => .null)) := by rw [← hH1, Array.getElem?_push_size, ← arrV_new]
  have o1 : ∀ q : Nat, q < H.size → H1[q]? = H[q]? := fun q hq => by rw [← hH1, Array.getElem?_push, if_neg (Nat.ne_of_lt hq)]
  have kk2 := kk X hX H1 locs ls (KW_new hE hw z1 o1 ?_) ⟨Nat.le_trans hS.1 (by omega), fun x h1 h2 => (o1 x (Nat.lt_of_lt_of_le h1 hS.1)).trans (hS.2.1 x h1 h2), hS.2.2⟩ hl
  · rw [hnH] at kk2
    exact kk2
  · rw [kE_ref kNew_K h13]
    show H1[kn μ]? = some (vp_cell _ _)
    rw [vp_cell_q, kNew_N, hnH, e1]
    congr 2
    funext q
    rw [← hnH, kNew_R]
    rfl
theorem kKsI {μ τ : Km} {a j b c : Nat} {x : Int32} (e : τ = kSetI μ a j x) (h : kK μ b = c) : kK τ b = c := by rw [e]; exact h
theorem kKsR {μ τ : Km} {a j b c : Nat} {x : Option Nat} (e : τ = kSetR μ a j x) (h : kK μ b = c) : kK τ b = c := by rw [e]; exact h
theorem kKn {μ τ : Km} {q k z : Nat} (e1 : q = kn μ) (e2 : τ = kNew μ k z) : kK τ q = k := by rw [e1, e2]; exact kNew_K
def bnd2 {Rt : Type} (q : Nat) (τ : Km) (k : Nat → Km → Option Rt) : Option Rt := k q τ
theorem g_bndE {v : Km} {k : Km → Option Rt} (kk : ∀ τ : Km, τ = v → gS p l e R s m args below meth c nL A (KW D cA E A) QX cells slots (k τ) τ pc lv st) : gS p l e R s m args below meth c nL A (KW D cA E A) QX cells slots (bnd v k) v pc lv st := kk v rfl
theorem g_bnd2 {q : Nat} {v : Km} {k : Nat → Km → Option Rt} (kk : ∀ (q9 : Nat) (τ : Km), q9 = q → τ = v → gS p l e R s m args below meth c nL A (KW D cA E A) QX cells slots (k q9 τ) τ pc lv (.ref q9 :: st)) : gS p l e R s m args below meth c nL A (KW D cA E A) QX cells slots (bnd2 q v k) v pc lv (.ref q :: st) := kk q v rfl rfl
end KW
