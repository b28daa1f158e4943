/-! the law's world: the class's memory, the reference's state, the cell out -/
section LWS
abbrev Lp : Type := va_G × (Nat → ClassId) × (State → Heap → Prop) × ClassId × Nat × Nat × Nat × (Nat → Nat)
abbrev zD (z : Lp) : va_G := z.1
abbrev zA (z : Lp) : Nat → ClassId := z.2.1
abbrev zE (z : Lp) : State → Heap → Prop := z.2.2.1
abbrev zJ (z : Lp) : ClassId := z.2.2.2.1
abbrev zn (z : Lp) : Nat := z.2.2.2.2.1
abbrev zh (z : Lp) : Nat := z.2.2.2.2.2.1
abbrev zo (z : Lp) : Nat := z.2.2.2.2.2.2.1
abbrev zp (z : Lp) : Nat → Nat := z.2.2.2.2.2.2.2
abbrev Ls : Type := Km × Ms × Int64
def lAM (z : Lp) (q : Nat) : Prop := q = zh z ∨ ∃ k, mArr k = true ∧ q = zp z k
def lAK (z : Lp) (q : Nat) : Prop := zn z ≤ q ∧ ¬ lAM z q ∧ q ≠ zo z
def lA (z : Lp) (q : Nat) : Prop := zn z ≤ q
def lOut (z : Lp) (v : Int64) (H : Heap) : Prop := ∃ f : Nat → Int64, f 0 = v ∧ va_at (zD z) vwCl (zo z, .inl (zJ z, 1, .inr (.inl f))) H
theorem lOut.kept {z : Lp} {v : Int64} {H H1 : Heap} (h : lOut z v H) (h1 : H1[zo z]? = H[zo z]?) : lOut z v H1 := by
  obtain ⟨f, a, b⟩ := h
  exact ⟨f, a, b.kept h1⟩
theorem lOut.lt {z : Lp} {v : Int64} {H : Heap} (h : lOut z v H) : zo z < H.size := by
  obtain ⟨f, a, b⟩ := h
  exact b.lt
def lMs (z : Lp) (σ : Ms) (H : Heap) : Prop := va_at (zD z) vwCl (zh z, .inr (9, mFs σ.1 (zp z))) H ∧ ∀ k, mArr k = true → va_at (zD z) vwCl (zp z k, .inl (mCA (zA z 12) (zA z 13) k, mLen k, .inl (σ.2 k))) H
def lEK (z : Lp) (σ : Ms) (v : Int64) (U : State) (H : Heap) : Prop := zE z U H ∧ va_K (zD z) vwCl [(zJ z, .long)] U ∧ lOut z v H ∧ lMs z σ H
def lEM (z : Lp) (μ : Km) (v : Int64) (U : State) (H : Heap) : Prop := zE z U H ∧ va_K (zD z) vwCl [(zJ z, .long)] U ∧ va_K (zD z) vwCl (kTys (zA z)) U ∧ lOut z v H ∧ ∀ a, kK μ a ≠ 0 → lAK z a ∧ va_at (zD z) vwCl (a, kE (zA z) μ a) H
def LW (z : Lp) (w : Ls) (U : State) (H : Heap) : Prop := KW (zD z) (zA z) (lEK z w.2.1 w.2.2) (lAK z) w.1 U H
abbrev LMW (z : Lp) (μ : Km) (v : Int64) : Ms → State → Heap → Prop := MW (zD z) (zA z 12) (zA z 13) (lEM z μ v) (lAM z) (zh z) (zp z)
abbrev LKW (z : Lp) (σ : Ms) (v : Int64) : Km → State → Heap → Prop := KW (zD z) (zA z) (lEK z σ v) (lAK z)
def lOk (z : Lp) : Prop := mEok (zE z) (lA z) ∧ zn z ≤ zh z ∧ zn z ≤ zo z ∧ ¬ lAM z (zo z) ∧ (∀ k, mArr k = true → zn z ≤ zp z k ∧ zp z k ≠ zh z) ∧ ∀ i j, mArr i = true → mArr j = true → zp z i = zp z j → i = j
theorem lAM_A {z : Lp} (hz : lOk z) {q : Nat} (h : lAM z q) : lA z q := by
  rcases h with h | ⟨k, hk, h⟩
  · rw [h]; exact hz.2.1
  · rw [h]; exact (hz.2.2.2.2.1 k hk).1
theorem lAK_A {z : Lp} {q : Nat} (h : lAK z q) : lA z q := h.1
theorem lEK_ok {z : Lp} (hz : lOk z) (σ : Ms) (v : Int64) : mEok (lEK z σ v) (lAK z) := by
  refine ⟨fun u U H hvm h => ⟨hz.1.1 _ _ _ hvm h.1, h.2.1.moved hvm, h.2.2⟩, fun U H H1 hq h => ⟨hz.1.2 _ _ _ (fun a ha hna => hq a ha (fun q => hna q.1)) h.1, h.2.1, ?_, ?_, fun k hk => ?_⟩⟩
  · exact h.2.2.1.kept (hq _ h.2.2.1.lt (fun q => q.2.2 rfl))
  · exact h.2.2.2.1.kept (hq _ h.2.2.2.1.lt (fun q => q.2.1 (Or.inl rfl)))
  · exact (h.2.2.2.2 k hk).kept (hq _ (h.2.2.2.2 k hk).lt (fun q => q.2.1 (Or.inr ⟨k, hk, rfl⟩)))
theorem lEM_ok {z : Lp} (hz : lOk z) (μ : Km) (v : Int64) : mEok (lEM z μ v) (lAM z) := by
  refine ⟨fun u U H hvm h => ⟨hz.1.1 _ _ _ hvm h.1, h.2.1.moved hvm, h.2.2.1.moved hvm, h.2.2.2⟩, fun U H H1 hq h => ⟨hz.1.2 _ _ _ (fun a ha hna => hq a ha (fun q => hna (lAM_A hz q))) h.1, h.2.1, h.2.2.1, ?_, fun a ha => ?_⟩⟩
  · exact h.2.2.2.1.kept (hq _ h.2.2.2.1.lt hz.2.2.2.1)
  · have h9 := h.2.2.2.2 a ha
    exact ⟨h9.1, h9.2.kept (hq _ h9.2.lt h9.1.2.1)⟩
theorem LW_mv {z : Lp} (hz : lOk z) : gMv (LW z) := fun w u U H hvm h => KW_mv (lEK_ok hz _ _) _ _ _ _ hvm h
theorem LW_toM {z : Lp} (hz : lOk z) {μ : Km} {σ : Ms} {v : Int64} {U : State} {H : Heap} (h : LW z (μ, σ, v) U H) : LMW z μ v σ U H := by
  obtain ⟨h1, ⟨e1, e2, e3, e4⟩, h3, h4, h5⟩ := h
  exact ⟨h1.sub [1, 2] rfl, ⟨e1, e2, h1, e3, h5⟩, Or.inl rfl, e4.1, fun k hk => ⟨Or.inr ⟨k, hk, rfl⟩, (hz.2.2.2.2.1 k hk).2, e4.2 k hk⟩, hz.2.2.2.2.2⟩
theorem LW_ofM {z : Lp} (hz : lOk z) {μ : Km} {σ : Ms} {v : Int64} {U : State} {H : Heap} (h : LMW z μ v σ U H) : LW z (ksn μ H.size, σ, v) U H := by
  obtain ⟨g1, ⟨e1, e2, e3, e4, e5⟩, g3, g4, g5, g6⟩ := h
  have l0 := g4.lt
  have lo := e4.lt
  refine ⟨e3, ⟨e1, e2, e4, g4, fun k hk => (g5 k hk).2.2⟩, rfl, fun q hq => ⟨Nat.le_trans hz.2.1 (by have : zh z < H.size := l0; omega), fun hm => ?_, fun e => ?_⟩, fun a ha => ?_⟩
  · rcases hm with hm | ⟨k, hk, hm⟩
    · have : zh z < H.size := l0
      omega
    · have : zp z k < H.size := (g5 k hk).2.2.lt
      omega
  · have : zo z < H.size := lo
    omega
  · have e : kE (zA z) (ksn μ H.size) a = kE (zA z) μ a := kE_cong rfl rfl rfl rfl
    rw [e]
    exact e5 a ha
variable {p : Program} {l : Launch} {e : Env} {R : Room} {s : State} {m : MethodId} {args : Array Value} {below : List Frame} {meth : Method} {c : Code}
variable {Rt : Type} {cc : ByteArray} {nL : Nat} {own : String} {Ke : State → Prop} {z : Lp} {QX : Rt → State → Prop} {cells slots mc ms : Nat} {o : Option Rt} {μ : Km} {σ : Ms} {v : Int64} {pc : Nat} {lv : List (Nat × Value)} {st : List Value}
variable {y : MethodName} {bytes : ByteArray} {maxL n index : Nat} {ret : Option FieldType} {rm : Room}
theorem L_Mi (hz : lOk z) (h : gOk p s m args meth c cc nL own tb) (hkw : gKw Ke) (hKs : Ke s) (As : List Value) {stk : List Value} {r : Int32} {σ' : Ms} (hM : Met l y (wt y bytes maxL ret) rm (gPre Ke (LMW z μ v) (.ref (zh z) :: As) σ) (gPi (LMW z μ v) (lAM z) (r, σ')) rm.cells rm.slots (lAM z)) (hy : yOkV y bytes maxL ret RX10 n) (hml : Cond.methodLink own index y ∈ tb) (hR : yRm rm R maxL) (hn : As.length = n) (hst : stk = As.reverse ++ .ref (zh z) :: st) (hro : (st.map fun v => v.category).sum ≤ 8) (hd : decode cc pc = .ok (.invokevirtual index, 3)) (hf : cells + rm.cells ≤ R.cells ∧ slots + rm.slots ≤ R.slots)
    (kk : ∀ n9, kn μ ≤ n9 → gS p l e R s m args below meth c nL (lA z) (LW z) QX (cells + rm.cells) (slots + rm.slots) o (ksn μ n9, σ', v) (pc + 3) lv (.int r :: st)) : gS p l e R s m args below meth c nL (lA z) (LW z) QX cells slots o (μ, σ, v) pc lv stk := by
  intro X hX H locs ls hw hS hl
  subst hst
  have hm := LW_toM hz hw
  refine va_calli (va_runV (As := As) (rest := st) h.1 hM (cwT h.1.2.2.2.2 hy hml hR) ⟨fun a U g mk q => ⟨q.1, MW_mv (lEM_ok hz μ v) _ U (U.calling g mk a) _ (Vm.Alike.refl U.vm) q.2.1, hkw U (U.calling g mk a) (State.WarmedH.refl U) q.2.2⟩, MW_recv H hm, fun U hU hW => ⟨rfl, by rw [hU]; exact MW_mv (lEM_ok hz μ v) _ _ _ _ hW.alike hm, hkw _ _ hW hKs⟩⟩ rfl hn hl.1 rfl (lv_room hro) hd hf) hS (fun q _ q2 => lAM_A hz q2) (fun q q2 => lAM_A hz q2) (fun r0 u t H1 locs1 ht hvm hp hB hz1 hk hS1 => ?_)
  cases hp
  have hB2 : LMW z μ v σ' s H1 := by rw [← ht]; exact MW_mv (lEM_ok hz μ v) _ _ _ _ hvm.symm hB
  exact kk H1.size (by rw [hw.2.2.1]; exact hz1) X hX H1 locs1 ls (LW_ofM hz hB2) hS1 hl
theorem L_Mv (hz : lOk z) (h : gOk p s m args meth c cc nL own tb) (hkw : gKw Ke) (hKs : Ke s) (As : List Value) {stk : List Value} {σ' : Ms} (hM : Met l y (wt y bytes maxL ret) rm (gPre Ke (LMW z μ v) (.ref (zh z) :: As) σ) (gPv (LMW z μ v) (lAM z) σ') rm.cells rm.slots (lAM z)) (hy : yOkV y bytes maxL ret RX10 n) (hml : Cond.methodLink own index y ∈ tb) (hR : yRm rm R maxL) (hn : As.length = n) (hst : stk = As.reverse ++ .ref (zh z) :: st) (hro : (st.map fun v => v.category).sum ≤ 8) (hd : decode cc pc = .ok (.invokevirtual index, 3)) (hf : cells + rm.cells ≤ R.cells ∧ slots + rm.slots ≤ R.slots)
    (kk : ∀ n9, kn μ ≤ n9 → gS p l e R s m args below meth c nL (lA z) (LW z) QX (cells + rm.cells) (slots + rm.slots) o (ksn μ n9, σ', v) (pc + 3) lv st) : gS p l e R s m args below meth c nL (lA z) (LW z) QX cells slots o (μ, σ, v) pc lv stk := by
  intro X hX H locs ls hw hS hl
  subst hst
  have hm := LW_toM hz hw
  refine va_callv (va_runV (As := As) (rest := st) h.1 hM (cwT h.1.2.2.2.2 hy hml hR) ⟨fun a U g mk q => ⟨q.1, MW_mv (lEM_ok hz μ v) _ U (U.calling g mk a) _ (Vm.Alike.refl U.vm) q.2.1, hkw U (U.calling g mk a) (State.WarmedH.refl U) q.2.2⟩, MW_recv H hm, fun U hU hW => ⟨rfl, by rw [hU]; exact MW_mv (lEM_ok hz μ v) _ _ _ _ hW.alike hm, hkw _ _ hW hKs⟩⟩ rfl hn hl.1 rfl (lv_room hro) hd hf) hS (fun q _ q2 => lAM_A hz q2) (fun q q2 => lAM_A hz q2) (fun u t H1 locs1 ht hvm hp hB hz1 hk hS1 => ?_)
  cases hp
  have hB2 : LMW z μ v σ' s H1 := by rw [← ht]; exact MW_mv (lEM_ok hz μ v) _ _ _ _ hvm.symm hB
  exact kk H1.size (by rw [hw.2.2.1]; exact hz1) X hX H1 locs1 ls (LW_ofM hz hB2) hS1 hl
theorem L_Ki (hz : lOk z) (h : gOk p s m args meth c cc nL own tb) (hkw : gKw Ke) (hKs : Ke s) (As : List Value) {b : Nat} (hb : kK μ b = 9) {stk : List Value} {r : Int32} {μ' : Km} (hM : Met l y (wt y bytes maxL ret) rm (gPre Ke (LKW z σ v) (.ref b :: As) μ) (gPi (LKW z σ v) (lAK z) (r, μ')) rm.cells rm.slots (lAK z)) (hy : yOkV y bytes maxL ret RX9 n) (hml : Cond.methodLink own index y ∈ tb) (hR : yRm rm R maxL) (hn : As.length = n) (hst : stk = As.reverse ++ .ref b :: st) (hro : (st.map fun v => v.category).sum ≤ 8) (hd : decode cc pc = .ok (.invokevirtual index, 3)) (hf : cells + rm.cells ≤ R.cells ∧ slots + rm.slots ≤ R.slots)
    (kk : gS p l e R s m args below meth c nL (lA z) (LW z) QX (cells + rm.cells) (slots + rm.slots) o (μ', σ, v) (pc + 3) lv (.int r :: st)) : gS p l e R s m args below meth c nL (lA z) (LW z) QX cells slots o (μ, σ, v) pc lv stk := by
  intro X hX H locs ls hw hS hl
  subst hst
  refine va_calli (va_runV (As := As) (rest := st) h.1 hM (cwT h.1.2.2.2.2 hy hml hR) ⟨fun a U g mk q => ⟨q.1, KW_mv (lEK_ok hz σ v) _ U (U.calling g mk a) _ (Vm.Alike.refl U.vm) q.2.1, hkw U (U.calling g mk a) (State.WarmedH.refl U) q.2.2⟩, KW_recv b 8 (r := (RX9, TX9, 13)) hb (by decide) rfl H hw, fun U hU hW => ⟨rfl, by rw [hU]; exact KW_mv (lEK_ok hz σ v) _ _ _ _ hW.alike hw, hkw _ _ hW hKs⟩⟩ rfl hn hl.1 rfl (lv_room hro) hd hf) hS (fun q _ q2 => lAK_A q2) (fun q q2 => lAK_A q2) (fun r0 u t H1 locs1 ht hvm hp hB hz1 hk hS1 => ?_)
  cases hp
  have hB2 : LW z (μ', σ, v) s H1 := by rw [← ht]; exact KW_mv (lEK_ok hz σ v) _ _ _ _ hvm.symm hB
  exact kk X hX H1 locs1 ls hB2 hS1 hl
/-- a place in the table: the exception b, thrown at pc, is caught at hp -/
def ctOk (own : String) (args : Array Value) (s : State) (tbl : List ExceptionTableEntry) (pc : Nat) (b : Bool) (hp : Nat) : Prop := ∃ (pre : List ExceptionTableEntry) (x : ExceptionTableEntry) (suf : List ExceptionTableEntry) (name : String), tbl = pre ++ x :: suf ∧ (∀ q ∈ pre, covers q pc = false ∨ (q.catchType ≠ 0 ∧ ∃ nm : String, (Cond.classLink own q.catchType nm).before args s = true ∧ va_Nc (kEx b) nm s)) ∧ covers x pc = true ∧ x.catchType ≠ 0 ∧ (Cond.classLink own x.catchType name).before args s = true ∧ (Cond.castable (kEx b) name).before args s = true ∧ x.handlerPc = hp
theorem L_Xi (hz : lOk z) (h : gOk p s m args meth c cc nL own tb) (hkw : gKw Ke) (hKs : Ke s) (As : List Value) {b : Nat} (hb : kK μ b = 9) {stk : List Value} {X0 : (Int32 × Km) ⊕ (Bool × Km)} (hM : vx_Met l y (wt y bytes maxL ret) rm (gPre Ke (LKW z σ v) (.ref b :: As) μ) (xQi (LKW z σ v) (lAK z) X0) (xC (LKW z σ v) (lAK z) X0) rm.cells rm.slots (lAK z)) (hy : yOkV y bytes maxL ret RX9 n) (hml : Cond.methodLink own index y ∈ tb) (hR : yRm rm R maxL) (hn : As.length = n) (hst : stk = As.reverse ++ .ref b :: st) (hro : (st.map fun v => v.category).sum ≤ 8) (hd : decode cc pc = .ok (.invokevirtual index, 3)) (hf : cells + rm.cells ≤ R.cells ∧ slots + rm.slots ≤ R.slots) (hp : Bool → Nat) (htb : ∀ b9 u, X0 = .inr (b9, u) → ctOk own args s c.exceptionTable.toList pc b9 (hp b9))
    (kk : ∀ r u, X0 = .inl (r, u) → gS p l e R s m args below meth c nL (lA z) (LW z) QX (cells + rm.cells) (slots + rm.slots) o (u, σ, v) (pc + 3) lv (.int r :: st))
    (kx : ∀ b9 u n9 q9, X0 = .inr (b9, u) → kn u ≤ n9 → gS p l e R s m args below meth c nL (lA z) (LW z) QX (cells + rm.cells) (slots + rm.slots) o (ksn u n9, σ, v) (hp b9) lv [.ref q9]) : gS p l e R s m args below meth c nL (lA z) (LW z) QX cells slots o (μ, σ, v) pc lv stk := by
  intro X hX H locs ls hw hS hl
  subst hst
  refine vx_calli (vx_runV (As := As) (rest := st) h.1 hM (cwT h.1.2.2.2.2 hy hml hR) ⟨fun a U g mk q => ⟨q.1, KW_mv (lEK_ok hz σ v) _ U (U.calling g mk a) _ (Vm.Alike.refl U.vm) q.2.1, hkw U (U.calling g mk a) (State.WarmedH.refl U) q.2.2⟩, KW_recv b 8 (r := (RX9, TX9, 13)) hb (by decide) rfl H hw, fun U hU hW => ⟨rfl, by rw [hU]; exact KW_mv (lEK_ok hz σ v) _ _ _ _ hW.alike hw, hkw _ _ hW hKs⟩⟩ rfl hn hl.1 rfl (lv_room hro) hd hf) hS (fun q _ q2 => lAK_A q2) (fun q q2 => lAK_A q2) (fun q _ q2 => lAK_A q2) (fun E9 ce q9 u t H1 locs1 ht hvm hp9 hB hz1 hk hS1 hce hcv hcl => ?_) (fun r0 u t H1 locs1 ht hvm hp9 hB hz1 hk hS1 => ?_)
  · cases X0 with
    | inl w => exact hp9.elim
    | inr e0 =>
      obtain ⟨n9, hn9, rfl⟩ := hp9
      obtain ⟨hE9, hB1⟩ := hB
      obtain ⟨pre, x, suf, name, t1, t2, t3, t4, t5, t6, t7⟩ := htb e0.1 e0.2 rfl
      have hE9' : E9 = kEx e0.1 := hE9
      subst hE9'
      refine ct_catch h.1.2.2.2.1 pre x suf t1 t2 t3 t4 t5 t6 hce hcv hcl ?_
      rw [t7]
      have hB2 : LW z (ksn e0.2 n9, σ, v) s H1 := by rw [← ht]; exact KW_mv (lEK_ok hz σ v) _ _ _ _ hvm.symm hB1
      exact kx e0.1 e0.2 n9 q9 rfl hn9 X hX H1 locs1 ls hB2 hS1 hl
  · have hB2 : LW z (u, σ, v) s H1 := by rw [← ht]; exact KW_mv (lEK_ok hz σ v) _ _ _ _ hvm.symm hB
    exact kk r0 u hp9 X hX H1 locs1 ls hB2 hS1 hl
theorem L_Xv (hz : lOk z) (h : gOk p s m args meth c cc nL own tb) (hkw : gKw Ke) (hKs : Ke s) (As : List Value) {b : Nat} (hb : kK μ b = 9) {stk : List Value} {X0 : Km ⊕ (Bool × Km)} (hM : vx_Met l y (wt y bytes maxL ret) rm (gPre Ke (LKW z σ v) (.ref b :: As) μ) (xQv (LKW z σ v) (lAK z) X0) (xC (LKW z σ v) (lAK z) X0) rm.cells rm.slots (lAK z)) (hy : yOkV y bytes maxL ret RX9 n) (hml : Cond.methodLink own index y ∈ tb) (hR : yRm rm R maxL) (hn : As.length = n) (hst : stk = As.reverse ++ .ref b :: st) (hro : (st.map fun v => v.category).sum ≤ 8) (hd : decode cc pc = .ok (.invokevirtual index, 3)) (hf : cells + rm.cells ≤ R.cells ∧ slots + rm.slots ≤ R.slots) (hp : Bool → Nat) (htb : ∀ b9 u, X0 = .inr (b9, u) → ctOk own args s c.exceptionTable.toList pc b9 (hp b9))
    (kk : ∀ u, X0 = .inl u → gS p l e R s m args below meth c nL (lA z) (LW z) QX (cells + rm.cells) (slots + rm.slots) o (u, σ, v) (pc + 3) lv st)
    (kx : ∀ b9 u n9 q9, X0 = .inr (b9, u) → kn u ≤ n9 → gS p l e R s m args below meth c nL (lA z) (LW z) QX (cells + rm.cells) (slots + rm.slots) o (ksn u n9, σ, v) (hp b9) lv [.ref q9]) : gS p l e R s m args below meth c nL (lA z) (LW z) QX cells slots o (μ, σ, v) pc lv stk := by
  intro X hX H locs ls hw hS hl
  subst hst
  refine vx_callv (vx_runV (As := As) (rest := st) h.1 hM (cwT h.1.2.2.2.2 hy hml hR) ⟨fun a U g mk q => ⟨q.1, KW_mv (lEK_ok hz σ v) _ U (U.calling g mk a) _ (Vm.Alike.refl U.vm) q.2.1, hkw U (U.calling g mk a) (State.WarmedH.refl U) q.2.2⟩, KW_recv b 8 (r := (RX9, TX9, 13)) hb (by decide) rfl H hw, fun U hU hW => ⟨rfl, by rw [hU]; exact KW_mv (lEK_ok hz σ v) _ _ _ _ hW.alike hw, hkw _ _ hW hKs⟩⟩ rfl hn hl.1 rfl (lv_room hro) hd hf) hS (fun q _ q2 => lAK_A q2) (fun q q2 => lAK_A q2) (fun q _ q2 => lAK_A q2) (fun E9 ce q9 u t H1 locs1 ht hvm hp9 hB hz1 hk hS1 hce hcv hcl => ?_) (fun u t H1 locs1 ht hvm hp9 hB hz1 hk hS1 => ?_)
  · cases X0 with
    | inl w => exact hp9.elim
    | inr e0 =>
      obtain ⟨n9, hn9, rfl⟩ := hp9
      obtain ⟨hE9, hB1⟩ := hB
      obtain ⟨pre, x, suf, name, t1, t2, t3, t4, t5, t6, t7⟩ := htb e0.1 e0.2 rfl
      have hE9' : E9 = kEx e0.1 := hE9
      subst hE9'
      refine ct_catch h.1.2.2.2.1 pre x suf t1 t2 t3 t4 t5 t6 hce hcv hcl ?_
      rw [t7]
      have hB2 : LW z (ksn e0.2 n9, σ, v) s H1 := by rw [← ht]; exact KW_mv (lEK_ok hz σ v) _ _ _ _ hvm.symm hB1
      exact kx e0.1 e0.2 n9 q9 rfl hn9 X hX H1 locs1 ls hB2 hS1 hl
  · have hB2 : LW z (u, σ, v) s H1 := by rw [← ht]; exact KW_mv (lEK_ok hz σ v) _ _ _ _ hvm.symm hB
    exact kk u hp9 X hX H1 locs1 ls hB2 hS1 hl
/-- out[0] -/
theorem L_laload (h : gOk p s m args meth c cc nL own tb) {w : Ls} (hd : decode cc pc = .ok (.laload, 1)) (kk : gS p l e R s m args below meth c nL (lA z) (LW z) QX cells slots o w (pc + 1) lv (.long w.2.2 :: st)) : gS p l e R s m args below meth c nL (lA z) (LW z) QX cells slots o w pc lv (.int 0 :: .ref (zo z) :: st) := by
  intro X hX H locs ls hw hS hl
  obtain ⟨f, hf0, hf1⟩ := hw.2.1.2.2.1
  have kk2 := kk X hX H locs ls hw hS hl
  rw [← hf0] at kk2
  exact va_lald (D := zD z) (cl := vwCl) (tys := [(zJ z, .long)]) (ws := [(zo z, .inl (zJ z, 1, .inr (.inl f)))]) h.1.1 h.1.2.1 hw.2.1.2.1 (va_P1 hf1) 0 0 rfl rfl (by unfold vp_in; decide) hd kk2
theorem vp_updL0 (f : Nat → Int64) (x : Int64) : vp_updL f (Int32.toNatClampNeg 0) x 0 = x := by
  have h : Int32.toNatClampNeg 0 = 0 := by decide
  rw [h]
  simp [vp_updL]
theorem L_lastore (hz : lOk z) (h : gOk p s m args meth c cc nL own tb) {x : Int64} (hd : decode cc pc = .ok (.lastore, 1)) (kk : gS p l e R s m args below meth c nL (lA z) (LW z) QX cells slots o (μ, σ, x) (pc + 1) lv st) : gS p l e R s m args below meth c nL (lA z) (LW z) QX cells slots o (μ, σ, v) pc lv (.long x :: .int 0 :: .ref (zo z) :: st) := by
  intro X hX H locs ls hw hS hl
  obtain ⟨h1, ⟨e1, e2, ⟨f, hf0, hf1⟩, e4⟩, h3, h4, h5⟩ := hw
  have e3 : H[zo z]? = some (arrV (zJ z) 1 (fun j => .long (f j))) := hf1
  refine W.last h.1.1 h.1.2.1 e3 ((e2.2 0 (zJ z, .long) rfl).1 1 (fun j => .long (f j))) (fun q => by cases q) (by rw [arrV_size]; decide) rfl rfl hd fun H1 e9 z9 oq => ?_
  have hz9 : zo z ≠ zh z := fun q => hz.2.2.2.1 (Or.inl q)
  have hat : va_at (zD z) vwCl (zo z, .inl (zJ z, 1, .inr (.inl (vp_updL f (Int32.toNatClampNeg 0) x)))) H1 := by
    show H1[zo z]? = some (vp_cell _ _)
    rw [e9, vp_cell_l, arrV_store]
    congr 2
    funext q
    have h00 : Int32.toNatClampNeg 0 = 0 := by decide
    rw [h00]
    by_cases hq : q = 0
    · subst hq; simp [vp_updL, updV]
    · simp [vp_updL, updV, hq]
  have hnew : LW z (μ, σ, x) s H1 := by
    refine ⟨h1, ⟨hz.1.2 _ _ _ (fun a ha hna => oq a (fun q => hna (by rw [q]; exact hz.2.2.1))) e1, e2, ⟨_, vp_updL0 f x, hat⟩, e4.1.kept (oq _ (fun q => hz9 q.symm)), fun k hk => (e4.2 k hk).kept (oq _ (fun q => hz.2.2.2.1 (Or.inr ⟨k, hk, q.symm⟩)))⟩, ?_, fun q hq => h4 q (by omega), fun a ha => ⟨(h5 a ha).1, (h5 a ha).2.kept (oq a (h5 a ha).1.2.2)⟩⟩
    rw [z9]; exact h3
  exact kk X hX H1 _ ls hnew (hS.put z9 oq hz.2.2.1) hl
end LWS
