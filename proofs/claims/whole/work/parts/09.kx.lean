section KX
def kEx (b : Bool) : String := if b = true then "java/util/NoSuchElementException" else "java/lang/IllegalArgumentException"
def kpx {α : Type} (X : α ⊕ (Bool × Km)) (w : Km) : Prop := match X with
  | .inl _ => False
  | .inr e => ∃ n, kn e.2 ≤ n ∧ w = ksn e.2 n
def kBX {α : Type} (Wd : Km → State → Heap → Prop) (X : α ⊕ (Bool × Km)) : String → Km → State → Prop := fun E w t => (match X with
  | .inl _ => False
  | .inr e => E = kEx e.1) ∧ Wd w t t.heap
def xC {α : Type} (Wd : Km → State → Heap → Prop) (A : Nat → Prop) (X : α ⊕ (Bool × Km)) : String → State → State → Prop := vx_X (kpx X) (kBX Wd X) A
def xQi (Wd : Km → State → Heap → Prop) (A : Nat → Prop) (X : (Int32 × Km) ⊕ (Bool × Km)) : Array Value → State → Outcome → State → Prop := va_Qi (fun r u => X = .inl (r, u)) (fun u t => Wd u t t.heap) A
def xQv (Wd : Km → State → Heap → Prop) (A : Nat → Prop) (X : Km ⊕ (Bool × Km)) : Array Value → State → Outcome → State → Prop := va_Qv (fun u => X = .inl u) (fun u t => Wd u t t.heap) A
def xQq (Wd : Km → State → Heap → Prop) (A : Nat → Prop) (X : (Option Nat × Km) ⊕ (Bool × Km)) : Array Value → State → Outcome → State → Prop := va_Qq (fun r u => X = .inl (r, u)) (fun u t => Wd u t t.heap) A
def bxi {β : Type} (o : Option ((Int32 × Km) ⊕ (Bool × Km))) (k : Int32 → Km → Option (β ⊕ (Bool × Km))) : Option (β ⊕ (Bool × Km)) := match o with
  | none => none
  | some (.inl v) => k v.1 v.2
  | some (.inr e) => some (.inr e)
def bxv {β : Type} (o : Option (Km ⊕ (Bool × Km))) (k : Km → Option (β ⊕ (Bool × Km))) : Option (β ⊕ (Bool × Km)) := match o with
  | none => none
  | some (.inl v) => k v
  | some (.inr e) => some (.inr e)
def bxq {β : Type} (o : Option ((Option Nat × Km) ⊕ (Bool × Km))) (k : Option Nat → Km → Option (β ⊕ (Bool × Km))) : Option (β ⊕ (Bool × Km)) := match o with
  | none => none
  | some (.inl v) => k v.1 v.2
  | some (.inr e) => some (.inr e)
def gXi (l : Launch) (y : MethodName) (cc : ByteArray) (n : Nat) (ret : Option FieldType) (rm : Room) (Ke : State → Prop) (Wd : Km → State → Heap → Prop) (A : Nat → Prop) (av : List Value) (σ : Km) (o : Option ((Int32 × Km) ⊕ (Bool × Km))) : Prop := ∀ X, o = some X → vx_Met l y (wt y cc n ret) rm (gPre Ke Wd av σ) (xQi Wd A X) (xC Wd A X) rm.cells rm.slots A
def gXv (l : Launch) (y : MethodName) (cc : ByteArray) (n : Nat) (ret : Option FieldType) (rm : Room) (Ke : State → Prop) (Wd : Km → State → Heap → Prop) (A : Nat → Prop) (av : List Value) (σ : Km) (o : Option (Km ⊕ (Bool × Km))) : Prop := ∀ X, o = some X → vx_Met l y (wt y cc n ret) rm (gPre Ke Wd av σ) (xQv Wd A X) (xC Wd A X) rm.cells rm.slots A
def gXq (l : Launch) (y : MethodName) (cc : ByteArray) (n : Nat) (ret : Option FieldType) (rm : Room) (Ke : State → Prop) (Wd : Km → State → Heap → Prop) (A : Nat → Prop) (av : List Value) (σ : Km) (o : Option ((Option Nat × Km) ⊕ (Bool × Km))) : Prop := ∀ X, o = some X → vx_Met l y (wt y cc n ret) rm (gPre Ke Wd av σ) (xQq Wd A X) (xC Wd A X) rm.cells rm.slots A
def xI (j : Nat) : Nat := match j with
  | 0 => 58
  | 1 => 69
  | 2 => 75
  | 3 => 298
  | 4 => 84
  | 5 => 87
  | 6 => 99
  | 7 => 304
  | 8 => 129
  | 9 => 132
  | 10 => 138
  | 11 => 300
  | 12 => 302
  | 13 => 160
  | 14 => 177
  | 15 => 306
  | 16 => 228
  | 17 => 230
  | 18 => 252
  | 19 => 264
  | 20 => 278
  | 21 => 296
  | _ => 0
def xT (j : Nat) : String := match j with
  | 0 => "no such month, or none of ours"
  | 1 => "no such day of the month"
  | 2 => "after the last day"
  | 3 => "no such day"
  | 4 => "no such part of a date"
  | 5 => "no such number of months"
  | 6 => "the tape has not so many bytes"
  | 7 => "no such thing"
  | 8 => "no such fact"
  | 9 => "no such value of a fact"
  | 10 => "no such event"
  | 11 => "no such field"
  | 12 => "no such store"
  | 13 => "no such days to sweep on"
  | 14 => "no such hold"
  | 15 => "no such set"
  | 16 => "no such part of a span"
  | 17 => "no such lost rule"
  | 18 => "no such rule"
  | 19 => "no such number of days"
  | 20 => "no such part of a line"
  | 21 => "no such count"
  | _ => ""
abbrev xNm : List String := ["java/lang/Exception"]
def xi0 (b : Bool) : Nat := if b = true then 13 else 7
def xb0 (b : Bool) : ByteArray := if b = true then ⟨#[0x2a, 0x2b, 0xb7, 0x00, 0x0d, 0xb1]⟩ else ⟨#[0x2a, 0x2b, 0xb7, 0x00, 0x07, 0xb1]⟩
def xLs (b : Bool) (ic : Nat) : List Cond := xAt "KeepForget" ic (kEx b) "java/lang/RuntimeException" (xi0 b) (xb0 b) xNm
theorem xb_0 (b : Bool) : decode (xb0 b) 0 = .ok (.aload_n 0, 1) := by cases b <;> decide +kernel
theorem xb_1 (b : Bool) : decode (xb0 b) 1 = .ok (.aload_n 1, 1) := by cases b <;> decide +kernel
theorem xb_2 (b : Bool) : decode (xb0 b) 2 = .ok (.invokespecial (xi0 b), 3) := by cases b <;> decide +kernel
theorem xb_5 (b : Bool) : decode (xb0 b) 5 = .ok (.return_, 1) := by cases b <;> decide +kernel
def xB : List Cond := [.castable "java/lang/IllegalArgumentException" "java/lang/IllegalArgumentException", .castable "java/util/NoSuchElementException" "java/util/NoSuchElementException", .declares ⟨"java/lang/RuntimeException", "<init>", "(Ljava/lang/String;)V"⟩, .declares ⟨"java/lang/Exception", "<init>", "(Ljava/lang/String;)V"⟩, .declares ⟨"java/lang/Throwable", "<init>", "(Ljava/lang/String;)V"⟩]
theorem xB_ot : ∀ w ∈ xB, w.onTables = true := by decide +kernel
def xAO : List String := ["KeepForget$Hold", "KeepForget$Rule", "KeepForget$RuleSet", "KeepForget$Sweeper", "KeepForget$Thing"]
def dB : List Int32 := [0, 31, 59, 90, 120, 151, 181, 212, 243, 273, 304, 334]
def xSt (l : Launch) (Ke : State → Prop) (E : State → Heap → Prop) (A : Nat → Prop) (adM : Nat → Nat) (adD : Nat) : Prop := l.stackTraces = false ∧ (∀ U, Ke U → (∀ j, j < 22 → vk_R "KeepForget" (xI j) (xT j) (adM j) U) ∧ (∀ w ∈ xB, va_Nw w U) ∧ ∀ C ∈ xAO, va_AO C U) ∧ ∀ U H, E U H → vx_Zq Bundle.tN "UNASSIGNED_STACK" Bundle.steD A U H ∧ vx_Zq Bundle.tN "SUPPRESSED_SENTINEL" Bundle.listD A U H ∧ va_Z "KeepForget$Dates" "DAYS_BEFORE" "[I" (.ref adD) A U H ∧ va_T .int adD 12 (fun j => .int (dB.getD j 0)) A U H
theorem xat_true : ∀ w ∈ (xLs true 131).filter goodWord, w ∈ tb := by decide +kernel
theorem xan_true : ∀ w ∈ (xLs true 131).filter (fun w => !goodWord w), w ∈ xB := by decide +kernel
theorem xag_true : ∀ w ∈ Cond.classLink "KeepForget" 127 (kEx true) :: Cond.initialized (kEx true) :: xLs true 131, vx_ot w = true := by decide +kernel
theorem xat_false : ∀ w ∈ (xLs false 60).filter goodWord, w ∈ tb := by decide +kernel
theorem xan_false : ∀ w ∈ (xLs false 60).filter (fun w => !goodWord w), w ∈ xB := by decide +kernel
theorem xag_false : ∀ w ∈ Cond.classLink "KeepForget" 56 (kEx false) :: Cond.initialized (kEx false) :: xLs false 60, vx_ot w = true := by decide +kernel
def xAll (b : Bool) (ik ic : Nat) : Prop := (∀ w ∈ (xLs b ic).filter goodWord, w ∈ tb) ∧ (∀ w ∈ (xLs b ic).filter (fun w => !goodWord w), w ∈ xB) ∧ (∀ w ∈ Cond.classLink "KeepForget" ik (kEx b) :: Cond.initialized (kEx b) :: xLs b ic, vx_ot w = true) ∧ Cond.classLink "KeepForget" ik (kEx b) ∈ tb ∧ Cond.initialized (kEx b) ∈ tb ∧ Bundle.fit (kEx b) = true
theorem xAll_t : xAll true 127 131 := ⟨xat_true, xan_true, xag_true, tW_641, tW_20, by decide⟩
theorem xAll_f : xAll false 56 60 := ⟨xat_false, xan_false, xag_false, tW_240, tW_9, by decide⟩
/-- a world and cells that came behind it -/
theorem KW_later {D : va_G} {cA : Nat → ClassId} {E : State → Heap → Prop} {A : Nat → Prop} {μ : Km} {u U : State} {H H1 : Heap} (hE : mEok E A) (hvm : u.vm.Alike U.vm) (h : KW D cA E A μ u H) (hz : H.size ≤ H1.size) (oq : ∀ q, q < H.size → H1[q]? = H[q]?) : KW D cA E A (ksn μ H1.size) U H1 := by
  obtain ⟨h1, h2, h3, h4, h5⟩ := h
  refine ⟨h1.moved hvm, hE.1 _ _ _ hvm (hE.2 _ _ _ (fun q hq _ => oq q hq) h2), rfl, fun q hq => h4 q (by omega), fun b hb => ?_⟩
  have hb2 : kK μ b ≠ 0 := hb
  refine ⟨(h5 b hb2).1, ?_⟩
  have e : kE cA (ksn μ H1.size) b = kE cA μ b := kE_cong rfl rfl rfl rfl
  rw [e]
  exact (h5 b hb2).2.kept (oq b (h5 b hb2).2.lt)
variable {p : Program} {l : Launch} {e : Env} {R : Room} {s : State} {m : MethodId} {args : Array Value} {below : List Frame} {meth : Method} {c : Code}
variable {Rt : Type} {cc : ByteArray} {nL : Nat} {own : String} {Ts : List Cond} {A : Nat → Prop} {Ke : State → Prop} {D : va_G} {cA : Nat → ClassId} {E : State → Heap → Prop} {cells slots mc ms : Nat} {σ : Km} {pc : Nat} {lv : List (Nat × Value)} {st : List Value}
theorem g_xiret (h : gOk p s m args meth c cc nL own tb) (hE : mEok E A) (hr : meth.sig.returnType = some .int) (hc : cells ≤ mc) (hs : slots ≤ ms) {x : Int32} (hd : decode cc pc = .ok (.ireturn, 1)) : gS p l e R s m args below meth c nL A (KW D cA E A) (fun X => vx_MQ below (xQi (KW D cA E A) A X) (xC (KW D cA E A) A X) args s mc ms A) (cells) (slots) (some (.inl (x, σ))) σ pc lv [.int x] := by
  intro X hX H locs ls hw hS hl
  cases hX
  exact vx_ret (W.widen hc hs (W.iret (v := x) h.1.1 h.1.2.1 hr (fun t ht hW => ⟨⟨x, σ, rfl, rfl, by show KW D cA E A σ t t.heap; rw [ht]; exact KW_mv hE _ _ _ _ hW.alike hw⟩, hS.F ht⟩) hS.2.2 hd h.2))
theorem g_xzret (h : gOk p s m args meth c cc nL own tb) (hE : mEok E A) (hr : meth.sig.returnType = some .boolean) (hc : cells ≤ mc) (hs : slots ≤ ms) {x : Int32} (hz : okZ x = true) (hd : decode cc pc = .ok (.ireturn, 1)) : gS p l e R s m args below meth c nL A (KW D cA E A) (fun X => vx_MQ below (xQi (KW D cA E A) A X) (xC (KW D cA E A) A X) args s mc ms A) (cells) (slots) (some (.inl (x, σ))) σ pc lv [.int x] := by
  intro X hX H locs ls hw hS hl
  cases hX
  exact vx_ret (W.widen hc hs (W.zret (v := x) h.1.1 h.1.2.1 hr (okZ_nar hz) (fun t ht hW => ⟨⟨x, σ, rfl, rfl, by show KW D cA E A σ t t.heap; rw [ht]; exact KW_mv hE _ _ _ _ hW.alike hw⟩, hS.F ht⟩) hS.2.2 hd h.2))
theorem g_xvret (h : gOk p s m args meth c cc nL own tb) (hE : mEok E A) (hr : meth.sig.returnType = none) (hc : cells ≤ mc) (hs : slots ≤ ms) (hd : decode cc pc = .ok (.return_, 1)) : gS p l e R s m args below meth c nL A (KW D cA E A) (fun X => vx_MQ below (xQv (KW D cA E A) A X) (xC (KW D cA E A) A X) args s mc ms A) (cells) (slots) (some (.inl σ)) σ pc lv [] := by
  intro X hX H locs ls hw hS hl
  cases hX
  exact vx_ret (W.widen hc hs (W.vret h.1.1 h.1.2.1 hr (fun t ht hW => ⟨⟨σ, rfl, rfl, by show KW D cA E A σ t t.heap; rw [ht]; exact KW_mv hE _ _ _ _ hW.alike hw⟩, hS.F ht⟩) hS.2.2 hd h.2))
theorem g_xqret (h : gOk p s m args meth c cc nL own tb) (hE : mEok E A) {rt : FieldType} (hr : meth.sig.returnType = some rt) (href : rt.isReference = true) (hc : cells ≤ mc) (hs : slots ≤ ms) {r : Option Nat} (hd : decode cc pc = .ok (.areturn, 1)) : gS p l e R s m args below meth c nL A (KW D cA E A) (fun X => vx_MQ below (xQq (KW D cA E A) A X) (xC (KW D cA E A) A X) args s mc ms A) (cells) (slots) (some (.inl (r, σ))) σ pc lv [va_rf r] := by
  intro X hX H locs ls hw hS hl
  cases hX
  refine vx_ret (W.widen hc hs (W.aret (v := va_rf r) (rt := rt) h.1.1 h.1.2.1 hr ?_ ?_ (fun t ht hW => ⟨⟨r, σ, rfl, rfl, by show KW D cA E A σ t t.heap; rw [ht]; exact KW_mv hE _ _ _ _ hW.alike hw⟩, hS.F ht⟩) hS.2.2 hd h.2))
  all_goals (cases r <;> cases rt <;> first | (cases href; done) | rfl | exact Or.inl rfl | exact Or.inr ⟨_, rfl⟩ | exact Or.inl ⟨_, rfl⟩ | exact Or.inr rfl)
theorem g_throwi {adM : Nat → Nat} {adD : Nat} (h : gOk p s m args meth c cc nL "KeepForget" tb) (hE : mEok E A) (hKs : Ke s) (hX : xSt l Ke E A adM adD) (hE0 : E s s.heap) (hT : ∀ x ∈ c.exceptionTable.toList, False) (b : Bool) (j : Nat) (hj : j < 22) {ik ic is : Nat} (hall : xAll b ik ic) (his : xI j = is) (hRf : 5 < R.frames) (hRl : (st.map fun v => v.category).sum + 82 ≤ R.locals) (hRc : cells + 1 ≤ R.cells) (hRs : slots + 6 ≤ R.slots) (hc : cells + 1 ≤ mc) (hs : slots + 6 ≤ ms) (d0 : decode cc pc = .ok (.new ik, 3)) (d3 : decode cc (pc + 3) = .ok (.dup, 1)) (d4 : decode cc (pc + 4) = .ok (.ldc is, 2)) (d6 : decode cc (pc + 6) = .ok (.invokespecial ic, 3)) (d9 : decode cc (pc + 9) = .ok (.athrow, 1)) : gS p l e R s m args below meth c nL A (KW D cA E A) (fun X => vx_MQ below (xQi (KW D cA E A) A X) (xC (KW D cA E A) A X) args s mc ms A) (cells) (slots) (some (.inr (b, σ))) σ pc lv st := by
  intro X hX9 H locs ls hw hS hl
  cases hX9
  subst his
  obtain ⟨x1, x2, x3⟩ := hX
  obtain ⟨y1, y2, y3⟩ := x2 s hKs
  obtain ⟨z1, z2, -⟩ := x3 s s.heap hE0
  obtain ⟨a1, a2, a3, a4, a5, a6⟩ := hall
  have hts := h.1.2.2.2.2
  refine x_throwS (names := xNm) (Y0 := "java/lang/RuntimeException") h.1.1 h.1.2.1 x1 (xb_0 b) (xb_1 b) (xb_2 b) (xb_5 b) (by decide) h.1.2.2.2.1 a6 (by decide) (hts _ a4) (hts _ a5) (y1 j hj) (vx_hat (fun w hw => hts w (a1 w hw)) a2 (fun w hw => va_Nw.use (xB_ot w hw) (y2 w hw))) a3 z1 z2 hS (hl.1.trans h.1.2.2.1.symm) d0 d3 d4 d6 d9 (fun x hx => (hT x hx).elim) (by show 1 + 4 < _; omega) (by show _ + (13 * (1 + 1 + 1) + 43) ≤ _; omega) hRc hRs h.2 (fun t hvm hz hk => ⟨ksn σ t.heap.size, ⟨_, by rw [hw.2.2.1]; exact hz, rfl⟩, ⟨rfl, KW_later hE hvm hw hz hk⟩, Nat.le_trans hS.1 hz, fun q h1 h2 => (hk q (Nat.lt_of_lt_of_le h1 hS.1)).trans (hS.2.1 q h1 h2)⟩) hS.2.2 hc hs
theorem g_throwv {adM : Nat → Nat} {adD : Nat} (h : gOk p s m args meth c cc nL "KeepForget" tb) (hE : mEok E A) (hKs : Ke s) (hX : xSt l Ke E A adM adD) (hE0 : E s s.heap) (hT : ∀ x ∈ c.exceptionTable.toList, False) (b : Bool) (j : Nat) (hj : j < 22) {ik ic is : Nat} (hall : xAll b ik ic) (his : xI j = is) (hRf : 5 < R.frames) (hRl : (st.map fun v => v.category).sum + 82 ≤ R.locals) (hRc : cells + 1 ≤ R.cells) (hRs : slots + 6 ≤ R.slots) (hc : cells + 1 ≤ mc) (hs : slots + 6 ≤ ms) (d0 : decode cc pc = .ok (.new ik, 3)) (d3 : decode cc (pc + 3) = .ok (.dup, 1)) (d4 : decode cc (pc + 4) = .ok (.ldc is, 2)) (d6 : decode cc (pc + 6) = .ok (.invokespecial ic, 3)) (d9 : decode cc (pc + 9) = .ok (.athrow, 1)) : gS p l e R s m args below meth c nL A (KW D cA E A) (fun X => vx_MQ below (xQv (KW D cA E A) A X) (xC (KW D cA E A) A X) args s mc ms A) (cells) (slots) (some (.inr (b, σ))) σ pc lv st := by
  intro X hX9 H locs ls hw hS hl
  cases hX9
  subst his
  obtain ⟨x1, x2, x3⟩ := hX
  obtain ⟨y1, y2, y3⟩ := x2 s hKs
  obtain ⟨z1, z2, -⟩ := x3 s s.heap hE0
  obtain ⟨a1, a2, a3, a4, a5, a6⟩ := hall
  have hts := h.1.2.2.2.2
  refine x_throwS (names := xNm) (Y0 := "java/lang/RuntimeException") h.1.1 h.1.2.1 x1 (xb_0 b) (xb_1 b) (xb_2 b) (xb_5 b) (by decide) h.1.2.2.2.1 a6 (by decide) (hts _ a4) (hts _ a5) (y1 j hj) (vx_hat (fun w hw => hts w (a1 w hw)) a2 (fun w hw => va_Nw.use (xB_ot w hw) (y2 w hw))) a3 z1 z2 hS (hl.1.trans h.1.2.2.1.symm) d0 d3 d4 d6 d9 (fun x hx => (hT x hx).elim) (by show 1 + 4 < _; omega) (by show _ + (13 * (1 + 1 + 1) + 43) ≤ _; omega) hRc hRs h.2 (fun t hvm hz hk => ⟨ksn σ t.heap.size, ⟨_, by rw [hw.2.2.1]; exact hz, rfl⟩, ⟨rfl, KW_later hE hvm hw hz hk⟩, Nat.le_trans hS.1 hz, fun q h1 h2 => (hk q (Nat.lt_of_lt_of_le h1 hS.1)).trans (hS.2.1 q h1 h2)⟩) hS.2.2 hc hs
theorem g_throwq {adM : Nat → Nat} {adD : Nat} (h : gOk p s m args meth c cc nL "KeepForget" tb) (hE : mEok E A) (hKs : Ke s) (hX : xSt l Ke E A adM adD) (hE0 : E s s.heap) (hT : ∀ x ∈ c.exceptionTable.toList, False) (b : Bool) (j : Nat) (hj : j < 22) {ik ic is : Nat} (hall : xAll b ik ic) (his : xI j = is) (hRf : 5 < R.frames) (hRl : (st.map fun v => v.category).sum + 82 ≤ R.locals) (hRc : cells + 1 ≤ R.cells) (hRs : slots + 6 ≤ R.slots) (hc : cells + 1 ≤ mc) (hs : slots + 6 ≤ ms) (d0 : decode cc pc = .ok (.new ik, 3)) (d3 : decode cc (pc + 3) = .ok (.dup, 1)) (d4 : decode cc (pc + 4) = .ok (.ldc is, 2)) (d6 : decode cc (pc + 6) = .ok (.invokespecial ic, 3)) (d9 : decode cc (pc + 9) = .ok (.athrow, 1)) : gS p l e R s m args below meth c nL A (KW D cA E A) (fun X => vx_MQ below (xQq (KW D cA E A) A X) (xC (KW D cA E A) A X) args s mc ms A) (cells) (slots) (some (.inr (b, σ))) σ pc lv st := by
  intro X hX9 H locs ls hw hS hl
  cases hX9
  subst his
  obtain ⟨x1, x2, x3⟩ := hX
  obtain ⟨y1, y2, y3⟩ := x2 s hKs
  obtain ⟨z1, z2, -⟩ := x3 s s.heap hE0
  obtain ⟨a1, a2, a3, a4, a5, a6⟩ := hall
  have hts := h.1.2.2.2.2
  refine x_throwS (names := xNm) (Y0 := "java/lang/RuntimeException") h.1.1 h.1.2.1 x1 (xb_0 b) (xb_1 b) (xb_2 b) (xb_5 b) (by decide) h.1.2.2.2.1 a6 (by decide) (hts _ a4) (hts _ a5) (y1 j hj) (vx_hat (fun w hw => hts w (a1 w hw)) a2 (fun w hw => va_Nw.use (xB_ot w hw) (y2 w hw))) a3 z1 z2 hS (hl.1.trans h.1.2.2.1.symm) d0 d3 d4 d6 d9 (fun x hx => (hT x hx).elim) (by show 1 + 4 < _; omega) (by show _ + (13 * (1 + 1 + 1) + 43) ≤ _; omega) hRc hRs h.2 (fun t hvm hz hk => ⟨ksn σ t.heap.size, ⟨_, by rw [hw.2.2.1]; exact hz, rfl⟩, ⟨rfl, KW_later hE hvm hw hz hk⟩, Nat.le_trans hS.1 hz, fun q h1 h2 => (hk q (Nat.lt_of_lt_of_le h1 hS.1)).trans (hS.2.1 q h1 h2)⟩) hS.2.2 hc hs
theorem g_throwWi {adM : Nat → Nat} {adD : Nat} (h : gOk p s m args meth c cc nL "KeepForget" tb) (hE : mEok E A) (hKs : Ke s) (hX : xSt l Ke E A adM adD) (hE0 : E s s.heap) (hT : ∀ x ∈ c.exceptionTable.toList, False) (b : Bool) (j : Nat) (hj : j < 22) {ik ic is : Nat} (hall : xAll b ik ic) (his : xI j = is) (hRf : 5 < R.frames) (hRl : (st.map fun v => v.category).sum + 82 ≤ R.locals) (hRc : cells + 1 ≤ R.cells) (hRs : slots + 6 ≤ R.slots) (hc : cells + 1 ≤ mc) (hs : slots + 6 ≤ ms) (d0 : decode cc pc = .ok (.new ik, 3)) (d3 : decode cc (pc + 3) = .ok (.dup, 1)) (d4 : decode cc (pc + 4) = .ok (.ldc_w is, 3)) (d6 : decode cc (pc + 7) = .ok (.invokespecial ic, 3)) (d9 : decode cc (pc + 10) = .ok (.athrow, 1)) : gS p l e R s m args below meth c nL A (KW D cA E A) (fun X => vx_MQ below (xQi (KW D cA E A) A X) (xC (KW D cA E A) A X) args s mc ms A) (cells) (slots) (some (.inr (b, σ))) σ pc lv st := by
  intro X hX9 H locs ls hw hS hl
  cases hX9
  subst his
  obtain ⟨x1, x2, x3⟩ := hX
  obtain ⟨y1, y2, y3⟩ := x2 s hKs
  obtain ⟨z1, z2, -⟩ := x3 s s.heap hE0
  obtain ⟨a1, a2, a3, a4, a5, a6⟩ := hall
  have hts := h.1.2.2.2.2
  refine x_throwSW (names := xNm) (Y0 := "java/lang/RuntimeException") h.1.1 h.1.2.1 x1 (xb_0 b) (xb_1 b) (xb_2 b) (xb_5 b) (by decide) h.1.2.2.2.1 a6 (by decide) (hts _ a4) (hts _ a5) (y1 j hj) (vx_hat (fun w hw => hts w (a1 w hw)) a2 (fun w hw => va_Nw.use (xB_ot w hw) (y2 w hw))) a3 z1 z2 hS (hl.1.trans h.1.2.2.1.symm) d0 d3 d4 d6 d9 (fun x hx => (hT x hx).elim) (by show 1 + 4 < _; omega) (by show _ + (13 * (1 + 1 + 1) + 43) ≤ _; omega) hRc hRs h.2 (fun t hvm hz hk => ⟨ksn σ t.heap.size, ⟨_, by rw [hw.2.2.1]; exact hz, rfl⟩, ⟨rfl, KW_later hE hvm hw hz hk⟩, Nat.le_trans hS.1 hz, fun q h1 h2 => (hk q (Nat.lt_of_lt_of_le h1 hS.1)).trans (hS.2.1 q h1 h2)⟩) hS.2.2 hc hs
theorem g_throwWv {adM : Nat → Nat} {adD : Nat} (h : gOk p s m args meth c cc nL "KeepForget" tb) (hE : mEok E A) (hKs : Ke s) (hX : xSt l Ke E A adM adD) (hE0 : E s s.heap) (hT : ∀ x ∈ c.exceptionTable.toList, False) (b : Bool) (j : Nat) (hj : j < 22) {ik ic is : Nat} (hall : xAll b ik ic) (his : xI j = is) (hRf : 5 < R.frames) (hRl : (st.map fun v => v.category).sum + 82 ≤ R.locals) (hRc : cells + 1 ≤ R.cells) (hRs : slots + 6 ≤ R.slots) (hc : cells + 1 ≤ mc) (hs : slots + 6 ≤ ms) (d0 : decode cc pc = .ok (.new ik, 3)) (d3 : decode cc (pc + 3) = .ok (.dup, 1)) (d4 : decode cc (pc + 4) = .ok (.ldc_w is, 3)) (d6 : decode cc (pc + 7) = .ok (.invokespecial ic, 3)) (d9 : decode cc (pc + 10) = .ok (.athrow, 1)) : gS p l e R s m args below meth c nL A (KW D cA E A) (fun X => vx_MQ below (xQv (KW D cA E A) A X) (xC (KW D cA E A) A X) args s mc ms A) (cells) (slots) (some (.inr (b, σ))) σ pc lv st := by
  intro X hX9 H locs ls hw hS hl
  cases hX9
  subst his
  obtain ⟨x1, x2, x3⟩ := hX
  obtain ⟨y1, y2, y3⟩ := x2 s hKs
  obtain ⟨z1, z2, -⟩ := x3 s s.heap hE0
  obtain ⟨a1, a2, a3, a4, a5, a6⟩ := hall
  have hts := h.1.2.2.2.2
  refine x_throwSW (names := xNm) (Y0 := "java/lang/RuntimeException") h.1.1 h.1.2.1 x1 (xb_0 b) (xb_1 b) (xb_2 b) (xb_5 b) (by decide) h.1.2.2.2.1 a6 (by decide) (hts _ a4) (hts _ a5) (y1 j hj) (vx_hat (fun w hw => hts w (a1 w hw)) a2 (fun w hw => va_Nw.use (xB_ot w hw) (y2 w hw))) a3 z1 z2 hS (hl.1.trans h.1.2.2.1.symm) d0 d3 d4 d6 d9 (fun x hx => (hT x hx).elim) (by show 1 + 4 < _; omega) (by show _ + (13 * (1 + 1 + 1) + 43) ≤ _; omega) hRc hRs h.2 (fun t hvm hz hk => ⟨ksn σ t.heap.size, ⟨_, by rw [hw.2.2.1]; exact hz, rfl⟩, ⟨rfl, KW_later hE hvm hw hz hk⟩, Nat.le_trans hS.1 hz, fun q h1 h2 => (hk q (Nat.lt_of_lt_of_le h1 hS.1)).trans (hS.2.1 q h1 h2)⟩) hS.2.2 hc hs
theorem g_throwWq {adM : Nat → Nat} {adD : Nat} (h : gOk p s m args meth c cc nL "KeepForget" tb) (hE : mEok E A) (hKs : Ke s) (hX : xSt l Ke E A adM adD) (hE0 : E s s.heap) (hT : ∀ x ∈ c.exceptionTable.toList, False) (b : Bool) (j : Nat) (hj : j < 22) {ik ic is : Nat} (hall : xAll b ik ic) (his : xI j = is) (hRf : 5 < R.frames) (hRl : (st.map fun v => v.category).sum + 82 ≤ R.locals) (hRc : cells + 1 ≤ R.cells) (hRs : slots + 6 ≤ R.slots) (hc : cells + 1 ≤ mc) (hs : slots + 6 ≤ ms) (d0 : decode cc pc = .ok (.new ik, 3)) (d3 : decode cc (pc + 3) = .ok (.dup, 1)) (d4 : decode cc (pc + 4) = .ok (.ldc_w is, 3)) (d6 : decode cc (pc + 7) = .ok (.invokespecial ic, 3)) (d9 : decode cc (pc + 10) = .ok (.athrow, 1)) : gS p l e R s m args below meth c nL A (KW D cA E A) (fun X => vx_MQ below (xQq (KW D cA E A) A X) (xC (KW D cA E A) A X) args s mc ms A) (cells) (slots) (some (.inr (b, σ))) σ pc lv st := by
  intro X hX9 H locs ls hw hS hl
  cases hX9
  subst his
  obtain ⟨x1, x2, x3⟩ := hX
  obtain ⟨y1, y2, y3⟩ := x2 s hKs
  obtain ⟨z1, z2, -⟩ := x3 s s.heap hE0
  obtain ⟨a1, a2, a3, a4, a5, a6⟩ := hall
  have hts := h.1.2.2.2.2
  refine x_throwSW (names := xNm) (Y0 := "java/lang/RuntimeException") h.1.1 h.1.2.1 x1 (xb_0 b) (xb_1 b) (xb_2 b) (xb_5 b) (by decide) h.1.2.2.2.1 a6 (by decide) (hts _ a4) (hts _ a5) (y1 j hj) (vx_hat (fun w hw => hts w (a1 w hw)) a2 (fun w hw => va_Nw.use (xB_ot w hw) (y2 w hw))) a3 z1 z2 hS (hl.1.trans h.1.2.2.1.symm) d0 d3 d4 d6 d9 (fun x hx => (hT x hx).elim) (by show 1 + 4 < _; omega) (by show _ + (13 * (1 + 1 + 1) + 43) ≤ _; omega) hRc hRs h.2 (fun t hvm hz hk => ⟨ksn σ t.heap.size, ⟨_, by rw [hw.2.2.1]; exact hz, rfl⟩, ⟨rfl, KW_later hE hvm hw hz hk⟩, Nat.le_trans hS.1 hz, fun q h1 h2 => (hk q (Nat.lt_of_lt_of_le h1 hS.1)).trans (hS.2.1 q h1 h2)⟩) hS.2.2 hc hs
theorem g_metxi {y : MethodName} {rm : Room} {maxL : Nat} {ret : Option FieldType} {av : List Value} {o : Option ((Int32 × Km) ⊕ (Bool × Km))} (hy : plainName y.cls = true) (hav : (lg_sl av).length ≤ maxL)
    (body : ∀ (p : Program) (e : Env) (s : State) (m : MethodId) (below : List Frame) (meth : Method) (c : Code), gOk p s m av.toArray meth c cc maxL y.cls tb → meth.sig.returnType = ret → Ke s → E s s.heap → (∀ x ∈ c.exceptionTable.toList, False) → gS p l e rm s m av.toArray below meth c maxL A (KW D cA E A) (fun X => vx_MQ below (xQi (KW D cA E A) A X) (xC (KW D cA E A) A X) av.toArray s rm.cells rm.slots A) 0 0 o σ 0 (lv_args 0 av) []) : gXi l y cc maxL ret rm Ke (KW D cA E A) A av σ o := by
  intro X hX
  refine vx_ofW (cc := cc) (maxL := maxL) (ret := ret) hy rfl ?_
  intro p e s m args below meth c s₁ B hml hT hv
  obtain ⟨rfl, hW0, hK0⟩ := hv
  have hl := lv_entry av (n := maxL) hav
  rw [lg_entry_eq]
  exact body p e s m below meth c ⟨⟨B.exec, B.bytes, hml, findClass_of_methodNamed B.named, fun w hw => atoms_spec (ws := wt y cc maxL ret) B.pre w (List.mem_cons_of_mem _ hw)⟩, B.notSynchronized⟩ B.returns hK0 hW0.2.1 hT X hX s.heap [] _ hW0 va_S.rf hl
theorem g_metxv {y : MethodName} {rm : Room} {maxL : Nat} {ret : Option FieldType} {av : List Value} {o : Option (Km ⊕ (Bool × Km))} (hy : plainName y.cls = true) (hav : (lg_sl av).length ≤ maxL)
    (body : ∀ (p : Program) (e : Env) (s : State) (m : MethodId) (below : List Frame) (meth : Method) (c : Code), gOk p s m av.toArray meth c cc maxL y.cls tb → meth.sig.returnType = ret → Ke s → E s s.heap → (∀ x ∈ c.exceptionTable.toList, False) → gS p l e rm s m av.toArray below meth c maxL A (KW D cA E A) (fun X => vx_MQ below (xQv (KW D cA E A) A X) (xC (KW D cA E A) A X) av.toArray s rm.cells rm.slots A) 0 0 o σ 0 (lv_args 0 av) []) : gXv l y cc maxL ret rm Ke (KW D cA E A) A av σ o := by
  intro X hX
  refine vx_ofW (cc := cc) (maxL := maxL) (ret := ret) hy rfl ?_
  intro p e s m args below meth c s₁ B hml hT hv
  obtain ⟨rfl, hW0, hK0⟩ := hv
  have hl := lv_entry av (n := maxL) hav
  rw [lg_entry_eq]
  exact body p e s m below meth c ⟨⟨B.exec, B.bytes, hml, findClass_of_methodNamed B.named, fun w hw => atoms_spec (ws := wt y cc maxL ret) B.pre w (List.mem_cons_of_mem _ hw)⟩, B.notSynchronized⟩ B.returns hK0 hW0.2.1 hT X hX s.heap [] _ hW0 va_S.rf hl
theorem g_metxq {y : MethodName} {rm : Room} {maxL : Nat} {ret : Option FieldType} {av : List Value} {o : Option ((Option Nat × Km) ⊕ (Bool × Km))} (hy : plainName y.cls = true) (hav : (lg_sl av).length ≤ maxL)
    (body : ∀ (p : Program) (e : Env) (s : State) (m : MethodId) (below : List Frame) (meth : Method) (c : Code), gOk p s m av.toArray meth c cc maxL y.cls tb → meth.sig.returnType = ret → Ke s → E s s.heap → (∀ x ∈ c.exceptionTable.toList, False) → gS p l e rm s m av.toArray below meth c maxL A (KW D cA E A) (fun X => vx_MQ below (xQq (KW D cA E A) A X) (xC (KW D cA E A) A X) av.toArray s rm.cells rm.slots A) 0 0 o σ 0 (lv_args 0 av) []) : gXq l y cc maxL ret rm Ke (KW D cA E A) A av σ o := by
  intro X hX
  refine vx_ofW (cc := cc) (maxL := maxL) (ret := ret) hy rfl ?_
  intro p e s m args below meth c s₁ B hml hT hv
  obtain ⟨rfl, hW0, hK0⟩ := hv
  have hl := lv_entry av (n := maxL) hav
  rw [lg_entry_eq]
  exact body p e s m below meth c ⟨⟨B.exec, B.bytes, hml, findClass_of_methodNamed B.named, fun w hw => atoms_spec (ws := wt y cc maxL ret) B.pre w (List.mem_cons_of_mem _ hw)⟩, B.notSynchronized⟩ B.returns hK0 hW0.2.1 hT X hX s.heap [] _ hW0 va_S.rf hl
theorem vx_callq9 {H : Heap} {locs : List Loc} {Q : State → Prop} {free : Addr → Prop} {A0 A1 : Nat → Prop} {H0 : Heap} {a : Array Value} {ls : Array Slot} {st0 rest : List Value} {S SX : Type} {post : Option Nat → S → Prop} {px : SX → Prop} {B : S → State → Prop} {BX : String → SX → State → Prop} {AX : Nat → Prop} (hr : vx_Run p l e R s m args below meth c H locs cells slots mc ms (F0 m pc ls st0) rest (va_Qq post B A1 a) (vx_X px BX AX) free) (hS : va_S A0 H0 H locs) (hA : ∀ q, q < H.size → A1 q → A0 q) (hf : ∀ q, free q → A0 q) (hAX : ∀ q, q < H.size → AX q → A0 q)
    (kx : ∀ (E : String) (ce : Cell) (q9 : Addr) (u : SX) (t : State) (H1 : Heap) (locs1 : List Loc), t.heap = H1 → s.vm.Alike t.vm → px u → BX E u t → H.size ≤ H1.size → (∀ q : Nat, q < H.size → ¬ AX q → H1[q]? = H[q]?) → va_S A0 H0 H1 locs1 → H1[q9]? = some ce → ce.vm = .none → s.vm.findClass E = some ce.cls → vx_W p l e R s m args below meth c H1 locs1 (cells + mc) (slots + ms) Q (F0 m pc ls rest) q9)
    (kk : ∀ (r : Option Nat) (u : S) (t : State) (H1 : Heap) (locs1 : List Loc), t.heap = H1 → s.vm.Alike t.vm → post r u → B u t → H.size ≤ H1.size → (∀ q : Nat, q < H.size → ¬ A1 q → H1[q]? = H[q]?) → va_S A0 H0 H1 locs1 → W p l e R s m args below meth c H1 locs1 (cells + mc) (slots + ms) Q (F0 m (pc + 3) ls (va_rf r :: rest))) : W p l e R s m args below meth c H locs cells slots Q (F0 m pc ls st0) := by
  intro T hT X
  rcases hr T hT X with ⟨v, st₀, t, T', L, h0, X', hL, e1, e2, ⟨⟨r, u, hv, hp, hb⟩, hF⟩, st⟩ | ⟨q, st₀, t, T', L, E, ce, h0, X', hL, e1, e2, ⟨u, hp, hb, hF⟩, hce, hcv, hcl, st⟩
  · cases hv
    obtain ⟨k1, k2, k3⟩ := vx_keep h0 e1 hS hA hf hL hF
    obtain ⟨t2, a1, b1⟩ := kk r u t T'.heap (locs ++ L) e1.symm (by rw [← e2]; exact X'.warmed.alike) hp hb k1 k2 k3 T' rfl X'
    exact ⟨t2, st t2 a1, b1⟩
  · obtain ⟨k1, k2, k3⟩ := vx_keep h0 e1 hS hAX hf hL hF
    obtain ⟨t2, a1, b1⟩ := kx E ce q u t T'.heap (locs ++ L) e1.symm (by rw [← e2]; exact X'.warmed.alike) hp hb k1 k2 k3 (by rw [e1]; exact hce) hcv hcl T' rfl X'
    exact ⟨t2, st.trans a1, b1⟩
variable {y : MethodName} {bytes : ByteArray} {maxL n index : Nat} {ret : Option FieldType} {rm : Room} {β : Type} {Qb : (β ⊕ (Bool × Km)) → Array Value → State → Outcome → State → Prop}
theorem g_xcallVi (h : gOk p s m args meth c cc nL own tb) (hE : mEok E A) (hkw : gKw Ke) (hKs : Ke s) (hT : ∀ x ∈ c.exceptionTable.toList, False) {C : String} {b : Nat} (As : List Value) {stk : List Value} {f : Option ((Int32 × Km) ⊕ (Bool × Km))} {k : Int32 → Km → Option (β ⊕ (Bool × Km))} (hM : gXi l y bytes maxL ret rm Ke (KW D cA E A) A (.ref b :: As) σ f) (hy : yOkV y bytes maxL ret C n) (hml : Cond.methodLink own index y ∈ tb) (hR : yRm rm R maxL) (hrc : ∀ H, KW D cA E A σ s H → ∃ cellB : Cell, H[b]? = some cellB ∧ cellB.vm.isStatics = false ∧ s.vm.findClass C = some cellB.cls) (hn : As.length = n) (hst : stk = As.reverse ++ .ref b :: st) (hro : (st.map fun v => v.category).sum ≤ 8) (hd : decode cc pc = .ok (.invokevirtual index, 3)) (hf : cells + rm.cells ≤ R.cells ∧ slots + rm.slots ≤ R.slots) (hc : cells + rm.cells ≤ mc) (hs : slots + rm.slots ≤ ms) (kk : ∀ r u, gS p l e R s m args below meth c nL A (KW D cA E A) (fun X => vx_MQ below (Qb X) (xC (KW D cA E A) A X) args s mc ms A) (cells + rm.cells) (slots + rm.slots) (k r u) u (pc + 3) lv (.int r :: st)) : gS p l e R s m args below meth c nL A (KW D cA E A) (fun X => vx_MQ below (Qb X) (xC (KW D cA E A) A X) args s mc ms A) (cells) (slots) (bxi f k) σ pc lv stk := by
  intro X hX H locs ls hw hS hl
  subst hst
  cases hf0 : f with
  | none => rw [hf0] at hX; cases hX
  | some u0 =>
  rw [hf0] at hX
  refine vx_calli (vx_runV (As := As) (rest := st) h.1 (hM u0 hf0) (cwT h.1.2.2.2.2 hy hml hR) ⟨fun a U g mk q => ⟨q.1, KW_mv hE _ U (U.calling g mk a) _ (Vm.Alike.refl U.vm) q.2.1, hkw U (U.calling g mk a) (State.WarmedH.refl U) q.2.2⟩, hrc H hw, fun U hU hW => ⟨rfl, by rw [hU]; exact KW_mv hE _ _ _ _ hW.alike hw, hkw _ _ hW hKs⟩⟩ rfl hn hl.1 rfl (lv_room hro) hd hf) hS (fun q _ z => z) (fun q z => z) (fun q _ z => z) (fun E9 ce q9 u t H1 locs1 ht hvm hp hB hz hk hS1 hce hcv hcl => ?_) (fun r u t H1 locs1 ht hvm hp hB hz hk hS1 => ?_)
  · cases u0 with
    | inl v => exact hp.elim
    | inr e0 =>
      cases hX
      refine vx_out (fun x hx => (hT x hx).elim) h.2 hce hcv hcl (fun t2 ht2 hvm2 => ⟨u, hp, ⟨hB.1, ?_⟩, hS1.F ht2⟩) hS1.2.2 hc hs
      rw [ht2, ← ht]
      exact KW_mv hE _ _ _ _ (hvm.symm.trans hvm2) hB.2
  · subst hp
    exact kk r u X hX H1 locs1 ls (by rw [← ht]; exact KW_mv hE _ _ _ _ hvm.symm hB) hS1 hl
theorem g_xcallVv (h : gOk p s m args meth c cc nL own tb) (hE : mEok E A) (hkw : gKw Ke) (hKs : Ke s) (hT : ∀ x ∈ c.exceptionTable.toList, False) {C : String} {b : Nat} (As : List Value) {stk : List Value} {f : Option (Km ⊕ (Bool × Km))} {k : Km → Option (β ⊕ (Bool × Km))} (hM : gXv l y bytes maxL ret rm Ke (KW D cA E A) A (.ref b :: As) σ f) (hy : yOkV y bytes maxL ret C n) (hml : Cond.methodLink own index y ∈ tb) (hR : yRm rm R maxL) (hrc : ∀ H, KW D cA E A σ s H → ∃ cellB : Cell, H[b]? = some cellB ∧ cellB.vm.isStatics = false ∧ s.vm.findClass C = some cellB.cls) (hn : As.length = n) (hst : stk = As.reverse ++ .ref b :: st) (hro : (st.map fun v => v.category).sum ≤ 8) (hd : decode cc pc = .ok (.invokevirtual index, 3)) (hf : cells + rm.cells ≤ R.cells ∧ slots + rm.slots ≤ R.slots) (hc : cells + rm.cells ≤ mc) (hs : slots + rm.slots ≤ ms) (kk : ∀ u, gS p l e R s m args below meth c nL A (KW D cA E A) (fun X => vx_MQ below (Qb X) (xC (KW D cA E A) A X) args s mc ms A) (cells + rm.cells) (slots + rm.slots) (k u) u (pc + 3) lv (st)) : gS p l e R s m args below meth c nL A (KW D cA E A) (fun X => vx_MQ below (Qb X) (xC (KW D cA E A) A X) args s mc ms A) (cells) (slots) (bxv f k) σ pc lv stk := by
  intro X hX H locs ls hw hS hl
  subst hst
  cases hf0 : f with
  | none => rw [hf0] at hX; cases hX
  | some u0 =>
  rw [hf0] at hX
  refine vx_callv (vx_runV (As := As) (rest := st) h.1 (hM u0 hf0) (cwT h.1.2.2.2.2 hy hml hR) ⟨fun a U g mk q => ⟨q.1, KW_mv hE _ U (U.calling g mk a) _ (Vm.Alike.refl U.vm) q.2.1, hkw U (U.calling g mk a) (State.WarmedH.refl U) q.2.2⟩, hrc H hw, fun U hU hW => ⟨rfl, by rw [hU]; exact KW_mv hE _ _ _ _ hW.alike hw, hkw _ _ hW hKs⟩⟩ rfl hn hl.1 rfl (lv_room hro) hd hf) hS (fun q _ z => z) (fun q z => z) (fun q _ z => z) (fun E9 ce q9 u t H1 locs1 ht hvm hp hB hz hk hS1 hce hcv hcl => ?_) (fun u t H1 locs1 ht hvm hp hB hz hk hS1 => ?_)
  · cases u0 with
    | inl v => exact hp.elim
    | inr e0 =>
      cases hX
      refine vx_out (fun x hx => (hT x hx).elim) h.2 hce hcv hcl (fun t2 ht2 hvm2 => ⟨u, hp, ⟨hB.1, ?_⟩, hS1.F ht2⟩) hS1.2.2 hc hs
      rw [ht2, ← ht]
      exact KW_mv hE _ _ _ _ (hvm.symm.trans hvm2) hB.2
  · subst hp
    exact kk u X hX H1 locs1 ls (by rw [← ht]; exact KW_mv hE _ _ _ _ hvm.symm hB) hS1 hl
theorem g_xcallVq (h : gOk p s m args meth c cc nL own tb) (hE : mEok E A) (hkw : gKw Ke) (hKs : Ke s) (hT : ∀ x ∈ c.exceptionTable.toList, False) {C : String} {b : Nat} (As : List Value) {stk : List Value} {f : Option ((Option Nat × Km) ⊕ (Bool × Km))} {k : Option Nat → Km → Option (β ⊕ (Bool × Km))} (hM : gXq l y bytes maxL ret rm Ke (KW D cA E A) A (.ref b :: As) σ f) (hy : yOkV y bytes maxL ret C n) (hml : Cond.methodLink own index y ∈ tb) (hR : yRm rm R maxL) (hrc : ∀ H, KW D cA E A σ s H → ∃ cellB : Cell, H[b]? = some cellB ∧ cellB.vm.isStatics = false ∧ s.vm.findClass C = some cellB.cls) (hn : As.length = n) (hst : stk = As.reverse ++ .ref b :: st) (hro : (st.map fun v => v.category).sum ≤ 8) (hd : decode cc pc = .ok (.invokevirtual index, 3)) (hf : cells + rm.cells ≤ R.cells ∧ slots + rm.slots ≤ R.slots) (hc : cells + rm.cells ≤ mc) (hs : slots + rm.slots ≤ ms) (kk : ∀ r u, gS p l e R s m args below meth c nL A (KW D cA E A) (fun X => vx_MQ below (Qb X) (xC (KW D cA E A) A X) args s mc ms A) (cells + rm.cells) (slots + rm.slots) (k r u) u (pc + 3) lv (va_rf r :: st)) : gS p l e R s m args below meth c nL A (KW D cA E A) (fun X => vx_MQ below (Qb X) (xC (KW D cA E A) A X) args s mc ms A) (cells) (slots) (bxq f k) σ pc lv stk := by
  intro X hX H locs ls hw hS hl
  subst hst
  cases hf0 : f with
  | none => rw [hf0] at hX; cases hX
  | some u0 =>
  rw [hf0] at hX
  refine vx_callq9 (vx_runV (As := As) (rest := st) h.1 (hM u0 hf0) (cwT h.1.2.2.2.2 hy hml hR) ⟨fun a U g mk q => ⟨q.1, KW_mv hE _ U (U.calling g mk a) _ (Vm.Alike.refl U.vm) q.2.1, hkw U (U.calling g mk a) (State.WarmedH.refl U) q.2.2⟩, hrc H hw, fun U hU hW => ⟨rfl, by rw [hU]; exact KW_mv hE _ _ _ _ hW.alike hw, hkw _ _ hW hKs⟩⟩ rfl hn hl.1 rfl (lv_room hro) hd hf) hS (fun q _ z => z) (fun q z => z) (fun q _ z => z) (fun E9 ce q9 u t H1 locs1 ht hvm hp hB hz hk hS1 hce hcv hcl => ?_) (fun r u t H1 locs1 ht hvm hp hB hz hk hS1 => ?_)
  · cases u0 with
    | inl v => exact hp.elim
    | inr e0 =>
      cases hX
      refine vx_out (fun x hx => (hT x hx).elim) h.2 hce hcv hcl (fun t2 ht2 hvm2 => ⟨u, hp, ⟨hB.1, ?_⟩, hS1.F ht2⟩) hS1.2.2 hc hs
      rw [ht2, ← ht]
      exact KW_mv hE _ _ _ _ (hvm.symm.trans hvm2) hB.2
  · subst hp
    exact kk r u X hX H1 locs1 ls (by rw [← ht]; exact KW_mv hE _ _ _ _ hvm.symm hB) hS1 hl
theorem g_xcallSi (h : gOk p s m args meth c cc nL own tb) (hE : mEok E A) (hkw : gKw Ke) (hKs : Ke s) (hT : ∀ x ∈ c.exceptionTable.toList, False) (As : List Value) {stk : List Value} {f : Option ((Int32 × Km) ⊕ (Bool × Km))} {k : Int32 → Km → Option (β ⊕ (Bool × Km))} (hM : gXi l y bytes maxL ret rm Ke (KW D cA E A) A As σ f) (hy : yOkS y bytes maxL ret n) (hml : Cond.methodLink own index y ∈ tb) (hR : yRm rm R maxL) (hn : As.length = n) (hst : stk = As.reverse ++ st) (hro : (st.map fun v => v.category).sum ≤ 8) (hd : decode cc pc = .ok (.invokestatic index, 3)) (hf : cells + rm.cells ≤ R.cells ∧ slots + rm.slots ≤ R.slots) (hc : cells + rm.cells ≤ mc) (hs : slots + rm.slots ≤ ms) (kk : ∀ r u, gS p l e R s m args below meth c nL A (KW D cA E A) (fun X => vx_MQ below (Qb X) (xC (KW D cA E A) A X) args s mc ms A) (cells + rm.cells) (slots + rm.slots) (k r u) u (pc + 3) lv (.int r :: st)) : gS p l e R s m args below meth c nL A (KW D cA E A) (fun X => vx_MQ below (Qb X) (xC (KW D cA E A) A X) args s mc ms A) (cells) (slots) (bxi f k) σ pc lv stk := by
  intro X hX H locs ls hw hS hl
  subst hst
  cases hf0 : f with
  | none => rw [hf0] at hX; cases hX
  | some u0 =>
  rw [hf0] at hX
  refine vx_calli (vx_runS (As := As) (rest := st) h.1 (hM u0 hf0) (cwTS h.1.2.2.2.2 hy hml hR) ⟨fun a U g mk q => ⟨q.1, KW_mv hE _ U (U.calling g mk a) _ (Vm.Alike.refl U.vm) q.2.1, hkw U (U.calling g mk a) (State.WarmedH.refl U) q.2.2⟩, fun U hU hW => ⟨rfl, by rw [hU]; exact KW_mv hE _ _ _ _ hW.alike hw, hkw _ _ hW hKs⟩⟩ rfl hn hl.1 rfl (lv_room hro) hd hf) hS (fun q _ z => z) (fun q z => z) (fun q _ z => z) (fun E9 ce q9 u t H1 locs1 ht hvm hp hB hz hk hS1 hce hcv hcl => ?_) (fun r u t H1 locs1 ht hvm hp hB hz hk hS1 => ?_)
  · cases u0 with
    | inl v => exact hp.elim
    | inr e0 =>
      cases hX
      refine vx_out (fun x hx => (hT x hx).elim) h.2 hce hcv hcl (fun t2 ht2 hvm2 => ⟨u, hp, ⟨hB.1, ?_⟩, hS1.F ht2⟩) hS1.2.2 hc hs
      rw [ht2, ← ht]
      exact KW_mv hE _ _ _ _ (hvm.symm.trans hvm2) hB.2
  · subst hp
    exact kk r u X hX H1 locs1 ls (by rw [← ht]; exact KW_mv hE _ _ _ _ hvm.symm hB) hS1 hl
theorem g_xcallSv (h : gOk p s m args meth c cc nL own tb) (hE : mEok E A) (hkw : gKw Ke) (hKs : Ke s) (hT : ∀ x ∈ c.exceptionTable.toList, False) (As : List Value) {stk : List Value} {f : Option (Km ⊕ (Bool × Km))} {k : Km → Option (β ⊕ (Bool × Km))} (hM : gXv l y bytes maxL ret rm Ke (KW D cA E A) A As σ f) (hy : yOkS y bytes maxL ret n) (hml : Cond.methodLink own index y ∈ tb) (hR : yRm rm R maxL) (hn : As.length = n) (hst : stk = As.reverse ++ st) (hro : (st.map fun v => v.category).sum ≤ 8) (hd : decode cc pc = .ok (.invokestatic index, 3)) (hf : cells + rm.cells ≤ R.cells ∧ slots + rm.slots ≤ R.slots) (hc : cells + rm.cells ≤ mc) (hs : slots + rm.slots ≤ ms) (kk : ∀ u, gS p l e R s m args below meth c nL A (KW D cA E A) (fun X => vx_MQ below (Qb X) (xC (KW D cA E A) A X) args s mc ms A) (cells + rm.cells) (slots + rm.slots) (k u) u (pc + 3) lv (st)) : gS p l e R s m args below meth c nL A (KW D cA E A) (fun X => vx_MQ below (Qb X) (xC (KW D cA E A) A X) args s mc ms A) (cells) (slots) (bxv f k) σ pc lv stk := by
  intro X hX H locs ls hw hS hl
  subst hst
  cases hf0 : f with
  | none => rw [hf0] at hX; cases hX
  | some u0 =>
  rw [hf0] at hX
  refine vx_callv (vx_runS (As := As) (rest := st) h.1 (hM u0 hf0) (cwTS h.1.2.2.2.2 hy hml hR) ⟨fun a U g mk q => ⟨q.1, KW_mv hE _ U (U.calling g mk a) _ (Vm.Alike.refl U.vm) q.2.1, hkw U (U.calling g mk a) (State.WarmedH.refl U) q.2.2⟩, fun U hU hW => ⟨rfl, by rw [hU]; exact KW_mv hE _ _ _ _ hW.alike hw, hkw _ _ hW hKs⟩⟩ rfl hn hl.1 rfl (lv_room hro) hd hf) hS (fun q _ z => z) (fun q z => z) (fun q _ z => z) (fun E9 ce q9 u t H1 locs1 ht hvm hp hB hz hk hS1 hce hcv hcl => ?_) (fun u t H1 locs1 ht hvm hp hB hz hk hS1 => ?_)
  · cases u0 with
    | inl v => exact hp.elim
    | inr e0 =>
      cases hX
      refine vx_out (fun x hx => (hT x hx).elim) h.2 hce hcv hcl (fun t2 ht2 hvm2 => ⟨u, hp, ⟨hB.1, ?_⟩, hS1.F ht2⟩) hS1.2.2 hc hs
      rw [ht2, ← ht]
      exact KW_mv hE _ _ _ _ (hvm.symm.trans hvm2) hB.2
  · subst hp
    exact kk u X hX H1 locs1 ls (by rw [← ht]; exact KW_mv hE _ _ _ _ hvm.symm hB) hS1 hl
theorem g_xcallSq (h : gOk p s m args meth c cc nL own tb) (hE : mEok E A) (hkw : gKw Ke) (hKs : Ke s) (hT : ∀ x ∈ c.exceptionTable.toList, False) (As : List Value) {stk : List Value} {f : Option ((Option Nat × Km) ⊕ (Bool × Km))} {k : Option Nat → Km → Option (β ⊕ (Bool × Km))} (hM : gXq l y bytes maxL ret rm Ke (KW D cA E A) A As σ f) (hy : yOkS y bytes maxL ret n) (hml : Cond.methodLink own index y ∈ tb) (hR : yRm rm R maxL) (hn : As.length = n) (hst : stk = As.reverse ++ st) (hro : (st.map fun v => v.category).sum ≤ 8) (hd : decode cc pc = .ok (.invokestatic index, 3)) (hf : cells + rm.cells ≤ R.cells ∧ slots + rm.slots ≤ R.slots) (hc : cells + rm.cells ≤ mc) (hs : slots + rm.slots ≤ ms) (kk : ∀ r u, gS p l e R s m args below meth c nL A (KW D cA E A) (fun X => vx_MQ below (Qb X) (xC (KW D cA E A) A X) args s mc ms A) (cells + rm.cells) (slots + rm.slots) (k r u) u (pc + 3) lv (va_rf r :: st)) : gS p l e R s m args below meth c nL A (KW D cA E A) (fun X => vx_MQ below (Qb X) (xC (KW D cA E A) A X) args s mc ms A) (cells) (slots) (bxq f k) σ pc lv stk := by
  intro X hX H locs ls hw hS hl
  subst hst
  cases hf0 : f with
  | none => rw [hf0] at hX; cases hX
  | some u0 =>
  rw [hf0] at hX
  refine vx_callq9 (vx_runS (As := As) (rest := st) h.1 (hM u0 hf0) (cwTS h.1.2.2.2.2 hy hml hR) ⟨fun a U g mk q => ⟨q.1, KW_mv hE _ U (U.calling g mk a) _ (Vm.Alike.refl U.vm) q.2.1, hkw U (U.calling g mk a) (State.WarmedH.refl U) q.2.2⟩, fun U hU hW => ⟨rfl, by rw [hU]; exact KW_mv hE _ _ _ _ hW.alike hw, hkw _ _ hW hKs⟩⟩ rfl hn hl.1 rfl (lv_room hro) hd hf) hS (fun q _ z => z) (fun q z => z) (fun q _ z => z) (fun E9 ce q9 u t H1 locs1 ht hvm hp hB hz hk hS1 hce hcv hcl => ?_) (fun r u t H1 locs1 ht hvm hp hB hz hk hS1 => ?_)
  · cases u0 with
    | inl v => exact hp.elim
    | inr e0 =>
      cases hX
      refine vx_out (fun x hx => (hT x hx).elim) h.2 hce hcv hcl (fun t2 ht2 hvm2 => ⟨u, hp, ⟨hB.1, ?_⟩, hS1.F ht2⟩) hS1.2.2 hc hs
      rw [ht2, ← ht]
      exact KW_mv hE _ _ _ _ (hvm.symm.trans hvm2) hB.2
  · subst hp
    exact kk r u X hX H1 locs1 ls (by rw [← ht]; exact KW_mv hE _ _ _ _ hvm.symm hB) hS1 hl
end KX
