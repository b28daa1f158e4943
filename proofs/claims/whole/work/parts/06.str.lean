section STR
def sAt (A : Nat → Prop) (a v : Nat) (w : List Int32) (U : State) (H : Heap) : Prop := va_O "java/lang/String" a A U H ∧ va_OF "java/lang/String" "coder" "B" (.int 0) a A U H ∧ va_OF "java/lang/String" "value" "[B" (.ref v) a A U H ∧ va_T .byte v w.length (fun j => .int (w.getD j 0)) A U H
theorem sAt.moved {A : Nat → Prop} {a v : Nat} {w : List Int32} {u U : State} {H : Heap} (hvm : u.vm.Alike U.vm) (h : sAt A a v w u H) : sAt A a v w U H := ⟨va_O.moved hvm h.1, va_OF.moved hvm h.2.1, va_OF.moved hvm h.2.2.1, va_T.moved hvm h.2.2.2⟩
theorem sAt.kept {A : Nat → Prop} {a v : Nat} {w : List Int32} {U : State} {H H1 : Heap} (h : sAt A a v w U H) (hq : ∀ q : Nat, q < H.size → ¬ A q → H1[q]? = H[q]?) : sAt A a v w U H1 := ⟨h.1.kept hq, h.2.1.kept hq, h.2.2.1.kept hq, h.2.2.2.kept hq⟩
def sKn {S : Type} (A : Nat → Prop) (Wd : S → State → Heap → Prop) : Prop := ∀ (σ : S) (U : State) (H : Heap), Wd σ U H → va_Z "java/lang/String" "COMPACT_STRINGS" "Z" (.int 1) A U H ∧ va_Zq "jdk/internal/util/Preconditions" "SIOOBE_FORMATTER" "Ljava/util/function/BiFunction;" A U H
def sIs {S : Type} (A : Nat → Prop) (Wd : S → State → Heap → Prop) (a v : Nat) (w : List Int32) : Prop := ∀ (σ : S) (U : State) (H : Heap), Wd σ U H → sAt A a v w U H
variable {p : Program} {l : Launch} {e : Env} {R : Room} {s : State} {m : MethodId} {args : Array Value} {below : List Frame} {meth : Method} {c : Code}
variable {S Rt : Type} {cc : ByteArray} {nL : Nat} {own : String} {Ts : List Cond} {A : Nat → Prop} {Ke : State → Prop} {Wd : S → State → Heap → Prop} {QX : Rt → State → Prop} {cells slots mc ms : Nat} {o : Option Rt} {σ : S} {pc : Nat} {lv : List (Nat × Value)} {st : List Value}
theorem g_gets (h : gOk p s m args meth c cc nL own Ts) {C n d : String} {v : Value} {index : Nat} (hZ : ∀ H, Wd σ s H → va_Z C n d v A s H) (hlk : Cond.fieldLink own index C n d ∈ Ts) (hd : decode cc pc = .ok (.getstatic index, 3)) (kk : gS p l e R s m args below meth c nL A Wd QX cells slots o σ (pc + 3) lv (v :: st)) : gS p l e R s m args below meth c nL A Wd QX cells slots o σ pc lv st := fun X hX H locs ls hw hS hl => by
  obtain ⟨cf, kf, fi, f, a, cell, h1, h2, h3, h4, h5, h6, h7, h8⟩ := hZ H hw
  exact W.gets h.1.1 h.1.2.1 h.1.2.2.2.1 (h.1.2.2.2.2 _ hlk) h1 h2 h3 h4 h5 (fun e => by rw [e] at h6; cases h6) h7 rfl hd (kk X hX H locs ls hw hS hl)
theorem g_getsq (h : gOk p s m args meth c cc nL own Ts) {C n d : String} {index : Nat} (hZ : ∀ H, Wd σ s H → va_Zq C n d A s H) (hlk : Cond.fieldLink own index C n d ∈ Ts) (hd : decode cc pc = .ok (.getstatic index, 3)) (kk : ∀ r : Option Nat, gS p l e R s m args below meth c nL A Wd QX cells slots o σ (pc + 3) lv (va_rf r :: st)) : gS p l e R s m args below meth c nL A Wd QX cells slots o σ pc lv st := fun X hX H locs ls hw hS hl => by
  have key : ∃ r : Option Nat, va_Z C n d (va_rf r) A s H := by
    rcases hZ H hw with q | ⟨t, q⟩
    · exact ⟨none, q⟩
    · exact ⟨some t, q⟩
  obtain ⟨r, cf, kf, fi, f, a, cell, h1, h2, h3, h4, h5, h6, h7, h8⟩ := key
  exact W.gets h.1.1 h.1.2.1 h.1.2.2.2.1 (h.1.2.2.2.2 _ hlk) h1 h2 h3 h4 h5 (fun e => by rw [e] at h6; cases h6) h7 rfl hd (kk r X hX H locs ls hw hS hl)
theorem g_getO (h : gOk p s m args meth c cc nL own Ts) {C n d : String} {v : Value} {index q : Nat} (hZ : ∀ H, Wd σ s H → va_OF C n d v q A s H) (hlk : Cond.fieldLink own index C n d ∈ Ts) (hd : decode cc pc = .ok (.getfield index, 3)) (kk : gS p l e R s m args below meth c nL A Wd QX cells slots o σ (pc + 3) lv (v :: st)) : gS p l e R s m args below meth c nL A Wd QX cells slots o σ pc lv (.ref q :: st) := fun X hX H locs ls hw hS hl => by
  obtain ⟨cf, k, fi, f, cell, h1, h2, h3, h4, h5, h6⟩ := hZ H hw
  exact W.getf h.1.1 h.1.2.1 h.1.2.2.2.1 (h.1.2.2.2.2 _ hlk) h1 h2 h3 h4 (v := v) h5 rfl rfl hd (kk X hX H locs ls hw hS hl)
theorem g_tlen (h : gOk p s m args meth c cc nL own Ts) {ty : FieldType} {t N : Nat} {f : Nat → Value} (hT : ∀ H, Wd σ s H → va_T ty t N f A s H) (hd : decode cc pc = .ok (.arraylength, 1)) (kk : gS p l e R s m args below meth c nL A Wd QX cells slots o σ (pc + 1) lv (.int (nI N) :: st)) : gS p l e R s m args below meth c nL A Wd QX cells slots o σ pc lv (.ref t :: st) := fun X hX H locs ls hw hS hl => by
  obtain ⟨cell, h1, h2, h3, h4, h5, h6, h7⟩ := hT H hw
  exact W.alen (n := Int32.ofNat N) h.1.1 h.1.2.1 h1 h2 h5 rfl rfl hd (kk X hX H locs ls hw hS hl)
theorem g_tb (h : gOk p s m args meth c cc nL own Ts) {t N : Nat} {f : Nat → Int32} (hT : ∀ H, Wd σ s H → va_T .byte t N (fun j => .int (f j)) A s H) {i : Int32} (hin : vp_in i N) (hd : decode cc pc = .ok (.baload, 1)) (kk : gS p l e R s m args below meth c nL A Wd QX cells slots o σ (pc + 1) lv (.int (f i.toNatClampNeg) :: st)) : gS p l e R s m args below meth c nL A Wd QX cells slots o σ pc lv (.int i :: .ref t :: st) := fun X hX H locs ls hw hS hl => by
  obtain ⟨cell, h1, h2, h3, h4, h5, h6, h7⟩ := hT H hw
  have hlt : i.toNatClampNeg < N := Nat.not_le.mp fun q => hin (Or.inr q)
  have hin' : ¬ (i < 0 ∨ cell.slots.size ≤ i.toNatClampNeg) := by
    intro q
    rcases q with q | q
    · exact hin (Or.inl q)
    · omega
  exact W.bald (v := .int (f i.toNatClampNeg)) h.1.1 h.1.2.1 h1 h2 h3 hin' (by rw [h6 _ hlt]) rfl rfl hd (kk X hX H locs ls hw hS hl)
theorem g_ti (h : gOk p s m args meth c cc nL own Ts) {t N : Nat} {f : Nat → Int32} (hT : ∀ H, Wd σ s H → va_T .int t N (fun j => .int (f j)) A s H) {i : Int32} (hin : vp_in i N) (hd : decode cc pc = .ok (.iaload, 1)) (kk : gS p l e R s m args below meth c nL A Wd QX cells slots o σ (pc + 1) lv (.int (f i.toNatClampNeg) :: st)) : gS p l e R s m args below meth c nL A Wd QX cells slots o σ pc lv (.int i :: .ref t :: st) := fun X hX H locs ls hw hS hl => by
  obtain ⟨cell, h1, h2, h3, h4, h5, h6, h7⟩ := hT H hw
  have hlt : i.toNatClampNeg < N := Nat.not_le.mp fun q => hin (Or.inr q)
  have hin' : ¬ (i < 0 ∨ cell.slots.size ≤ i.toNatClampNeg) := by
    intro q
    rcases q with q | q
    · exact hin (Or.inl q)
    · omega
  exact W.iald (v := .int (f i.toNatClampNeg)) h.1.1 h.1.2.1 h1 h2 h3 hin' (by rw [h6 _ hlt]) rfl rfl hd (kk X hX H locs ls hw hS hl)
theorem g_ldcS (h : gOk p s m args meth c cc nL own Ts) {tx : String} {index q : Nat} (hZ : vk_R own index tx q s) (hd : decode cc pc = .ok (.ldc index, 2)) (kk : gS p l e R s m args below meth c nL A Wd QX cells slots o σ (pc + 2) lv (.ref q :: st)) : gS p l e R s m args below meth c nL A Wd QX cells slots o σ pc lv st := fun X hX H locs ls hw hS hl => va_ldcS h.1.1 h.1.2.1 h.1.2.2.2.1 hZ hd (kk X hX H locs ls hw hS hl)
theorem s_ldcw {T : State} {locs : List Loc} (X : Stand p l e R s m args below meth c T locs cells slots) (hexec : p.tables.exec = Jvm.exec) {text : String} {index : Nat} {a : Addr} (hown : s.vm.findClass own = some m.cls)
    (hconst : (Cond.stringRef own index text).before args s = true) (hev : (Term.string own index).eval args s none [] s = some (.ref a)) {g : JFrame} (hg : g.method = m) (hdg : decode c.code g.pc = .ok (.ldc_w index, 3)) :
    ∀ target, Steps p.tables e below (T.setTop { g with pc := g.pc + 3, stack := .ref a :: g.stack }) target → Steps p.tables e below (T.setTop g) target := by
  obtain ⟨k, cf, i, a', hk, hcf, hcp, -, hr, hev'⟩ := Cond.stringRef_spec hown hconst
  cases hev.symm.trans hev'
  obtain ⟨k', hk', he⟩ := X.warmed.alike.2.2 _ _ hk
  have hr' : k'.resolved[index]? = some (some (.string a)) := by
    rcases X.warmed.entry hk hk' index with h | ⟨h, -⟩
    · rw [h]; exact hr
    · rw [hr] at h; cases h
  intro target hrest
  subst hg
  jvm_step X.here [hexec, hdg, ldc_w.wp_string (e := e) (s := T) (f := g) X.here.top hk' (by rw [he]; exact hcf) hcp hr']
  exact hrest
theorem g_ldcwS (h : gOk p s m args meth c cc nL own Ts) {tx : String} {index q : Nat} (hZ : vk_R own index tx q s) (hd : decode cc pc = .ok (.ldc_w index, 3)) (kk : gS p l e R s m args below meth c nL A Wd QX cells slots o σ (pc + 3) lv (.ref q :: st)) : gS p l e R s m args below meth c nL A Wd QX cells slots o σ pc lv st := fun X hX H locs ls hw hS hl => by
  intro T hT Y
  obtain ⟨t, a1, b1⟩ := kk X hX H locs ls hw hS hl T hT Y
  exact ⟨t, s_ldcw (own := own) Y h.1.1 h.1.2.2.2.1 (text := tx) (a := q) hZ.1 hZ.2 (g := F0 m pc ls st) rfl (by rw [h.1.2.1]; exact hd) t a1, b1⟩
theorem g_nretp (h : gOk p s m args meth c cc nL own Ts) (hmv : gMv Wd) {ty : FieldType} (hr : meth.sig.returnType = some ty) (hc : cells ≤ mc) (hs : slots ≤ ms) {x : Int32} (hn : narrow ty (.int x) = .int x) (hd : decode cc pc = .ok (.ireturn, 1)) : gS p l e R s m args below meth c nL A Wd (fun r => MQ below (gPi Wd A (r, σ)) args s mc ms A) cells slots (some x) σ pc lv [.int x] := by
  intro X hX H locs ls hw hS hl
  cases hX
  exact W.widen hc hs (W.zret (v := x) h.1.1 h.1.2.1 hr hn (fun t ht hW => ⟨⟨x, σ, rfl, rfl, by show Wd σ t t.heap; rw [ht]; exact hmv _ _ _ _ hW.alike hw⟩, hS.F ht⟩) hS.2.2 hd h.2)
end STR
/-! the words that the two readers compare with: 0 to 11 the reference's, then the class's -/
def sO (j : Nat) : String := match j with
  | 0 => "KeepForgetModel"
  | 1 => "KeepForgetModel"
  | 2 => "KeepForgetModel"
  | 3 => "KeepForgetModel"
  | 4 => "KeepForgetModel"
  | 5 => "KeepForgetModel"
  | 6 => "KeepForgetModel"
  | 7 => "KeepForgetModel"
  | 8 => "KeepForgetModel"
  | 9 => "KeepForgetModel"
  | 10 => "KeepForgetModel"
  | 11 => "KeepForgetModel"
  | 12 => "KeepForget$RuleReader"
  | 13 => "KeepForget$RuleReader"
  | 14 => "KeepForget$RuleReader"
  | 15 => "KeepForget$RuleReader"
  | 16 => "KeepForget$RuleReader"
  | 17 => "KeepForget$RuleReader"
  | 18 => "KeepForget$RuleReader"
  | 19 => "KeepForget$RuleReader"
  | 20 => "KeepForget$RuleReader"
  | 21 => "KeepForget$RuleReader"
  | 22 => "KeepForget$RuleReader"
  | 23 => "KeepForget$RuleReader"
  | _ => ""
def sI (j : Nat) : Nat := match j with
  | 0 => 248
  | 1 => 250
  | 2 => 273
  | 3 => 231
  | 4 => 239
  | 5 => 255
  | 6 => 257
  | 7 => 259
  | 8 => 261
  | 9 => 241
  | 10 => 246
  | 11 => 269
  | 12 => 78
  | 13 => 84
  | 14 => 86
  | 15 => 88
  | 16 => 97
  | 17 => 111
  | 18 => 113
  | 19 => 115
  | 20 => 120
  | 21 => 131
  | 22 => 136
  | 23 => 152
  | _ => 0
def sT (j : Nat) : String := match j with
  | 0 => "keep"
  | 1 => "end"
  | 2 => "place"
  | 3 => "any"
  | 4 => "all"
  | 5 => "days"
  | 6 => "months"
  | 7 => "years"
  | 8 => "from"
  | 9 => "if"
  | 10 => "and"
  | 11 => "rank"
  | 12 => "keep"
  | 13 => "end"
  | 14 => "place"
  | 15 => "any"
  | 16 => "all"
  | 17 => "days"
  | 18 => "months"
  | 19 => "years"
  | 20 => "from"
  | 21 => "if"
  | 22 => "and"
  | 23 => "rank"
  | _ => ""
def sW (j : Nat) : List Int32 := match j with
  | 0 => [107, 101, 101, 112]
  | 1 => [101, 110, 100]
  | 2 => [112, 108, 97, 99, 101]
  | 3 => [97, 110, 121]
  | 4 => [97, 108, 108]
  | 5 => [100, 97, 121, 115]
  | 6 => [109, 111, 110, 116, 104, 115]
  | 7 => [121, 101, 97, 114, 115]
  | 8 => [102, 114, 111, 109]
  | 9 => [105, 102]
  | 10 => [97, 110, 100]
  | 11 => [114, 97, 110, 107]
  | 12 => [107, 101, 101, 112]
  | 13 => [101, 110, 100]
  | 14 => [112, 108, 97, 99, 101]
  | 15 => [97, 110, 121]
  | 16 => [97, 108, 108]
  | 17 => [100, 97, 121, 115]
  | 18 => [109, 111, 110, 116, 104, 115]
  | 19 => [121, 101, 97, 114, 115]
  | 20 => [102, 114, 111, 109]
  | 21 => [105, 102]
  | 22 => [97, 110, 100]
  | 23 => [114, 97, 110, 107]
  | _ => []
def sSt {S : Type} (Ke : State → Prop) (A : Nat → Prop) (Wd : S → State → Heap → Prop) (adS adV : Nat → Nat) : Prop := sKn A Wd ∧ (∀ j, j < 24 → sIs A Wd (adS j) (adV j) (sW j)) ∧ ∀ U : State, Ke U → ∀ j, j < 24 → vk_R (sO j) (sI j) (sT j) (adS j) U
section STM
variable {l : Launch} {S : Type} {A : Nat → Prop} {Ke : State → Prop} {Wd : S → State → Heap → Prop}
def rm_J3_checkIndex_8e157 : Room := { frames := 0, cells := 0, slots := 0, locals := 0 }
theorem yk_J3_checkIndex_8e157 : yOkS yJ3_checkIndex_8e157 cJ3_checkIndex_8e157 3 (some .int) 3 := ⟨tW_480, tW_16, tW_479, by decide, by decide, by decide +kernel⟩
set_option maxHeartbeats 4000000 in
set_option maxRecDepth 100000 in
theorem c_J3_checkIndex_8e157 (hmv : gMv Wd) (σ : S) (i n : Int32) (r : Option Nat) (h1 : ¬ i < 0) (h2 : i < n) : gCp l yJ3_checkIndex_8e157 cJ3_checkIndex_8e157 3 (some .int) rm_J3_checkIndex_8e157 Ke Wd A [.int i, .int n, va_rf r] σ (some i) := by
  refine g_metp (by decide) (by cases r <;> simp [lg_sl, va_rf, Value.category]) ?_
  intro p e s m below meth c h hr hKs
  refine g_lv [(0, .int i), (1, .int n)] [0, 1] (by cases r <;> rfl) ?_
  refine g_iload_n h 0 dJ3_checkIndex_8e157_0 rfl ?_
  refine g_eq (o1 := if i < 0 then none else some i) (by rw [if_neg h1]) ?_
  refine g_if_lt h 9 dJ3_checkIndex_8e157_1 (by decide) g_none ?_
  refine g_iload_n h 0 dJ3_checkIndex_8e157_4 rfl ?_
  refine g_iload_n h 1 dJ3_checkIndex_8e157_5 rfl ?_
  refine g_eq (o1 := if i < n then some i else none) (by rw [if_pos h2]) ?_
  refine g_icmp_lt h 16 dJ3_checkIndex_8e157_6 (by decide) ?_ g_none
  refine g_iload_n h 0 dJ3_checkIndex_8e157_16 rfl ?_
  exact g_iretp h hmv hr (Nat.le_refl _) (Nat.le_refl _) dJ3_checkIndex_8e157_17
def rm_J0_checkIndex_df160 : Room := { frames := 1, cells := 0, slots := 0, locals := 22 }
theorem yk_J0_checkIndex_df160 : yOkS yJ0_checkIndex_df160 cJ0_checkIndex_df160 2 (none) 2 := ⟨tW_475, tW_14, tW_474, by decide, by decide, by decide +kernel⟩
set_option maxHeartbeats 4000000 in
set_option maxRecDepth 100000 in
theorem c_J0_checkIndex_df160 (hmv : gMv Wd) (hkw : gKw Ke) (hK : sKn A Wd) (σ : S) (i n : Int32) (h1 : ¬ i < 0) (h2 : i < n) : gCv l yJ0_checkIndex_df160 cJ0_checkIndex_df160 2 none rm_J0_checkIndex_df160 Ke Wd A [.int i, .int n] σ (some σ) := by
  refine g_metv (by decide) (by simp [lg_sl, Value.category]) ?_
  intro p e s m below meth c h hr hKs
  refine g_lv [(0, .int i), (1, .int n)] [0, 1] rfl ?_
  refine g_iload_n h 0 dJ0_checkIndex_df160_0 rfl ?_
  refine g_iload_n h 1 dJ0_checkIndex_df160_1 rfl ?_
  refine g_getsq h (fun H hw => (hK _ _ _ hw).2) tW_476 dJ0_checkIndex_df160_2 (fun r => ?_)
  refine g_eq (o1 := (some i).bind (fun _ => some σ)) rfl ?_
  refine g_callS0p h hmv hkw hKs [.int i, .int n, va_rf r] (c_J3_checkIndex_8e157 hmv σ i n r h1 h2) yk_J3_checkIndex_8e157 tW_478 ⟨(Nat.le_of_ble_eq_true rfl), (Nat.le_of_ble_eq_true rfl)⟩ rfl rfl rfl rfl (Nat.le_of_ble_eq_true rfl) dJ0_checkIndex_df160_5 ⟨Nat.zero_le _, Nat.zero_le _⟩ (fun r9 => ?_)
  refine g_pop h dJ0_checkIndex_df160_8 rfl ?_
  exact g_vret h hmv hr (Nat.le_refl _) (Nat.le_refl _) dJ0_checkIndex_df160_9
def rm_J1_charAt_3b067 : Room := { frames := 2, cells := 0, slots := 0, locals := 43 }
theorem yk_J1_charAt_3b067 : yOkS yJ1_charAt_3b067 cJ1_charAt_3b067 2 (some .char) 2 := ⟨tW_472, tW_15, tW_471, by decide, by decide, by decide +kernel⟩
set_option maxHeartbeats 4000000 in
set_option maxRecDepth 100000 in
theorem c_J1_charAt_3b067 (hmv : gMv Wd) (hkw : gKw Ke) (hK : sKn A Wd) (σ : S) (v : Nat) (w : List Int32) (i : Int32) (hw1 : w.length < 2 ^ 31) (hT : ∀ U H, Wd σ U H → va_T .byte v w.length (fun j => .int (w.getD j 0)) A U H) (hi : okI i w.length = true) : gCp l yJ1_charAt_3b067 cJ1_charAt_3b067 2 (some .char) rm_J1_charAt_3b067 Ke Wd A [.ref v, .int i] σ (some (w.getD i.toNatClampNeg 0 &&& 255)) := by
  refine g_metp (by decide) (by simp [lg_sl, Value.category]) ?_
  intro p e s m below meth c h hr hKs
  have hin := okI_iff.mp hi
  have h1 : ¬ i < 0 := fun q => (okI_in hi) (Or.inl q)
  have h2 : i < nI w.length := by rw [Int32.lt_iff_toInt_lt, nI_toInt hw1]; exact hin.2
  refine g_lv [(0, .ref v), (1, .int i)] [0, 1] rfl ?_
  refine g_iload_n h 1 dJ1_charAt_3b067_0 rfl ?_
  refine g_aload_n h 0 dJ1_charAt_3b067_1 rfl ?_
  refine g_tlen h (fun H hw => hT _ _ hw) dJ1_charAt_3b067_2 ?_
  refine g_eq (o1 := (some σ).bind (fun _ => some (w.getD i.toNatClampNeg 0 &&& 255))) rfl ?_
  refine g_callS0v' h hmv hkw hKs [.int i, .int (nI w.length)] (c_J0_checkIndex_df160 hmv hkw hK σ i _ h1 h2) yk_J0_checkIndex_df160 tW_473 ⟨(Nat.le_of_ble_eq_true rfl), (Nat.le_of_ble_eq_true rfl)⟩ rfl rfl rfl rfl (Nat.le_of_ble_eq_true rfl) dJ1_charAt_3b067_3 ⟨Nat.zero_le _, Nat.zero_le _⟩ (fun s9 e9 => ?_)
  cases e9
  refine g_aload_n h 0 dJ1_charAt_3b067_6 rfl ?_
  refine g_iload_n h 1 dJ1_charAt_3b067_7 rfl ?_
  refine g_tb h (fun H hw => hT _ _ hw) (okI_in hi) dJ1_charAt_3b067_8 ?_
  refine g_sipush (v := 255) h dJ1_charAt_3b067_9 (by decide) ?_
  refine g_iand h dJ1_charAt_3b067_12 ?_
  refine g_i2c h dJ1_charAt_3b067_13 ?_
  rw [sc_c2]
  exact g_nretp h hmv hr (Nat.le_refl _) (Nat.le_refl _) (sc_nar _) dJ1_charAt_3b067_14
def rm_J0_coder_7d493 : Room := { frames := 0, cells := 0, slots := 0, locals := 0 }
theorem yk_J0_coder_7d493 : yOkV yJ0_coder_7d493 cJ0_coder_7d493 1 (some .byte) "java/lang/String" 0 := ⟨tW_459, tW_14, tW_457, tW_458, by decide, by decide, by decide +kernel⟩
set_option maxHeartbeats 4000000 in
set_option maxRecDepth 100000 in
theorem c_J0_coder_7d493 (hmv : gMv Wd) (hK : sKn A Wd) (σ : S) (a v : Nat) (w : List Int32) (hs : sIs A Wd a v w) : gCp l yJ0_coder_7d493 cJ0_coder_7d493 1 (some .byte) rm_J0_coder_7d493 Ke Wd A [.ref a] σ (some 0) := by
  refine g_metp (by decide) (by simp [lg_sl, Value.category]) ?_
  intro p e s m below meth c h hr hKs
  refine g_lv [(0, .ref a)] [0] rfl ?_
  refine g_gets h (fun H hw => (hK _ _ _ hw).1) tW_460 dJ0_coder_7d493_0 ?_
  refine g_eq (o1 := if (1 : Int32) = 0 then none else some 0) (by rw [if_neg (by decide)]) ?_
  refine g_if_eq h 13 dJ0_coder_7d493_3 (by decide) g_none ?_
  refine g_aload_n h 0 dJ0_coder_7d493_6 rfl ?_
  refine g_getO h (fun H hw => (hs _ _ _ hw).2.1) tW_1369 dJ0_coder_7d493_7 ?_
  refine g_goto h 14 dJ0_coder_7d493_10 (by decide) ?_
  exact g_nretp h hmv hr (Nat.le_refl _) (Nat.le_refl _) (by decide) dJ0_coder_7d493_14
def rm_J0_isLatin1_aae02 : Room := { frames := 0, cells := 0, slots := 0, locals := 0 }
theorem yk_J0_isLatin1_aae02 : yOkV yJ0_isLatin1_aae02 cJ0_isLatin1_aae02 1 (some .boolean) "java/lang/String" 0 := ⟨tW_469, tW_14, tW_467, tW_468, by decide, by decide, by decide +kernel⟩
set_option maxHeartbeats 4000000 in
set_option maxRecDepth 100000 in
theorem c_J0_isLatin1_aae02 (hmv : gMv Wd) (hK : sKn A Wd) (σ : S) (a v : Nat) (w : List Int32) (hs : sIs A Wd a v w) : gCp l yJ0_isLatin1_aae02 cJ0_isLatin1_aae02 1 (some .boolean) rm_J0_isLatin1_aae02 Ke Wd A [.ref a] σ (some 1) := by
  refine g_metp (by decide) (by simp [lg_sl, Value.category]) ?_
  intro p e s m below meth c h hr hKs
  refine g_lv [(0, .ref a)] [0] rfl ?_
  refine g_gets h (fun H hw => (hK _ _ _ hw).1) tW_460 dJ0_isLatin1_aae02_0 ?_
  refine g_eq (o1 := if (1 : Int32) = 0 then none else some 1) (by rw [if_neg (by decide)]) ?_
  refine g_if_eq h 17 dJ0_isLatin1_aae02_3 (by decide) g_none ?_
  refine g_aload_n h 0 dJ0_isLatin1_aae02_6 rfl ?_
  refine g_getO h (fun H hw => (hs _ _ _ hw).2.1) tW_1369 dJ0_isLatin1_aae02_7 ?_
  refine g_eq (o1 := if (0 : Int32) = 0 then some 1 else none) (by rw [if_pos rfl]) ?_
  refine g_if_ne h 17 dJ0_isLatin1_aae02_10 (by decide) g_none ?_
  refine g_iconst (v := 1) h dJ0_isLatin1_aae02_13 (by decide) ?_
  refine g_goto h 18 dJ0_isLatin1_aae02_14 (by decide) ?_
  exact g_zretp h hmv hr (Nat.le_refl _) (Nat.le_refl _) (by decide) dJ0_isLatin1_aae02_18
def rm_J0_length_8abf5 : Room := { frames := 1, cells := 0, slots := 0, locals := 20 }
theorem yk_J0_length_8abf5 : yOkV yJ0_length_8abf5 cJ0_length_8abf5 1 (some .int) "java/lang/String" 0 := ⟨tW_455, tW_14, tW_453, tW_454, by decide, by decide, by decide +kernel⟩
set_option maxHeartbeats 4000000 in
set_option maxRecDepth 100000 in
theorem c_J0_length_8abf5 (hmv : gMv Wd) (hkw : gKw Ke) (hK : sKn A Wd) (σ : S) (a v : Nat) (w : List Int32) (hs : sIs A Wd a v w) : gCp l yJ0_length_8abf5 cJ0_length_8abf5 1 (some .int) rm_J0_length_8abf5 Ke Wd A [.ref a] σ (some (nI w.length)) := by
  refine g_metp (by decide) (by simp [lg_sl, Value.category]) ?_
  intro p e s m below meth c h hr hKs
  refine g_lv [(0, .ref a)] [0] rfl ?_
  refine g_aload_n h 0 dJ0_length_8abf5_0 rfl ?_
  refine g_getO h (fun H hw => (hs _ _ _ hw).2.2.1) tW_1368 dJ0_length_8abf5_1 ?_
  refine g_tlen h (fun H hw => (hs _ _ _ hw).2.2.2) dJ0_length_8abf5_4 ?_
  refine g_aload_n h 0 dJ0_length_8abf5_5 rfl ?_
  refine g_eq (o1 := (some (0 : Int32)).bind (fun q => some (nI w.length >>> (q &&& 31)))) (by rw [Option.bind_some, sb_shr0]) ?_
  refine g_callV0p h hmv hkw hKs [] (c_J0_coder_7d493 hmv hK σ a v w hs) yk_J0_coder_7d493 tW_456 ⟨(Nat.le_of_ble_eq_true rfl), (Nat.le_of_ble_eq_true rfl)⟩ (fun H hw => by obtain ⟨cell, q1, q2, q3, -⟩ := (hs _ _ _ hw).1; exact ⟨cell, q1, q2, q3⟩) rfl rfl rfl rfl (Nat.le_of_ble_eq_true rfl) dJ0_length_8abf5_6 ⟨Nat.zero_le _, Nat.zero_le _⟩ (fun r9 => ?_)
  refine g_ishr h dJ0_length_8abf5_9 ?_
  exact g_iretp h hmv hr (Nat.le_refl _) (Nat.le_refl _) dJ0_length_8abf5_10
def rm_J0_charAt_5068e : Room := { frames := 3, cells := 0, slots := 0, locals := 64 }
theorem yk_J0_charAt_5068e : yOkV yJ0_charAt_5068e cJ0_charAt_5068e 2 (some .char) "java/lang/String" 1 := ⟨tW_465, tW_14, tW_463, tW_464, by decide, by decide, by decide +kernel⟩
set_option maxHeartbeats 4000000 in
set_option maxRecDepth 100000 in
theorem c_J0_charAt_5068e (hmv : gMv Wd) (hkw : gKw Ke) (hK : sKn A Wd) (σ : S) (a v : Nat) (w : List Int32) (hs : sIs A Wd a v w) (hw1 : w.length < 2 ^ 31) (i : Int32) (hi : okI i w.length = true) : gCp l yJ0_charAt_5068e cJ0_charAt_5068e 2 (some .char) rm_J0_charAt_5068e Ke Wd A [.ref a, .int i] σ (some (w.getD i.toNatClampNeg 0 &&& 255)) := by
  refine g_metp (by decide) (by simp [lg_sl, Value.category]) ?_
  intro p e s m below meth c h hr hKs
  refine g_lv [(0, .ref a), (1, .int i)] [0, 1] rfl ?_
  refine g_aload_n h 0 dJ0_charAt_5068e_0 rfl ?_
  refine g_eq (o1 := (some (1 : Int32)).bind (fun q => if q = 0 then none else some (w.getD i.toNatClampNeg 0 &&& 255))) rfl ?_
  refine g_callV0p h hmv hkw hKs [] (c_J0_isLatin1_aae02 hmv hK σ a v w hs) yk_J0_isLatin1_aae02 tW_466 ⟨(Nat.le_of_ble_eq_true rfl), (Nat.le_of_ble_eq_true rfl)⟩ (fun H hw => by obtain ⟨cell, q1, q2, q3, -⟩ := (hs _ _ _ hw).1; exact ⟨cell, q1, q2, q3⟩) rfl rfl rfl rfl (Nat.le_of_ble_eq_true rfl) dJ0_charAt_5068e_1 ⟨Nat.zero_le _, Nat.zero_le _⟩ (fun r9 => ?_)
  refine g_if_eq h 16 dJ0_charAt_5068e_4 (by decide) g_none ?_
  refine g_aload_n h 0 dJ0_charAt_5068e_7 rfl ?_
  refine g_getO h (fun H hw => (hs _ _ _ hw).2.2.1) tW_1368 dJ0_charAt_5068e_8 ?_
  refine g_iload_n h 1 dJ0_charAt_5068e_11 rfl ?_
  refine g_eq (o1 := (some (w.getD i.toNatClampNeg 0 &&& 255)).bind (fun q => if decide (q = w.getD i.toNatClampNeg 0 &&& 255) = true then some q else none)) (by rw [Option.bind_some, if_pos (by simp)]) ?_
  refine g_callS0p h hmv hkw hKs [.ref v, .int i] (c_J1_charAt_3b067 hmv hkw hK σ v w i hw1 (fun U H hw => (hs _ _ _ hw).2.2.2) hi) yk_J1_charAt_3b067 tW_470 ⟨(Nat.le_of_ble_eq_true rfl), (Nat.le_of_ble_eq_true rfl)⟩ rfl rfl rfl rfl (Nat.le_of_ble_eq_true rfl) dJ0_charAt_5068e_12 ⟨Nat.zero_le _, Nat.zero_le _⟩ (fun r9 => ?_)
  refine g_guard (fun hz => ?_)
  exact g_nretp h hmv hr (Nat.le_refl _) (Nat.le_refl _) (by rw [of_decide_eq_true hz]; exact sc_nar _) dJ0_charAt_5068e_15
end STM
