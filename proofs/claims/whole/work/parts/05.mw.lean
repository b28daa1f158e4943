/-! the reference's world: its object's int fields and its arrays, as two functions -/
section MW
abbrev Ms : Type := (Nat → Int32) × (Nat → Nat → Int32)
def mArr (k : Nat) : Bool := match k with
  | 9 => true
  | 10 => true
  | 11 => true
  | 12 => true
  | 13 => true
  | 14 => true
  | 15 => true
  | 16 => true
  | 17 => true
  | 18 => true
  | 19 => true
  | 20 => true
  | 21 => true
  | 22 => true
  | 23 => true
  | 24 => true
  | 25 => true
  | 26 => true
  | 27 => true
  | 28 => true
  | 29 => true
  | 30 => true
  | 31 => true
  | 32 => true
  | 33 => true
  | 34 => true
  | 35 => true
  | 36 => true
  | 37 => true
  | 38 => true
  | 53 => true
  | 55 => true
  | 56 => true
  | 57 => true
  | 58 => true
  | 59 => true
  | _ => false
def mZ (k : Nat) : Bool := match k with
  | 13 => true
  | 18 => true
  | 37 => true
  | 55 => true
  | _ => false
def mLen (k : Nat) : Nat := match k with
  | 9 => 30
  | 10 => 120
  | 11 => 120
  | 12 => 240
  | 13 => 30
  | 14 => 4
  | 15 => 4
  | 16 => 40
  | 17 => 40
  | 18 => 40
  | 19 => 400
  | 20 => 400
  | 21 => 400
  | 22 => 400
  | 23 => 400
  | 24 => 8
  | 25 => 8
  | 26 => 192
  | 27 => 192
  | 28 => 192
  | 29 => 192
  | 30 => 192
  | 31 => 192
  | 32 => 192
  | 33 => 192
  | 34 => 192
  | 35 => 768
  | 36 => 768
  | 37 => 768
  | 38 => 1000
  | 53 => 24
  | 55 => 30
  | 56 => 240
  | 57 => 240
  | 58 => 240
  | 59 => 30
  | _ => 0
def mF (v : Nat → Int32) (p : Nat → Nat) (k : Nat) : Value := if mArr k = true then .ref (p k) else .int (v k)
def mFs (v : Nat → Int32) (p : Nat → Nat) : List Value := (List.range 60).map (mF v p)
theorem mFs_get {v : Nat → Int32} {p : Nat → Nat} {k : Nat} (hk : k < 60) : (mFs v p)[k]? = some (mF v p k) := by simp [mFs, hk]
theorem mFs_len {v : Nat → Int32} {p : Nat → Nat} : (mFs v p).length = 60 := by simp [mFs]
theorem mFs_set {v : Nat → Int32} {p : Nat → Nat} {k : Nat} {x : Int32} (ha : mArr k = false) : (mFs v p).set k (.int x) = mFs (upd v k x) p := by
  apply List.ext_getElem?
  intro j
  by_cases hj : j < 60
  · by_cases e : k = j
    · subst e
      rw [List.getElem?_set_self (by rw [mFs_len]; exact hj), mFs_get hj, mF, if_neg (by rw [ha]; decide)]
      simp [upd]
    · rw [List.getElem?_set_ne e, mFs_get hj, mFs_get hj, mF, mF]
      by_cases hm : mArr j = true
      · rw [if_pos hm, if_pos hm]
      · rw [if_neg hm, if_neg hm]
        simp [upd, Ne.symm e]
  · rw [List.getElem?_eq_none (by rw [List.length_set, mFs_len]; omega), List.getElem?_eq_none (by rw [mFs_len]; omega)]
def mCA (cI cZ : ClassId) (k : Nat) : ClassId := if mZ k = true then cZ else cI
def mSet (σ : Ms) (k : Nat) (x : Int32) : Ms := (upd σ.1 k x, σ.2)
def mSto (σ : Ms) (k j : Nat) (x : Int32) : Ms := (σ.1, va_up σ.2 k (upd (σ.2 k) j x))
def mEok (E : State → Heap → Prop) (A : Nat → Prop) : Prop := (∀ (u U : State) (H : Heap), u.vm.Alike U.vm → E u H → E U H) ∧ ∀ (U : State) (H H1 : Heap), (∀ a : Nat, a < H.size → ¬ A a → H1[a]? = H[a]?) → E U H → E U H1
def MW (D : va_G) (cI cZ : ClassId) (E : State → Heap → Prop) (A : Nat → Prop) (h0 : Nat) (p : Nat → Nat) (σ : Ms) (U : State) (H : Heap) : Prop :=
  va_K D vwCl [(cI, .int), (cZ, .boolean)] U ∧ E U H ∧ A h0 ∧ va_at D vwCl (h0, .inr (9, mFs σ.1 p)) H ∧ (∀ k, mArr k = true → A (p k) ∧ p k ≠ h0 ∧ va_at D vwCl (p k, .inl (mCA cI cZ k, mLen k, .inl (σ.2 k))) H) ∧ ∀ i j, mArr i = true → mArr j = true → p i = p j → i = j
theorem MW_mv {D : va_G} {cI cZ : ClassId} {E : State → Heap → Prop} {A : Nat → Prop} {h0 : Nat} {p : Nat → Nat} (hE : mEok E A) : gMv (MW D cI cZ E A h0 p) := fun σ u U H hvm h => ⟨h.1.moved hvm, hE.1 _ _ _ hvm h.2.1, h.2.2⟩
theorem va_P1 {D : va_G} {cl : List vw_C} {q : Nat × va_E} {H : Heap} (h : va_at D cl q H) : va_P D cl [q] H := fun k x hx => by
  cases k with
  | zero => cases hx; exact h
  | succ k => simp at hx
theorem MW_recv {D : va_G} {cI cZ : ClassId} {E : State → Heap → Prop} {A : Nat → Prop} {h0 : Nat} {p : Nat → Nat} {σ : Ms} {s : State} : ∀ H, MW D cI cZ E A h0 p σ s H → ∃ cellB : Cell, H[h0]? = some cellB ∧ cellB.vm.isStatics = false ∧ s.vm.findClass RX10 = some cellB.cls := fun H h => va_recv (q := (RX10, TX10, 60)) (ci := 9) (q0 := 0) h.1 (va_P1 h.2.2.2.1) rfl rfl

variable {p : Program} {l : Launch} {e : Env} {R : Room} {s : State} {m : MethodId} {args : Array Value} {below : List Frame} {meth : Method} {c : Code}
variable {Rt : Type} {cc : ByteArray} {nL : Nat} {own : String} {Ts : List Cond} {A : Nat → Prop} {D : va_G} {cI cZ : ClassId} {E : State → Heap → Prop} {h0 : Nat} {ps : Nat → Nat} {QX : Rt → State → Prop} {cells slots : Nat} {o : Option Rt} {σ : Ms} {pc : Nat} {lv : List (Nat × Value)} {st : List Value}
theorem m_get (h : gOk p s m args meth c cc nL own Ts) (hin : ∀ w ∈ wsX100, w ∈ Ts) (k : Nat) (hk : k < 60) (ha : mArr k = false) {index : Nat} (hlk : Cond.fieldLink own index (TX10 k).1 (TX10 k).2.1 (TX10 k).2.2.1 ∈ Ts) (hd : decode cc pc = .ok (.getfield index, 3)) (kk : gS p l e R s m args below meth c nL A (MW D cI cZ E A h0 ps) QX cells slots o σ (pc + 3) lv (.int (σ.1 k) :: st)) : gS p l e R s m args below meth c nL A (MW D cI cZ E A h0 ps) QX cells slots o σ pc lv (.ref h0 :: st) := fun X hX H locs ls hw hS hl =>
  va_get (D := D) (cl := vwCl) (ws := [(h0, .inr (9, mFs σ.1 ps))]) (ci := 9) (C := RX10) (T := TX10) (N := 60) (v := .int (σ.1 k)) h.1.1 h.1.2.1 h.1.2.2.2.2 hin h.1.2.2.2.1 hw.1 (va_P1 hw.2.2.2.1) 0 rfl rfl k hk (h.1.2.2.2.2 _ hlk) (fun _ q => q) (by rw [mFs_get hk, mF, if_neg (by rw [ha]; decide)]) hd (kk X hX H locs ls hw hS hl)
theorem m_geta (h : gOk p s m args meth c cc nL own Ts) (hin : ∀ w ∈ wsX100, w ∈ Ts) (k : Nat) (hk : k < 60) (ha : mArr k = true) {index : Nat} (hlk : Cond.fieldLink own index (TX10 k).1 (TX10 k).2.1 (TX10 k).2.2.1 ∈ Ts) (hd : decode cc pc = .ok (.getfield index, 3)) (kk : gS p l e R s m args below meth c nL A (MW D cI cZ E A h0 ps) QX cells slots o σ (pc + 3) lv (.ref (ps k) :: st)) : gS p l e R s m args below meth c nL A (MW D cI cZ E A h0 ps) QX cells slots o σ pc lv (.ref h0 :: st) := fun X hX H locs ls hw hS hl =>
  va_get (D := D) (cl := vwCl) (ws := [(h0, .inr (9, mFs σ.1 ps))]) (ci := 9) (C := RX10) (T := TX10) (N := 60) (v := .ref (ps k)) h.1.1 h.1.2.1 h.1.2.2.2.2 hin h.1.2.2.2.1 hw.1 (va_P1 hw.2.2.2.1) 0 rfl rfl k hk (h.1.2.2.2.2 _ hlk) (fun _ q => q) (by rw [mFs_get hk, mF, if_pos ha]) hd (kk X hX H locs ls hw hS hl)
theorem m_put (h : gOk p s m args meth c cc nL own Ts) (hE : mEok E A) (hin : ∀ w ∈ wsX100, w ∈ Ts) (k : Nat) (hk : k < 60) (ha : mArr k = false) (hfin : (TX10 k).2.2.2 = false) (hty : tyX10 k = .int) {index : Nat} {x : Int32} (hlk : Cond.fieldLink own index (TX10 k).1 (TX10 k).2.1 (TX10 k).2.2.1 ∈ Ts) (hd : decode cc pc = .ok (.putfield index, 3)) (kk : gS p l e R s m args below meth c nL A (MW D cI cZ E A h0 ps) QX cells slots o (mSet σ k x) (pc + 3) lv st) : gS p l e R s m args below meth c nL A (MW D cI cZ E A h0 ps) QX cells slots o σ pc lv (.int x :: .ref h0 :: st) := by
  intro X hX H locs ls hw hS hl
  obtain ⟨hK, hE0, hA0, hO, hArr, hinj⟩ := hw
  have hts := h.1.2.2.2.2
  have hap := va_apart (own := own) (D := D) (cl := vwCl) (ci := 9) hts hin tyX10 tyX10_ok nmX10 hK rfl
  obtain ⟨r, h1, cell, q1, q2, q3, q4⟩ := hO
  have hr : r = (RX10, TX10, 60) := Option.some.inj (h1.symm.trans rfl)
  subst hr
  obtain ⟨hSl, hfc, kC, hkC, hkind⟩ := hK.1 9 _ rfl
  obtain ⟨cf, kf, fi, f, hi, hsl⟩ := hSl k hk
  have hlay := hts _ (hin _ (u_in_lay hk))
  unfold u_lay at hlay
  rw [if_neg (by rw [hfin]; decide)] at hlay
  have hst := (u_facts hfc hkC (u_lays hts hin hk) hi).1
  have h6 := u_store (v := .int x) hfc hkC hkind hlay hi ((tyX10_ok k hk).trans (by rw [hty])) rfl rfl
  refine W.putK h.1.1 h.1.2.1 (f := f) ⟨h.1.2.2.2.1, hts _ hlk, ⟨_, _, _, hi⟩, hst⟩ (by rw [q2]; exact h6) q1 q3 (by rw [hsl]; exact k2_hasslot (q4 k hk)) rfl rfl hd fun H' e1 e2 e3 => ?_
  rw [hsl] at e1 ⊢
  refine kk X hX H' _ ls ⟨hK, hE.2 _ _ _ (fun a _ hnA => e3 a (fun q => hnA (q ▸ hA0))) hE0, hA0, ⟨_, rfl, ?_⟩, fun j hj => ⟨(hArr j hj).1, (hArr j hj).2.1, (hArr j hj).2.2.kept (e3 _ (hArr j hj).2.1)⟩, hinj⟩ (hS.put e2 e3 hA0) hl
  exact t_OB.to (V := updV (vp_V (mFs σ.1 ps)) k (.int x)) ⟨_, e1, q2, q3, t_set q4 hap hk _⟩ (fun j _ => (vp_updV_set (by rw [mFs_len]; exact hk) _ j).trans (by rw [mFs_set ha]; rfl))

theorem m_iald (h : gOk p s m args meth c cc nL own Ts) (k : Nat) (hk : mArr k = true) (hz : mZ k = false) (n : Nat) (hn : mLen k = n) {i : Int32} (hd : decode cc pc = .ok (.iaload, 1)) (kk : gS p l e R s m args below meth c nL A (MW D cI cZ E A h0 ps) QX cells slots o σ (pc + 1) lv (.int (σ.2 k i.toNatClampNeg) :: st)) : gS p l e R s m args below meth c nL A (MW D cI cZ E A h0 ps) QX cells slots (if okI i n = true then o else none) σ pc lv (.int i :: .ref (ps k) :: st) :=
  g_guard fun hi => fun X hX H locs ls hw hS hl => va_iald (D := D) (cl := vwCl) (ws := [(ps k, .inl (mCA cI cZ k, mLen k, .inl (σ.2 k)))]) h.1.1 h.1.2.1 hw.1 (va_P1 (hw.2.2.2.2.1 k hk).2.2) 0 0 rfl (by simp [mCA, hz]) (by rw [hn]; exact okI_in hi) hd (kk X hX H locs ls hw hS hl)

theorem m_zald (h : gOk p s m args meth c cc nL own Ts) (k : Nat) (hk : mArr k = true) (hz : mZ k = true) (n : Nat) (hn : mLen k = n) {i : Int32} (hd : decode cc pc = .ok (.baload, 1)) (kk : gS p l e R s m args below meth c nL A (MW D cI cZ E A h0 ps) QX cells slots o σ (pc + 1) lv (.int (σ.2 k i.toNatClampNeg) :: st)) : gS p l e R s m args below meth c nL A (MW D cI cZ E A h0 ps) QX cells slots (if okI i n = true then o else none) σ pc lv (.int i :: .ref (ps k) :: st) :=
  g_guard fun hi => fun X hX H locs ls hw hS hl => va_zald (D := D) (cl := vwCl) (ws := [(ps k, .inl (mCA cI cZ k, mLen k, .inl (σ.2 k)))]) h.1.1 h.1.2.1 hw.1 (va_P1 (hw.2.2.2.2.1 k hk).2.2) 0 1 rfl (by simp [mCA, hz]) (by rw [hn]; exact okI_in hi) hd (kk X hX H locs ls hw hS hl)

theorem m_iast (h : gOk p s m args meth c cc nL own Ts) (hE : mEok E A) (k : Nat) (hk : mArr k = true) (hz : mZ k = false) (n : Nat) (hn : mLen k = n) {i x : Int32} (hd : decode cc pc = .ok (.iastore, 1)) (kk : gS p l e R s m args below meth c nL A (MW D cI cZ E A h0 ps) QX cells slots o (mSto σ k i.toNatClampNeg x) (pc + 1) lv st) : gS p l e R s m args below meth c nL A (MW D cI cZ E A h0 ps) QX cells slots (if okI i n = true then o else none) σ pc lv (.int x :: .int i :: .ref (ps k) :: st) := by
  refine g_guard fun hi => ?_
  intro X hX H locs ls hw hS hl
  obtain ⟨hK, hE0, hA0, hO, hArr, hinj⟩ := hw
  obtain ⟨hAk, hne, hc⟩ := hArr k hk
  subst hn
  have hin := okI_in hi
  refine W.iast h.1.1 h.1.2.1 hc ((hK.2 0 (mCA cI cZ k, .int) (by simp [mCA, hz])).1 (mLen k) (fun j => .int (σ.2 k j))) (fun q => by cases q) (by show ¬ (i < 0 ∨ (arrV _ _ _).slots.size ≤ _); rw [arrV_size]; exact hin) rfl rfl hd fun H1 e z oq => ?_
  refine kk X hX H1 _ ls ⟨hK, hE.2 _ _ _ (fun a _ hnA => oq a (fun q => hnA (q ▸ hAk))) hE0, hA0, hO.kept (oq _ (Ne.symm hne)), fun j hj => ⟨(hArr j hj).1, (hArr j hj).2.1, ?_⟩, hinj⟩ (hS.put z oq hAk) hl
  by_cases hjk : j = k
  · subst hjk
    show H1[ps j]? = some (vp_cell _ (mLen j, .inl ((mSto σ j i.toNatClampNeg x).2 j)))
    rw [e, vp_cell_i, vp_cell_i, arrV_store]
    congr 2
    funext q
    by_cases hq : q = i.toNatClampNeg
    · subst hq
      simp [mSto, va_up, updV, upd]
    · simp [mSto, va_up, updV, upd, hq]
  · have e9 : (mSto σ k i.toNatClampNeg x).2 j = σ.2 j := by simp [mSto, va_up, hjk]
    rw [e9]
    exact (hArr j hj).2.2.kept (oq _ (fun q => hjk (hinj j k hj hk q)))

theorem m_zast (h : gOk p s m args meth c cc nL own Ts) (hE : mEok E A) (k : Nat) (hk : mArr k = true) (hz : mZ k = true) (n : Nat) (hn : mLen k = n) {i x : Int32} (hok : okZ x = true) (hd : decode cc pc = .ok (.bastore, 1)) (kk : gS p l e R s m args below meth c nL A (MW D cI cZ E A h0 ps) QX cells slots o (mSto σ k i.toNatClampNeg x) (pc + 1) lv st) : gS p l e R s m args below meth c nL A (MW D cI cZ E A h0 ps) QX cells slots (if okI i n = true then o else none) σ pc lv (.int x :: .int i :: .ref (ps k) :: st) := by
  refine g_guard fun hi => ?_
  intro X hX H locs ls hw hS hl
  obtain ⟨hK, hE0, hA0, hO, hArr, hinj⟩ := hw
  obtain ⟨hAk, hne, hc⟩ := hArr k hk
  subst hn
  have hin := okI_in hi
  refine W.zast h.1.1 h.1.2.1 hc ((hK.2 1 (mCA cI cZ k, .boolean) (by simp [mCA, hz])).1 (mLen k) (fun j => .int (σ.2 k j))) (fun q => by cases q) (by show ¬ (i < 0 ∨ (arrV _ _ _).slots.size ≤ _); rw [arrV_size]; exact hin) rfl rfl hd fun H1 e z oq => ?_
  refine kk X hX H1 _ ls ⟨hK, hE.2 _ _ _ (fun a _ hnA => oq a (fun q => hnA (q ▸ hAk))) hE0, hA0, hO.kept (oq _ (Ne.symm hne)), fun j hj => ⟨(hArr j hj).1, (hArr j hj).2.1, ?_⟩, hinj⟩ (hS.put z oq hAk) hl
  by_cases hjk : j = k
  · subst hjk
    show H1[ps j]? = some (vp_cell _ (mLen j, .inl ((mSto σ j i.toNatClampNeg x).2 j)))
    rw [e, vp_cell_i, vp_cell_i, arrV_store]
    congr 2
    funext q
    by_cases hq : q = i.toNatClampNeg
    · subst hq
      simp [mSto, va_up, updV, upd, okZ_nar hok]
    · simp [mSto, va_up, updV, upd, hq]
  · have e9 : (mSto σ k i.toNatClampNeg x).2 j = σ.2 j := by simp [mSto, va_up, hjk]
    rw [e9]
    exact (hArr j hj).2.2.kept (oq _ (fun q => hjk (hinj j k hj hk q)))

end MW
