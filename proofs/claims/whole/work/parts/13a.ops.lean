section OPS
/-- what is asked of one call: class and reference answer alike, and stay together -/
def opI (Rep : Km → Ms → Prop) (cd : Bool → Int32) (ok : Bool → Bool) (k : Option ((Int32 × Km) ⊕ (Bool × Km))) (mr : Option (Int32 × Ms)) : Prop := ∃ (X : (Int32 × Km) ⊕ (Bool × Km)) (r : Int32) (σ' : Ms), k = some X ∧ mr = some (r, σ') ∧ (match X with
  | .inl a => σ'.1 0 = 0 ∧ a.1 = r ∧ Rep a.2 σ'
  | .inr a => ok a.1 = true ∧ σ'.1 0 = cd a.1 ∧ Rep a.2 σ')
def opV (Rep : Km → Ms → Prop) (cd : Bool → Int32) (ok : Bool → Bool) (k : Option (Km ⊕ (Bool × Km))) (mr : Option Ms) : Prop := ∃ (X : Km ⊕ (Bool × Km)) (σ' : Ms), k = some X ∧ mr = some σ' ∧ (match X with
  | .inl a => σ'.1 0 = 0 ∧ Rep a σ'
  | .inr a => ok a.1 = true ∧ σ'.1 0 = cd a.1 ∧ Rep a.2 σ')
def opN (Rep : Km → Ms → Prop) (k : Option (Int32 × Km)) (mr : Option (Int32 × Ms)) : Prop := ∃ (r : Int32) (μ' : Km) (σ' : Ms), k = some (r, μ') ∧ mr = some (r, σ') ∧ Rep μ' σ'
def opP (Rep : Km → Ms → Prop) (μ : Km) (k : Option Int32) (mr : Option (Int32 × Ms)) : Prop := ∃ (r : Int32) (σ' : Ms), k = some r ∧ mr = some (r, σ') ∧ Rep μ σ'
def op_day (Rep : Km → Ms → Prop) (a0 : Nat) : Prop := ∀ (μ : Km) (σ : Ms) (a1 a2 a3 : Int32), Rep μ σ → opI Rep (fun _ => 1) (fun b => !b) (K9_day μ a0 a1 a2 a3) (M_day σ a1 a2 a3)
def op_date (Rep : Km → Ms → Prop) (a0 : Nat) : Prop := ∀ (μ : Km) (σ : Ms) (a1 a2 : Int32), Rep μ σ → opI Rep (fun _ => 1) (fun b => !b) (K9_date μ a0 a1 a2) (M_date σ a1 a2)
def op_later (Rep : Km → Ms → Prop) (a0 : Nat) : Prop := ∀ (μ : Km) (σ : Ms) (a1 a2 : Int32), Rep μ σ → opI Rep (fun _ => 1) (fun b => !b) (K9_later μ a0 a1 a2) (M_later σ a1 a2)
def op_feed (Rep : Km → Ms → Prop) (a0 : Nat) : Prop := ∀ (μ : Km) (σ : Ms) (a1 a2 a3 a4 a5 : Int32), Rep μ σ → opN Rep (K9_feed μ a0 a1 a2 a3 a4 a5) (M_feed σ a1 a2 a3 a4 a5)
def op_rules (Rep : Km → Ms → Prop) (a0 : Nat) : Prop := ∀ (μ : Km) (σ : Ms) (a1 a2 : Int32), Rep μ σ → opI Rep (fun _ => 1) (fun b => !b) (K9_rules μ a0 a1 a2) (M_rules σ a1 a2)
def op_fault (Rep : Km → Ms → Prop) (a0 : Nat) : Prop := ∀ (μ : Km) (σ : Ms), Rep μ σ → opP Rep μ (K9_fault μ a0 ) (M_fault σ )
def op_thing (Rep : Km → Ms → Prop) (a0 : Nat) : Prop := ∀ (μ : Km) (σ : Ms) (a1 : Int32), Rep μ σ → opN Rep (K9_thing μ a0 a1) (M_thing σ a1)
def op_fact (Rep : Km → Ms → Prop) (a0 : Nat) : Prop := ∀ (μ : Km) (σ : Ms) (a1 a2 a3 : Int32), Rep μ σ → opI Rep (fun b => cond b 1 2) (fun _ => true) (K9_fact μ a0 a1 a2 a3) (M_fact σ a1 a2 a3)
def op_event (Rep : Km → Ms → Prop) (a0 : Nat) : Prop := ∀ (μ : Km) (σ : Ms) (a1 a2 a3 : Int32), Rep μ σ → opI Rep (fun b => cond b 1 2) (fun _ => true) (K9_event μ a0 a1 a2 a3) (M_event σ a1 a2 a3)
def op_copy (Rep : Km → Ms → Prop) (a0 : Nat) : Prop := ∀ (μ : Km) (σ : Ms) (a1 a2 a3 : Int32), Rep μ σ → opI Rep (fun _ => 1) (fun b => b) (K9_copy μ a0 a1 a2 a3) (M_copy σ a1 a2 a3)
def op_copies (Rep : Km → Ms → Prop) (a0 : Nat) : Prop := ∀ (μ : Km) (σ : Ms) (a1 a2 : Int32), Rep μ σ → opI Rep (fun _ => 1) (fun b => b) (K9_copies μ a0 a1 a2) (M_copies σ a1 a2)
def op_store (Rep : Km → Ms → Prop) (a0 : Nat) : Prop := ∀ (μ : Km) (σ : Ms) (a1 a2 a3 : Int32), Rep μ σ → opV Rep (fun b => cond b 1 2) (fun _ => true) (K9_store μ a0 a1 a2 a3) (M_store σ a1 a2 a3)
def op_hold (Rep : Km → Ms → Prop) (a0 : Nat) : Prop := ∀ (μ : Km) (σ : Ms) (a1 a2 : Int32), Rep μ σ → opI Rep (fun _ => 1) (fun b => b) (K9_hold μ a0 a1 a2) (M_hold σ a1 a2)
def op_lift (Rep : Km → Ms → Prop) (a0 : Nat) : Prop := ∀ (μ : Km) (σ : Ms) (a1 : Int32), Rep μ σ → opI Rep (fun _ => 1) (fun b => b) (K9_lift μ a0 a1) (M_lift σ a1)
def op_wish (Rep : Km → Ms → Prop) (a0 : Nat) : Prop := ∀ (μ : Km) (σ : Ms) (a1 : Int32), Rep μ σ → opI Rep (fun _ => 1) (fun b => b) (K9_wish μ a0 a1) (M_wish σ a1)
def op_span (Rep : Km → Ms → Prop) (a0 : Nat) : Prop := ∀ (μ : Km) (σ : Ms) (a1 a2 a3 a4 : Int32), Rep μ σ → opI Rep (fun _ => 1) (fun b => b) (K9_span μ a0 a1 a2 a3 a4) (M_span σ a1 a2 a3 a4)
def op_lost (Rep : Km → Ms → Prop) (a0 : Nat) : Prop := ∀ (μ : Km) (σ : Ms) (a1 a2 a3 a4 : Int32), Rep μ σ → opI Rep (fun _ => 1) (fun b => b) (K9_lost μ a0 a1 a2 a3 a4) (M_lost σ a1 a2 a3 a4)
def op_why (Rep : Km → Ms → Prop) (a0 : Nat) : Prop := ∀ (μ : Km) (σ : Ms) (a1 a2 : Int32), Rep μ σ → opI Rep (fun _ => 1) (fun b => b) (K9_why μ a0 a1 a2) (M_why σ a1 a2)
def op_places (Rep : Km → Ms → Prop) (a0 : Nat) : Prop := ∀ (μ : Km) (σ : Ms) (a1 a2 : Int32), Rep μ σ → opI Rep (fun _ => 1) (fun b => b) (K9_places μ a0 a1 a2) (M_places σ a1 a2)
def op_misplaced (Rep : Km → Ms → Prop) (a0 : Nat) : Prop := ∀ (μ : Km) (σ : Ms), Rep μ σ → opP Rep μ (K9_misplaced μ a0 ) (M_misplaced σ )
def op_planned (Rep : Km → Ms → Prop) (a0 : Nat) : Prop := ∀ (μ : Km) (σ : Ms) (a1 a2 a3 : Int32), Rep μ σ → opI Rep (fun _ => 1) (fun b => b) (K9_planned μ a0 a1 a2 a3) (M_planned σ a1 a2 a3)
def op_differ (Rep : Km → Ms → Prop) (a0 : Nat) : Prop := ∀ (μ : Km) (σ : Ms) (a1 a2 : Int32), Rep μ σ → opI Rep (fun _ => 1) (fun b => b) (K9_differ μ a0 a1 a2) (M_differ σ a1 a2)
def op_bites (Rep : Km → Ms → Prop) (a0 : Nat) : Prop := ∀ (μ : Km) (σ : Ms) (a1 a2 : Int32), Rep μ σ → opI Rep (fun _ => 1) (fun b => b) (K9_bites μ a0 a1 a2) (M_bites σ a1 a2)
def op_days (Rep : Km → Ms → Prop) (a0 : Nat) : Prop := ∀ (μ : Km) (σ : Ms) (a1 : Int32), Rep μ σ → opI Rep (fun _ => 1) (fun b => !b) (K9_days μ a0 a1) (M_days σ a1)
def op_entry (Rep : Km → Ms → Prop) (a0 : Nat) : Prop := ∀ (μ : Km) (σ : Ms) (a1 a2 : Int32), Rep μ σ → opI Rep (fun _ => 1) (fun b => b) (K9_entry μ a0 a1 a2) (M_entry σ a1 a2)
def op_count (Rep : Km → Ms → Prop) (a0 : Nat) : Prop := ∀ (μ : Km) (σ : Ms) (a1 : Int32), Rep μ σ → opI Rep (fun _ => 1) (fun b => b) (K9_count μ a0 a1) (M_count σ a1)
def lOps (Rep : Km → Ms → Prop) (a0 : Nat) : Prop := op_day Rep a0 ∧ op_date Rep a0 ∧ op_later Rep a0 ∧ op_feed Rep a0 ∧ op_rules Rep a0 ∧ op_fault Rep a0 ∧ op_thing Rep a0 ∧ op_fact Rep a0 ∧ op_event Rep a0 ∧ op_copy Rep a0 ∧ op_copies Rep a0 ∧ op_store Rep a0 ∧ op_hold Rep a0 ∧ op_lift Rep a0 ∧ op_wish Rep a0 ∧ op_span Rep a0 ∧ op_lost Rep a0 ∧ op_why Rep a0 ∧ op_places Rep a0 ∧ op_misplaced Rep a0 ∧ op_planned Rep a0 ∧ op_differ Rep a0 ∧ op_bites Rep a0 ∧ op_days Rep a0 ∧ op_entry Rep a0 ∧ op_count Rep a0
def lRep (Rep : Km → Ms → Prop) (a0 : Nat) : Prop := (∀ μ σ, Rep μ σ → kK μ a0 = 9) ∧ ∀ μ σ n, kn μ ≤ n → Rep μ σ → Rep (ksn μ n) σ
end OPS
