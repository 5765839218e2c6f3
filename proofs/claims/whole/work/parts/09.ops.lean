/-- one operation, in both -/
def Op_thing (Inv : St → Prop) : Prop := ∀ (s : St) (a1 : Int32), Inv s → ∃ (r : Int32) (s1 s2 : St), F_X9_thing a1 s = some (r, s1) ∧ F_X10_thing a1 s1 = some (r, s2) ∧ Inv s2
def Op_see (Inv : St → Prop) : Prop := ∀ (s : St) (a1 : Int32) (b2 : Int32), Inv s → (b2 = 0 ∨ b2 = 1) → ∃ (r : Int32) (s1 s2 : St), F_X9_see a1 b2 s = some (r, s1) ∧ F_X10_see a1 b2 s1 = some (r, s2) ∧ Inv s2
def Op_own (Inv : St → Prop) : Prop := ∀ (s : St) (a1 : Int32) (a2 : Int32), Inv s → ∃ (r : Int32) (s1 s2 : St), F_X9_own a1 a2 s = some (r, s1) ∧ F_X10_own a1 a2 s1 = some (r, s2) ∧ Inv s2
def Op_turn (Inv : St → Prop) : Prop := ∀ (s : St) (a1 : Int32) (a2 : Int32), Inv s → ∃ (r : Int32) (s1 s2 : St), F_X9_turn a1 a2 s = some (r, s1) ∧ F_X10_turn a1 a2 s1 = some (r, s2) ∧ Inv s2
def Op_feed (Inv : St → Prop) : Prop := ∀ (s : St) (a1 : Int32) (j2 : Int64), Inv s → ∃ (r : Int32) (s1 s2 : St), F_X9_feed a1 j2 s = some (r, s1) ∧ F_X10_feed a1 j2 s1 = some (r, s2) ∧ Inv s2
def Op_word (Inv : St → Prop) : Prop := ∀ (s : St) (a1 : Int32), Inv s → ∃ (r : Int32) (s1 s2 : St), F_X9_word a1 s = some (r, s1) ∧ F_X10_word a1 s1 = some (r, s2) ∧ Inv s2
def Op_name (Inv : St → Prop) : Prop := ∀ (s : St) (a1 : Int32) (a2 : Int32) (a3 : Int32), Inv s → ∃ (r : Int32) (s1 s2 : St), F_X9_name a1 a2 a3 s = some (r, s1) ∧ F_X10_name a1 a2 a3 s1 = some (r, s2) ∧ Inv s2
def Op_form (Inv : St → Prop) : Prop := ∀ (s : St) (a1 : Int32) (a2 : Int32), Inv s → ∃ (r : Int32) (s1 s2 : St), F_X9_form a1 a2 s = some (r, s1) ∧ F_X10_form a1 a2 s1 = some (r, s2) ∧ Inv s2
def Op_same (Inv : St → Prop) : Prop := ∀ (s : St) (a1 : Int32) (a2 : Int32), Inv s → ∃ (r : Int32) (s1 s2 : St), F_X9_same a1 a2 s = some (r, s1) ∧ F_X10_same a1 a2 s1 = some (r, s2) ∧ Inv s2
def Op_line (Inv : St → Prop) : Prop := ∀ (s : St), Inv s → ∃ (r : Int32) (s1 s2 : St), F_X9_line  s = some (r, s1) ∧ F_X10_line  s1 = some (r, s2) ∧ Inv s2
def Op_fault (Inv : St → Prop) : Prop := ∀ (s : St), Inv s → ∃ (r : Int32) (s1 s2 : St), F_X9_fault  s = some (r, s1) ∧ F_X10_fault  s1 = some (r, s2) ∧ Inv s2
def Op_order (Inv : St → Prop) : Prop := ∀ (s : St) (a1 : Int32) (a2 : Int32), Inv s → ∃ (r : Int32) (s1 s2 : St), F_X9_order a1 a2 s = some (r, s1) ∧ F_X10_order_ a1 a2 s1 = some (r, s2) ∧ Inv s2
def Op_given (Inv : St → Prop) : Prop := ∀ (s : St) (a1 : Int32) (a2 : Int32) (a3 : Int32), Inv s → ∃ (r : Int32) (s1 s2 : St), F_X9_given a1 a2 a3 s = some (r, s1) ∧ F_X10_given a1 a2 a3 s1 = some (r, s2) ∧ Inv s2
def Op_table (Inv : St → Prop) : Prop := ∀ (s : St) (a1 : Int32) (a2 : Int32), Inv s → ∃ (r : Int32) (s1 s2 : St), F_X9_table a1 a2 s = some (r, s1) ∧ F_X10_table a1 a2 s1 = some (r, s2) ∧ Inv s2
def Op_count (Inv : St → Prop) : Prop := ∀ (s : St) (a1 : Int32), Inv s → ∃ (r : Int32) (s1 s2 : St), F_X9_count a1 s = some (r, s1) ∧ F_X10_count a1 s1 = some (r, s2) ∧ Inv s2
def OpAll (Inv : St → Prop) : Prop := Op_thing Inv ∧ Op_see Inv ∧ Op_own Inv ∧ Op_turn Inv ∧ Op_feed Inv ∧ Op_word Inv ∧ Op_name Inv ∧ Op_form Inv ∧ Op_same Inv ∧ Op_line Inv ∧ Op_fault Inv ∧ Op_order Inv ∧ Op_given Inv ∧ Op_table Inv ∧ Op_count Inv
