/-- the first values of all cells -/
def expI (c j : Nat) : Int32 := if c = 3 then -4 else if (c = 2 ∨ c = 96 ∨ c = 97) ∧ j = 0 then 1 else if c = 1 ∧ (j = 2 ∨ j = 3) then 1 else if c = 98 ∧ j = 0 then -4 else if c = 94 ∧ j = 1 then 1 else 0
/-- the keys of the fixed words: by 27 in the class, by bytes in the model -/
def fix27 : List Int64 := [14801, 1, 41, 1111, 399641, 397641, 555, 670208, 263, 6088, 5985, 399640, 356, 200199768, 267631408347, 6094, 7120, 10790190, 376, 1065, 2045]
def fix256 : List Int64 := [7628901, 97, 24942, 6385252, 1952998766, 1952803948, 29807, 418346264942, 26996, 6842733, 6841714, 1952998765, 28005, 120368394497126, 8750341735426911334, 6842739, 6911091, 499967682930, 28025, 6384748, 6452596]
def expJ (c j : Nat) : Int64 := if c = 5 then fix27.getD j 0 else if c = 95 then fix256.getD j 0 else 0
def chkCell (M : xM) (c : Nat) : Nat → Bool
  | 0 => true
  | j + 1 => decide (M.2.1 c j = expI c j) && (decide (M.2.2 c j = expJ c j) && chkCell M c j)
def chkMem (M : xM) : Nat → List xSh → Bool
  | _, [] => true
  | c, s :: sh => chkCell M c s.2.1 && chkMem M (c + 1) sh
def M0x : xM := ([(9, 6, List.replicate 6 none)], fun _ _ => 0, fun _ _ => 0)
def runx : Option (Option Value × xM) := ev 4000 10 mX9_init 0 (xentry 1 [.ref 0]) [] M0x
def chkx : Bool := match runx with
  | some (none, M) => decide (M.1 = SH.take 94) && chkMem M 0 (SH.take 94)
  | _ => false
set_option maxRecDepth 1000000 in
theorem chkx_ok : chkx = true := by decide +kernel
