def xokH2 (me : xMe) : Bool :=
  (decide (Cond.initialized me.1.cls ∈ lw_tbl) && (plainName me.1.cls && (decide (me.1.cls = me.2.2.2.2.1) && (decide (me.1.cls ≠ "java/lang/invoke/MethodHandle" ∧ me.1.cls ≠ "java/lang/invoke/VarHandle") && (decide (me.2.2.1 ≤ 21) &&
  (if me.2.2.2.2.2.1 = 0 then decide (Cond.static me.1 ∈ lw_tbl) else if me.2.2.2.2.2.1 = 1 then decide (Cond.instanceMethod me.1 ∈ lw_tbl) && decide (Cond.selects me.1.cls me.1 me.1 ∈ lw_tbl) else decide (me.2.2.2.2.2.1 = 2) && (decide (me.1.name = "<init>") && (decide (Cond.instanceMethod me.1 ∈ lw_tbl) && decide (me.2.2.2.1 = none)))))))))
theorem xokH_of {me : xMe} (h : Cond.code me.1 me.2.1 me.2.2.1 me.2.2.2.1 ∈ lw_tbl) (h2 : xokH2 me = true) : xokH me = true := by
  unfold xokH
  rw [decide_eq_true h, Bool.true_and]
  exact h2
set_option maxRecDepth 100000 in
theorem okX10_item_4 : xokIs mX10_item.2.2.2.2.1 mX10_item.2.1 mX10_item.1.name pX10_item 220 ((pX10_item.drop 220).take 55) = true := by decide +kernel
