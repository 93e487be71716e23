theorem g_ok {c : Int32} (h : ¬ bI (decide (c = 0)) = 0) : c = 0 := of_decide_eq_true (bI_n.mp h)
theorem g_no {c : Int32} (h : bI (decide (c = 0)) = 0) : c ≠ 0 := of_decide_eq_false (bI_0.mp h)
theorem d_nef {α : Type} {a b : α} [Decidable (a ≠ b)] (h : a = b) : decide (a ≠ b) = false := decide_eq_false (fun z => z h)
theorem bI_cl {k a b c : Bool} (h : (k && (a && b)) = false) : (0 : Int32) = bI (k && (a && (b && c))) := by
  revert h
  cases k <;> cases a <;> cases b <;> cases c <;> decide
