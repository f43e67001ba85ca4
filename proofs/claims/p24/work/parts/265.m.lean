set_option maxRecDepth 100000 in
def T_Law_law_12 : List (Nat × Instr × Nat) := [(981, .ireturn, 1)]
set_option maxRecDepth 100000 in
theorem D_Law_law_12 : ∀ q ∈ T_Law_law_12, decode b_Law_law q.1 = .ok (q.2.1, q.2.2) := by decide +kernel

