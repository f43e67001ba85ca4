set_option maxRecDepth 100000 in
def T_Law_law_18 : List (Nat × Instr × Nat) := [(1457, .invokevirtual 190, 3), (1460, .if_icmp .eq 5, 3), (1463, .iconst 0, 1), (1464, .ireturn, 1), (1465, .iinc 4 6, 3), (1468, .goto (-1445), 3), (1471, .iconst 1, 1), (1472, .ireturn, 1)]
set_option maxRecDepth 100000 in
theorem D_Law_law_18 : ∀ q ∈ T_Law_law_18, decode b_Law_law q.1 = .ok (q.2.1, q.2.2) := by decide +kernel

