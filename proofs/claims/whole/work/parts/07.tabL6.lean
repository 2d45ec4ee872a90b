/-! the law (by program) -/
def tL_6 : List (Nat × AE) := [(954, .if_icmp .eq 5, 3, 959, 0, 0, 0), (957, .iconst 0, 1, 0, 0, 0, 0), (958, .ireturn, 1, 0, 0, 0, 0), (959, .iinc 3 4, 3, 3, 0, 4, 0), (962, .goto (-944), 3, 18, 0, 0, 0), (965, .iconst 1, 1, 0, 0, 1, 0), (966, .ireturn, 1, 0, 0, 0, 0)]
set_option maxRecDepth 20000 in
theorem tL_6_ok : tL_6.all (fun q => decide (decode cL_law q.1 = .ok (q.2.1, q.2.2.1)) && ab_okd q.1 q.2) = true := by decide +kernel
