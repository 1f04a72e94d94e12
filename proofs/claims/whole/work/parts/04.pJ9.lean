def pJ9_max_7cf53 : List (Nat × (Instr × Nat × Nat × Int32)) := [(0, (.iload_n 0, 1, 0, 0)), (1, (.iload_n 1, 2, 1, 0)), (2, (.if_icmp .lt 7, 5, 9, 0)), (5, (.iload_n 0, 6, 0, 0)), (6, (.goto 4, 9, 10, 0)), (9, (.iload_n 1, 10, 1, 0)), (10, (.ireturn, 11, 0, 0))]
theorem pJ9_max_7cf53_ok : ∀ pc q, lkB pJ9_max_7cf53 pc = some q → xdec cJ9_max_7cf53 pc = some q := lkB_all (by decide +kernel)
def pJ9_min_7cf53 : List (Nat × (Instr × Nat × Nat × Int32)) := [(0, (.iload_n 0, 1, 0, 0)), (1, (.iload_n 1, 2, 1, 0)), (2, (.if_icmp .gt 7, 5, 9, 0)), (5, (.iload_n 0, 6, 0, 0)), (6, (.goto 4, 9, 10, 0)), (9, (.iload_n 1, 10, 1, 0)), (10, (.ireturn, 11, 0, 0))]
theorem pJ9_min_7cf53_ok : ∀ pc q, lkB pJ9_min_7cf53 pc = some q → xdec cJ9_min_7cf53 pc = some q := lkB_all (by decide +kernel)
