/-! the model's keep and back -/
def bt158b (pc : Nat) : BL := if pc = 0 then [(.aload 0, 0, 1), (.getfield 15, 6, 3), (.iconst 2, 0, 1), (.if_icmp .ne 11, 0, 3)] else if pc = 8 then [(.iconst (-3), 0, 2), (.ireturn, 0, 1)] else if pc = 11 then [(.iconst 0, 0, 1), (.istore 1, 0, 1)] else if pc = 13 then [(.iload 1, 0, 1), (.iconst 10, 0, 2), (.if_icmp .ge 99, 0, 3)] else if pc = 19 then [(.aload 0, 0, 1), (.getfield 16, 6, 3), (.iconst 20, 0, 2), (.aload 0, 0, 1), (.getfield 15, 6, 3), (.imul, 0, 1), (.iconst 2, 0, 1), (.iload 1, 0, 1), (.imul, 0, 1), (.iadd, 0, 1), (.aload 0, 0, 1), (.getfield 7, 6, 3), (.iconst 4, 0, 1), (.iload 1, 0, 1), (.imul, 0, 1), (.iconst 0, 0, 1), (.iadd, 0, 1), (.iaload, 0, 1), (.iastore, 0, 1)] else if pc = 45 then [(.aload 0, 0, 1), (.getfield 16, 6, 3), (.iconst 20, 0, 2), (.aload 0, 0, 1), (.getfield 15, 6, 3), (.imul, 0, 1), (.iconst 2, 0, 1), (.iload 1, 0, 1), (.imul, 0, 1), (.iadd, 0, 1), (.iconst 1, 0, 1), (.iadd, 0, 1), (.aload 0, 0, 1), (.getfield 7, 6, 3), (.iconst 4, 0, 1), (.iload 1, 0, 1), (.imul, 0, 1), (.iconst 1, 0, 1), (.iadd, 0, 1), (.iaload, 0, 1), (.iastore, 0, 1)] else if pc = 73 then [(.aload 0, 0, 1), (.getfield 17, 6, 3), (.iconst 10, 0, 2), (.aload 0, 0, 1), (.getfield 15, 6, 3), (.imul, 0, 1), (.iload 1, 0, 1), (.iadd, 0, 1), (.aload 0, 0, 1), (.getfield 10, 6, 3), (.iload 1, 0, 1), (.baload, 0, 1), (.bastore, 0, 1), (.iinc 1 1, 0, 3), (.goto 13, 0, 3)] else if pc = 99 then [(.aload 0, 0, 1), (.getfield 18, 6, 3), (.aload 0, 0, 1), (.getfield 15, 6, 3), (.aload 0, 0, 1), (.getfield 11, 6, 3), (.iastore, 0, 1), (.iconst 0, 0, 1), (.istore 1, 0, 1)] else if pc = 114 then [(.iload 1, 0, 1), (.iconst 20, 0, 2), (.if_icmp .ge 186, 0, 3)] else if pc = 120 then [(.aload 0, 0, 1), (.getfield 19, 6, 3), (.iconst 20, 0, 2), (.aload 0, 0, 1), (.getfield 15, 6, 3), (.imul, 0, 1), (.iload 1, 0, 1), (.iadd, 0, 1), (.aload 0, 0, 1), (.getfield 12, 6, 3), (.iload 1, 0, 1), (.laload, 0, 1), (.lastore, 0, 1)] else if pc = 140 then [(.aload 0, 0, 1), (.getfield 20, 6, 3), (.iconst 20, 0, 2), (.aload 0, 0, 1), (.getfield 15, 6, 3), (.imul, 0, 1), (.iload 1, 0, 1), (.iadd, 0, 1), (.aload 0, 0, 1), (.getfield 13, 6, 3), (.iload 1, 0, 1), (.iaload, 0, 1), (.iastore, 0, 1)] else if pc = 160 then [(.aload 0, 0, 1), (.getfield 21, 6, 3), (.iconst 20, 0, 2), (.aload 0, 0, 1), (.getfield 15, 6, 3), (.imul, 0, 1), (.iload 1, 0, 1), (.iadd, 0, 1), (.aload 0, 0, 1), (.getfield 14, 6, 3), (.iload 1, 0, 1), (.baload, 0, 1), (.bastore, 0, 1), (.iinc 1 1, 0, 3), (.goto 114, 0, 3)] else if pc = 186 then [(.aload 0, 0, 1), (.dup, 0, 1), (.getfield 15, 6, 3), (.iconst 1, 0, 1), (.iadd, 0, 1), (.putfield 15, 6, 3), (.aload 0, 0, 1), (.getfield 15, 6, 3), (.ireturn, 0, 1)] else []
def sp158b (pc : Nat) : Bool := [13, 45, 73, 114, 140, 160].contains pc
theorem BT158b : bt158b 0 = [(.aload 0, 0, 1), (.getfield 15, 6, 3), (.iconst 2, 0, 1), (.if_icmp .ne 11, 0, 3)] ∧ bt158b 8 = [(.iconst (-3), 0, 2), (.ireturn, 0, 1)] ∧ bt158b 11 = [(.iconst 0, 0, 1), (.istore 1, 0, 1)] ∧ bt158b 13 = [(.iload 1, 0, 1), (.iconst 10, 0, 2), (.if_icmp .ge 99, 0, 3)] ∧ bt158b 19 = [(.aload 0, 0, 1), (.getfield 16, 6, 3), (.iconst 20, 0, 2), (.aload 0, 0, 1), (.getfield 15, 6, 3), (.imul, 0, 1), (.iconst 2, 0, 1), (.iload 1, 0, 1), (.imul, 0, 1), (.iadd, 0, 1), (.aload 0, 0, 1), (.getfield 7, 6, 3), (.iconst 4, 0, 1), (.iload 1, 0, 1), (.imul, 0, 1), (.iconst 0, 0, 1), (.iadd, 0, 1), (.iaload, 0, 1), (.iastore, 0, 1)] ∧ bt158b 45 = [(.aload 0, 0, 1), (.getfield 16, 6, 3), (.iconst 20, 0, 2), (.aload 0, 0, 1), (.getfield 15, 6, 3), (.imul, 0, 1), (.iconst 2, 0, 1), (.iload 1, 0, 1), (.imul, 0, 1), (.iadd, 0, 1), (.iconst 1, 0, 1), (.iadd, 0, 1), (.aload 0, 0, 1), (.getfield 7, 6, 3), (.iconst 4, 0, 1), (.iload 1, 0, 1), (.imul, 0, 1), (.iconst 1, 0, 1), (.iadd, 0, 1), (.iaload, 0, 1), (.iastore, 0, 1)] ∧ bt158b 73 = [(.aload 0, 0, 1), (.getfield 17, 6, 3), (.iconst 10, 0, 2), (.aload 0, 0, 1), (.getfield 15, 6, 3), (.imul, 0, 1), (.iload 1, 0, 1), (.iadd, 0, 1), (.aload 0, 0, 1), (.getfield 10, 6, 3), (.iload 1, 0, 1), (.baload, 0, 1), (.bastore, 0, 1), (.iinc 1 1, 0, 3), (.goto 13, 0, 3)] ∧ bt158b 99 = [(.aload 0, 0, 1), (.getfield 18, 6, 3), (.aload 0, 0, 1), (.getfield 15, 6, 3), (.aload 0, 0, 1), (.getfield 11, 6, 3), (.iastore, 0, 1), (.iconst 0, 0, 1), (.istore 1, 0, 1)] ∧ bt158b 114 = [(.iload 1, 0, 1), (.iconst 20, 0, 2), (.if_icmp .ge 186, 0, 3)] ∧ bt158b 120 = [(.aload 0, 0, 1), (.getfield 19, 6, 3), (.iconst 20, 0, 2), (.aload 0, 0, 1), (.getfield 15, 6, 3), (.imul, 0, 1), (.iload 1, 0, 1), (.iadd, 0, 1), (.aload 0, 0, 1), (.getfield 12, 6, 3), (.iload 1, 0, 1), (.laload, 0, 1), (.lastore, 0, 1)] ∧ bt158b 140 = [(.aload 0, 0, 1), (.getfield 20, 6, 3), (.iconst 20, 0, 2), (.aload 0, 0, 1), (.getfield 15, 6, 3), (.imul, 0, 1), (.iload 1, 0, 1), (.iadd, 0, 1), (.aload 0, 0, 1), (.getfield 13, 6, 3), (.iload 1, 0, 1), (.iaload, 0, 1), (.iastore, 0, 1)] ∧ bt158b 160 = [(.aload 0, 0, 1), (.getfield 21, 6, 3), (.iconst 20, 0, 2), (.aload 0, 0, 1), (.getfield 15, 6, 3), (.imul, 0, 1), (.iload 1, 0, 1), (.iadd, 0, 1), (.aload 0, 0, 1), (.getfield 14, 6, 3), (.iload 1, 0, 1), (.baload, 0, 1), (.bastore, 0, 1), (.iinc 1 1, 0, 3), (.goto 114, 0, 3)] ∧ bt158b 186 = [(.aload 0, 0, 1), (.dup, 0, 1), (.getfield 15, 6, 3), (.iconst 1, 0, 1), (.iadd, 0, 1), (.putfield 15, 6, 3), (.aload 0, 0, 1), (.getfield 15, 6, 3), (.ireturn, 0, 1)] ∧ True := ⟨rfl, rfl, rfl, rfl, rfl, rfl, rfl, rfl, rfl, rfl, rfl, rfl, rfl, trivial⟩
theorem SP158b : sp158b 0 = false ∧ sp158b 8 = false ∧ sp158b 11 = false ∧ sp158b 13 = true ∧ sp158b 19 = false ∧ sp158b 45 = true ∧ sp158b 73 = true ∧ sp158b 99 = false ∧ sp158b 114 = true ∧ sp158b 120 = false ∧ sp158b 140 = true ∧ sp158b 160 = true ∧ sp158b 186 = false ∧ True := ⟨rfl, rfl, rfl, rfl, rfl, rfl, rfl, rfl, rfl, rfl, rfl, rfl, rfl, trivial⟩
set_option maxRecDepth 100000 in
theorem bk158b : ∀ pc, blk 158 pc (bt158b pc) = true := fun pc => blk_if (by decide +kernel) (blk_if (by decide +kernel) (blk_if (by decide +kernel) (blk_if (by decide +kernel) (blk_if (by decide +kernel) (blk_if (by decide +kernel) (blk_if (by decide +kernel) (blk_if (by decide +kernel) (blk_if (by decide +kernel) (blk_if (by decide +kernel) (blk_if (by decide +kernel) (blk_if (by decide +kernel) (blk_if (by decide +kernel) (rfl)))))))))))))
def bt159b (pc : Nat) : BL := if pc = 0 then [(.aload 0, 0, 1), (.getfield 15, 6, 3), (.ifCond .ne 10, 0, 3)] else if pc = 7 then [(.iconst (-2), 0, 2), (.ireturn, 0, 1)] else if pc = 10 then [(.aload 0, 0, 1), (.dup, 0, 1), (.getfield 15, 6, 3), (.iconst 1, 0, 1), (.isub, 0, 1), (.putfield 15, 6, 3), (.iconst 0, 0, 1), (.istore 1, 0, 1)] else if pc = 22 then [(.iload 1, 0, 1), (.iconst 10, 0, 2), (.if_icmp .ge 108, 0, 3)] else if pc = 28 then [(.aload 0, 0, 1), (.getfield 7, 6, 3), (.iconst 4, 0, 1), (.iload 1, 0, 1), (.imul, 0, 1), (.iconst 0, 0, 1), (.iadd, 0, 1), (.aload 0, 0, 1), (.getfield 16, 6, 3), (.iconst 20, 0, 2), (.aload 0, 0, 1), (.getfield 15, 6, 3), (.imul, 0, 1), (.iconst 2, 0, 1), (.iload 1, 0, 1), (.imul, 0, 1), (.iadd, 0, 1), (.iaload, 0, 1), (.iastore, 0, 1)] else if pc = 54 then [(.aload 0, 0, 1), (.getfield 7, 6, 3), (.iconst 4, 0, 1), (.iload 1, 0, 1), (.imul, 0, 1), (.iconst 1, 0, 1), (.iadd, 0, 1), (.aload 0, 0, 1), (.getfield 16, 6, 3), (.iconst 20, 0, 2), (.aload 0, 0, 1), (.getfield 15, 6, 3), (.imul, 0, 1), (.iconst 2, 0, 1), (.iload 1, 0, 1), (.imul, 0, 1), (.iadd, 0, 1), (.iconst 1, 0, 1), (.iadd, 0, 1), (.iaload, 0, 1), (.iastore, 0, 1)] else if pc = 82 then [(.aload 0, 0, 1), (.getfield 10, 6, 3), (.iload 1, 0, 1), (.aload 0, 0, 1), (.getfield 17, 6, 3), (.iconst 10, 0, 2), (.aload 0, 0, 1), (.getfield 15, 6, 3), (.imul, 0, 1), (.iload 1, 0, 1), (.iadd, 0, 1), (.baload, 0, 1), (.bastore, 0, 1), (.iinc 1 1, 0, 3), (.goto 22, 0, 3)] else if pc = 108 then [(.aload 0, 0, 1), (.aload 0, 0, 1), (.getfield 18, 6, 3), (.aload 0, 0, 1), (.getfield 15, 6, 3), (.iaload, 0, 1), (.putfield 11, 6, 3), (.iconst 0, 0, 1), (.istore 1, 0, 1)] else if pc = 123 then [(.iload 1, 0, 1), (.iconst 20, 0, 2), (.if_icmp .ge 195, 0, 3)] else if pc = 129 then [(.aload 0, 0, 1), (.getfield 12, 6, 3), (.iload 1, 0, 1), (.aload 0, 0, 1), (.getfield 19, 6, 3), (.iconst 20, 0, 2), (.aload 0, 0, 1), (.getfield 15, 6, 3), (.imul, 0, 1), (.iload 1, 0, 1), (.iadd, 0, 1), (.laload, 0, 1), (.lastore, 0, 1)] else if pc = 149 then [(.aload 0, 0, 1), (.getfield 13, 6, 3), (.iload 1, 0, 1), (.aload 0, 0, 1), (.getfield 20, 6, 3), (.iconst 20, 0, 2), (.aload 0, 0, 1), (.getfield 15, 6, 3), (.imul, 0, 1), (.iload 1, 0, 1), (.iadd, 0, 1), (.iaload, 0, 1), (.iastore, 0, 1)] else if pc = 169 then [(.aload 0, 0, 1), (.getfield 14, 6, 3), (.iload 1, 0, 1), (.aload 0, 0, 1), (.getfield 21, 6, 3), (.iconst 20, 0, 2), (.aload 0, 0, 1), (.getfield 15, 6, 3), (.imul, 0, 1), (.iload 1, 0, 1), (.iadd, 0, 1), (.baload, 0, 1), (.bastore, 0, 1), (.iinc 1 1, 0, 3), (.goto 123, 0, 3)] else if pc = 195 then [(.aload 0, 0, 1), (.getfield 15, 6, 3), (.ireturn, 0, 1)] else []
def sp159b (pc : Nat) : Bool := [22, 54, 82, 123, 149, 169].contains pc
theorem BT159b : bt159b 0 = [(.aload 0, 0, 1), (.getfield 15, 6, 3), (.ifCond .ne 10, 0, 3)] ∧ bt159b 7 = [(.iconst (-2), 0, 2), (.ireturn, 0, 1)] ∧ bt159b 10 = [(.aload 0, 0, 1), (.dup, 0, 1), (.getfield 15, 6, 3), (.iconst 1, 0, 1), (.isub, 0, 1), (.putfield 15, 6, 3), (.iconst 0, 0, 1), (.istore 1, 0, 1)] ∧ bt159b 22 = [(.iload 1, 0, 1), (.iconst 10, 0, 2), (.if_icmp .ge 108, 0, 3)] ∧ bt159b 28 = [(.aload 0, 0, 1), (.getfield 7, 6, 3), (.iconst 4, 0, 1), (.iload 1, 0, 1), (.imul, 0, 1), (.iconst 0, 0, 1), (.iadd, 0, 1), (.aload 0, 0, 1), (.getfield 16, 6, 3), (.iconst 20, 0, 2), (.aload 0, 0, 1), (.getfield 15, 6, 3), (.imul, 0, 1), (.iconst 2, 0, 1), (.iload 1, 0, 1), (.imul, 0, 1), (.iadd, 0, 1), (.iaload, 0, 1), (.iastore, 0, 1)] ∧ bt159b 54 = [(.aload 0, 0, 1), (.getfield 7, 6, 3), (.iconst 4, 0, 1), (.iload 1, 0, 1), (.imul, 0, 1), (.iconst 1, 0, 1), (.iadd, 0, 1), (.aload 0, 0, 1), (.getfield 16, 6, 3), (.iconst 20, 0, 2), (.aload 0, 0, 1), (.getfield 15, 6, 3), (.imul, 0, 1), (.iconst 2, 0, 1), (.iload 1, 0, 1), (.imul, 0, 1), (.iadd, 0, 1), (.iconst 1, 0, 1), (.iadd, 0, 1), (.iaload, 0, 1), (.iastore, 0, 1)] ∧ bt159b 82 = [(.aload 0, 0, 1), (.getfield 10, 6, 3), (.iload 1, 0, 1), (.aload 0, 0, 1), (.getfield 17, 6, 3), (.iconst 10, 0, 2), (.aload 0, 0, 1), (.getfield 15, 6, 3), (.imul, 0, 1), (.iload 1, 0, 1), (.iadd, 0, 1), (.baload, 0, 1), (.bastore, 0, 1), (.iinc 1 1, 0, 3), (.goto 22, 0, 3)] ∧ bt159b 108 = [(.aload 0, 0, 1), (.aload 0, 0, 1), (.getfield 18, 6, 3), (.aload 0, 0, 1), (.getfield 15, 6, 3), (.iaload, 0, 1), (.putfield 11, 6, 3), (.iconst 0, 0, 1), (.istore 1, 0, 1)] ∧ bt159b 123 = [(.iload 1, 0, 1), (.iconst 20, 0, 2), (.if_icmp .ge 195, 0, 3)] ∧ bt159b 129 = [(.aload 0, 0, 1), (.getfield 12, 6, 3), (.iload 1, 0, 1), (.aload 0, 0, 1), (.getfield 19, 6, 3), (.iconst 20, 0, 2), (.aload 0, 0, 1), (.getfield 15, 6, 3), (.imul, 0, 1), (.iload 1, 0, 1), (.iadd, 0, 1), (.laload, 0, 1), (.lastore, 0, 1)] ∧ bt159b 149 = [(.aload 0, 0, 1), (.getfield 13, 6, 3), (.iload 1, 0, 1), (.aload 0, 0, 1), (.getfield 20, 6, 3), (.iconst 20, 0, 2), (.aload 0, 0, 1), (.getfield 15, 6, 3), (.imul, 0, 1), (.iload 1, 0, 1), (.iadd, 0, 1), (.iaload, 0, 1), (.iastore, 0, 1)] ∧ bt159b 169 = [(.aload 0, 0, 1), (.getfield 14, 6, 3), (.iload 1, 0, 1), (.aload 0, 0, 1), (.getfield 21, 6, 3), (.iconst 20, 0, 2), (.aload 0, 0, 1), (.getfield 15, 6, 3), (.imul, 0, 1), (.iload 1, 0, 1), (.iadd, 0, 1), (.baload, 0, 1), (.bastore, 0, 1), (.iinc 1 1, 0, 3), (.goto 123, 0, 3)] ∧ bt159b 195 = [(.aload 0, 0, 1), (.getfield 15, 6, 3), (.ireturn, 0, 1)] ∧ True := ⟨rfl, rfl, rfl, rfl, rfl, rfl, rfl, rfl, rfl, rfl, rfl, rfl, rfl, trivial⟩
theorem SP159b : sp159b 0 = false ∧ sp159b 7 = false ∧ sp159b 10 = false ∧ sp159b 22 = true ∧ sp159b 28 = false ∧ sp159b 54 = true ∧ sp159b 82 = true ∧ sp159b 108 = false ∧ sp159b 123 = true ∧ sp159b 129 = false ∧ sp159b 149 = true ∧ sp159b 169 = true ∧ sp159b 195 = false ∧ True := ⟨rfl, rfl, rfl, rfl, rfl, rfl, rfl, rfl, rfl, rfl, rfl, rfl, rfl, trivial⟩
set_option maxRecDepth 100000 in
theorem bk159b : ∀ pc, blk 159 pc (bt159b pc) = true := fun pc => blk_if (by decide +kernel) (blk_if (by decide +kernel) (blk_if (by decide +kernel) (blk_if (by decide +kernel) (blk_if (by decide +kernel) (blk_if (by decide +kernel) (blk_if (by decide +kernel) (blk_if (by decide +kernel) (blk_if (by decide +kernel) (blk_if (by decide +kernel) (blk_if (by decide +kernel) (blk_if (by decide +kernel) (blk_if (by decide +kernel) (rfl)))))))))))))
theorem TK : (∀ c i : Nat, (20 * (c : Int) + 2 * (i : Int)).toNat = 20 * c + 2 * i) ∧ (∀ c i : Nat, (20 * (c : Int) + 2 * (i : Int) + 1).toNat = 20 * c + 2 * i + 1) ∧ (∀ c i : Nat, (10 * (c : Int) + (i : Int)).toNat = 10 * c + i) ∧ (∀ c i : Nat, (20 * (c : Int) + (i : Int)).toNat = 20 * c + i) := by
  refine ⟨?_, ?_, ?_, ?_⟩ <;> intros <;> omega
def slt (c k j : Nat) : Prop := (k = 68 ∧ 20 * c ≤ j ∧ j < 20 * c + 20) ∨ (k = 69 ∧ 10 * c ≤ j ∧ j < 10 * c + 10) ∨ (k = 70 ∧ j = c) ∨ (71 ≤ k ∧ k ≤ 73 ∧ 20 * c ≤ j ∧ j < 20 * c + 20)
def kA (M : MM) (c n : Nat) (N : MM) : Prop := ∀ i, i < n → N 68 (20 * c + 2 * i) = M 61 (4 * i) ∧ N 68 (20 * c + 2 * i + 1) = M 61 (4 * i + 1) ∧ N 69 (10 * c + i) = M 64 i
def kB (M : MM) (c n : Nat) (N : MM) : Prop := ∀ k, k < n → N 71 (20 * c + k) = M 65 k ∧ N 72 (20 * c + k) = M 66 k ∧ N 73 (20 * c + k) = M 67 k
def kpd (M : MM) (c : Nat) (N : MM) : Prop := kA M c 10 N ∧ N 70 c = M 55 11 ∧ kB M c 20 N ∧ N 55 15 = c + 1 ∧ ∀ k j, ¬ slt c k j → ¬ (k = 55 ∧ j = 15) → N k j = M k j
theorem m_keep (M : MM) (hk : 0 ≤ M 55 15 ∧ M 55 15 ≤ 2) (h64 : ∀ j, j < 10 → M 64 j = 0 ∨ M 64 j = 1) (h67 : ∀ j, j < 20 → M 67 j = 0 ∨ M 67 j = 1) : oQ 1 158 [vR 55] M (fun r M' => r = some (Sum.inl (f_keep M)) ∧ (M 55 15 = 2 → M' = M) ∧ (M 55 15 ≠ 2 → kpd M (M 55 15).toNat M')) := by
  obtain ⟨c, hc⟩ : ∃ c : Nat, M 55 15 = (c : Int) := ⟨(M 55 15).toNat, by omega⟩
  refine go158 (fun S hS => ?_)
  by_cases h2 : M 55 15 = 2
  · refine wpx_ok hS bk158 (sp := sp158) 60 0 _ _ _ _ ?_
    simp only [LCM, B2, Bool.not_eq_false, Bool.not_eq_true, decide_eq_true_eq, decide_eq_false_iff_not, Int.not_lt, Int.not_le, CST, TN, WX, WA, WB, GS, LOC, BT158, SP158, CLS, FLD, ARR, CD, true_and, and_true, and_self, forall_const, true_implies, false_implies, implies_true, not_true_eq_false, not_false_eq_true, if_true, if_false, rgI, rgL, scr, swl, lkl, cats, cat, is2, List.drop_succ_cons, List.drop_zero, List.drop_nil, List.cons_append, List.nil_append, Option.toList_some, Option.toList_none, List.length_cons, List.length_nil, ne_eq, Classical.not_not, reduceCtorEq, Nat.reduceAdd, Nat.reduceSub, Nat.reduceMul, Nat.reduceLT, Nat.reduceLeDiff, Nat.reduceEqDiff, Nat.reduceBEq, Int.reduceToNat, Int.reduceLE, Int.reduceLT, Int.reduceEq, Int.reduceNeg, Int.reduceAdd, Int.reduceSub, Int.reduceMul, Int.toNat_natCast, Nat.zero_add, Int.add_zero, Nat.add_zero, ite_true, ite_false, Option.some.injEq, Nat.le_refl, or_true, true_or, or_false, false_or, if_pos, reduceIte, Nat.reduceGT]
    refine ⟨by omega, fun h => absurd h2 h, fun h => rt158 ⟨rfl, ?_, fun _ => rfl, fun z => absurd h2 z⟩⟩
    unfold f_keep
    rw [if_pos h2]
  have hc2 : c < 2 := by omega
  have loopB : ∀ (n i : Nat) (N : MM), i + n = 20 → kA M c 10 N → N 70 c = M 55 11 → kB M c i N → (∀ k j, ¬ slt c k j → N k j = M k j) → S 114 [some (vR 55), some (vI i)] [] (sh0, 0, 0) N := by
    intro n
    induction n with
    | zero =>
      intro i N hi hA h70 hB hF
      have e15 : N 55 15 = c := by rw [hF 55 15 (by unfold slt; omega)]; exact hc
      have hi20 : i = 20 := by omega
      refine wpx_ok hS bk158b (sp := sp158b) 60 114 _ _ _ _ ?_
      simp only [LCM, B2, Bool.not_eq_false, Bool.not_eq_true, decide_eq_true_eq, decide_eq_false_iff_not, Int.not_lt, Int.not_le, CST, TN, WX, WA, WB, GS, LOC, BT158b, SP158b, CLS, FLD, ARR, CD, true_and, and_true, and_self, forall_const, true_implies, false_implies, implies_true, not_true_eq_false, not_false_eq_true, if_true, if_false, rgI, rgL, scr, swl, lkl, cats, cat, is2, List.drop_succ_cons, List.drop_zero, List.drop_nil, List.cons_append, List.nil_append, Option.toList_some, Option.toList_none, List.length_cons, List.length_nil, ne_eq, Classical.not_not, reduceCtorEq, Nat.reduceAdd, Nat.reduceSub, Nat.reduceMul, Nat.reduceLT, Nat.reduceLeDiff, Nat.reduceEqDiff, Nat.reduceBEq, Int.reduceToNat, Int.reduceLE, Int.reduceLT, Int.reduceEq, Int.reduceNeg, Int.reduceAdd, Int.reduceSub, Int.reduceMul, Int.toNat_natCast, Nat.zero_add, Int.add_zero, Nat.add_zero, ite_true, ite_false, Option.some.injEq, Nat.le_refl, or_true, true_or, or_false, false_or, if_pos, reduceIte, Nat.reduceGT, ms_ne, ms_eq, ms_nj]
      rw [e15]
      refine ⟨by omega, fun h => rt158 ⟨rfl, ?_, fun z => absurd z h2, fun _ => ?_⟩, fun h => by omega⟩
      · unfold f_keep; rw [if_neg h2, hc]
      · rw [hc, Int.toNat_natCast]
        rw [hi20] at hB
        refine ⟨fun x hx => ?_, ?_, fun x hx => ?_, ms_eq, fun k j h3 h4 => ?_⟩
        · rw [ms_ne (by decide), ms_ne (by decide), ms_ne (by decide)]; exact hA x hx
        · rw [ms_ne (by decide)]; exact h70
        · rw [ms_ne (by decide), ms_ne (by decide), ms_ne (by decide)]; exact hB x hx
        · unfold mset; rw [if_neg h4]; exact hF k j h3
    | succ n ih =>
      intro i N hi hA h70 hB hF
      have e15 : N 55 15 = c := by rw [hF 55 15 (by unfold slt; omega)]; exact hc
      have e65 : N 65 i = M 65 i := hF 65 i (by unfold slt; omega)
      have e66 : N 66 i = M 66 i := hF 66 i (by unfold slt; omega)
      have e67 : N 67 i = M 67 i := hF 67 i (by unfold slt; omega)
      refine wpx_ok hS bk158b (sp := sp158b) 60 114 _ _ _ _ ?_
      simp only [LCM, B2, Bool.not_eq_false, Bool.not_eq_true, decide_eq_true_eq, decide_eq_false_iff_not, Int.not_lt, Int.not_le, CST, TN, WX, WA, WB, GS, LOC, BT158b, SP158b, CLS, FLD, ARR, CD, true_and, and_true, and_self, forall_const, true_implies, false_implies, implies_true, not_true_eq_false, not_false_eq_true, if_true, if_false, rgI, rgL, scr, swl, lkl, cats, cat, is2, List.drop_succ_cons, List.drop_zero, List.drop_nil, List.cons_append, List.nil_append, Option.toList_some, Option.toList_none, List.length_cons, List.length_nil, ne_eq, Classical.not_not, reduceCtorEq, Nat.reduceAdd, Nat.reduceSub, Nat.reduceMul, Nat.reduceLT, Nat.reduceLeDiff, Nat.reduceEqDiff, Nat.reduceBEq, Int.reduceToNat, Int.reduceLE, Int.reduceLT, Int.reduceEq, Int.reduceNeg, Int.reduceAdd, Int.reduceSub, Int.reduceMul, Int.toNat_natCast, Nat.zero_add, Int.add_zero, Nat.add_zero, ite_true, ite_false, Option.some.injEq, Nat.le_refl, or_true, true_or, or_false, false_or, if_pos, reduceIte, Nat.reduceGT]
      rw [e15, e65]
      simp only [TK]
      refine ⟨by omega, fun h => by omega, fun h => ⟨by omega, by omega, ?_⟩⟩
      refine wpx_ok hS bk158b (sp := sp158b) 60 140 _ _ _ _ ?_
      simp only [LCM, B2, Bool.not_eq_false, Bool.not_eq_true, decide_eq_true_eq, decide_eq_false_iff_not, Int.not_lt, Int.not_le, CST, TN, WX, WA, WB, GS, LOC, BT158b, SP158b, CLS, FLD, ARR, CD, true_and, and_true, and_self, forall_const, true_implies, false_implies, implies_true, not_true_eq_false, not_false_eq_true, if_true, if_false, rgI, rgL, scr, swl, lkl, cats, cat, is2, List.drop_succ_cons, List.drop_zero, List.drop_nil, List.cons_append, List.nil_append, Option.toList_some, Option.toList_none, List.length_cons, List.length_nil, ne_eq, Classical.not_not, reduceCtorEq, Nat.reduceAdd, Nat.reduceSub, Nat.reduceMul, Nat.reduceLT, Nat.reduceLeDiff, Nat.reduceEqDiff, Nat.reduceBEq, Int.reduceToNat, Int.reduceLE, Int.reduceLT, Int.reduceEq, Int.reduceNeg, Int.reduceAdd, Int.reduceSub, Int.reduceMul, Int.toNat_natCast, Nat.zero_add, Int.add_zero, Nat.add_zero, ite_true, ite_false, Option.some.injEq, Nat.le_refl, or_true, true_or, or_false, false_or, if_pos, reduceIte, Nat.reduceGT, ms_ne, ms_eq, ms_nj]
      rw [e15, e66]
      simp only [TK]
      refine ⟨by omega, by omega, ?_⟩
      refine wpx_ok hS bk158b (sp := sp158b) 60 160 _ _ _ _ ?_
      simp only [LCM, B2, Bool.not_eq_false, Bool.not_eq_true, decide_eq_true_eq, decide_eq_false_iff_not, Int.not_lt, Int.not_le, CST, TN, WX, WA, WB, GS, LOC, BT158b, SP158b, CLS, FLD, ARR, CD, true_and, and_true, and_self, forall_const, true_implies, false_implies, implies_true, not_true_eq_false, not_false_eq_true, if_true, if_false, rgI, rgL, scr, swl, lkl, cats, cat, is2, List.drop_succ_cons, List.drop_zero, List.drop_nil, List.cons_append, List.nil_append, Option.toList_some, Option.toList_none, List.length_cons, List.length_nil, ne_eq, Classical.not_not, reduceCtorEq, Nat.reduceAdd, Nat.reduceSub, Nat.reduceMul, Nat.reduceLT, Nat.reduceLeDiff, Nat.reduceEqDiff, Nat.reduceBEq, Int.reduceToNat, Int.reduceLE, Int.reduceLT, Int.reduceEq, Int.reduceNeg, Int.reduceAdd, Int.reduceSub, Int.reduceMul, Int.toNat_natCast, Nat.zero_add, Int.add_zero, Nat.add_zero, ite_true, ite_false, Option.some.injEq, Nat.le_refl, or_true, true_or, or_false, false_or, if_pos, reduceIte, Nat.reduceGT, ms_ne, ms_eq, ms_nj]
      rw [e15, e67]
      simp only [TK]
      refine ⟨by omega, by omega, h67 i (by omega), ?_⟩
      refine ih (i + 1) _ (by omega) (fun x hx => ?_) ?_ (fun x hx => ?_) (fun k j hk => ?_)
      · simp only [ms_ne (show (68 : Nat) ≠ 73 by decide), ms_ne (show (68 : Nat) ≠ 72 by decide), ms_ne (show (68 : Nat) ≠ 71 by decide), ms_ne (show (69 : Nat) ≠ 73 by decide), ms_ne (show (69 : Nat) ≠ 72 by decide), ms_ne (show (69 : Nat) ≠ 71 by decide)]; exact hA x hx
      · rw [ms_ne (by decide), ms_ne (by decide), ms_ne (by decide)]; exact h70
      · by_cases hxi : x = i
        · subst hxi
          rw [ms_ne (show (71 : Nat) ≠ 73 by decide), ms_ne (show (71 : Nat) ≠ 72 by decide), ms_eq, ms_ne (show (72 : Nat) ≠ 73 by decide), ms_eq, ms_eq]
          exact ⟨rfl, rfl, rfl⟩
        · rw [ms_ne (show (71 : Nat) ≠ 73 by decide), ms_ne (show (71 : Nat) ≠ 72 by decide), ms_nj (by omega), ms_ne (show (72 : Nat) ≠ 73 by decide), ms_nj (by omega), ms_ne (show (72 : Nat) ≠ 71 by decide), ms_nj (by omega), ms_ne (show (73 : Nat) ≠ 72 by decide), ms_ne (show (73 : Nat) ≠ 71 by decide)]
          exact hB x (by omega)
      · rw [← hF k j hk]
        unfold slt at hk
        unfold mset
        rw [if_neg (by omega), if_neg (by omega), if_neg (by omega)]
  have loopA : ∀ (n i : Nat) (N : MM), i + n = 10 → kA M c i N → (∀ k j, ¬ slt c k j → N k j = M k j) → S 13 [some (vR 55), some (vI i)] [] (sh0, 0, 0) N := by
    intro n
    induction n with
    | zero =>
      intro i N hi hA hF
      have e15 : N 55 15 = c := by rw [hF 55 15 (by unfold slt; omega)]; exact hc
      have e11 : N 55 11 = M 55 11 := hF 55 11 (by unfold slt; omega)
      have hi10 : i = 10 := by omega
      refine wpx_ok hS bk158b (sp := sp158b) 60 13 _ _ _ _ ?_
      simp only [LCM, B2, Bool.not_eq_false, Bool.not_eq_true, decide_eq_true_eq, decide_eq_false_iff_not, Int.not_lt, Int.not_le, CST, TN, WX, WA, WB, GS, LOC, BT158b, SP158b, CLS, FLD, ARR, CD, true_and, and_true, and_self, forall_const, true_implies, false_implies, implies_true, not_true_eq_false, not_false_eq_true, if_true, if_false, rgI, rgL, scr, swl, lkl, cats, cat, is2, List.drop_succ_cons, List.drop_zero, List.drop_nil, List.cons_append, List.nil_append, Option.toList_some, Option.toList_none, List.length_cons, List.length_nil, ne_eq, Classical.not_not, reduceCtorEq, Nat.reduceAdd, Nat.reduceSub, Nat.reduceMul, Nat.reduceLT, Nat.reduceLeDiff, Nat.reduceEqDiff, Nat.reduceBEq, Int.reduceToNat, Int.reduceLE, Int.reduceLT, Int.reduceEq, Int.reduceNeg, Int.reduceAdd, Int.reduceSub, Int.reduceMul, Int.toNat_natCast, Nat.zero_add, Int.add_zero, Nat.add_zero, ite_true, ite_false, Option.some.injEq, Nat.le_refl, or_true, true_or, or_false, false_or, if_pos, reduceIte, Nat.reduceGT]
      rw [e15, e11]
      simp only [Int.toNat_natCast]
      refine ⟨by omega, fun h => ⟨by omega, ?_⟩, fun h => by omega⟩
      rw [hi10] at hA
      refine loopB 20 0 _ (by omega) (fun x hx => ?_) ms_eq (fun x hx => by omega) (fun k j hk => ?_)
      · rw [ms_ne (by decide), ms_ne (by decide), ms_ne (by decide)]; exact hA x hx
      · rw [← hF k j hk]
        unfold slt at hk
        unfold mset
        rw [if_neg (by omega)]
    | succ n ih =>
      intro i N hi hA hF
      have e15 : N 55 15 = c := by rw [hF 55 15 (by unfold slt; omega)]; exact hc
      have e61 : ∀ j, N 61 j = M 61 j := fun j => hF 61 j (by unfold slt; omega)
      have e64 : N 64 i = M 64 i := hF 64 i (by unfold slt; omega)
      refine wpx_ok hS bk158b (sp := sp158b) 60 13 _ _ _ _ ?_
      simp only [LCM, B2, Bool.not_eq_false, Bool.not_eq_true, decide_eq_true_eq, decide_eq_false_iff_not, Int.not_lt, Int.not_le, CST, TN, WX, WA, WB, GS, LOC, BT158b, SP158b, CLS, FLD, ARR, CD, true_and, and_true, and_self, forall_const, true_implies, false_implies, implies_true, not_true_eq_false, not_false_eq_true, if_true, if_false, rgI, rgL, scr, swl, lkl, cats, cat, is2, List.drop_succ_cons, List.drop_zero, List.drop_nil, List.cons_append, List.nil_append, Option.toList_some, Option.toList_none, List.length_cons, List.length_nil, ne_eq, Classical.not_not, reduceCtorEq, Nat.reduceAdd, Nat.reduceSub, Nat.reduceMul, Nat.reduceLT, Nat.reduceLeDiff, Nat.reduceEqDiff, Nat.reduceBEq, Int.reduceToNat, Int.reduceLE, Int.reduceLT, Int.reduceEq, Int.reduceNeg, Int.reduceAdd, Int.reduceSub, Int.reduceMul, Int.toNat_natCast, Nat.zero_add, Int.add_zero, Nat.add_zero, ite_true, ite_false, Option.some.injEq, Nat.le_refl, or_true, true_or, or_false, false_or, if_pos, reduceIte, Nat.reduceGT]
      rw [e15, e61]
      simp only [TK]
      refine ⟨by omega, fun h => by omega, fun h => ⟨by omega, by omega, ?_⟩⟩
      refine wpx_ok hS bk158b (sp := sp158b) 60 45 _ _ _ _ ?_
      simp only [LCM, B2, Bool.not_eq_false, Bool.not_eq_true, decide_eq_true_eq, decide_eq_false_iff_not, Int.not_lt, Int.not_le, CST, TN, WX, WA, WB, GS, LOC, BT158b, SP158b, CLS, FLD, ARR, CD, true_and, and_true, and_self, forall_const, true_implies, false_implies, implies_true, not_true_eq_false, not_false_eq_true, if_true, if_false, rgI, rgL, scr, swl, lkl, cats, cat, is2, List.drop_succ_cons, List.drop_zero, List.drop_nil, List.cons_append, List.nil_append, Option.toList_some, Option.toList_none, List.length_cons, List.length_nil, ne_eq, Classical.not_not, reduceCtorEq, Nat.reduceAdd, Nat.reduceSub, Nat.reduceMul, Nat.reduceLT, Nat.reduceLeDiff, Nat.reduceEqDiff, Nat.reduceBEq, Int.reduceToNat, Int.reduceLE, Int.reduceLT, Int.reduceEq, Int.reduceNeg, Int.reduceAdd, Int.reduceSub, Int.reduceMul, Int.toNat_natCast, Nat.zero_add, Int.add_zero, Nat.add_zero, ite_true, ite_false, Option.some.injEq, Nat.le_refl, or_true, true_or, or_false, false_or, if_pos, reduceIte, Nat.reduceGT, ms_ne, ms_eq, ms_nj]
      rw [e15, e61]
      simp only [TK]
      refine ⟨by omega, by omega, ?_⟩
      refine wpx_ok hS bk158b (sp := sp158b) 60 73 _ _ _ _ ?_
      simp only [LCM, B2, Bool.not_eq_false, Bool.not_eq_true, decide_eq_true_eq, decide_eq_false_iff_not, Int.not_lt, Int.not_le, CST, TN, WX, WA, WB, GS, LOC, BT158b, SP158b, CLS, FLD, ARR, CD, true_and, and_true, and_self, forall_const, true_implies, false_implies, implies_true, not_true_eq_false, not_false_eq_true, if_true, if_false, rgI, rgL, scr, swl, lkl, cats, cat, is2, List.drop_succ_cons, List.drop_zero, List.drop_nil, List.cons_append, List.nil_append, Option.toList_some, Option.toList_none, List.length_cons, List.length_nil, ne_eq, Classical.not_not, reduceCtorEq, Nat.reduceAdd, Nat.reduceSub, Nat.reduceMul, Nat.reduceLT, Nat.reduceLeDiff, Nat.reduceEqDiff, Nat.reduceBEq, Int.reduceToNat, Int.reduceLE, Int.reduceLT, Int.reduceEq, Int.reduceNeg, Int.reduceAdd, Int.reduceSub, Int.reduceMul, Int.toNat_natCast, Nat.zero_add, Int.add_zero, Nat.add_zero, ite_true, ite_false, Option.some.injEq, Nat.le_refl, or_true, true_or, or_false, false_or, if_pos, reduceIte, Nat.reduceGT, ms_ne, ms_eq, ms_nj]
      rw [e15, e64]
      simp only [TK]
      refine ⟨by omega, by omega, h64 i (by omega), ?_⟩
      refine ih (i + 1) _ (by omega) (fun x hx => ?_) (fun k j hk => ?_)
      · by_cases hxi : x = i
        · subst hxi
          rw [ms_ne (show (68 : Nat) ≠ 69 by decide), ms_nj (by omega), ms_eq, ms_ne (show (68 : Nat) ≠ 69 by decide), ms_eq, ms_eq]
          exact ⟨rfl, rfl, rfl⟩
        · rw [ms_ne (show (68 : Nat) ≠ 69 by decide), ms_nj (by omega), ms_nj (by omega), ms_ne (show (68 : Nat) ≠ 69 by decide), ms_nj (by omega), ms_nj (by omega), ms_nj (by omega), ms_ne (show (69 : Nat) ≠ 68 by decide), ms_ne (show (69 : Nat) ≠ 68 by decide)]
          exact hA x (by omega)
      · rw [← hF k j hk]
        unfold slt at hk
        unfold mset
        rw [if_neg (by omega), if_neg (by omega), if_neg (by omega)]
  have := loopA 10 0 M (by omega) (fun x hx => by omega) (fun _ _ _ => rfl)
  refine wpx_ok hS bk158b (sp := sp158b) 60 0 _ _ _ _ ?_
  simp only [LCM, B2, Bool.not_eq_false, Bool.not_eq_true, decide_eq_true_eq, decide_eq_false_iff_not, Int.not_lt, Int.not_le, CST, TN, WX, WA, WB, GS, LOC, BT158b, SP158b, CLS, FLD, ARR, CD, true_and, and_true, and_self, forall_const, true_implies, false_implies, implies_true, not_true_eq_false, not_false_eq_true, if_true, if_false, rgI, rgL, scr, swl, lkl, cats, cat, is2, List.drop_succ_cons, List.drop_zero, List.drop_nil, List.cons_append, List.nil_append, Option.toList_some, Option.toList_none, List.length_cons, List.length_nil, ne_eq, Classical.not_not, reduceCtorEq, Nat.reduceAdd, Nat.reduceSub, Nat.reduceMul, Nat.reduceLT, Nat.reduceLeDiff, Nat.reduceEqDiff, Nat.reduceBEq, Int.reduceToNat, Int.reduceLE, Int.reduceLT, Int.reduceEq, Int.reduceNeg, Int.reduceAdd, Int.reduceSub, Int.reduceMul, Int.toNat_natCast, Nat.zero_add, Int.add_zero, Nat.add_zero, ite_true, ite_false, Option.some.injEq, Nat.le_refl, or_true, true_or, or_false, false_or, if_pos, reduceIte, Nat.reduceGT]
  exact ⟨by omega, fun _ => this, fun h => absurd h h2⟩
def bA (M : MM) (c n : Nat) (N : MM) : Prop := ∀ i, i < n → N 61 (4 * i) = M 68 (20 * c + 2 * i) ∧ N 61 (4 * i + 1) = M 68 (20 * c + 2 * i + 1) ∧ N 64 i = M 69 (10 * c + i)
def bB (M : MM) (c n : Nat) (N : MM) : Prop := ∀ k, k < n → N 65 k = M 71 (20 * c + k) ∧ N 66 k = M 72 (20 * c + k) ∧ N 67 k = M 73 (20 * c + k)
def bot (k j : Nat) : Prop := (k = 61 ∧ j < 40 ∧ j % 4 < 2) ∨ (k = 64 ∧ j < 10) ∨ (k = 55 ∧ (j = 11 ∨ j = 15)) ∨ (65 ≤ k ∧ k ≤ 67 ∧ j < 20)
def bkd (M : MM) (c : Nat) (N : MM) : Prop := bA M c 10 N ∧ N 55 11 = M 70 c ∧ bB M c 20 N ∧ N 55 15 = c ∧ ∀ k j, ¬ bot k j → N k j = M k j
theorem m_back (M : MM) (hk : 0 ≤ M 55 15 ∧ M 55 15 ≤ 2) (h69 : ∀ c : Nat, (c : Int) < M 55 15 → ∀ j, j < 10 → M 69 (10 * c + j) = 0 ∨ M 69 (10 * c + j) = 1) (h73 : ∀ j, j < 40 → M 73 j = 0 ∨ M 73 j = 1) : oQ 1 159 [vR 55] M (fun r M' => r = some (Sum.inl (f_back M)) ∧ (M 55 15 = 0 → M' = M) ∧ (M 55 15 ≠ 0 → bkd M (M 55 15 - 1).toNat M')) := by
  refine go159 (fun S hS => ?_)
  by_cases h2 : M 55 15 = 0
  · refine wpx_ok hS bk159 (sp := sp159) 60 0 _ _ _ _ ?_
    simp only [LCM, B2, Bool.not_eq_false, Bool.not_eq_true, decide_eq_true_eq, decide_eq_false_iff_not, Int.not_lt, Int.not_le, CST, TN, WX, WA, WB, GS, LOC, BT159, SP159, CLS, FLD, ARR, CD, true_and, and_true, and_self, forall_const, true_implies, false_implies, implies_true, not_true_eq_false, not_false_eq_true, if_true, if_false, rgI, rgL, scr, swl, lkl, cats, cat, is2, List.drop_succ_cons, List.drop_zero, List.drop_nil, List.cons_append, List.nil_append, Option.toList_some, Option.toList_none, List.length_cons, List.length_nil, ne_eq, Classical.not_not, reduceCtorEq, Nat.reduceAdd, Nat.reduceSub, Nat.reduceMul, Nat.reduceLT, Nat.reduceLeDiff, Nat.reduceEqDiff, Nat.reduceBEq, Int.reduceToNat, Int.reduceLE, Int.reduceLT, Int.reduceEq, Int.reduceNeg, Int.reduceAdd, Int.reduceSub, Int.reduceMul, Int.toNat_natCast, Nat.zero_add, Int.add_zero, Nat.add_zero, ite_true, ite_false, Option.some.injEq, Nat.le_refl, or_true, true_or, or_false, false_or, if_pos, reduceIte, Nat.reduceGT]
    refine ⟨by omega, fun h => absurd h2 h, fun h => rt159 ⟨rfl, ?_, fun _ => rfl, fun z => absurd h2 z⟩⟩
    unfold f_back
    rw [if_pos h2]
  obtain ⟨c, hc⟩ : ∃ c : Nat, M 55 15 - 1 = (c : Int) := ⟨(M 55 15 - 1).toNat, by omega⟩
  have hc2 : c < 2 := by omega
  have loopB : ∀ (n i : Nat) (N : MM), i + n = 20 → bA M c 10 N → N 55 11 = M 70 c → bB M c i N → N 55 15 = c → (∀ k j, ¬ bot k j → N k j = M k j) → S 123 [some (vR 55), some (vI i)] [] (sh0, 0, 0) N := by
    intro n
    induction n with
    | zero =>
      intro i N hi hA h70 hB e15 hF
      have hi20 : i = 20 := by omega
      refine wpx_ok hS bk159b (sp := sp159b) 60 123 _ _ _ _ ?_
      simp only [LCM, B2, Bool.not_eq_false, Bool.not_eq_true, decide_eq_true_eq, decide_eq_false_iff_not, Int.not_lt, Int.not_le, CST, TN, WX, WA, WB, GS, LOC, BT159b, SP159b, CLS, FLD, ARR, CD, true_and, and_true, and_self, forall_const, true_implies, false_implies, implies_true, not_true_eq_false, not_false_eq_true, if_true, if_false, rgI, rgL, scr, swl, lkl, cats, cat, is2, List.drop_succ_cons, List.drop_zero, List.drop_nil, List.cons_append, List.nil_append, Option.toList_some, Option.toList_none, List.length_cons, List.length_nil, ne_eq, Classical.not_not, reduceCtorEq, Nat.reduceAdd, Nat.reduceSub, Nat.reduceMul, Nat.reduceLT, Nat.reduceLeDiff, Nat.reduceEqDiff, Nat.reduceBEq, Int.reduceToNat, Int.reduceLE, Int.reduceLT, Int.reduceEq, Int.reduceNeg, Int.reduceAdd, Int.reduceSub, Int.reduceMul, Int.toNat_natCast, Nat.zero_add, Int.add_zero, Nat.add_zero, ite_true, ite_false, Option.some.injEq, Nat.le_refl, or_true, true_or, or_false, false_or, if_pos, reduceIte, Nat.reduceGT, ms_ne, ms_eq, ms_nj]
      rw [e15]
      refine ⟨by omega, fun h => rt159 ⟨rfl, ?_, fun z => absurd z h2, fun _ => ?_⟩, fun h => by omega⟩
      · unfold f_back; rw [if_neg h2, hc]
      · rw [hc, Int.toNat_natCast]
        rw [hi20] at hB
        exact ⟨hA, h70, hB, e15, hF⟩
    | succ n ih =>
      intro i N hi hA h70 hB e15 hF
      have e71 : ∀ j, N 71 j = M 71 j := fun j => hF 71 j (by unfold bot; omega)
      have e72 : ∀ j, N 72 j = M 72 j := fun j => hF 72 j (by unfold bot; omega)
      have e73 : ∀ j, N 73 j = M 73 j := fun j => hF 73 j (by unfold bot; omega)
      refine wpx_ok hS bk159b (sp := sp159b) 60 123 _ _ _ _ ?_
      simp only [LCM, B2, Bool.not_eq_false, Bool.not_eq_true, decide_eq_true_eq, decide_eq_false_iff_not, Int.not_lt, Int.not_le, CST, TN, WX, WA, WB, GS, LOC, BT159b, SP159b, CLS, FLD, ARR, CD, true_and, and_true, and_self, forall_const, true_implies, false_implies, implies_true, not_true_eq_false, not_false_eq_true, if_true, if_false, rgI, rgL, scr, swl, lkl, cats, cat, is2, List.drop_succ_cons, List.drop_zero, List.drop_nil, List.cons_append, List.nil_append, Option.toList_some, Option.toList_none, List.length_cons, List.length_nil, ne_eq, Classical.not_not, reduceCtorEq, Nat.reduceAdd, Nat.reduceSub, Nat.reduceMul, Nat.reduceLT, Nat.reduceLeDiff, Nat.reduceEqDiff, Nat.reduceBEq, Int.reduceToNat, Int.reduceLE, Int.reduceLT, Int.reduceEq, Int.reduceNeg, Int.reduceAdd, Int.reduceSub, Int.reduceMul, Int.toNat_natCast, Nat.zero_add, Int.add_zero, Nat.add_zero, ite_true, ite_false, Option.some.injEq, Nat.le_refl, or_true, true_or, or_false, false_or, if_pos, reduceIte, Nat.reduceGT]
      rw [e15, e71]
      simp only [TK]
      refine ⟨by omega, fun h => by omega, fun h => ⟨by omega, by omega, ?_⟩⟩
      refine wpx_ok hS bk159b (sp := sp159b) 60 149 _ _ _ _ ?_
      simp only [LCM, B2, Bool.not_eq_false, Bool.not_eq_true, decide_eq_true_eq, decide_eq_false_iff_not, Int.not_lt, Int.not_le, CST, TN, WX, WA, WB, GS, LOC, BT159b, SP159b, CLS, FLD, ARR, CD, true_and, and_true, and_self, forall_const, true_implies, false_implies, implies_true, not_true_eq_false, not_false_eq_true, if_true, if_false, rgI, rgL, scr, swl, lkl, cats, cat, is2, List.drop_succ_cons, List.drop_zero, List.drop_nil, List.cons_append, List.nil_append, Option.toList_some, Option.toList_none, List.length_cons, List.length_nil, ne_eq, Classical.not_not, reduceCtorEq, Nat.reduceAdd, Nat.reduceSub, Nat.reduceMul, Nat.reduceLT, Nat.reduceLeDiff, Nat.reduceEqDiff, Nat.reduceBEq, Int.reduceToNat, Int.reduceLE, Int.reduceLT, Int.reduceEq, Int.reduceNeg, Int.reduceAdd, Int.reduceSub, Int.reduceMul, Int.toNat_natCast, Nat.zero_add, Int.add_zero, Nat.add_zero, ite_true, ite_false, Option.some.injEq, Nat.le_refl, or_true, true_or, or_false, false_or, if_pos, reduceIte, Nat.reduceGT, ms_ne, ms_eq, ms_nj]
      rw [e15, e72]
      simp only [TK]
      refine ⟨by omega, by omega, ?_⟩
      refine wpx_ok hS bk159b (sp := sp159b) 60 169 _ _ _ _ ?_
      simp only [LCM, B2, Bool.not_eq_false, Bool.not_eq_true, decide_eq_true_eq, decide_eq_false_iff_not, Int.not_lt, Int.not_le, CST, TN, WX, WA, WB, GS, LOC, BT159b, SP159b, CLS, FLD, ARR, CD, true_and, and_true, and_self, forall_const, true_implies, false_implies, implies_true, not_true_eq_false, not_false_eq_true, if_true, if_false, rgI, rgL, scr, swl, lkl, cats, cat, is2, List.drop_succ_cons, List.drop_zero, List.drop_nil, List.cons_append, List.nil_append, Option.toList_some, Option.toList_none, List.length_cons, List.length_nil, ne_eq, Classical.not_not, reduceCtorEq, Nat.reduceAdd, Nat.reduceSub, Nat.reduceMul, Nat.reduceLT, Nat.reduceLeDiff, Nat.reduceEqDiff, Nat.reduceBEq, Int.reduceToNat, Int.reduceLE, Int.reduceLT, Int.reduceEq, Int.reduceNeg, Int.reduceAdd, Int.reduceSub, Int.reduceMul, Int.toNat_natCast, Nat.zero_add, Int.add_zero, Nat.add_zero, ite_true, ite_false, Option.some.injEq, Nat.le_refl, or_true, true_or, or_false, false_or, if_pos, reduceIte, Nat.reduceGT, ms_ne, ms_eq, ms_nj]
      rw [e15, e73]
      simp only [TK]
      refine ⟨by omega, by omega, h73 (20 * c + i) (by omega), ?_⟩
      refine ih (i + 1) _ (by omega) (fun x hx => ?_) ?_ (fun x hx => ?_) ?_ (fun k j hk => ?_)
      · simp only [ms_ne (show (61 : Nat) ≠ 65 by decide), ms_ne (show (61 : Nat) ≠ 66 by decide), ms_ne (show (61 : Nat) ≠ 67 by decide), ms_ne (show (64 : Nat) ≠ 65 by decide), ms_ne (show (64 : Nat) ≠ 66 by decide), ms_ne (show (64 : Nat) ≠ 67 by decide)]; exact hA x hx
      · rw [ms_ne (by decide), ms_ne (by decide), ms_ne (by decide)]; exact h70
      · by_cases hxi : x = i
        · subst hxi
          rw [ms_ne (show (65 : Nat) ≠ 67 by decide), ms_ne (show (65 : Nat) ≠ 66 by decide), ms_eq, ms_ne (show (66 : Nat) ≠ 67 by decide), ms_eq, ms_eq]
          exact ⟨rfl, rfl, rfl⟩
        · rw [ms_ne (show (65 : Nat) ≠ 67 by decide), ms_ne (show (65 : Nat) ≠ 66 by decide), ms_nj (by omega), ms_ne (show (66 : Nat) ≠ 67 by decide), ms_nj (by omega), ms_ne (show (66 : Nat) ≠ 65 by decide), ms_nj (by omega), ms_ne (show (67 : Nat) ≠ 66 by decide), ms_ne (show (67 : Nat) ≠ 65 by decide)]
          exact hB x (by omega)
      · rw [ms_ne (by decide), ms_ne (by decide), ms_ne (by decide)]; exact e15
      · rw [← hF k j hk]
        unfold bot at hk
        unfold mset
        rw [if_neg (by omega), if_neg (by omega), if_neg (by omega)]
  have loopA : ∀ (n i : Nat) (N : MM), i + n = 10 → bA M c i N → N 55 15 = c → (∀ k j, ¬ bot k j → N k j = M k j) → S 22 [some (vR 55), some (vI i)] [] (sh0, 0, 0) N := by
    intro n
    induction n with
    | zero =>
      intro i N hi hA e15 hF
      have e70 : ∀ j, N 70 j = M 70 j := fun j => hF 70 j (by unfold bot; omega)
      have hi10 : i = 10 := by omega
      refine wpx_ok hS bk159b (sp := sp159b) 60 22 _ _ _ _ ?_
      simp only [LCM, B2, Bool.not_eq_false, Bool.not_eq_true, decide_eq_true_eq, decide_eq_false_iff_not, Int.not_lt, Int.not_le, CST, TN, WX, WA, WB, GS, LOC, BT159b, SP159b, CLS, FLD, ARR, CD, true_and, and_true, and_self, forall_const, true_implies, false_implies, implies_true, not_true_eq_false, not_false_eq_true, if_true, if_false, rgI, rgL, scr, swl, lkl, cats, cat, is2, List.drop_succ_cons, List.drop_zero, List.drop_nil, List.cons_append, List.nil_append, Option.toList_some, Option.toList_none, List.length_cons, List.length_nil, ne_eq, Classical.not_not, reduceCtorEq, Nat.reduceAdd, Nat.reduceSub, Nat.reduceMul, Nat.reduceLT, Nat.reduceLeDiff, Nat.reduceEqDiff, Nat.reduceBEq, Int.reduceToNat, Int.reduceLE, Int.reduceLT, Int.reduceEq, Int.reduceNeg, Int.reduceAdd, Int.reduceSub, Int.reduceMul, Int.toNat_natCast, Nat.zero_add, Int.add_zero, Nat.add_zero, ite_true, ite_false, Option.some.injEq, Nat.le_refl, or_true, true_or, or_false, false_or, if_pos, reduceIte, Nat.reduceGT]
      rw [e15, e70]
      simp only [Int.toNat_natCast]
      refine ⟨by omega, fun h => ⟨by omega, ?_⟩, fun h => by omega⟩
      rw [hi10] at hA
      refine loopB 20 0 _ (by omega) (fun x hx => ?_) ms_eq (fun x hx => by omega) ?_ (fun k j hk => ?_)
      · rw [ms_ne (by decide), ms_ne (by decide), ms_ne (by decide)]; exact hA x hx
      · rw [ms_nj (by decide)]; exact e15
      · rw [← hF k j hk]
        unfold bot at hk
        unfold mset
        rw [if_neg (by omega)]
    | succ n ih =>
      intro i N hi hA e15 hF
      have e68 : ∀ j, N 68 j = M 68 j := fun j => hF 68 j (by unfold bot; omega)
      have e69 : ∀ j, N 69 j = M 69 j := fun j => hF 69 j (by unfold bot; omega)
      refine wpx_ok hS bk159b (sp := sp159b) 60 22 _ _ _ _ ?_
      simp only [LCM, B2, Bool.not_eq_false, Bool.not_eq_true, decide_eq_true_eq, decide_eq_false_iff_not, Int.not_lt, Int.not_le, CST, TN, WX, WA, WB, GS, LOC, BT159b, SP159b, CLS, FLD, ARR, CD, true_and, and_true, and_self, forall_const, true_implies, false_implies, implies_true, not_true_eq_false, not_false_eq_true, if_true, if_false, rgI, rgL, scr, swl, lkl, cats, cat, is2, List.drop_succ_cons, List.drop_zero, List.drop_nil, List.cons_append, List.nil_append, Option.toList_some, Option.toList_none, List.length_cons, List.length_nil, ne_eq, Classical.not_not, reduceCtorEq, Nat.reduceAdd, Nat.reduceSub, Nat.reduceMul, Nat.reduceLT, Nat.reduceLeDiff, Nat.reduceEqDiff, Nat.reduceBEq, Int.reduceToNat, Int.reduceLE, Int.reduceLT, Int.reduceEq, Int.reduceNeg, Int.reduceAdd, Int.reduceSub, Int.reduceMul, Int.toNat_natCast, Nat.zero_add, Int.add_zero, Nat.add_zero, ite_true, ite_false, Option.some.injEq, Nat.le_refl, or_true, true_or, or_false, false_or, if_pos, reduceIte, Nat.reduceGT]
      rw [e15, e68]
      simp only [TK]
      refine ⟨by omega, fun h => by omega, fun h => ⟨by omega, by omega, ?_⟩⟩
      refine wpx_ok hS bk159b (sp := sp159b) 60 54 _ _ _ _ ?_
      simp only [LCM, B2, Bool.not_eq_false, Bool.not_eq_true, decide_eq_true_eq, decide_eq_false_iff_not, Int.not_lt, Int.not_le, CST, TN, WX, WA, WB, GS, LOC, BT159b, SP159b, CLS, FLD, ARR, CD, true_and, and_true, and_self, forall_const, true_implies, false_implies, implies_true, not_true_eq_false, not_false_eq_true, if_true, if_false, rgI, rgL, scr, swl, lkl, cats, cat, is2, List.drop_succ_cons, List.drop_zero, List.drop_nil, List.cons_append, List.nil_append, Option.toList_some, Option.toList_none, List.length_cons, List.length_nil, ne_eq, Classical.not_not, reduceCtorEq, Nat.reduceAdd, Nat.reduceSub, Nat.reduceMul, Nat.reduceLT, Nat.reduceLeDiff, Nat.reduceEqDiff, Nat.reduceBEq, Int.reduceToNat, Int.reduceLE, Int.reduceLT, Int.reduceEq, Int.reduceNeg, Int.reduceAdd, Int.reduceSub, Int.reduceMul, Int.toNat_natCast, Nat.zero_add, Int.add_zero, Nat.add_zero, ite_true, ite_false, Option.some.injEq, Nat.le_refl, or_true, true_or, or_false, false_or, if_pos, reduceIte, Nat.reduceGT, ms_ne, ms_eq, ms_nj]
      rw [e15, e68]
      simp only [TK]
      refine ⟨by omega, by omega, ?_⟩
      refine wpx_ok hS bk159b (sp := sp159b) 60 82 _ _ _ _ ?_
      simp only [LCM, B2, Bool.not_eq_false, Bool.not_eq_true, decide_eq_true_eq, decide_eq_false_iff_not, Int.not_lt, Int.not_le, CST, TN, WX, WA, WB, GS, LOC, BT159b, SP159b, CLS, FLD, ARR, CD, true_and, and_true, and_self, forall_const, true_implies, false_implies, implies_true, not_true_eq_false, not_false_eq_true, if_true, if_false, rgI, rgL, scr, swl, lkl, cats, cat, is2, List.drop_succ_cons, List.drop_zero, List.drop_nil, List.cons_append, List.nil_append, Option.toList_some, Option.toList_none, List.length_cons, List.length_nil, ne_eq, Classical.not_not, reduceCtorEq, Nat.reduceAdd, Nat.reduceSub, Nat.reduceMul, Nat.reduceLT, Nat.reduceLeDiff, Nat.reduceEqDiff, Nat.reduceBEq, Int.reduceToNat, Int.reduceLE, Int.reduceLT, Int.reduceEq, Int.reduceNeg, Int.reduceAdd, Int.reduceSub, Int.reduceMul, Int.toNat_natCast, Nat.zero_add, Int.add_zero, Nat.add_zero, ite_true, ite_false, Option.some.injEq, Nat.le_refl, or_true, true_or, or_false, false_or, if_pos, reduceIte, Nat.reduceGT, ms_ne, ms_eq, ms_nj]
      rw [e15, e69]
      simp only [TK]
      refine ⟨by omega, by omega, h69 c (by omega) i (by omega), ?_⟩
      refine ih (i + 1) _ (by omega) (fun x hx => ?_) ?_ (fun k j hk => ?_)
      · by_cases hxi : x = i
        · subst hxi
          rw [ms_ne (show (61 : Nat) ≠ 64 by decide), ms_nj (by omega), ms_eq, ms_ne (show (61 : Nat) ≠ 64 by decide), ms_eq, ms_eq]
          exact ⟨rfl, rfl, rfl⟩
        · rw [ms_ne (show (61 : Nat) ≠ 64 by decide), ms_nj (by omega), ms_nj (by omega), ms_ne (show (61 : Nat) ≠ 64 by decide), ms_nj (by omega), ms_nj (by omega), ms_nj (by omega), ms_ne (show (64 : Nat) ≠ 61 by decide), ms_ne (show (64 : Nat) ≠ 61 by decide)]
          exact hA x (by omega)
      · rw [ms_ne (by decide), ms_ne (by decide), ms_ne (by decide)]; exact e15
      · rw [← hF k j hk]
        unfold bot at hk
        unfold mset
        rw [if_neg (by omega), if_neg (by omega), if_neg (by omega)]
  have := loopA 10 0 (mset M 55 15 (M 55 15 - 1)) (by omega) (fun x hx => by omega) (by rw [ms_eq]; exact hc) (fun k j hk => by
    unfold bot at hk
    unfold mset
    rw [if_neg (by omega)])
  refine wpx_ok hS bk159b (sp := sp159b) 60 0 _ _ _ _ ?_
  simp only [LCM, B2, Bool.not_eq_false, Bool.not_eq_true, decide_eq_true_eq, decide_eq_false_iff_not, Int.not_lt, Int.not_le, CST, TN, WX, WA, WB, GS, LOC, BT159b, SP159b, CLS, FLD, ARR, CD, true_and, and_true, and_self, forall_const, true_implies, false_implies, implies_true, not_true_eq_false, not_false_eq_true, if_true, if_false, rgI, rgL, scr, swl, lkl, cats, cat, is2, List.drop_succ_cons, List.drop_zero, List.drop_nil, List.cons_append, List.nil_append, Option.toList_some, Option.toList_none, List.length_cons, List.length_nil, ne_eq, Classical.not_not, reduceCtorEq, Nat.reduceAdd, Nat.reduceSub, Nat.reduceMul, Nat.reduceLT, Nat.reduceLeDiff, Nat.reduceEqDiff, Nat.reduceBEq, Int.reduceToNat, Int.reduceLE, Int.reduceLT, Int.reduceEq, Int.reduceNeg, Int.reduceAdd, Int.reduceSub, Int.reduceMul, Int.toNat_natCast, Nat.zero_add, Int.add_zero, Nat.add_zero, ite_true, ite_false, Option.some.injEq, Nat.le_refl, or_true, true_or, or_false, false_or, if_pos, reduceIte, Nat.reduceGT]
  exact ⟨by omega, fun _ => this, fun h => absurd h h2⟩
