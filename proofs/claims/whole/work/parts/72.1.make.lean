section
variable {B n s o k : Nat} {U : Nat → Option xm_E} {sc : xm_Sc} {d : Nat} {Q : Option Value → xm_M → Prop}
/-- a Text -/
theorem k2 (h0 : U n = some (.inr (5, [.ref (B + (n + 1)), .int 0]))) (h1 : U (n + 1) = some (.inl (0, 64, .inl (fun _ => 0)))) : rn sc (d + 1) 2 0 [some (.ref (B + n))] [] (xm_new (pm B n s U) 2 (.inr (5, [.null, .int 0]))) Q = Q none (pm B (n + 2) (s + 66) U) := by
  have a1 : ∀ (s : Nat) (X : Option xm_E), xm_new (pm B (n + 1) s (va_up U n X)) 64 (.inl (0, 64, .inl (fun _ => 0))) = pm B (n + 1 + 1) (s + 64) (va_up U n X) := fun s X => pm_newF (by rw [up_n (by omega)]; exact h1)
  have l1 : n < n + 1 + 1 := by omega
  rw [pm_new]
  simp only [s2_0, s2_1, s2_4, s2_5, s2_7, s2_9, s2_12, s2_13, s2_14, s2_17, rn_os, rn_on, Option.toList_some, Option.toList_none, List.cons_append, List.nil_append, wt0, wti, wtr, wtn, nb0, nb1, va_rf, eq_self, a2_s, a2_n, p1_s, p1_n, f2_s, f2_n, false_and, and_false, true_and, and_true, not_false_eq_true, ne_eq, Nat.reduceEqDiff, Nat.reduceAdd, Nat.reduceLeDiff, Nat.reduceSub, Nat.reduceMul, Bool.false_eq_true, a1, pm_1, pk_5_0 l1, pk_5_1 l1]
  rw [up_id h0]
/-- a Node -/
theorem k4 (h0 : U n = some (.inr (0, [.ref (B + (n + 1)), .int 0, .int 0, .int 0]))) (h1 : U (n + 1) = some (.inr (5, [.ref (B + (n + 1 + 1)), .int 0]))) (h2 : U (n + 1 + 1) = some (.inl (0, 64, .inl (fun _ => 0)))) : rn sc (d + 2) 4 0 [some (.ref (B + n))] [] (xm_new (pm B n s U) 4 (.inr (0, [.null, .int 0, .int 0, .int 0]))) Q = Q none (pm B (n + 3) (s + 70) U) := by
  have a1 : ∀ (s : Nat) (X : Option xm_E) (Q : Option Value → xm_M → Prop), rn sc (d + 1) 2 0 [some (.ref (B + (n + 1)))] [] (xm_new (pm B (n + 1) s (va_up U n X)) 2 (.inr (5, [.null, .int 0]))) Q = Q none (pm B (n + 1 + 2) (s + 66) (va_up U n X)) := fun s X Q => k2 (by rw [up_n (by omega)]; exact h1) (by rw [up_n (by omega)]; exact h2)
  have l1 : n < n + 1 + 2 := by omega
  rw [pm_new]
  simp only [s4_0, s4_1, s4_4, s4_5, s4_8, s4_8I, s4_9, s4_12, s4_15, s4_16, s4_17, s4_20, s4_21, s4_22, s4_25, s4_26, s4_27, s4_30, rn_os, rn_on, Option.toList_some, Option.toList_none, List.cons_append, List.nil_append, wt0, wti, wtr, wtn, nb0, nb1, va_rf, eq_self, a2_s, a2_n, p1_s, p1_n, f2_s, f2_n, false_and, and_false, true_and, and_true, not_false_eq_true, ne_eq, Nat.reduceEqDiff, Nat.reduceAdd, Nat.reduceLeDiff, Nat.reduceSub, Nat.reduceMul, Bool.false_eq_true, a1, pm_1, pk_0_0 l1, pk_0_1 l1, pk_0_2 l1, pk_0_3 l1]
  rw [up_id h0]
/-- a Pile -/
theorem k7 (h0 : U n = some (.inr (1, [.ref (B + (n + 1)), .int 0]))) (h1 : U (n + 1) = some (.inl (0, 3000, .inl (fun _ => 0)))) : rn sc (d + 1) 7 0 [some (.ref (B + n))] [] (xm_new (pm B n s U) 2 (.inr (1, [.null, .int 0]))) Q = Q none (pm B (n + 2) (s + 3002) U) := by
  have a1 : ∀ (s : Nat) (X : Option xm_E), xm_new (pm B (n + 1) s (va_up U n X)) 3000 (.inl (0, 3000, .inl (fun _ => 0))) = pm B (n + 1 + 1) (s + 3000) (va_up U n X) := fun s X => pm_newF (by rw [up_n (by omega)]; exact h1)
  have l1 : n < n + 1 + 1 := by omega
  rw [pm_new]
  simp only [s7_0, s7_1, s7_4, s7_5, s7_8, s7_10, s7_13, s7_14, s7_15, s7_18, rn_os, rn_on, Option.toList_some, Option.toList_none, List.cons_append, List.nil_append, wt0, wti, wtr, wtn, nb0, nb1, va_rf, eq_self, a2_s, a2_n, p1_s, p1_n, f2_s, f2_n, false_and, and_false, true_and, and_true, not_false_eq_true, ne_eq, Nat.reduceEqDiff, Nat.reduceAdd, Nat.reduceLeDiff, Nat.reduceSub, Nat.reduceMul, Bool.false_eq_true, a1, pm_1, pk_1_0 l1, pk_1_1 l1]
  exact (congrArg (fun W => Q none (pm B (n + 2) (s + 2 + 3000) W)) (up_id h0)).trans (congrArg (fun u => Q none (pm B (n + 2) u U)) (show s + 2 + 3000 = s + 3002 by omega))
end
