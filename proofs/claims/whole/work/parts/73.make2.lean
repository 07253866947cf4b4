section
variable {B n s o k v i : Nat} {U W : Nat → Option xm_E} {sc : xm_Sc} {d : Nat} {Q : Option Value → xm_M → Prop} {f : Nat → Option Nat}
/-- Stock: before its loops -/
theorem k3_a (h0 : U 3 = some (.inr (4, [.ref (B + 4), .ref (B + 5), .int 0]))) (h1 : U 4 = some (.inl (3, 8, .inr (.inr (.inr (.inr (fun _ => none))))))) (h2 : U 5 = some (.inl (4, 64, .inr (.inr (.inr (.inr (fun _ => none))))))) : rn sc (d + 3) 3 0 [some (.ref (B + 3)), none] [] (xm_new (pm B 3 s U) 3 (.inr (4, [.null, .null, .int 0]))) Q = rn sc (d + 3) 3 29 [some (.ref (B + 3)), some (.int 0)] [] (pm B 6 (s + 75) U) Q := by
  have a0 : ∀ (s : Nat) (X : Option xm_E), xm_new (pm B 4 s (va_up U 3 X)) 8 (.inl (3, 8, .inr (.inr (.inr (.inr (fun _ => none)))))) = pm B 5 (s + 8) (va_up U 3 X) := fun s X => pm_newF (by rw [up_n (by decide)]; exact h1)
  have a1 : ∀ (s : Nat) (X : Option xm_E), xm_new (pm B 5 s (va_up U 3 X)) 64 (.inl (4, 64, .inr (.inr (.inr (.inr (fun _ => none)))))) = pm B 6 (s + 64) (va_up U 3 X) := fun s X => pm_newF (by rw [up_n (by decide)]; exact h2)
  rw [pm_new]
  simp only [s3_0, s3_1, s3_4, s3_5, s3_7, s3_10, s3_13, s3_14, s3_16, s3_19, s3_22, s3_23, s3_24, s3_27, s3_28, s3_30, s3_32, s3_35, s3_36, s3_39, s3_40, s3_43, s3_43I, s3_44, s3_47, s3_48, s3_51, s3_54, s3_55, s3_56, s3_57, s3_59, s3_62, s3_63, s3_66, s3_67, s3_70, s3_70I, s3_71, s3_74, s3_75, s3_78, s3_81,  rn_os, rn_on, Option.toList_some, Option.toList_none, List.cons_append, List.nil_append, wt0, wti, wtr, wtn, nb0, nb1, va_rf, eq_self, a2_s, a2_n, p1_s, p1_n, f2_s, f2_n, false_and, and_false, true_and, and_true, not_false_eq_true, ne_eq, Nat.reduceEqDiff, Nat.reduceAdd, Nat.reduceLeDiff, Nat.reduceSub, Nat.reduceMul, Bool.false_eq_true, a0, a1, pm_1, pk_4_0 (show 3 < 5 by decide), pk_4_1 (show 3 < 6 by decide), pk_4_2 (show 3 < 6 by decide)]
  rw [up_id h0]
/-- a turn of its first loop -/
theorem k3_b (hv : v < 8) (h0 : W 3 = some (.inr (4, [.ref (B + 4), .ref (B + 5), .int 0]))) (h1 : W 4 = some (.inl (3, 8, me_q f))) (h2 : W (6 + 2 * v) = some (.inr (5, [.ref (B + (6 + 2 * v + 1)), .int 0]))) (h3 : W (6 + 2 * v + 1) = some (.inl (0, 64, .inl (fun _ => 0)))) : rn sc (d + 3) 3 29 [some (.ref (B + 3)), some (.int (nI v))] [] (pm B (6 + 2 * v) s W) Q = rn sc (d + 3) 3 29 [some (.ref (B + 3)), some (.int (nI (v + 1)))] [] (pm B (6 + 2 * v + 2) (s + 66) (va_up W 4 (some (.inl (3, 8, me_q (va_up f v (some (B + (6 + 2 * v))))))))) Q := by
  have l1 : ¬ (8 : Int32) ≤ nI v := nI_ge (b := 8) hv (by decide)
  have g0 : hp_f (pm B (6 + 2 * v) s W) (B + 3) 4 0 = some (.ref (B + 4)) := pf_g h0 (by omega)
  have t0 : ∀ Q : Option Value → xm_M → Prop, rn sc (d + 2) 2 0 [some (.ref (B + (6 + 2 * v)))] [] (xm_new (pm B (6 + 2 * v) s W) 2 (.inr (5, [.null, .int 0]))) Q = Q none (pm B (6 + 2 * v + 2) (s + 66) W) := fun Q => k2 h2 h3
  have q0 : hp_pq (pm B (6 + 2 * v + 2) (s + 66) W) (B + 4) (nI v) (B + (6 + 2 * v)) = some (pm B (6 + 2 * v + 2) (s + 66) (va_up W 4 (some (.inl (3, 8, me_q (va_up f v (some (B + (6 + 2 * v))))))))) := pf_q h1 (by omega) h2 (by omega) hv (by decide) (by decide)
  rw [s3_29]
  simp only [s3_0, s3_1, s3_4, s3_5, s3_7, s3_10, s3_13, s3_14, s3_16, s3_19, s3_22, s3_23, s3_24, s3_27, s3_28, s3_30, s3_32, s3_35, s3_36, s3_39, s3_40, s3_43, s3_43I, s3_44, s3_47, s3_48, s3_51, s3_54, s3_55, s3_56, s3_57, s3_59, s3_62, s3_63, s3_66, s3_67, s3_70, s3_70I, s3_71, s3_74, s3_75, s3_78, s3_81,  rn_os, rn_on, Option.toList_some, Option.toList_none, List.cons_append, List.nil_append, wt0, wti, wtr, wtn, nb0, nb1, va_rf, eq_self, a2_s, a2_n, p1_s, p1_n, f2_s, f2_n, false_and, and_false, true_and, and_true, not_false_eq_true, ne_eq, Nat.reduceEqDiff, Nat.reduceAdd, Nat.reduceLeDiff, Nat.reduceSub, Nat.reduceMul, Bool.false_eq_true, l1, if_false, g0, pm_1, t0, q0, nI_1]
/-- a turn of its second loop -/
theorem k3_c (hi : i < 64) (h0 : W 3 = some (.inr (4, [.ref (B + 4), .ref (B + 5), .int 0]))) (h1 : W 5 = some (.inl (4, 64, me_q f))) (h2 : W (22 + 3 * i) = some (.inr (0, [.ref (B + (22 + 3 * i + 1)), .int 0, .int 0, .int 0]))) (h3 : W (22 + 3 * i + 1) = some (.inr (5, [.ref (B + (22 + 3 * i + 1 + 1)), .int 0]))) (h4 : W (22 + 3 * i + 1 + 1) = some (.inl (0, 64, .inl (fun _ => 0)))) : rn sc (d + 3) 3 56 [some (.ref (B + 3)), some (.int (nI i))] [] (pm B (22 + 3 * i) s W) Q = rn sc (d + 3) 3 56 [some (.ref (B + 3)), some (.int (nI (i + 1)))] [] (pm B (22 + 3 * i + 3) (s + 70) (va_up W 5 (some (.inl (4, 64, me_q (va_up f i (some (B + (22 + 3 * i))))))))) Q := by
  have l1 : ¬ (64 : Int32) ≤ nI i := nI_ge (b := 64) hi (by decide)
  have g0 : hp_f (pm B (22 + 3 * i) s W) (B + 3) 4 1 = some (.ref (B + 5)) := pf_g h0 (by omega)
  have t0 : ∀ Q : Option Value → xm_M → Prop, rn sc (d + 2) 4 0 [some (.ref (B + (22 + 3 * i)))] [] (xm_new (pm B (22 + 3 * i) s W) 4 (.inr (0, [.null, .int 0, .int 0, .int 0]))) Q = Q none (pm B (22 + 3 * i + 3) (s + 70) W) := fun Q => k4 h2 h3 h4
  have q0 : hp_pq (pm B (22 + 3 * i + 3) (s + 70) W) (B + 5) (nI i) (B + (22 + 3 * i)) = some (pm B (22 + 3 * i + 3) (s + 70) (va_up W 5 (some (.inl (4, 64, me_q (va_up f i (some (B + (22 + 3 * i))))))))) := pf_q h1 (by omega) h2 (by omega) hi (by decide) (by decide)
  rw [s3_56]
  simp only [s3_0, s3_1, s3_4, s3_5, s3_7, s3_10, s3_13, s3_14, s3_16, s3_19, s3_22, s3_23, s3_24, s3_27, s3_28, s3_29, s3_30, s3_32, s3_35, s3_36, s3_39, s3_40, s3_43, s3_43I, s3_44, s3_47, s3_48, s3_51, s3_54, s3_55, s3_57, s3_59, s3_62, s3_63, s3_66, s3_67, s3_70, s3_70I, s3_71, s3_74, s3_75, s3_78, s3_81,  rn_os, rn_on, Option.toList_some, Option.toList_none, List.cons_append, List.nil_append, wt0, wti, wtr, wtn, nb0, nb1, va_rf, eq_self, a2_s, a2_n, p1_s, p1_n, f2_s, f2_n, false_and, and_false, true_and, and_true, not_false_eq_true, ne_eq, Nat.reduceEqDiff, Nat.reduceAdd, Nat.reduceLeDiff, Nat.reduceSub, Nat.reduceMul, Bool.false_eq_true, l1, if_false, g0, pm_1, t0, q0, nI_1]
def ptV (B v : Nat) : Nat → Option Nat := fun j => if j < v then some (B + (6 + 2 * j)) else none
def ptN (B i : Nat) : Nat → Option Nat := fun j => if j < i then some (B + (22 + 3 * j)) else none
theorem ptV_s : va_up (ptV B v) v (some (B + (6 + 2 * v))) = ptV B (v + 1) := by
  funext j
  by_cases h : j = v
  · subst h; rw [up_s, ptV, if_pos (by omega)]
  · rw [up_n h, ptV, ptV]
    by_cases h1 : j < v
    · rw [if_pos h1, if_pos (by omega)]
    · rw [if_neg h1, if_neg (by omega)]
theorem ptN_s : va_up (ptN B v) v (some (B + (22 + 3 * v))) = ptN B (v + 1) := by
  funext j
  by_cases h : j = v
  · subst h; rw [up_s, ptN, if_pos (by omega)]
  · rw [up_n h, ptN, ptN]
    by_cases h1 : j < v
    · rw [if_pos h1, if_pos (by omega)]
    · rw [if_neg h1, if_neg (by omega)]
/-- the first loop -/
theorem k3_B (h0 : W 3 = some (.inr (4, [.ref (B + 4), .ref (B + 5), .int 0]))) (h2 : ∀ v, v < 8 → W (6 + 2 * v) = some (.inr (5, [.ref (B + (6 + 2 * v + 1)), .int 0])) ∧ W (6 + 2 * v + 1) = some (.inl (0, 64, .inl (fun _ => 0)))) (m : Nat) : ∀ v, v + m = 8 → ∀ s, rn sc (d + 3) 3 29 [some (.ref (B + 3)), some (.int (nI v))] [] (pm B (6 + 2 * v) s (va_up W 4 (some (.inl (3, 8, me_q (ptV B v)))))) Q = rn sc (d + 3) 3 29 [some (.ref (B + 3)), some (.int (nI 8))] [] (pm B (6 + 2 * 8) (s + 66 * m) (va_up W 4 (some (.inl (3, 8, me_q (ptV B 8)))))) Q := by
  induction m with
  | zero =>
    intro v hv s
    have : v = 8 := by omega
    subst this
    rfl
  | succ m ih =>
    intro v hv s
    rw [k3_b (show v < 8 by omega) (by rw [up_n (by decide)]; exact h0) up_s (by rw [up_n (by omega)]; exact (h2 v (by omega)).1) (by rw [up_n (by omega)]; exact (h2 v (by omega)).2), up_up, ptV_s, show 6 + 2 * v + 2 = 6 + 2 * (v + 1) by omega, ih (v + 1) (by omega) (s + 66), show s + 66 + 66 * m = s + 66 * (m + 1) by omega]
/-- the second loop -/
theorem k3_C (h0 : W 3 = some (.inr (4, [.ref (B + 4), .ref (B + 5), .int 0]))) (h2 : ∀ i, i < 64 → W (22 + 3 * i) = some (.inr (0, [.ref (B + (22 + 3 * i + 1)), .int 0, .int 0, .int 0])) ∧ W (22 + 3 * i + 1) = some (.inr (5, [.ref (B + (22 + 3 * i + 1 + 1)), .int 0])) ∧ W (22 + 3 * i + 1 + 1) = some (.inl (0, 64, .inl (fun _ => 0)))) (m : Nat) : ∀ i, i + m = 64 → ∀ s, rn sc (d + 3) 3 56 [some (.ref (B + 3)), some (.int (nI i))] [] (pm B (22 + 3 * i) s (va_up W 5 (some (.inl (4, 64, me_q (ptN B i)))))) Q = rn sc (d + 3) 3 56 [some (.ref (B + 3)), some (.int (nI 64))] [] (pm B (22 + 3 * 64) (s + 70 * m) (va_up W 5 (some (.inl (4, 64, me_q (ptN B 64)))))) Q := by
  induction m with
  | zero =>
    intro i hi s
    have : i = 64 := by omega
    subst this
    rfl
  | succ m ih =>
    intro i hi s
    rw [k3_c (show i < 64 by omega) (by rw [up_n (by decide)]; exact h0) up_s (by rw [up_n (by omega)]; exact (h2 i (by omega)).1) (by rw [up_n (by omega)]; exact (h2 i (by omega)).2.1) (by rw [up_n (by omega)]; exact (h2 i (by omega)).2.2), up_up, ptN_s, show 22 + 3 * i + 3 = 22 + 3 * (i + 1) by omega, ih (i + 1) (by omega) (s + 70), show s + 70 + 70 * m = s + 70 * (m + 1) by omega]
/-- Stock -/
theorem k3 (h0 : U 3 = some (.inr (4, [.ref (B + 4), .ref (B + 5), .int 0]))) (h1 : U 4 = some (.inl (3, 8, me_q (me_vs B)))) (h2 : U 5 = some (.inl (4, 64, me_q (me_ns B)))) (h3 : ∀ v, v < 8 → U (6 + 2 * v) = some (.inr (5, [.ref (B + (6 + 2 * v + 1)), .int 0])) ∧ U (6 + 2 * v + 1) = some (.inl (0, 64, .inl (fun _ => 0)))) (h4 : ∀ i, i < 64 → U (22 + 3 * i) = some (.inr (0, [.ref (B + (22 + 3 * i + 1)), .int 0, .int 0, .int 0])) ∧ U (22 + 3 * i + 1) = some (.inr (5, [.ref (B + (22 + 3 * i + 1 + 1)), .int 0])) ∧ U (22 + 3 * i + 1 + 1) = some (.inl (0, 64, .inl (fun _ => 0)))) : rn sc (d + 3) 3 0 [some (.ref (B + 3)), none] [] (xm_new (pm B 3 s U) 3 (.inr (4, [.null, .null, .int 0]))) Q = Q none (pm B 214 (s + 5083) U) := by
  have e4 : ptV B 0 = fun _ => none := by
    funext j
    exact if_neg (Nat.not_lt_zero j)
  have e5 : ptN B 0 = fun _ => none := by
    funext j
    exact if_neg (Nat.not_lt_zero j)
  have z : xm_new (pm B 3 s U) 3 (.inr (4, [.null, .null, .int 0])) = xm_new (pm B 3 s (va_up (va_up U 5 (some (.inl (4, 64, me_q (ptN B 0))))) 4 (some (.inl (3, 8, me_q (ptV B 0)))))) 3 (.inr (4, [.null, .null, .int 0])) := by
    rw [pm_new, pm_new]
    unfold pm
    refine Prod.ext rfl (Prod.ext rfl (funext fun a => ?_))
    show (if a < B then none else if a - B < 3 + 1 then va_up U 3 _ (a - B) else none) = if a < B then none else if a - B < 3 + 1 then va_up (va_up (va_up U 5 _) 4 _) 3 _ (a - B) else none
    by_cases q1 : a < B
    · rw [if_pos q1, if_pos q1]
    · rw [if_neg q1, if_neg q1]
      by_cases q2 : a - B < 3 + 1
      · rw [if_pos q2, if_pos q2]
        by_cases q3 : a - B = 3
        · rw [q3, up_s, up_s]
        · rw [up_n q3, up_n q3, up_n (by omega), up_n (by omega)]
      · rw [if_neg q2, if_neg q2]
  have m1 : ∀ Q : Option Value → xm_M → Prop, rn sc (d + 3) 3 29 [some (.ref (B + 3)), some (.int (nI 8))] [] (pm B (6 + 2 * 8) (s + 75 + 66 * 8) (va_up U 5 (some (.inl (4, 64, me_q (ptN B 0)))))) Q = rn sc (d + 3) 3 56 [some (.ref (B + 3)), some (.int (nI 0))] [] (pm B (22 + 3 * 0) (s + 75 + 66 * 8) (va_up U 5 (some (.inl (4, 64, me_q (ptN B 0)))))) Q := by
    intro Q
    have l1 : (8 : Int32) ≤ nI 8 := by decide
    rw [s3_29, nI_0]
    simp only [s3_0, s3_1, s3_4, s3_5, s3_7, s3_10, s3_13, s3_14, s3_16, s3_19, s3_22, s3_23, s3_24, s3_27, s3_28, s3_30, s3_32, s3_35, s3_36, s3_39, s3_40, s3_43, s3_43I, s3_44, s3_47, s3_48, s3_51, s3_54, s3_55, s3_57, s3_59, s3_62, s3_63, s3_66, s3_67, s3_70, s3_70I, s3_71, s3_74, s3_75, s3_78, s3_81,  rn_os, rn_on, Option.toList_some, Option.toList_none, List.cons_append, List.nil_append, wt0, wti, wtr, wtn, nb0, nb1, va_rf, eq_self, a2_s, a2_n, p1_s, p1_n, f2_s, f2_n, false_and, and_false, true_and, and_true, not_false_eq_true, ne_eq, Nat.reduceEqDiff, Nat.reduceAdd, Nat.reduceLeDiff, Nat.reduceSub, Nat.reduceMul, Bool.false_eq_true, l1, if_true]
  have m2 : ∀ Q : Option Value → xm_M → Prop, rn sc (d + 3) 3 56 [some (.ref (B + 3)), some (.int (nI 64))] [] (pm B (22 + 3 * 64) (s + 75 + 66 * 8 + 70 * 64) U) Q = Q none (pm B 214 (s + 5083) U) := by
    intro Q
    have l1 : (64 : Int32) ≤ nI 64 := by decide
    rw [s3_56, show s + 75 + 66 * 8 + 70 * 64 = s + 5083 by omega]
    simp only [s3_0, s3_1, s3_4, s3_5, s3_7, s3_10, s3_13, s3_14, s3_16, s3_19, s3_22, s3_23, s3_24, s3_27, s3_28, s3_29, s3_30, s3_32, s3_35, s3_36, s3_39, s3_40, s3_43, s3_43I, s3_44, s3_47, s3_48, s3_51, s3_54, s3_55, s3_57, s3_59, s3_62, s3_63, s3_66, s3_67, s3_70, s3_70I, s3_71, s3_74, s3_75, s3_78, s3_81,  rn_os, rn_on, Option.toList_some, Option.toList_none, List.cons_append, List.nil_append, wt0, wti, wtr, wtn, nb0, nb1, va_rf, eq_self, a2_s, a2_n, p1_s, p1_n, f2_s, f2_n, false_and, and_false, true_and, and_true, not_false_eq_true, ne_eq, Nat.reduceEqDiff, Nat.reduceAdd, Nat.reduceLeDiff, Nat.reduceSub, Nat.reduceMul, Bool.false_eq_true, l1, if_true]
  have w1 : va_up (va_up U 5 (some (.inl (4, 64, me_q (ptN B 0))))) 4 (some (.inl (3, 8, me_q (ptV B 8)))) = va_up U 5 (some (.inl (4, 64, me_q (ptN B 0)))) := up_id (by rw [up_n (by decide)]; exact h1)
  have w2 : va_up U 5 (some (.inl (4, 64, me_q (ptN B 64)))) = U := up_id h2
  have b1 := k3_B (B := B) (sc := sc) (d := d) (Q := Q) (W := va_up U 5 (some (.inl (4, 64, me_q (ptN B 0))))) (by rw [up_n (by decide)]; exact h0) (fun v hv => ⟨by rw [up_n (by omega)]; exact (h3 v hv).1, by rw [up_n (by omega)]; exact (h3 v hv).2⟩) 8 0 (by omega) (s + 75)
  have b2 := k3_C (B := B) (sc := sc) (d := d) (Q := Q) (W := U) h0 h4 64 0 (by omega) (s + 75 + 66 * 8)
  rw [w1] at b1
  rw [w2] at b2
  rw [z]
  refine (k3_a (by rw [up_n (by decide), up_n (by decide)]; exact h0) (by rw [up_s, e4]; rfl) (by rw [up_n (by decide), up_s, e5]; rfl)).trans (b1.trans ((m1 Q).trans (b2.trans (m2 Q))))
end
