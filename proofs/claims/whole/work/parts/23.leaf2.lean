theorem tb40 {x : Nat} (h : x < 256) : tb x = 40 ↔ x = 40 := by
  rw [show (40 : Int32) = tb 40 by decide]
  exact tb_inj h (by decide)
theorem tb41 {x : Nat} (h : x < 256) : tb x = 41 ↔ x = 41 := by
  rw [show (41 : Int32) = tb 41 by decide]
  exact tb_inj h (by decide)
theorem tb_nar (x : Nat) : vp_nar .byte (tb x) = tb x := by
  rw [vp_nar_byte]
  exact congrArg _ (show (tb x).toInt8 = (nI x).toInt8 by simp [tb])
theorem cpy_s {α : Type} (f g : Nat → α) (sp dp n : Nat) : (fun k => if k = dp + n then f (sp + n) else va_cpy f g sp dp n k) = va_cpy f g sp dp (n + 1) := by
  funext k
  unfold va_cpy
  by_cases h : k = dp + n
  · rw [if_pos h, if_pos (by omega)]
    congr 1
    omega
  · rw [if_neg h]
    by_cases h2 : dp ≤ k ∧ k < dp + n
    · rw [if_pos h2, if_pos (by omega)]
    · rw [if_neg h2, if_neg (by omega)]
theorem cpy_u (f g : Nat → Int32) (sp dp n : Nat) : upd (va_cpy f g sp dp n) (dp + n) (f (sp + n)) = va_cpy f g sp dp (n + 1) := cpy_s f g sp dp n
theorem cpy_0 {α : Type} (f g : Nat → α) (sp dp : Nat) : va_cpy f g sp dp 0 = g := by
  funext k
  unfold va_cpy
  rw [if_neg (by omega)]
theorem up0 {A : Nat → Nat → Int32} {o : Nat} : a2 A o (A o) = A := by
  funext o' j
  unfold a2
  split
  · next h => rw [h]
  · rfl
theorem a2_a2 {A : Nat → Nat → Int32} {o : Nat} {f g : Nat → Int32} : a2 (a2 A o f) o g = a2 A o g := by
  funext o' j
  unfold a2
  split <;> rfl
section
variable {sc : xm_Sc} {d B S : Nat} {F A : Nat → Nat → Int32} {G : Nat → Option Nat} {X : Option Nat} {P : Nat → Int32} {T : Nat → Nat → Int32} {Q : Option Value → xm_M → Prop} {r k q a n c : Nat}
theorem c75 {s : Nat → Nat} {af : Nat} (hs : mSub P T n s) (hc : c ≤ n) (haf : af ≤ 64) : rn sc d 75 0 [some (.ref (B + 227)), some (.int (nI c)), some (.int (nI af)), none, none] [] (mk B S F A G X P T) Q = Q (some (.int (oi (lf_bal s af (n - c) c 0)))) (mk B S F A G X P T) := by
  have hn64 := hs.2.1
  have hl : ∀ (m p dp : Nat), p + m = n → dp ≤ p → rn sc d 75 5 [some (.ref (B + 227)), some (.int (nI c)), some (.int (nI af)), some (.int (nI dp)), some (.int (nI p))] [] (mk B S F A G X P T) Q = Q (some (.int (oi (lf_bal s af m p dp)))) (mk B S F A G X P T) := by
    intro m
    induction m with
    | zero =>
      intro p dp hp hdp
      have h1 : nI n ≤ nI p := nI_le (by omega) (by omega)
      rw [s75_5]
      simp only [s75_0, s75_1, s75_2, s75_3, s75_7, s75_8, s75_11, s75_14, s75_15, s75_16, s75_19, s75_21, s75_22, s75_24, s75_27, s75_28, s75_31, s75_32, s75_35, s75_37, s75_38, s75_40, s75_43, s75_44, s75_47, s75_48, s75_49, s75_50, s75_51, s75_54, s75_55, s75_56, s75_57, s75_60, s75_62, s75_63, s75_64, s75_65, s75_68, s75_70, s75_71, s75_72, s75_73, s75_76, s75_79, s75_80,  rn_os, rn_on, Option.toList_some, Option.toList_none, List.cons_append, List.nil_append, wt0, wti, wtr, wtn, nb0, nb1, va_rf, eq_self, a2_s, a2_n, p1_s, p1_n, f2_s, f2_n, false_and, and_false, true_and, and_true, not_false_eq_true, ne_eq, Nat.reduceEqDiff, Nat.reduceAdd, Nat.reduceLeDiff, Nat.reduceSub, Nat.reduceMul, Bool.false_eq_true, g227_16, hs.1, h1, if_true, lf_bal, oi]
    | succ m ih =>
      intro p dp hp hdp
      have h1 : ¬ nI n ≤ nI p := nI_ge (by omega) (by omega)
      have hp64 : p < 64 := by omega
      obtain ⟨u1, u2⟩ := hs.2.2 p (by omega)
      -- behind the sum
      have mid : ∀ dq : Nat, dq ≤ p + 1 → rn sc d 75 49 [some (.ref (B + 227)), some (.int (nI c)), some (.int (nI af)), some (.int (nI dp)), some (.int (nI p))] [.int (nI dq)] (mk B S F A G X P T) Q = Q (some (.int (oi (if dq = 0 ∧ af < p + 1 then some (p + 1) else lf_bal s af m (p + 1) dq)))) (mk B S F A G X P T) := by
        intro dq hdq
        have g0 : 0 ≤ nI dq := nI_pos' (by omega)
        have z0 : (0 : Int32) ≤ 0 := by decide
        by_cases h2 : dq = 0
        · subst h2
          by_cases h3 : af < p + 1
          · have h4 : ¬ nI (p + 1) ≤ nI af := nI_ge h3 (by omega)
            simp only [s75_0, s75_1, s75_2, s75_3, s75_7, s75_8, s75_11, s75_14, s75_15, s75_16, s75_19, s75_21, s75_22, s75_24, s75_27, s75_28, s75_31, s75_32, s75_35, s75_37, s75_38, s75_40, s75_43, s75_44, s75_47, s75_48, s75_49, s75_50, s75_51, s75_54, s75_55, s75_56, s75_57, s75_60, s75_62, s75_63, s75_64, s75_65, s75_68, s75_70, s75_71, s75_72, s75_73, s75_76, s75_79, s75_80,  rn_os, rn_on, Option.toList_some, Option.toList_none, List.cons_append, List.nil_append, wt0, wti, wtr, wtn, nb0, nb1, va_rf, eq_self, a2_s, a2_n, p1_s, p1_n, f2_s, f2_n, false_and, and_false, true_and, and_true, not_false_eq_true, ne_eq, Nat.reduceEqDiff, Nat.reduceAdd, Nat.reduceLeDiff, Nat.reduceSub, Nat.reduceMul, Bool.false_eq_true, nI_0, z0, if_true, not_true_eq_false, if_false, nI_1, h4, h3, oi]
          · have h4 : nI (p + 1) ≤ nI af := nI_le (by omega) (by omega)
            simp only [s75_0, s75_1, s75_2, s75_3, s75_7, s75_8, s75_11, s75_14, s75_15, s75_16, s75_19, s75_21, s75_22, s75_24, s75_27, s75_28, s75_31, s75_32, s75_35, s75_37, s75_38, s75_40, s75_43, s75_44, s75_47, s75_48, s75_49, s75_50, s75_51, s75_54, s75_55, s75_56, s75_57, s75_60, s75_62, s75_63, s75_64, s75_65, s75_68, s75_70, s75_71, s75_72, s75_73, s75_76, s75_79, s75_80,  rn_os, rn_on, Option.toList_some, Option.toList_none, List.cons_append, List.nil_append, wt0, wti, wtr, wtn, nb0, nb1, va_rf, eq_self, a2_s, a2_n, p1_s, p1_n, f2_s, f2_n, false_and, and_false, true_and, and_true, not_false_eq_true, ne_eq, Nat.reduceEqDiff, Nat.reduceAdd, Nat.reduceLeDiff, Nat.reduceSub, Nat.reduceMul, Bool.false_eq_true, nI_0, z0, if_true, not_true_eq_false, if_false, nI_1, h4, h3]
            have := ih (p + 1) 0 (by omega) (by omega)
            rw [nI_0] at this
            exact this
        · have h3 : ¬ nI dq = 0 := nI_ne0 (by omega) (by omega)
          simp only [s75_0, s75_1, s75_2, s75_3, s75_7, s75_8, s75_11, s75_14, s75_15, s75_16, s75_19, s75_21, s75_22, s75_24, s75_27, s75_28, s75_31, s75_32, s75_35, s75_37, s75_38, s75_40, s75_43, s75_44, s75_47, s75_48, s75_49, s75_50, s75_51, s75_54, s75_55, s75_56, s75_57, s75_60, s75_62, s75_63, s75_64, s75_65, s75_68, s75_70, s75_71, s75_72, s75_73, s75_76, s75_79, s75_80,  rn_os, rn_on, Option.toList_some, Option.toList_none, List.cons_append, List.nil_append, wt0, wti, wtr, wtn, nb0, nb1, va_rf, eq_self, a2_s, a2_n, p1_s, p1_n, f2_s, f2_n, false_and, and_false, true_and, and_true, not_false_eq_true, ne_eq, Nat.reduceEqDiff, Nat.reduceAdd, Nat.reduceLeDiff, Nat.reduceSub, Nat.reduceMul, Bool.false_eq_true, g0, if_true, h3, h2, if_false, nI_1, ih (p + 1) dq (by omega) (by omega)]
      have n1 : ¬ (41 : Int32) = 40 := by decide
      rw [s75_5]
      by_cases e1 : s p = 40
      · have e2 : ¬ s p = 41 := by omega
        have k1 : T 236 p = 40 := u2.trans ((tb40 u1).mpr e1)
        simp only [s75_0, s75_1, s75_2, s75_3, s75_7, s75_8, s75_11, s75_14, s75_15, s75_16, s75_19, s75_21, s75_22, s75_24, s75_27, s75_28, s75_31, s75_32, s75_35, s75_37, s75_38, s75_40, s75_43, s75_44, s75_47, s75_48, s75_50, s75_51, s75_54, s75_55, s75_56, s75_57, s75_60, s75_62, s75_63, s75_64, s75_65, s75_68, s75_70, s75_71, s75_72, s75_73, s75_76, s75_79, s75_80,  rn_os, rn_on, Option.toList_some, Option.toList_none, List.cons_append, List.nil_append, wt0, wti, wtr, wtn, nb0, nb1, va_rf, eq_self, a2_s, a2_n, p1_s, p1_n, f2_s, f2_n, false_and, and_false, true_and, and_true, not_false_eq_true, ne_eq, Nat.reduceEqDiff, Nat.reduceAdd, Nat.reduceLeDiff, Nat.reduceSub, Nat.reduceMul, Bool.false_eq_true, g227_16, g227_15, hs.1, h1, if_false, g236 hp64, k1, not_true_eq_false, nI_1, mid (dp + 1) (by omega), if_true]
        rw [show lf_bal s af (m + 1) p dp = lf_bal s af m (p + 1) (dp + 1) by simp [lf_bal, e1]]
      · have k1 : ¬ T 236 p = 40 := fun h => e1 ((tb40 u1).mp (u2.symm.trans h))
        by_cases e2 : s p = 41
        · have k2 : T 236 p = 41 := u2.trans ((tb41 u1).mpr e2)
          by_cases e3 : dp = 0
          · subst e3
            have z : ¬ (0 : Int32) ≤ nI 0 + -1 := by decide
            simp only [s75_0, s75_1, s75_2, s75_3, s75_7, s75_8, s75_11, s75_14, s75_15, s75_16, s75_19, s75_21, s75_22, s75_24, s75_27, s75_28, s75_31, s75_32, s75_35, s75_37, s75_38, s75_40, s75_43, s75_44, s75_47, s75_48, s75_50, s75_51, s75_54, s75_55, s75_56, s75_57, s75_60, s75_62, s75_63, s75_64, s75_65, s75_68, s75_70, s75_71, s75_72, s75_73, s75_76, s75_79, s75_80,  rn_os, rn_on, Option.toList_some, Option.toList_none, List.cons_append, List.nil_append, wt0, wti, wtr, wtn, nb0, nb1, va_rf, eq_self, a2_s, a2_n, p1_s, p1_n, f2_s, f2_n, false_and, and_false, true_and, and_true, not_false_eq_true, ne_eq, Nat.reduceEqDiff, Nat.reduceAdd, Nat.reduceLeDiff, Nat.reduceSub, Nat.reduceMul, Bool.false_eq_true, g227_16, g227_15, hs.1, h1, if_false, g236 hp64, k2, n1, not_true_eq_false, not_false_eq_true, if_true]
            rw [show lf_bal s af (m + 1) p 0 = none by simp [lf_bal, e2]]
            simp only [s75_0, s75_1, s75_2, s75_3, s75_7, s75_8, s75_11, s75_14, s75_15, s75_16, s75_19, s75_21, s75_22, s75_24, s75_27, s75_28, s75_31, s75_32, s75_35, s75_37, s75_38, s75_40, s75_43, s75_44, s75_47, s75_48, s75_49, s75_50, s75_51, s75_54, s75_55, s75_56, s75_57, s75_60, s75_62, s75_63, s75_64, s75_65, s75_68, s75_70, s75_71, s75_72, s75_73, s75_76, s75_79, s75_80,  rn_os, rn_on, Option.toList_some, Option.toList_none, List.cons_append, List.nil_append, wt0, wti, wtr, wtn, nb0, nb1, va_rf, eq_self, a2_s, a2_n, p1_s, p1_n, f2_s, f2_n, false_and, and_false, true_and, and_true, not_false_eq_true, ne_eq, Nat.reduceEqDiff, Nat.reduceAdd, Nat.reduceLeDiff, Nat.reduceSub, Nat.reduceMul, Bool.false_eq_true, z, if_false, oi]
          · obtain ⟨dr, rfl⟩ : ∃ dr, dp = dr + 1 := ⟨dp - 1, by omega⟩
            simp only [s75_0, s75_1, s75_2, s75_3, s75_7, s75_8, s75_11, s75_14, s75_15, s75_16, s75_19, s75_21, s75_22, s75_24, s75_27, s75_28, s75_31, s75_32, s75_35, s75_37, s75_38, s75_40, s75_43, s75_44, s75_47, s75_48, s75_50, s75_51, s75_54, s75_55, s75_56, s75_57, s75_60, s75_62, s75_63, s75_64, s75_65, s75_68, s75_70, s75_71, s75_72, s75_73, s75_76, s75_79, s75_80,  rn_os, rn_on, Option.toList_some, Option.toList_none, List.cons_append, List.nil_append, wt0, wti, wtr, wtn, nb0, nb1, va_rf, eq_self, a2_s, a2_n, p1_s, p1_n, f2_s, f2_n, false_and, and_false, true_and, and_true, not_false_eq_true, ne_eq, Nat.reduceEqDiff, Nat.reduceAdd, Nat.reduceLeDiff, Nat.reduceSub, Nat.reduceMul, Bool.false_eq_true, g227_16, g227_15, hs.1, h1, if_false, g236 hp64, k2, n1, not_true_eq_false, not_false_eq_true, if_true, pk_m1, mid dr (by omega)]
            rw [show lf_bal s af (m + 1) p (dr + 1) = if dr = 0 ∧ af < p + 1 then some (p + 1) else lf_bal s af m (p + 1) dr by simp [lf_bal, e2]]
        · have k2 : ¬ T 236 p = 41 := fun h => e2 ((tb41 u1).mp (u2.symm.trans h))
          have z : nI dp + 0 = nI dp := by rw [← nI_0, nI_add, Nat.add_zero]
          simp only [s75_0, s75_1, s75_2, s75_3, s75_7, s75_8, s75_11, s75_14, s75_15, s75_16, s75_19, s75_21, s75_22, s75_24, s75_27, s75_28, s75_31, s75_32, s75_35, s75_37, s75_38, s75_40, s75_43, s75_44, s75_47, s75_48, s75_50, s75_51, s75_54, s75_55, s75_56, s75_57, s75_60, s75_62, s75_63, s75_64, s75_65, s75_68, s75_70, s75_71, s75_72, s75_73, s75_76, s75_79, s75_80,  rn_os, rn_on, Option.toList_some, Option.toList_none, List.cons_append, List.nil_append, wt0, wti, wtr, wtn, nb0, nb1, va_rf, eq_self, a2_s, a2_n, p1_s, p1_n, f2_s, f2_n, false_and, and_false, true_and, and_true, not_false_eq_true, ne_eq, Nat.reduceEqDiff, Nat.reduceAdd, Nat.reduceLeDiff, Nat.reduceSub, Nat.reduceMul, Bool.false_eq_true, g227_16, g227_15, hs.1, h1, if_false, g236 hp64, k1, k2, not_false_eq_true, if_true, z, mid dp (by omega)]
          rw [show lf_bal s af (m + 1) p dp = if dp = 0 ∧ af < p + 1 then some (p + 1) else lf_bal s af m (p + 1) dp by simp [lf_bal, e1, e2]]
  have := hl (n - c) c 0 (by omega) (by omega)
  rw [nI_0] at this
  rw [s75_0, s75_1, s75_2, s75_3]
  exact this
/-- becomes(v, r) -/
theorem c79 {v s0 e0 : Nat} {s : Nat → Nat} (hs : mSub P T n s) (hv : v < 8) (hr : r < 3000) (h1 : T 238 r = nI s0) (h2 : T 239 r = nI e0) (h3 : s0 ≤ e0) (h4 : e0 ≤ n) : rn sc d 79 0 [some (.ref (B + 227)), some (.int (nI v)), some (.int (nI r)), none] [] (mk B S F A G X P T) Q = Q none (mk B S F A G X P (a2 (a2 T 230 (upd (T 230) v (nI (e0 - s0)))) 229 (va_cpy (T 236) (T 229) s0 (64 * v) (e0 - s0)))) := by
  have hn64 := hs.2.1
  have hl : ∀ (m i : Nat), i + m = e0 - s0 → rn sc d 79 21 [some (.ref (B + 227)), some (.int (nI v)), some (.int (nI r)), some (.int (nI i))] [] (mk B S F A G X P (a2 (a2 T 230 (upd (T 230) v (nI (e0 - s0)))) 229 (va_cpy (T 236) (T 229) s0 (64 * v) i))) Q = Q none (mk B S F A G X P (a2 (a2 T 230 (upd (T 230) v (nI (e0 - s0)))) 229 (va_cpy (T 236) (T 229) s0 (64 * v) (e0 - s0)))) := by
    intro m
    induction m with
    | zero =>
      intro i hi
      have g1 : nI (e0 - s0) ≤ nI i := nI_le (by omega) (by omega)
      rw [s79_21, show i = e0 - s0 by omega] at *
      simp only [s79_0, s79_1, s79_4, s79_5, s79_6, s79_9, s79_10, s79_11, s79_12, s79_15, s79_16, s79_17, s79_18, s79_19, s79_20, s79_22, s79_23, s79_26, s79_27, s79_28, s79_31, s79_32, s79_35, s79_37, s79_38, s79_39, s79_40, s79_41, s79_42, s79_45, s79_46, s79_49, s79_50, s79_51, s79_52, s79_53, s79_54, s79_55, s79_58, s79_61,  rn_os, rn_on, Option.toList_some, Option.toList_none, List.cons_append, List.nil_append, wt0, wti, wtr, wtn, nb0, nb1, va_rf, eq_self, a2_s, a2_n, p1_s, p1_n, f2_s, f2_n, false_and, and_false, true_and, and_true, not_false_eq_true, ne_eq, Nat.reduceEqDiff, Nat.reduceAdd, Nat.reduceLeDiff, Nat.reduceSub, Nat.reduceMul, Bool.false_eq_true, g227_4, g230 hv, pk_us, g1, if_true]
    | succ m ih =>
      intro i hi
      have g1 : ¬ nI (e0 - s0) ≤ nI i := nI_ge (by omega) (by omega)
      have g2 : 64 * v + i < 512 := by omega
      have g3 : s0 + i < 64 := by omega
      obtain ⟨u1, u2⟩ := hs.2.2 (s0 + i) (by omega)
      rw [s79_21]
      simp only [s79_0, s79_1, s79_4, s79_5, s79_6, s79_9, s79_10, s79_11, s79_12, s79_15, s79_16, s79_17, s79_18, s79_19, s79_20, s79_22, s79_23, s79_26, s79_27, s79_28, s79_31, s79_32, s79_35, s79_37, s79_38, s79_39, s79_40, s79_41, s79_42, s79_45, s79_46, s79_49, s79_50, s79_51, s79_52, s79_53, s79_54, s79_55, s79_58, s79_61,  rn_os, rn_on, Option.toList_some, Option.toList_none, List.cons_append, List.nil_append, wt0, wti, wtr, wtn, nb0, nb1, va_rf, eq_self, a2_s, a2_n, p1_s, p1_n, f2_s, f2_n, false_and, and_false, true_and, and_true, not_false_eq_true, ne_eq, Nat.reduceEqDiff, Nat.reduceAdd, Nat.reduceLeDiff, Nat.reduceSub, Nat.reduceMul, Bool.false_eq_true, g227_4, g227_3, g227_15, g227_18, g230 hv, pk_us, g1, if_false, e64, g238 hr, h1, nI_add, g236 g3, u2, w229 g2, tb_nar, a2_a2, nI_1]
      rw [← u2, cpy_u]
      exact ih (i + 1) (by omega)
  have := hl (e0 - s0) 0 (by omega)
  rw [nI_0, cpy_0] at this
  simp only [s79_0, s79_1, s79_4, s79_5, s79_6, s79_9, s79_10, s79_11, s79_12, s79_15, s79_16, s79_17, s79_18, s79_19, s79_20, s79_22, s79_23, s79_26, s79_27, s79_28, s79_31, s79_32, s79_35, s79_37, s79_38, s79_39, s79_40, s79_41, s79_42, s79_45, s79_46, s79_49, s79_50, s79_51, s79_52, s79_53, s79_54, s79_55, s79_58, s79_61,  rn_os, rn_on, Option.toList_some, Option.toList_none, List.cons_append, List.nil_append, wt0, wti, wtr, wtn, nb0, nb1, va_rf, eq_self, a2_s, a2_n, p1_s, p1_n, f2_s, f2_n, false_and, and_false, true_and, and_true, not_false_eq_true, ne_eq, Nat.reduceEqDiff, Nat.reduceAdd, Nat.reduceLeDiff, Nat.reduceSub, Nat.reduceMul, Bool.false_eq_true, g227_4, g227_18, g227_19, g238 hr, g239 hr, h1, h2, pk_sub h3, w230 hv]
  rw [show a2 (a2 T 230 (upd (T 230) v (nI (e0 - s0)))) 229 (T 229) = a2 T 230 (upd (T 230) v (nI (e0 - s0))) from by
    have := up0 (A := a2 T 230 (upd (T 230) v (nI (e0 - s0)))) (o := 229)
    rw [a2_n (by decide)] at this
    exact this] at this
  exact this
end
