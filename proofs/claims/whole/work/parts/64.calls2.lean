section
variable {c : CX} {B : Nat} {F A F' A' T T' : Nat → Nat → Int32} {G G' : Nat → Option Nat} {X X' : Option Nat} {P P' : Nat → Int32} {q clk k n v la : Nat} {x y z an : Int32} {s : Nat → Nat} {vn : Nat → Nat} {vf : Nat → Nat → Nat} {sc : xm_Sc} {d S : Nat} {Q : Option Value → xm_M → Prop}
theorem i_20 : ¬ (2 : Int32) = 0 := by decide
theorem i_21 : ¬ (2 : Int32) = 1 := by decide
theorem i_30 : ¬ (3 : Int32) = 0 := by decide
theorem i_31 : ¬ (3 : Int32) = 1 := by decide
theorem i_32 : ¬ (3 : Int32) = 2 := by decide
theorem i_out {x : Int32} {m : Nat} (hm : m < 2 ^ 31) (h : ∀ j, j < m → ¬ x = nI j) : x.toInt < 0 ∨ (m : Int) - 1 < x.toInt := by
  by_cases hx : x < 0
  · exact Or.inl (by simpa [Int32.lt_iff_toInt_lt] using hx)
  · obtain ⟨j, hj, rfl⟩ := nI_of hx
    right
    rw [nI_toInt hj]
    by_cases h2 : j < m
    · exact absurd rfl (h j h2)
    · omega
/-! about -/
theorem cm_about : Same B 24 64 [some (.int x), some (.int y), none] [some (.int x), some (.int y)] false := by
  intro F A G X P T hinv
  obtain ⟨c, vn, vf, sn, sf, hok, hC, hM, hvc, hvm, hsl, hsm, hlat⟩ := id hinv
  have hN := hok.1
  rcases argI (N := c.N) (by omega) x with hx | ⟨k, hk, rfl⟩
  · refine ⟨F, A, G, X, p1 P 0 0, T, -1, fun sc d S Pz Tz Q => ?_, fun sc d S Fz Az Gz Xz Q => ?_, hinv.p0⟩
    · simp only [s24_0, s24_1, s24_4, s24_5, s24_8, s24_8N, s24_9, s24_9N, s24_10, s24_10N, s24_13, s24_14, s24_15, s24_16_0, s24_16_1, s24_16_2, s24_16_3, s24_16_d, s24_48, s24_48N, s24_49, s24_52, s24_53, s24_53N, s24_54, s24_57, s24_58, s24_58N, s24_59, s24_62, s24_63, s24_63N, s24_64, s24_67, s24_70, s24_71, s24_72, rn_os, rn_on, Option.toList_some, Option.toList_none, List.cons_append, List.nil_append, wt0, wti, wtr, wtn, nb0, nb1, va_rf, eq_self, a2_s, a2_n, p1_s, p1_n, f2_s, f2_n, false_and, and_false, true_and, and_true, not_false_eq_true, ne_eq, Nat.reduceEqDiff, Nat.reduceAdd, Nat.reduceLeDiff, Nat.reduceSub, Nat.reduceMul, Bool.false_eq_true, g0_1, e3_is, c20n hC.1 hx, Bool.false_eq_true, if_false]
    · simp only [s64_0, s64_1, s64_2, s64_5, s64_6, s64_7, s64_10, s64_13, s64_14, s64_15, s64_16, s64_19, s64_20, s64_23, s64_24, s64_25, s64_28, s64_29, s64_30, s64_33, s64_34, s64_37, s64_38, s64_39, s64_42, s64_43, s64_44, s64_47, s64_48, s64_51, s64_52, s64_53, s64_56, s64_57, s64_58, s64_61, s64_62, s64_65, s64_66, s64_67, s64_70, s64_71, rn_os, rn_on, Option.toList_some, Option.toList_none, List.cons_append, List.nil_append, wt0, wti, wtr, wtn, nb0, nb1, va_rf, eq_self, a2_s, a2_n, p1_s, p1_n, f2_s, f2_n, false_and, and_false, true_and, and_true, not_false_eq_true, ne_eq, Nat.reduceEqDiff, Nat.reduceAdd, Nat.reduceLeDiff, Nat.reduceSub, Nat.reduceMul, Bool.false_eq_true, w227_0, e227_is, c62, bi_f (niN hM.1 hx), not_true_eq_false, Bool.false_eq_true, if_false]
  · have hk64 : k < 64 := by omega
    obtain ⟨n1, n2, n3, n4⟩ := hC.2 k hk
    obtain ⟨m1, m2, m3, m4⟩ := hM.2 k hk
    have hb : 0 ≤ nI k ∧ nI k < P 5 := by rw [hM.1]; exact ⟨nI_pos' (by omega), nI_lt hk (by omega)⟩
    by_cases h0 : y = 0
    · subst h0
      refine ⟨F, A, G, X, p1 P 0 0, T, nI (c.kd k), fun sc d S Pz Tz Q => ?_, fun sc d S Fz Az Gz Xz Q => ?_, hinv.p0⟩
      · simp only [s24_0, s24_1, s24_4, s24_5, s24_8, s24_8N, s24_9, s24_9N, s24_10, s24_10N, s24_13, s24_14, s24_15, s24_16_0, s24_16_1, s24_16_2, s24_16_3, s24_16_d, s24_48, s24_48N, s24_49, s24_52, s24_53, s24_53N, s24_54, s24_57, s24_58, s24_58N, s24_59, s24_62, s24_63, s24_63N, s24_64, s24_67, s24_70, s24_71, s24_72, rn_os, rn_on, Option.toList_some, Option.toList_none, List.cons_append, List.nil_append, wt0, wti, wtr, wtn, nb0, nb1, va_rf, eq_self, a2_s, a2_n, p1_s, p1_n, f2_s, f2_n, false_and, and_false, true_and, and_true, not_false_eq_true, ne_eq, Nat.reduceEqDiff, Nat.reduceAdd, Nat.reduceLeDiff, Nat.reduceSub, Nat.reduceMul, Bool.false_eq_true, g0_1, e3_is, c20 hC.1 hN hk, gn_1 hk64, n1, Bool.false_eq_true, if_false]
      · simp only [s64_0, s64_1, s64_2, s64_5, s64_6, s64_7, s64_10, s64_13, s64_14, s64_15, s64_16, s64_19, s64_20, s64_23, s64_24, s64_25, s64_28, s64_29, s64_30, s64_33, s64_34, s64_37, s64_38, s64_39, s64_42, s64_43, s64_44, s64_47, s64_48, s64_51, s64_52, s64_53, s64_56, s64_57, s64_58, s64_61, s64_62, s64_65, s64_66, s64_67, s64_70, s64_71, rn_os, rn_on, Option.toList_some, Option.toList_none, List.cons_append, List.nil_append, wt0, wti, wtr, wtn, nb0, nb1, va_rf, eq_self, a2_s, a2_n, p1_s, p1_n, f2_s, f2_n, false_and, and_false, true_and, and_true, not_false_eq_true, ne_eq, Nat.reduceEqDiff, Nat.reduceAdd, Nat.reduceLeDiff, Nat.reduceSub, Nat.reduceMul, Bool.false_eq_true, w227_0, e227_is, c62, bi_t hb, i10, not_false_eq_true, not_true_eq_false, if_true, g227_6, g231 hk64, m1, Bool.false_eq_true, if_false]
    by_cases h1 : y = 1
    · subst h1
      refine ⟨F, A, G, X, p1 P 0 0, T, nI (c.a k), fun sc d S Pz Tz Q => ?_, fun sc d S Fz Az Gz Xz Q => ?_, hinv.p0⟩
      · simp only [s24_0, s24_1, s24_4, s24_5, s24_8, s24_8N, s24_9, s24_9N, s24_10, s24_10N, s24_13, s24_14, s24_15, s24_16_0, s24_16_1, s24_16_2, s24_16_3, s24_16_d, s24_48, s24_48N, s24_49, s24_52, s24_53, s24_53N, s24_54, s24_57, s24_58, s24_58N, s24_59, s24_62, s24_63, s24_63N, s24_64, s24_67, s24_70, s24_71, s24_72, rn_os, rn_on, Option.toList_some, Option.toList_none, List.cons_append, List.nil_append, wt0, wti, wtr, wtn, nb0, nb1, va_rf, eq_self, a2_s, a2_n, p1_s, p1_n, f2_s, f2_n, false_and, and_false, true_and, and_true, not_false_eq_true, ne_eq, Nat.reduceEqDiff, Nat.reduceAdd, Nat.reduceLeDiff, Nat.reduceSub, Nat.reduceMul, Bool.false_eq_true, g0_1, e3_is, c20 hC.1 hN hk, gn_2 hk64, n2, Bool.false_eq_true, if_false]
      · simp only [s64_0, s64_1, s64_2, s64_5, s64_6, s64_7, s64_10, s64_13, s64_14, s64_15, s64_16, s64_19, s64_20, s64_23, s64_24, s64_25, s64_28, s64_29, s64_30, s64_33, s64_34, s64_37, s64_38, s64_39, s64_42, s64_43, s64_44, s64_47, s64_48, s64_51, s64_52, s64_53, s64_56, s64_57, s64_58, s64_61, s64_62, s64_65, s64_66, s64_67, s64_70, s64_71, rn_os, rn_on, Option.toList_some, Option.toList_none, List.cons_append, List.nil_append, wt0, wti, wtr, wtn, nb0, nb1, va_rf, eq_self, a2_s, a2_n, p1_s, p1_n, f2_s, f2_n, false_and, and_false, true_and, and_true, not_false_eq_true, ne_eq, Nat.reduceEqDiff, Nat.reduceAdd, Nat.reduceLeDiff, Nat.reduceSub, Nat.reduceMul, Bool.false_eq_true, w227_0, e227_is, c62, bi_t hb, i10, not_false_eq_true, not_true_eq_false, if_true, g227_7, g232 hk64, m2, Bool.false_eq_true, if_false]
    by_cases h2 : y = 2
    · subst h2
      refine ⟨F, A, G, X, p1 P 0 0, T, nI (c.b k), fun sc d S Pz Tz Q => ?_, fun sc d S Fz Az Gz Xz Q => ?_, hinv.p0⟩
      · simp only [s24_0, s24_1, s24_4, s24_5, s24_8, s24_8N, s24_9, s24_9N, s24_10, s24_10N, s24_13, s24_14, s24_15, s24_16_0, s24_16_1, s24_16_2, s24_16_3, s24_16_d, s24_48, s24_48N, s24_49, s24_52, s24_53, s24_53N, s24_54, s24_57, s24_58, s24_58N, s24_59, s24_62, s24_63, s24_63N, s24_64, s24_67, s24_70, s24_71, s24_72, rn_os, rn_on, Option.toList_some, Option.toList_none, List.cons_append, List.nil_append, wt0, wti, wtr, wtn, nb0, nb1, va_rf, eq_self, a2_s, a2_n, p1_s, p1_n, f2_s, f2_n, false_and, and_false, true_and, and_true, not_false_eq_true, ne_eq, Nat.reduceEqDiff, Nat.reduceAdd, Nat.reduceLeDiff, Nat.reduceSub, Nat.reduceMul, Bool.false_eq_true, g0_1, e3_is, c20 hC.1 hN hk, gn_3 hk64, n3, Bool.false_eq_true, if_false]
      · simp only [s64_0, s64_1, s64_2, s64_5, s64_6, s64_7, s64_10, s64_13, s64_14, s64_15, s64_16, s64_19, s64_20, s64_23, s64_24, s64_25, s64_28, s64_29, s64_30, s64_33, s64_34, s64_37, s64_38, s64_39, s64_42, s64_43, s64_44, s64_47, s64_48, s64_51, s64_52, s64_53, s64_56, s64_57, s64_58, s64_61, s64_62, s64_65, s64_66, s64_67, s64_70, s64_71, rn_os, rn_on, Option.toList_some, Option.toList_none, List.cons_append, List.nil_append, wt0, wti, wtr, wtn, nb0, nb1, va_rf, eq_self, a2_s, a2_n, p1_s, p1_n, f2_s, f2_n, false_and, and_false, true_and, and_true, not_false_eq_true, ne_eq, Nat.reduceEqDiff, Nat.reduceAdd, Nat.reduceLeDiff, Nat.reduceSub, Nat.reduceMul, Bool.false_eq_true, w227_0, e227_is, c62, bi_t hb, i10, i_20, i_21, not_false_eq_true, not_true_eq_false, if_true, g227_8, g233 hk64, m3, Bool.false_eq_true, if_false]
    by_cases h3 : y = 3
    · subst h3
      refine ⟨F, A, G, X, p1 P 0 0, T, nI (c.tn k), fun sc d S Pz Tz Q => ?_, fun sc d S Fz Az Gz Xz Q => ?_, hinv.p0⟩
      · simp only [s24_0, s24_1, s24_4, s24_5, s24_8, s24_8N, s24_9, s24_9N, s24_10, s24_10N, s24_13, s24_14, s24_15, s24_16_0, s24_16_1, s24_16_2, s24_16_3, s24_16_d, s24_48, s24_48N, s24_49, s24_52, s24_53, s24_53N, s24_54, s24_57, s24_58, s24_58N, s24_59, s24_62, s24_63, s24_63N, s24_64, s24_67, s24_70, s24_71, s24_72, rn_os, rn_on, Option.toList_some, Option.toList_none, List.cons_append, List.nil_append, wt0, wti, wtr, wtn, nb0, nb1, va_rf, eq_self, a2_s, a2_n, p1_s, p1_n, f2_s, f2_n, false_and, and_false, true_and, and_true, not_false_eq_true, ne_eq, Nat.reduceEqDiff, Nat.reduceAdd, Nat.reduceLeDiff, Nat.reduceSub, Nat.reduceMul, Bool.false_eq_true, g0_1, e3_is, c20 hC.1 hN hk, gn_0 hk64, gt_1 (me_txn hk64), n4.1, Bool.false_eq_true, if_false]
      · simp only [s64_0, s64_1, s64_2, s64_5, s64_6, s64_7, s64_10, s64_13, s64_14, s64_15, s64_16, s64_19, s64_20, s64_23, s64_24, s64_25, s64_28, s64_29, s64_30, s64_33, s64_34, s64_37, s64_38, s64_39, s64_42, s64_43, s64_44, s64_47, s64_48, s64_51, s64_52, s64_53, s64_56, s64_57, s64_58, s64_61, s64_62, s64_65, s64_66, s64_67, s64_70, s64_71, rn_os, rn_on, Option.toList_some, Option.toList_none, List.cons_append, List.nil_append, wt0, wti, wtr, wtn, nb0, nb1, va_rf, eq_self, a2_s, a2_n, p1_s, p1_n, f2_s, f2_n, false_and, and_false, true_and, and_true, not_false_eq_true, ne_eq, Nat.reduceEqDiff, Nat.reduceAdd, Nat.reduceLeDiff, Nat.reduceSub, Nat.reduceMul, Bool.false_eq_true, w227_0, e227_is, c62, bi_t hb, i10, i_30, i_31, i_32, not_false_eq_true, not_true_eq_false, if_true, g227_10, g235 hk64, m4.1, Bool.false_eq_true, if_false]
    · have ho : y.toInt < 0 ∨ 3 < y.toInt := i_out (m := 4) (by decide) (fun j hj => by
        have : j = 0 ∨ j = 1 ∨ j = 2 ∨ j = 3 := by omega
        rcases this with rfl | rfl | rfl | rfl
        · exact h0
        · exact h1
        · exact h2
        · exact h3)
      refine ⟨F, A, G, X, p1 P 0 0, T, -1, fun sc d S Pz Tz Q => ?_, fun sc d S Fz Az Gz Xz Q => ?_, hinv.p0⟩
      · simp only [s24_16_d ho, s24_0, s24_1, s24_4, s24_5, s24_8, s24_8N, s24_9, s24_9N, s24_10, s24_10N, s24_13, s24_14, s24_15, s24_48, s24_48N, s24_49, s24_52, s24_53, s24_53N, s24_54, s24_57, s24_58, s24_58N, s24_59, s24_62, s24_63, s24_63N, s24_64, s24_67, s24_70, s24_71, s24_72,  rn_os, rn_on, Option.toList_some, Option.toList_none, List.cons_append, List.nil_append, wt0, wti, wtr, wtn, nb0, nb1, va_rf, eq_self, a2_s, a2_n, p1_s, p1_n, f2_s, f2_n, false_and, and_false, true_and, and_true, not_false_eq_true, ne_eq, Nat.reduceEqDiff, Nat.reduceAdd, Nat.reduceLeDiff, Nat.reduceSub, Nat.reduceMul, Bool.false_eq_true, g0_1, e3_is, c20 hC.1 hN hk, Bool.false_eq_true, if_false]
      · simp only [s64_0, s64_1, s64_2, s64_5, s64_6, s64_7, s64_10, s64_13, s64_14, s64_15, s64_16, s64_19, s64_20, s64_23, s64_24, s64_25, s64_28, s64_29, s64_30, s64_33, s64_34, s64_37, s64_38, s64_39, s64_42, s64_43, s64_44, s64_47, s64_48, s64_51, s64_52, s64_53, s64_56, s64_57, s64_58, s64_61, s64_62, s64_65, s64_66, s64_67, s64_70, s64_71, rn_os, rn_on, Option.toList_some, Option.toList_none, List.cons_append, List.nil_append, wt0, wti, wtr, wtn, nb0, nb1, va_rf, eq_self, a2_s, a2_n, p1_s, p1_n, f2_s, f2_n, false_and, and_false, true_and, and_true, not_false_eq_true, ne_eq, Nat.reduceEqDiff, Nat.reduceAdd, Nat.reduceLeDiff, Nat.reduceSub, Nat.reduceMul, Bool.false_eq_true, w227_0, e227_is, c62, bi_t hb, i10, h0, h1, h2, h3, not_false_eq_true, if_true, Bool.false_eq_true, if_false]
/-! latest -/
theorem cm_latest : Same B 51 82 [some (.int x)] [some (.int x)] false := by
  intro F A G X P T hinv
  obtain ⟨c, vn, vf, sn, sf, hok, hC, hM, hvc, hvm, hsl, hsm, hlat⟩ := id hinv
  by_cases h0 : x = 0
  · subst h0
    refine ⟨F, A, G, X, p1 P 0 0, T, F 0 3, fun sc d S Pz Tz Q => ?_, fun sc d S Fz Az Gz Xz Q => ?_, hinv.p0⟩
    · simp only [s51_0, s51_1_0, s51_1_1, s51_1_2, s51_1_d, s51_28, s51_29, s51_32, s51_33, s51_34, s51_37, s51_38, s51_39, s51_42, s51_43, s51_44, rn_os, rn_on, Option.toList_some, Option.toList_none, List.cons_append, List.nil_append, wt0, wti, wtr, wtn, nb0, nb1, va_rf, eq_self, a2_s, a2_n, p1_s, p1_n, f2_s, f2_n, false_and, and_false, true_and, and_true, not_false_eq_true, ne_eq, Nat.reduceEqDiff, Nat.reduceAdd, Nat.reduceLeDiff, Nat.reduceSub, Nat.reduceMul, Bool.false_eq_true, g0_3, Bool.false_eq_true, if_false]
    · rcases hlat with ⟨h1, h2, h3, h4⟩ | ⟨h1, h2, h3, h4, -⟩
      · simp only [s82_0, s82_1, s82_2, s82_5, s82_6, s82_9, s82_12, s82_13, s82_16, s82_17, s82_20, s82_21, s82_24, s82_27, s82_28, s82_29, s82_32, s82_33, s82_36, s82_39, s82_40, s82_41, s82_44, s82_45, s82_48, s82_51, s82_52, rn_os, rn_on, Option.toList_some, Option.toList_none, List.cons_append, List.nil_append, wt0, wti, wtr, wtn, nb0, nb1, va_rf, eq_self, a2_s, a2_n, p1_s, p1_n, f2_s, f2_n, false_and, and_false, true_and, and_true, not_false_eq_true, ne_eq, Nat.reduceEqDiff, Nat.reduceAdd, Nat.reduceLeDiff, Nat.reduceSub, Nat.reduceMul, Bool.false_eq_true, w227_0, g227_11, h1, h2, not_true_eq_false, Bool.false_eq_true, if_false]
      · simp only [s82_0, s82_1, s82_2, s82_5, s82_6, s82_9, s82_12, s82_13, s82_16, s82_17, s82_20, s82_21, s82_24, s82_27, s82_28, s82_29, s82_32, s82_33, s82_36, s82_39, s82_40, s82_41, s82_44, s82_45, s82_48, s82_51, s82_52, rn_os, rn_on, Option.toList_some, Option.toList_none, List.cons_append, List.nil_append, wt0, wti, wtr, wtn, nb0, nb1, va_rf, eq_self, a2_s, a2_n, p1_s, p1_n, f2_s, f2_n, false_and, and_false, true_and, and_true, not_false_eq_true, ne_eq, Nat.reduceEqDiff, Nat.reduceAdd, Nat.reduceLeDiff, Nat.reduceSub, Nat.reduceMul, Bool.false_eq_true, w227_0, g227_11, h1, h2, i10, g227_12, not_true_eq_false, not_false_eq_true, if_true, Bool.false_eq_true, if_false]
  by_cases h0' : x = 1
  · subst h0'
    refine ⟨F, A, G, X, p1 P 0 0, T, F 0 4, fun sc d S Pz Tz Q => ?_, fun sc d S Fz Az Gz Xz Q => ?_, hinv.p0⟩
    · simp only [s51_0, s51_1_0, s51_1_1, s51_1_2, s51_1_d, s51_28, s51_29, s51_32, s51_33, s51_34, s51_37, s51_38, s51_39, s51_42, s51_43, s51_44, rn_os, rn_on, Option.toList_some, Option.toList_none, List.cons_append, List.nil_append, wt0, wti, wtr, wtn, nb0, nb1, va_rf, eq_self, a2_s, a2_n, p1_s, p1_n, f2_s, f2_n, false_and, and_false, true_and, and_true, not_false_eq_true, ne_eq, Nat.reduceEqDiff, Nat.reduceAdd, Nat.reduceLeDiff, Nat.reduceSub, Nat.reduceMul, Bool.false_eq_true, g0_4, Bool.false_eq_true, if_false]
    · rcases hlat with ⟨h1, h2, h3, h4⟩ | ⟨h1, h2, h3, h4, -⟩
      · simp only [s82_0, s82_1, s82_2, s82_5, s82_6, s82_9, s82_12, s82_13, s82_16, s82_17, s82_20, s82_21, s82_24, s82_27, s82_28, s82_29, s82_32, s82_33, s82_36, s82_39, s82_40, s82_41, s82_44, s82_45, s82_48, s82_51, s82_52, rn_os, rn_on, Option.toList_some, Option.toList_none, List.cons_append, List.nil_append, wt0, wti, wtr, wtn, nb0, nb1, va_rf, eq_self, a2_s, a2_n, p1_s, p1_n, f2_s, f2_n, false_and, and_false, true_and, and_true, not_false_eq_true, ne_eq, Nat.reduceEqDiff, Nat.reduceAdd, Nat.reduceLeDiff, Nat.reduceSub, Nat.reduceMul, Bool.false_eq_true, w227_0, g227_11, h1, h3, not_true_eq_false, Bool.false_eq_true, if_false]
      · simp only [s82_0, s82_1, s82_2, s82_5, s82_6, s82_9, s82_12, s82_13, s82_16, s82_17, s82_20, s82_21, s82_24, s82_27, s82_28, s82_29, s82_32, s82_33, s82_36, s82_39, s82_40, s82_41, s82_44, s82_45, s82_48, s82_51, s82_52, rn_os, rn_on, Option.toList_some, Option.toList_none, List.cons_append, List.nil_append, wt0, wti, wtr, wtn, nb0, nb1, va_rf, eq_self, a2_s, a2_n, p1_s, p1_n, f2_s, f2_n, false_and, and_false, true_and, and_true, not_false_eq_true, ne_eq, Nat.reduceEqDiff, Nat.reduceAdd, Nat.reduceLeDiff, Nat.reduceSub, Nat.reduceMul, Bool.false_eq_true, w227_0, g227_11, h1, h3, i10, g227_13, not_true_eq_false, not_false_eq_true, if_true, Bool.false_eq_true, if_false]
  by_cases h0'' : x = 2
  · subst h0''
    refine ⟨F, A, G, X, p1 P 0 0, T, F 0 5, fun sc d S Pz Tz Q => ?_, fun sc d S Fz Az Gz Xz Q => ?_, hinv.p0⟩
    · simp only [s51_0, s51_1_0, s51_1_1, s51_1_2, s51_1_d, s51_28, s51_29, s51_32, s51_33, s51_34, s51_37, s51_38, s51_39, s51_42, s51_43, s51_44, rn_os, rn_on, Option.toList_some, Option.toList_none, List.cons_append, List.nil_append, wt0, wti, wtr, wtn, nb0, nb1, va_rf, eq_self, a2_s, a2_n, p1_s, p1_n, f2_s, f2_n, false_and, and_false, true_and, and_true, not_false_eq_true, ne_eq, Nat.reduceEqDiff, Nat.reduceAdd, Nat.reduceLeDiff, Nat.reduceSub, Nat.reduceMul, Bool.false_eq_true, g0_5, Bool.false_eq_true, if_false]
    · rcases hlat with ⟨h1, h2, h3, h4⟩ | ⟨h1, h2, h3, h4, -⟩
      · simp only [s82_0, s82_1, s82_2, s82_5, s82_6, s82_9, s82_12, s82_13, s82_16, s82_17, s82_20, s82_21, s82_24, s82_27, s82_28, s82_29, s82_32, s82_33, s82_36, s82_39, s82_40, s82_41, s82_44, s82_45, s82_48, s82_51, s82_52, rn_os, rn_on, Option.toList_some, Option.toList_none, List.cons_append, List.nil_append, wt0, wti, wtr, wtn, nb0, nb1, va_rf, eq_self, a2_s, a2_n, p1_s, p1_n, f2_s, f2_n, false_and, and_false, true_and, and_true, not_false_eq_true, ne_eq, Nat.reduceEqDiff, Nat.reduceAdd, Nat.reduceLeDiff, Nat.reduceSub, Nat.reduceMul, Bool.false_eq_true, w227_0, g227_11, h1, h4, not_true_eq_false, Bool.false_eq_true, if_false]
      · simp only [s82_0, s82_1, s82_2, s82_5, s82_6, s82_9, s82_12, s82_13, s82_16, s82_17, s82_20, s82_21, s82_24, s82_27, s82_28, s82_29, s82_32, s82_33, s82_36, s82_39, s82_40, s82_41, s82_44, s82_45, s82_48, s82_51, s82_52, rn_os, rn_on, Option.toList_some, Option.toList_none, List.cons_append, List.nil_append, wt0, wti, wtr, wtn, nb0, nb1, va_rf, eq_self, a2_s, a2_n, p1_s, p1_n, f2_s, f2_n, false_and, and_false, true_and, and_true, not_false_eq_true, ne_eq, Nat.reduceEqDiff, Nat.reduceAdd, Nat.reduceLeDiff, Nat.reduceSub, Nat.reduceMul, Bool.false_eq_true, w227_0, g227_11, h1, h4, i10, i_20, i_21, g227_14, not_true_eq_false, not_false_eq_true, if_true, Bool.false_eq_true, if_false]
  · have ho : x.toInt < 0 ∨ 2 < x.toInt := i_out (m := 3) (by decide) (fun j hj => by
      have : j = 0 ∨ j = 1 ∨ j = 2 := by omega
      rcases this with rfl | rfl | rfl
      · exact h0
      · exact h0'
      · exact h0'')
    refine ⟨F, A, G, X, p1 P 0 0, T, -1, fun sc d S Pz Tz Q => ?_, fun sc d S Fz Az Gz Xz Q => ?_, hinv.p0⟩
    · simp only [s51_1_d ho, s51_0, s51_28, s51_29, s51_32, s51_33, s51_34, s51_37, s51_38, s51_39, s51_42, s51_43, s51_44,  rn_os, rn_on, Option.toList_some, Option.toList_none, List.cons_append, List.nil_append, wt0, wti, wtr, wtn, nb0, nb1, va_rf, eq_self, a2_s, a2_n, p1_s, p1_n, f2_s, f2_n, false_and, and_false, true_and, and_true, not_false_eq_true, ne_eq, Nat.reduceEqDiff, Nat.reduceAdd, Nat.reduceLeDiff, Nat.reduceSub, Nat.reduceMul, Bool.false_eq_true, Bool.false_eq_true, if_false]
    · rcases hlat with ⟨h1, h2, h3, h4⟩ | ⟨h1, h2, h3, h4, -⟩
      · simp only [s82_0, s82_1, s82_2, s82_5, s82_6, s82_9, s82_12, s82_13, s82_16, s82_17, s82_20, s82_21, s82_24, s82_27, s82_28, s82_29, s82_32, s82_33, s82_36, s82_39, s82_40, s82_41, s82_44, s82_45, s82_48, s82_51, s82_52, rn_os, rn_on, Option.toList_some, Option.toList_none, List.cons_append, List.nil_append, wt0, wti, wtr, wtn, nb0, nb1, va_rf, eq_self, a2_s, a2_n, p1_s, p1_n, f2_s, f2_n, false_and, and_false, true_and, and_true, not_false_eq_true, ne_eq, Nat.reduceEqDiff, Nat.reduceAdd, Nat.reduceLeDiff, Nat.reduceSub, Nat.reduceMul, Bool.false_eq_true, w227_0, g227_11, h1, not_true_eq_false, Bool.false_eq_true, if_false]
      · simp only [s82_0, s82_1, s82_2, s82_5, s82_6, s82_9, s82_12, s82_13, s82_16, s82_17, s82_20, s82_21, s82_24, s82_27, s82_28, s82_29, s82_32, s82_33, s82_36, s82_39, s82_40, s82_41, s82_44, s82_45, s82_48, s82_51, s82_52, rn_os, rn_on, Option.toList_some, Option.toList_none, List.cons_append, List.nil_append, wt0, wti, wtr, wtn, nb0, nb1, va_rf, eq_self, a2_s, a2_n, p1_s, p1_n, f2_s, f2_n, false_and, and_false, true_and, and_true, not_false_eq_true, ne_eq, Nat.reduceEqDiff, Nat.reduceAdd, Nat.reduceLeDiff, Nat.reduceSub, Nat.reduceMul, Bool.false_eq_true, w227_0, g227_11, h1, i10, h0, h0', h0'', not_false_eq_true, if_true, Bool.false_eq_true, if_false]
/-! sign -/
theorem c9f (ho : F 1 1 = nI 64) : rn sc (d + 1) 9 0 [some (.ref (B + 1)), some (.int x)] [] (mk B S F A G X P T) Q = Q (some (.int 0)) (mk B S F A G X P T) := by
  have h1 : ¬ nI 64 < (64 : Int32) := by decide
  simp only [s9_0, s9_1, s9_4, s9_6, s9_9, s9_10 nb0, s9_10 nb1, s9_10 nb_bi, s9_11, s9_12, s9_15, s9_16, s9_19, s9_20, s9_21, s9_22, s9_22I, s9_23, s9_26, s9_27, s9_28, s9_31, s9_32 nb0, s9_32 nb1, s9_32 nb_bi, rn_os, rn_on, Option.toList_some, Option.toList_none, List.cons_append, List.nil_append, wt0, wti, wtr, wtn, nb0, nb1, va_rf, eq_self, a2_s, a2_n, p1_s, p1_n, f2_s, f2_n, false_and, and_false, true_and, and_true, not_false_eq_true, ne_eq, Nat.reduceEqDiff, Nat.reduceAdd, Nat.reduceLeDiff, Nat.reduceSub, Nat.reduceMul, Bool.false_eq_true, g1_1, ho, h1, if_false]
theorem c9 (ho : F 1 1 = nI n) (hn : n < 64) : rn sc (d + 1) 9 0 [some (.ref (B + 1)), some (.int x)] [] (mk B S F A G X P T) Q = Q (some (.int 1)) (mk B S (f2 F 1 1 (nI (n + 1))) (a2 A 2 (upd (A 2) n x)) G X P T) := by
  have h1 : nI n < (64 : Int32) := nI_lt (b := 64) hn (by decide)
  have ha : me_ar 2 := Or.inl rfl
  simp only [s9_0, s9_1, s9_4, s9_6, s9_9, s9_10 nb0, s9_10 nb1, s9_10 nb_bi, s9_11, s9_12, s9_15, s9_16, s9_19, s9_20, s9_21, s9_22, s9_22I, s9_23, s9_26, s9_27, s9_28, s9_31, s9_32 nb0, s9_32 nb1, s9_32 nb_bi, rn_os, rn_on, Option.toList_some, Option.toList_none, List.cons_append, List.nil_append, wt0, wti, wtr, wtn, nb0, nb1, va_rf, eq_self, a2_s, a2_n, p1_s, p1_n, f2_s, f2_n, false_and, and_false, true_and, and_true, not_false_eq_true, ne_eq, Nat.reduceEqDiff, Nat.reduceAdd, Nat.reduceLeDiff, Nat.reduceSub, Nat.reduceMul, Bool.false_eq_true, g1_0, g1_1, ho, h1, if_true, wa ha hn, nI_1, w1_1]
theorem Inv.slip {sn : Nat} {sf : Nat → Nat} {f : Nat → Int32} {t : Nat → Int32} (hinv : Inv F A P T) (hn : sn ≤ 64) (hf : ∀ j, j < sn → sf j < 256 ∧ f j = nI (sf j)) (ht : ∀ j, j < sn → t j = tb (sf j)) : Inv (f2 F 1 1 (nI sn)) (a2 A 2 f) (p1 (p1 P 0 0) 2 (nI sn)) (a2 T 228 t) := by
  obtain ⟨c, vn, vf, sn0, sf0, hok, hC, hM, hvc, hvm, hsl, hsm, hlat⟩ := hinv
  have hN := hok.1
  refine ⟨c, vn, vf, sn, sf, hok, ⟨by rw [f2_n (by omega)]; exact hC.1, fun i hi => ?_⟩, ⟨by rw [p1_n (by decide), p1_n (by decide)]; exact hM.1, fun i hi => ?_⟩, fun u hu => (hvc u hu).kp (f2_n (by omega)) (a2_n (by omega)), fun u hu => ?_, ⟨f2_s, hn, fun j hj => by rw [a2_s]; exact hf j hj⟩, ⟨p1_s, hn, fun j hj => ⟨(hf j hj).1, by rw [a2_s]; exact ht j hj⟩⟩, ?_⟩
  · obtain ⟨n1, n2, n3, n4⟩ := hC.2 i hi
    exact ⟨by rw [f2_n (by omega)]; exact n1, by rw [f2_n (by omega)]; exact n2, by rw [f2_n (by omega)]; exact n3, n4.kp (f2_n (by omega)) (a2_n (by omega))⟩
  · obtain ⟨n1, n2, n3, n4, n5, n6⟩ := hM.2 i hi
    exact ⟨by rw [a2_n (by decide)]; exact n1, by rw [a2_n (by decide)]; exact n2, by rw [a2_n (by decide)]; exact n3, by rw [a2_n (by decide)]; exact n4, n5, by rw [a2_n (by decide)]; exact n6⟩
  · obtain ⟨n1, n2, n3⟩ := hvm u hu
    exact ⟨by rw [a2_n (by decide)]; exact n1, n2, by rw [a2_n (by decide)]; exact n3⟩
  · unfold Lat
    simp only [p1_n (show 11 ≠ 2 by decide), p1_n (show 12 ≠ 2 by decide), p1_n (show 13 ≠ 2 by decide), p1_n (show 14 ≠ 2 by decide), p1_n (show 11 ≠ 0 by decide), p1_n (show 12 ≠ 0 by decide), p1_n (show 13 ≠ 0 by decide), p1_n (show 14 ≠ 0 by decide), f2_n (show ¬ (0 = 1 ∧ 3 = 1) by decide), f2_n (show ¬ (0 = 1 ∧ 4 = 1) by decide), f2_n (show ¬ (0 = 1 ∧ 5 = 1) by decide)]
    exact hlat
theorem cm_sign : Same B 8 55 [some (.int x)] [some (.int x)] false := by
  intro F A G X P T hinv
  obtain ⟨c, vn, vf, sn, sf, hok, hC, hM, hvc, hvm, hsl, hsm, hlat⟩ := id hinv
  by_cases hn : sn = 64
  · subst hn
    refine ⟨F, A, G, X, p1 P 0 0, T, -1, fun sc d S Pz Tz Q => ?_, fun sc d S Fz Az Gz Xz Q => ?_, hinv.p0⟩
    · simp only [s8_0, s8_1, s8_4, s8_5, s8_8, s8_9, s8_12, s8_15, s8_16, s8_19, s8_22, s8_25, s8_26, rn_os, rn_on, Option.toList_some, Option.toList_none, List.cons_append, List.nil_append, wt0, wti, wtr, wtn, nb0, nb1, va_rf, eq_self, a2_s, a2_n, p1_s, p1_n, f2_s, f2_n, false_and, and_false, true_and, and_true, not_false_eq_true, ne_eq, Nat.reduceEqDiff, Nat.reduceAdd, Nat.reduceLeDiff, Nat.reduceSub, Nat.reduceMul, Bool.false_eq_true, g0_0, e1_is, c9f hsl.1, if_true, Bool.false_eq_true, if_false]
    · have h1 : nI 64 = (64 : Int32) := rfl
      simp only [s55_0, s55_1, s55_2, s55_5, s55_6, s55_9, s55_11, s55_14, s55_15, s55_16, s55_17, s55_20, s55_21, s55_24, s55_25, s55_26, s55_27, s55_28, s55_28I, s55_29, s55_32, s55_33, s55_34, s55_37, s55_38, s55_41, rn_os, rn_on, Option.toList_some, Option.toList_none, List.cons_append, List.nil_append, wt0, wti, wtr, wtn, nb0, nb1, va_rf, eq_self, a2_s, a2_n, p1_s, p1_n, f2_s, f2_n, false_and, and_false, true_and, and_true, not_false_eq_true, ne_eq, Nat.reduceEqDiff, Nat.reduceAdd, Nat.reduceLeDiff, Nat.reduceSub, Nat.reduceMul, Bool.false_eq_true, w227_0, g227_2, hsm.1, h1, not_true_eq_false, Bool.false_eq_true, if_false]
  · have hn : sn < 64 := by have := hsl.2.1; omega
    obtain ⟨m, hm, e1, e2⟩ := sg_b x
    refine ⟨f2 F 1 1 (nI (sn + 1)), a2 A 2 (upd (A 2) sn (nI m)), G, X, p1 (p1 P 0 0) 2 (nI (sn + 1)), a2 T 228 (upd (T 228) sn (tb m)), nI (sn + 1), fun sc d S Pz Tz Q => ?_, fun sc d S Fz Az Gz Xz Q => ?_, hinv.slip (sf := va_up sf sn m) (by omega) (fun j hj => ?_) (fun j hj => ?_)⟩
    · simp only [s8_0, s8_1, s8_4, s8_5, s8_8, s8_9, s8_12, s8_15, s8_16, s8_19, s8_22, s8_25, s8_26, rn_os, rn_on, Option.toList_some, Option.toList_none, List.cons_append, List.nil_append, wt0, wti, wtr, wtn, nb0, nb1, va_rf, eq_self, a2_s, a2_n, p1_s, p1_n, f2_s, f2_n, false_and, and_false, true_and, and_true, not_false_eq_true, ne_eq, Nat.reduceEqDiff, Nat.reduceAdd, Nat.reduceLeDiff, Nat.reduceSub, Nat.reduceMul, Bool.false_eq_true, g0_0, e1_is, e1, c9 hsl.1 hn, i10, g1_1, f2_s, Bool.false_eq_true, if_false]
    · have h1 : ¬ nI sn = (64 : Int32) := fun z => by
        have := nI_r (y := 64) (by omega) (by decide) z
        omega
      simp only [s55_0, s55_1, s55_2, s55_5, s55_6, s55_9, s55_11, s55_14, s55_15, s55_16, s55_17, s55_20, s55_21, s55_24, s55_25, s55_26, s55_27, s55_28, s55_28I, s55_29, s55_32, s55_33, s55_34, s55_37, s55_38, s55_41, rn_os, rn_on, Option.toList_some, Option.toList_none, List.cons_append, List.nil_append, wt0, wti, wtr, wtn, nb0, nb1, va_rf, eq_self, a2_s, a2_n, p1_s, p1_n, f2_s, f2_n, false_and, and_false, true_and, and_true, not_false_eq_true, ne_eq, Nat.reduceEqDiff, Nat.reduceAdd, Nat.reduceLeDiff, Nat.reduceSub, Nat.reduceMul, Bool.false_eq_true, w227_0, g227_2, g227_1, hsm.1, h1, not_false_eq_true, if_true, w228 hn, e2, tb_nar, nI_1, w227_2, p1_s, Bool.false_eq_true, if_false]
    · by_cases h : j = sn
      · subst h
        rw [up_s]
        exact ⟨hm, by simp [upd]⟩
      · rw [up_n h]
        obtain ⟨a1, a2⟩ := hsl.2.2 j (by omega)
        exact ⟨a1, by simp [upd, h]; exact a2⟩
    · by_cases h : j = sn
      · subst h
        rw [up_s]
        simp [upd]
      · rw [up_n h]
        obtain ⟨a1, a2⟩ := hsm.2.2 j (by omega)
        simp [upd, h]
        exact a2
end
