/-! the other calls -/
theorem by_1 : ∀ y : BitVec 8, (y.signExtend 32).toNat % 256 = y.toNat := by decide +kernel
theorem by_2 (b : BitVec 32) : (b.signExtend 8).toNat = b.toNat % 256 := by
  rw [BitVec.signExtend_eq_setWidth_of_le b (by decide)]
  simp
theorem sg_b (x : Int32) : ∃ m, m < 256 ∧ x &&& 255 = nI m ∧ x.toInt8.toInt32 = tb m := by
  refine ⟨x.toBitVec.toNat % 256, Nat.mod_lt _ (by decide), pk_and x 8 (by decide), ?_⟩
  unfold tb
  refine (sc_eq (b := x.toInt8.toInt32) (by simp) (Nat.mod_lt _ (by decide))).mpr ?_
  rw [pk_and _ 8 (by decide)]
  have : x.toInt8.toInt32.toBitVec.toNat % 2 ^ 8 = x.toBitVec.toNat % 256 := by
    have h1 : x.toInt8.toInt32.toBitVec = (x.toBitVec.signExtend 8).signExtend 32 := rfl
    rw [h1]
    exact (by_1 _).trans (by_2 _)
  rw [this]
theorem tb_255 {f : Nat} (h : f < 256) : tb f &&& 255 = nI f := sc_k8 f h
theorem ni8 {x : Int32} (h : x < 0 ∨ nI 8 ≤ x) : ¬ (0 ≤ x ∧ x < 8) := by
  rintro ⟨h1, h2⟩
  rcases h with h | h
  · exact Int32.not_lt.mpr h1 h
  · exact Int32.not_le.mpr h2 h
theorem niN {x y : Int32} {N : Nat} (hy : y = nI N) (h : x < 0 ∨ nI N ≤ x) : ¬ (0 ≤ x ∧ x < y) := by
  subst hy
  rintro ⟨h1, h2⟩
  rcases h with h | h
  · exact Int32.not_lt.mpr h1 h
  · exact Int32.not_le.mpr h2 h
section
variable {c : CX} {B : Nat} {F A F' A' T T' : Nat → Nat → Int32} {G G' : Nat → Option Nat} {X X' : Option Nat} {P P' : Nat → Int32} {q clk k n v la : Nat} {x y z an : Int32} {s : Nat → Nat} {vn : Nat → Nat} {vf : Nat → Nat → Nat} {sc : xm_Sc} {d S : Nat} {Q : Option Value → xm_M → Prop}
theorem Inv.p0 (hinv : Inv F A P T) : Inv F A (p1 P 0 0) T := by
  obtain ⟨c, vn, vf, sn, sf, hok, hC, hM, hvc, hvm, hsl, hsm, hlat⟩ := id hinv
  refine ⟨c, vn, vf, sn, sf, hok, hC, ⟨by rw [p1_n (by decide)]; exact hM.1, hM.2⟩, hvc, hvm, hsl, ⟨by rw [p1_n (by decide)]; exact hsm.1, hsm.2⟩, ?_⟩
  unfold Lat
  rw [p1_n (by decide), p1_n (by decide), p1_n (by decide), p1_n (by decide)]
  exact hlat
/-! value -/
theorem cm_value : Same B 14 58 [some (.int x), some (.int y), none] [some (.int x), some (.int y)] false := by
  intro F A G X P T hinv
  obtain ⟨c, vn, vf, sn, sf, hok, hC, hM, hvc, hvm, hsl, hsm, hlat⟩ := id hinv
  rcases argI (N := 8) (by decide) x with hx | ⟨v, hv, rfl⟩
  · refine ⟨F, A, G, X, p1 P 0 0, T, -1, fun sc d S Pz Tz Q => ?_, fun sc d S Fz Az Gz Xz Q => ?_, hinv.p0⟩
    · simp only [s14_0, s14_1, s14_4, s14_5, s14_8, s14_8N, s14_9, s14_9N, s14_10, s14_10N, s14_13, s14_14, s14_17, s14_17N, s14_18, s14_19, s14_22, rn_os, rn_on, Option.toList_some, Option.toList_none, List.cons_append, List.nil_append, wt0, wti, wtr, wtn, nb0, nb1, va_rf, eq_self, a2_s, a2_n, p1_s, p1_n, f2_s, f2_n, false_and, and_false, true_and, and_true, not_false_eq_true, ne_eq, Nat.reduceEqDiff, Nat.reduceAdd, Nat.reduceLeDiff, Nat.reduceSub, Nat.reduceMul, Bool.false_eq_true, g0_1, e3_is, c11n hx, Bool.false_eq_true, if_false]
    · simp only [s58_0, s58_1, s58_2, s58_5, s58_6, s58_9, s58_12, s58_13, s58_16, s58_17, s58_18, s58_21, s58_22, s58_23, s58_26, s58_27, s58_30, s58_32, s58_33, s58_34, s58_35, s58_36, s58_37, s58_40, s58_41, s58_44, s58_45, rn_os, rn_on, Option.toList_some, Option.toList_none, List.cons_append, List.nil_append, wt0, wti, wtr, wtn, nb0, nb1, va_rf, eq_self, a2_s, a2_n, p1_s, p1_n, f2_s, f2_n, false_and, and_false, true_and, and_true, not_false_eq_true, ne_eq, Nat.reduceEqDiff, Nat.reduceAdd, Nat.reduceLeDiff, Nat.reduceSub, Nat.reduceMul, Bool.false_eq_true, w227_0, c57, bi_f (ni8 hx), if_true, Bool.false_eq_true, if_false]
  · have ht := me_txv hv
    have hs := hvc v hv
    have hm := hvm v hv
    have hn := hs.2.1
    by_cases hy : y < 0
    · refine ⟨F, A, G, X, p1 P 0 0, T, -1, fun sc d S Pz Tz Q => ?_, fun sc d S Fz Az Gz Xz Q => ?_, hinv.p0⟩
      · simp only [s14_0, s14_1, s14_4, s14_5, s14_8, s14_8N, s14_9, s14_9N, s14_10, s14_10N, s14_13, s14_14, s14_17, s14_17N, s14_18, s14_19, s14_22, rn_os, rn_on, Option.toList_some, Option.toList_none, List.cons_append, List.nil_append, wt0, wti, wtr, wtn, nb0, nb1, va_rf, eq_self, a2_s, a2_n, p1_s, p1_n, f2_s, f2_n, false_and, and_false, true_and, and_true, not_false_eq_true, ne_eq, Nat.reduceEqDiff, Nat.reduceAdd, Nat.reduceLeDiff, Nat.reduceSub, Nat.reduceMul, Bool.false_eq_true, g0_1, e3_is, c11 hv, et_is ht, c15z ht hs hy, Bool.false_eq_true, if_false]
      · simp only [s58_0, s58_1, s58_2, s58_5, s58_6, s58_9, s58_12, s58_13, s58_16, s58_17, s58_18, s58_21, s58_22, s58_23, s58_26, s58_27, s58_30, s58_32, s58_33, s58_34, s58_35, s58_36, s58_37, s58_40, s58_41, s58_44, s58_45, rn_os, rn_on, Option.toList_some, Option.toList_none, List.cons_append, List.nil_append, wt0, wti, wtr, wtn, nb0, nb1, va_rf, eq_self, a2_s, a2_n, p1_s, p1_n, f2_s, f2_n, false_and, and_false, true_and, and_true, not_false_eq_true, ne_eq, Nat.reduceEqDiff, Nat.reduceAdd, Nat.reduceLeDiff, Nat.reduceSub, Nat.reduceMul, Bool.false_eq_true, w227_0, c57, bi_t (v8 hv), i10, if_true, hy, Bool.false_eq_true, if_false]
    · obtain ⟨j, hj, rfl⟩ := nI_of hy
      by_cases hjn : j < vn v
      · have h3 : ¬ nI (vn v) ≤ nI j := nI_ge hjn (by omega)
        obtain ⟨t1, t2⟩ := hm.2.2 j hjn
        have h4 : 64 * v + j < 512 := by omega
        refine ⟨F, A, G, X, p1 P 0 0, T, nI (vf v j), fun sc d S Pz Tz Q => ?_, fun sc d S Fz Az Gz Xz Q => ?_, hinv.p0⟩
        · simp only [s14_0, s14_1, s14_4, s14_5, s14_8, s14_8N, s14_9, s14_9N, s14_10, s14_10N, s14_13, s14_14, s14_17, s14_17N, s14_18, s14_19, s14_22, rn_os, rn_on, Option.toList_some, Option.toList_none, List.cons_append, List.nil_append, wt0, wti, wtr, wtn, nb0, nb1, va_rf, eq_self, a2_s, a2_n, p1_s, p1_n, f2_s, f2_n, false_and, and_false, true_and, and_true, not_false_eq_true, ne_eq, Nat.reduceEqDiff, Nat.reduceAdd, Nat.reduceLeDiff, Nat.reduceSub, Nat.reduceMul, Bool.false_eq_true, g0_1, e3_is, c11 hv, et_is ht, c15 ht hs hj, hjn, if_true, Bool.false_eq_true, if_false]
        · simp only [s58_0, s58_1, s58_2, s58_5, s58_6, s58_9, s58_12, s58_13, s58_16, s58_17, s58_18, s58_21, s58_22, s58_23, s58_26, s58_27, s58_30, s58_32, s58_33, s58_34, s58_35, s58_36, s58_37, s58_40, s58_41, s58_44, s58_45, rn_os, rn_on, Option.toList_some, Option.toList_none, List.cons_append, List.nil_append, wt0, wti, wtr, wtn, nb0, nb1, va_rf, eq_self, a2_s, a2_n, p1_s, p1_n, f2_s, f2_n, false_and, and_false, true_and, and_true, not_false_eq_true, ne_eq, Nat.reduceEqDiff, Nat.reduceAdd, Nat.reduceLeDiff, Nat.reduceSub, Nat.reduceMul, Bool.false_eq_true, w227_0, c57, bi_t (v8 hv), i10, hy, g227_4, g227_3, g230 hv, hm.1, h3, e64, g229 h4, t2, tb_255 t1, Bool.false_eq_true, if_false]
      · have h3 : nI (vn v) ≤ nI j := nI_le (by omega) hj
        refine ⟨F, A, G, X, p1 P 0 0, T, -1, fun sc d S Pz Tz Q => ?_, fun sc d S Fz Az Gz Xz Q => ?_, hinv.p0⟩
        · simp only [s14_0, s14_1, s14_4, s14_5, s14_8, s14_8N, s14_9, s14_9N, s14_10, s14_10N, s14_13, s14_14, s14_17, s14_17N, s14_18, s14_19, s14_22, rn_os, rn_on, Option.toList_some, Option.toList_none, List.cons_append, List.nil_append, wt0, wti, wtr, wtn, nb0, nb1, va_rf, eq_self, a2_s, a2_n, p1_s, p1_n, f2_s, f2_n, false_and, and_false, true_and, and_true, not_false_eq_true, ne_eq, Nat.reduceEqDiff, Nat.reduceAdd, Nat.reduceLeDiff, Nat.reduceSub, Nat.reduceMul, Bool.false_eq_true, g0_1, e3_is, c11 hv, et_is ht, c15 ht hs hj, hjn, Bool.false_eq_true, if_false]
        · simp only [s58_0, s58_1, s58_2, s58_5, s58_6, s58_9, s58_12, s58_13, s58_16, s58_17, s58_18, s58_21, s58_22, s58_23, s58_26, s58_27, s58_30, s58_32, s58_33, s58_34, s58_35, s58_36, s58_37, s58_40, s58_41, s58_44, s58_45, rn_os, rn_on, Option.toList_some, Option.toList_none, List.cons_append, List.nil_append, wt0, wti, wtr, wtn, nb0, nb1, va_rf, eq_self, a2_s, a2_n, p1_s, p1_n, f2_s, f2_n, false_and, and_false, true_and, and_true, not_false_eq_true, ne_eq, Nat.reduceEqDiff, Nat.reduceAdd, Nat.reduceLeDiff, Nat.reduceSub, Nat.reduceMul, Bool.false_eq_true, w227_0, c57, bi_t (v8 hv), i10, hy, g227_4, g227_3, g230 hv, hm.1, h3, if_true, Bool.false_eq_true, if_false]
/-! length -/
theorem cm_length : Same B 16 59 [some (.int x), none] [some (.int x)] false := by
  intro F A G X P T hinv
  obtain ⟨c, vn, vf, sn, sf, hok, hC, hM, hvc, hvm, hsl, hsm, hlat⟩ := id hinv
  rcases argI (N := 8) (by decide) x with hx | ⟨v, hv, rfl⟩
  · refine ⟨F, A, G, X, p1 P 0 0, T, -1, fun sc d S Pz Tz Q => ?_, fun sc d S Fz Az Gz Xz Q => ?_, hinv.p0⟩
    · simp only [s16_0, s16_1, s16_4, s16_5, s16_8, s16_8N, s16_9, s16_9N, s16_10, s16_10N, s16_13, s16_14, s16_17, s16_17N, s16_18, s16_21, rn_os, rn_on, Option.toList_some, Option.toList_none, List.cons_append, List.nil_append, wt0, wti, wtr, wtn, nb0, nb1, va_rf, eq_self, a2_s, a2_n, p1_s, p1_n, f2_s, f2_n, false_and, and_false, true_and, and_true, not_false_eq_true, ne_eq, Nat.reduceEqDiff, Nat.reduceAdd, Nat.reduceLeDiff, Nat.reduceSub, Nat.reduceMul, Bool.false_eq_true, g0_1, e3_is, c11n hx, Bool.false_eq_true, if_false]
    · simp only [s59_0, s59_1, s59_2, s59_5, s59_6, s59_9, s59_12, s59_13, s59_16, s59_17, s59_18, s59_21, s59_22, rn_os, rn_on, Option.toList_some, Option.toList_none, List.cons_append, List.nil_append, wt0, wti, wtr, wtn, nb0, nb1, va_rf, eq_self, a2_s, a2_n, p1_s, p1_n, f2_s, f2_n, false_and, and_false, true_and, and_true, not_false_eq_true, ne_eq, Nat.reduceEqDiff, Nat.reduceAdd, Nat.reduceLeDiff, Nat.reduceSub, Nat.reduceMul, Bool.false_eq_true, w227_0, c57, bi_f (ni8 hx), if_true, Bool.false_eq_true, if_false]
  · refine ⟨F, A, G, X, p1 P 0 0, T, nI (vn v), fun sc d S Pz Tz Q => ?_, fun sc d S Fz Az Gz Xz Q => ?_, hinv.p0⟩
    · simp only [s16_0, s16_1, s16_4, s16_5, s16_8, s16_8N, s16_9, s16_9N, s16_10, s16_10N, s16_13, s16_14, s16_17, s16_17N, s16_18, s16_21, rn_os, rn_on, Option.toList_some, Option.toList_none, List.cons_append, List.nil_append, wt0, wti, wtr, wtn, nb0, nb1, va_rf, eq_self, a2_s, a2_n, p1_s, p1_n, f2_s, f2_n, false_and, and_false, true_and, and_true, not_false_eq_true, ne_eq, Nat.reduceEqDiff, Nat.reduceAdd, Nat.reduceLeDiff, Nat.reduceSub, Nat.reduceMul, Bool.false_eq_true, g0_1, e3_is, c11 hv, gt_1 (me_txv hv), (hvc v hv).1, Bool.false_eq_true, if_false]
    · simp only [s59_0, s59_1, s59_2, s59_5, s59_6, s59_9, s59_12, s59_13, s59_16, s59_17, s59_18, s59_21, s59_22, rn_os, rn_on, Option.toList_some, Option.toList_none, List.cons_append, List.nil_append, wt0, wti, wtr, wtn, nb0, nb1, va_rf, eq_self, a2_s, a2_n, p1_s, p1_n, f2_s, f2_n, false_and, and_false, true_and, and_true, not_false_eq_true, ne_eq, Nat.reduceEqDiff, Nat.reduceAdd, Nat.reduceLeDiff, Nat.reduceSub, Nat.reduceMul, Bool.false_eq_true, w227_0, c57, bi_t (v8 hv), i10, g227_4, g230 hv, (hvm v hv).1, Bool.false_eq_true, if_false]
/-! clear -/
theorem cm_clear : Same B 23 63 [] [] true := by
  intro F A G X P T hinv
  obtain ⟨c, vn, vf, sn, sf, hok, hC, hM, hvc, hvm, hsl, hsm, hlat⟩ := id hinv
  refine ⟨f2 F 3 2 0, A, G, X, p1 (p1 P 0 0) 5 0, T, 0, fun sc d S Pz Tz Q => ?_, fun sc d S Fz Az Gz Xz Q => ?_, (0, 0, c.s, c.kd, c.a, c.b, c.tn, c.tf, c.F0, c.A0, c.P0, c.T0), vn, vf, sn, sf, ⟨Nat.zero_le _, Nat.zero_le _, fun i hi => absurd hi (Nat.not_lt_zero i)⟩, ⟨f2_s, fun i hi => absurd hi (Nat.not_lt_zero i)⟩, ⟨p1_s, fun i hi => absurd hi (Nat.not_lt_zero i)⟩, fun u hu => (hvc u hu).kp (f2_n (by omega)) rfl, hvm, hsl.kp (f2_n (by omega)) rfl, ⟨by rw [p1_n (by decide), p1_n (by decide)]; exact hsm.1, hsm.2⟩, ?_⟩
  · simp only [s23_0, s23_1, s23_4, s23_5, s23_8, rn_os, rn_on, Option.toList_some, Option.toList_none, List.cons_append, List.nil_append, wt0, wti, wtr, wtn, nb0, nb1, va_rf, eq_self, a2_s, a2_n, p1_s, p1_n, f2_s, f2_n, false_and, and_false, true_and, and_true, not_false_eq_true, ne_eq, Nat.reduceEqDiff, Nat.reduceAdd, Nat.reduceLeDiff, Nat.reduceSub, Nat.reduceMul, Bool.false_eq_true, g0_1, w3_2, if_true]
  · simp only [s63_0, s63_1, s63_2, s63_5, s63_6, s63_7, s63_10, rn_os, rn_on, Option.toList_some, Option.toList_none, List.cons_append, List.nil_append, wt0, wti, wtr, wtn, nb0, nb1, va_rf, eq_self, a2_s, a2_n, p1_s, p1_n, f2_s, f2_n, false_and, and_false, true_and, and_true, not_false_eq_true, ne_eq, Nat.reduceEqDiff, Nat.reduceAdd, Nat.reduceLeDiff, Nat.reduceSub, Nat.reduceMul, Bool.false_eq_true, w227_0, w227_5, if_true]
  · unfold Lat
    simp only [p1_n (show 11 ≠ 5 by decide), p1_n (show 12 ≠ 5 by decide), p1_n (show 13 ≠ 5 by decide), p1_n (show 14 ≠ 5 by decide), p1_n (show 11 ≠ 0 by decide), p1_n (show 12 ≠ 0 by decide), p1_n (show 13 ≠ 0 by decide), p1_n (show 14 ≠ 0 by decide), f2_n (show ¬ (0 = 3 ∧ 3 = 2) by decide), f2_n (show ¬ (0 = 3 ∧ 4 = 2) by decide), f2_n (show ¬ (0 = 3 ∧ 5 = 2) by decide)]
    exact hlat
end
