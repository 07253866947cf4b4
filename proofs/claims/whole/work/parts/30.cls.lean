/-! THE CLASS'S TEXTS (PatternMill$Text), at any of their places o; a text's signs stand at o + 1 -/
def cTx (F A : Nat → Nat → Int32) (o n : Nat) (f : Nat → Nat) : Prop := F o 1 = nI n ∧ n ≤ 64 ∧ ∀ j, j < n → f j < 256 ∧ A (o + 1) j = nI (f j)
theorem me_txa {o : Nat} (h : me_tx o) : me_ar (o + 1) := by
  unfold me_tx at h
  unfold me_ar
  omega
section
variable {sc : xm_Sc} {d B S : Nat} {F A : Nat → Nat → Int32} {G : Nat → Option Nat} {X : Option Nat} {P : Nat → Int32} {T : Nat → Nat → Int32} {Q : Option Value → xm_M → Prop} {r k q a n c tn vn i o w x : Nat} {s tf vf f : Nat → Nat}
theorem c15 (ho : me_tx o) (hs : cTx F A o n f) (hi : i < 2 ^ 31) : rn sc d 15 0 [some (.ref (B + o)), some (.int (nI i))] [] (mk B S F A G X P T) Q = Q (some (.int (if i < n then nI (f i) else -1))) (mk B S F A G X P T) := by
  have h0 : ¬ nI i < 0 := nI_pos hi
  have hn := hs.2.1
  by_cases h : i < n
  · have h1 : ¬ nI n ≤ nI i := nI_ge h (by omega)
    simp only [s15_0, s15_1, s15_4, s15_5, s15_6, s15_9, s15_12, s15_13, s15_16, s15_17, s15_18, s15_21, s15_22, rn_os, rn_on, Option.toList_some, Option.toList_none, List.cons_append, List.nil_append, wt0, wti, wtr, wtn, nb0, nb1, va_rf, eq_self, a2_s, a2_n, p1_s, p1_n, f2_s, f2_n, false_and, and_false, true_and, and_true, not_false_eq_true, ne_eq, Nat.reduceEqDiff, Nat.reduceAdd, Nat.reduceLeDiff, Nat.reduceSub, Nat.reduceMul, Bool.false_eq_true, h0, if_false, gt_1 ho, gt_0 ho, hs.1, h1, ga (me_txa ho) (show i < 64 by omega), (hs.2.2 i h).2, h, if_true]
  · have h1 : nI n ≤ nI i := nI_le (by omega) hi
    simp only [s15_0, s15_1, s15_4, s15_5, s15_6, s15_9, s15_12, s15_13, s15_16, s15_17, s15_18, s15_21, s15_22, rn_os, rn_on, Option.toList_some, Option.toList_none, List.cons_append, List.nil_append, wt0, wti, wtr, wtn, nb0, nb1, va_rf, eq_self, a2_s, a2_n, p1_s, p1_n, f2_s, f2_n, false_and, and_false, true_and, and_true, not_false_eq_true, ne_eq, Nat.reduceEqDiff, Nat.reduceAdd, Nat.reduceLeDiff, Nat.reduceSub, Nat.reduceMul, Bool.false_eq_true, h0, if_false, gt_1 ho, gt_0 ho, hs.1, h1, if_true, h]
theorem c15z {z : Int32} (ho : me_tx o) (hs : cTx F A o n f) (hz : z < 0) : rn sc d 15 0 [some (.ref (B + o)), some (.int z)] [] (mk B S F A G X P T) Q = Q (some (.int (-1))) (mk B S F A G X P T) := by
  simp only [s15_0, s15_1, s15_4, s15_5, s15_6, s15_9, s15_12, s15_13, s15_16, s15_17, s15_18, s15_21, s15_22, rn_os, rn_on, Option.toList_some, Option.toList_none, List.cons_append, List.nil_append, wt0, wti, wtr, wtn, nb0, nb1, va_rf, eq_self, a2_s, a2_n, p1_s, p1_n, f2_s, f2_n, false_and, and_false, true_and, and_true, not_false_eq_true, ne_eq, Nat.reduceEqDiff, Nat.reduceAdd, Nat.reduceLeDiff, Nat.reduceSub, Nat.reduceMul, Bool.false_eq_true, hz, if_true]
theorem c38 (ho : me_tx o) (hs : cTx F A o n f) (hx : x < 256) : rn sc d 38 0 [some (.ref (B + o)), some (.int (nI x)), none] [] (mk B S F A G X P T) Q = Q (some (.int (bi (lf_in f x n 0 = true)))) (mk B S F A G X P T) := by
  have hn := hs.2.1
  have hl : ∀ (m i : Nat), i + m = n → rn sc d 38 2 [some (.ref (B + o)), some (.int (nI x)), some (.int (nI i))] [] (mk B S F A G X P T) Q = Q (some (.int (bi (lf_in f x m i = true)))) (mk B S F A G X P T) := by
    intro m
    induction m with
    | zero =>
      intro i hi
      have h1 : nI n ≤ nI i := nI_le (by omega) (by omega)
      rw [s38_2]
      simp only [s38_0, s38_1, s38_3, s38_4, s38_7, s38_10, s38_11, s38_14, s38_15, s38_16, s38_17, s38_20, s38_21 nb0, s38_21 nb1, s38_21 nb_bi, s38_22, s38_25, s38_28, s38_29 nb0, s38_29 nb1, s38_29 nb_bi,  rn_os, rn_on, Option.toList_some, Option.toList_none, List.cons_append, List.nil_append, wt0, wti, wtr, wtn, nb0, nb1, va_rf, eq_self, a2_s, a2_n, p1_s, p1_n, f2_s, f2_n, false_and, and_false, true_and, and_true, not_false_eq_true, ne_eq, Nat.reduceEqDiff, Nat.reduceAdd, Nat.reduceLeDiff, Nat.reduceSub, Nat.reduceMul, Bool.false_eq_true, gt_1 ho, gt_0 ho, hs.1, h1, if_true, lf_in, bi, if_false]
    | succ m ih =>
      intro i hi
      have h1 : ¬ nI n ≤ nI i := nI_ge (by omega) (by omega)
      obtain ⟨u1, u2⟩ := hs.2.2 i (by omega)
      rw [s38_2]
      simp only [s38_0, s38_1, s38_3, s38_4, s38_7, s38_10, s38_11, s38_14, s38_15, s38_16, s38_17, s38_20, s38_21 nb0, s38_21 nb1, s38_21 nb_bi, s38_22, s38_25, s38_28, s38_29 nb0, s38_29 nb1, s38_29 nb_bi,  rn_os, rn_on, Option.toList_some, Option.toList_none, List.cons_append, List.nil_append, wt0, wti, wtr, wtn, nb0, nb1, va_rf, eq_self, a2_s, a2_n, p1_s, p1_n, f2_s, f2_n, false_and, and_false, true_and, and_true, not_false_eq_true, ne_eq, Nat.reduceEqDiff, Nat.reduceAdd, Nat.reduceLeDiff, Nat.reduceSub, Nat.reduceMul, Bool.false_eq_true, gt_1 ho, gt_0 ho, hs.1, h1, if_false, ga (me_txa ho) (show i < 64 by omega), u2, nI_eq (show f i < 2 ^ 31 by omega) (show x < 2 ^ 31 by omega), nI_1, ih (i + 1) (by omega), lf_in]
      by_cases h3 : f i = x
      · simp [h3, bi]
      · simp [h3]
  have := hl n 0 (by omega)
  rw [nI_0] at this
  rw [s38_0, s38_1]
  exact this
theorem c36 (ho : me_tx o) (hs : cTx F A o n s) (hw : me_tx w) (ht : cTx F A w tn tf) (hc : c ≤ n) : rn sc (d + 1) 36 0 [some (.ref (B + o)), some (.ref (B + w)), some (.int (nI c)), none] [] (mk B S F A G X P T) Q = Q (some (.int (oi (if tn ≤ n - c ∧ lf_eq tf s c tn 0 = true then some (c + tn) else none)))) (mk B S F A G X P T) := by
  have hn64 := hs.2.1
  have htn := ht.2.1
  by_cases h0 : tn ≤ n - c
  · have h1 : nI tn ≤ nI n - nI c := by rw [pk_sub hc]; exact nI_le h0 (by omega)
    have hl : ∀ (m i : Nat), i + m = tn → rn sc (d + 1) 36 17 [some (.ref (B + o)), some (.ref (B + w)), some (.int (nI c)), some (.int (nI i))] [] (mk B S F A G X P T) Q = Q (some (.int (oi (if lf_eq tf s c m i = true then some (c + tn) else none)))) (mk B S F A G X P T) := by
      intro m
      induction m with
      | zero =>
        intro i hi
        have h1 : nI tn ≤ nI i := nI_le (by omega) (by omega)
        rw [s36_17]
        simp only [s36_0, s36_0N, s36_1, s36_4, s36_5, s36_8, s36_9, s36_10, s36_13, s36_14, s36_15, s36_16, s36_18, s36_18N, s36_19, s36_22, s36_25, s36_26, s36_27, s36_28, s36_29, s36_32, s36_32N, s36_33, s36_34, s36_37, s36_40, s36_41, s36_42, s36_45, s36_48, s36_49, s36_49N, s36_50, s36_53, s36_54,  rn_os, rn_on, Option.toList_some, Option.toList_none, List.cons_append, List.nil_append, wt0, wti, wtr, wtn, nb0, nb1, va_rf, eq_self, a2_s, a2_n, p1_s, p1_n, f2_s, f2_n, false_and, and_false, true_and, and_true, not_false_eq_true, ne_eq, Nat.reduceEqDiff, Nat.reduceAdd, Nat.reduceLeDiff, Nat.reduceSub, Nat.reduceMul, Bool.false_eq_true, gt_1 hw, ht.1, h1, if_true, lf_eq, oi, nI_add]
      | succ m ih =>
        intro i hi
        have h1 : ¬ nI tn ≤ nI i := nI_ge (by omega) (by omega)
        obtain ⟨t1, t2⟩ := ht.2.2 i (by omega)
        obtain ⟨u1, u2⟩ := hs.2.2 (c + i) (by omega)
        rw [s36_17]
        simp only [s36_0, s36_0N, s36_1, s36_4, s36_5, s36_8, s36_9, s36_10, s36_13, s36_14, s36_15, s36_16, s36_18, s36_18N, s36_19, s36_22, s36_25, s36_26, s36_27, s36_28, s36_29, s36_32, s36_32N, s36_33, s36_34, s36_37, s36_40, s36_41, s36_42, s36_45, s36_48, s36_49, s36_49N, s36_50, s36_53, s36_54,  rn_os, rn_on, Option.toList_some, Option.toList_none, List.cons_append, List.nil_append, wt0, wti, wtr, wtn, nb0, nb1, va_rf, eq_self, a2_s, a2_n, p1_s, p1_n, f2_s, f2_n, false_and, and_false, true_and, and_true, not_false_eq_true, ne_eq, Nat.reduceEqDiff, Nat.reduceAdd, Nat.reduceLeDiff, Nat.reduceSub, Nat.reduceMul, Bool.false_eq_true, gt_1 hw, ht.1, h1, if_false, nI_add, et_is ho, et_is hw, c15 ho hs (show c + i < 2 ^ 31 by omega), c15 hw ht (show i < 2 ^ 31 by omega), show c + i < n by omega, show i < tn by omega, if_true, nI_eq (show s (c + i) < 2 ^ 31 by omega) (show tf i < 2 ^ 31 by omega), nI_1, ih (i + 1) (by omega), lf_eq]
        by_cases h4 : tf i = s (c + i)
        · simp [h4]
        · have h5 : ¬ s (c + i) = tf i := fun q => h4 q.symm
          simp [h4, h5, oi]
    simp only [s36_0, s36_0N, s36_1, s36_4, s36_5, s36_8, s36_9, s36_10, s36_13, s36_14, s36_15, s36_16, s36_18, s36_18N, s36_19, s36_22, s36_25, s36_26, s36_27, s36_28, s36_29, s36_32, s36_32N, s36_33, s36_34, s36_37, s36_40, s36_41, s36_42, s36_45, s36_48, s36_49, s36_49N, s36_50, s36_53, s36_54,  rn_os, rn_on, Option.toList_some, Option.toList_none, List.cons_append, List.nil_append, wt0, wti, wtr, wtn, nb0, nb1, va_rf, eq_self, a2_s, a2_n, p1_s, p1_n, f2_s, f2_n, false_and, and_false, true_and, and_true, not_false_eq_true, ne_eq, Nat.reduceEqDiff, Nat.reduceAdd, Nat.reduceLeDiff, Nat.reduceSub, Nat.reduceMul, Bool.false_eq_true, gt_1 hw, gt_1 ho, ht.1, hs.1, h1, if_true]
    rw [← nI_0, hl tn 0 (by omega)]
    simp [h0]
  · have h1 : ¬ nI tn ≤ nI n - nI c := by rw [pk_sub hc]; exact nI_ge (by omega) (by omega)
    simp only [s36_0, s36_0N, s36_1, s36_4, s36_5, s36_8, s36_9, s36_10, s36_13, s36_14, s36_15, s36_16, s36_18, s36_18N, s36_19, s36_22, s36_25, s36_26, s36_27, s36_28, s36_29, s36_32, s36_32N, s36_33, s36_34, s36_37, s36_40, s36_41, s36_42, s36_45, s36_48, s36_49, s36_49N, s36_50, s36_53, s36_54,  rn_os, rn_on, Option.toList_some, Option.toList_none, List.cons_append, List.nil_append, wt0, wti, wtr, wtn, nb0, nb1, va_rf, eq_self, a2_s, a2_n, p1_s, p1_n, f2_s, f2_n, false_and, and_false, true_and, and_true, not_false_eq_true, ne_eq, Nat.reduceEqDiff, Nat.reduceAdd, Nat.reduceLeDiff, Nat.reduceSub, Nat.reduceMul, Bool.false_eq_true, gt_1 hw, gt_1 ho, ht.1, hs.1, h1, if_false, h0, oi]
theorem c37 {b : Prop} [Decidable b] (ho : me_tx o) (hs : cTx F A o n s) (hw : me_tx w) (ht : cTx F A w tn tf) (hc : c ≤ n) : rn sc (d + 1) 37 0 [some (.ref (B + o)), some (.ref (B + w)), some (.int (bi b)), some (.int (nI c))] [] (mk B S F A G X P T) Q = Q (some (.int (oi (if c < n ∧ (lf_in tf (s c) tn 0 = true ↔ b) then some (c + 1) else none)))) (mk B S F A G X P T) := by
  have hn64 := hs.2.1
  by_cases h : c < n
  · have h1 : ¬ nI n ≤ nI c := nI_ge h (by omega)
    obtain ⟨u1, u2⟩ := hs.2.2 c h
    have e1 : ¬ (0 : Int32) = 1 := by decide
    simp only [s37_0, s37_1, s37_2, s37_5, s37_8, s37_8N, s37_9, s37_10, s37_11, s37_14, s37_17, s37_18, s37_21, s37_22, s37_23, s37_24, s37_27, s37_28, rn_os, rn_on, Option.toList_some, Option.toList_none, List.cons_append, List.nil_append, wt0, wti, wtr, wtn, nb0, nb1, va_rf, eq_self, a2_s, a2_n, p1_s, p1_n, f2_s, f2_n, false_and, and_false, true_and, and_true, not_false_eq_true, ne_eq, Nat.reduceEqDiff, Nat.reduceAdd, Nat.reduceLeDiff, Nat.reduceSub, Nat.reduceMul, Bool.false_eq_true, gt_1 ho, hs.1, h1, if_false, et_is ho, et_is hw, c15 ho hs (show c < 2 ^ 31 by omega), h, if_true, c38 hw ht u1, nI_1]
    by_cases h2 : lf_in tf (s c) tn 0 = true
    · by_cases h3 : b
      · simp [h2, h3, bi, oi]
      · simp [h2, h3, bi, oi]
    · by_cases h3 : b
      · simp [h2, h3, bi, oi]
      · simp [h2, h3, bi, oi]
  · have h1 : nI n ≤ nI c := nI_le (by omega) (by omega)
    simp only [s37_0, s37_1, s37_2, s37_5, s37_8, s37_8N, s37_9, s37_10, s37_11, s37_14, s37_17, s37_18, s37_21, s37_22, s37_23, s37_24, s37_27, s37_28, rn_os, rn_on, Option.toList_some, Option.toList_none, List.cons_append, List.nil_append, wt0, wti, wtr, wtn, nb0, nb1, va_rf, eq_self, a2_s, a2_n, p1_s, p1_n, f2_s, f2_n, false_and, and_false, true_and, and_true, not_false_eq_true, ne_eq, Nat.reduceEqDiff, Nat.reduceAdd, Nat.reduceLeDiff, Nat.reduceSub, Nat.reduceMul, Bool.false_eq_true, gt_1 ho, hs.1, h1, if_true, h, if_false, oi]
theorem c39 (ho : me_tx o) (hs : cTx F A o n s) (hw : me_tx w) (ht : cTx F A w tn tf) (hc : c ≤ n) : rn sc (d + 1) 39 0 [some (.ref (B + o)), some (.ref (B + w)), some (.int (nI c)), none] [] (mk B S F A G X P T) Q = Q (some (.int (oi (if c < lf_run (fun i => lf_in tf (s i) tn 0) (n - c) c then some (lf_run (fun i => lf_in tf (s i) tn 0) (n - c) c) else none)))) (mk B S F A G X P T) := by
  have hn64 := hs.2.1
  have fin : ∀ i, i ≤ n → c ≤ i → rn sc (d + 1) 39 29 [some (.ref (B + o)), some (.ref (B + w)), some (.int (nI c)), some (.int (nI i))] [] (mk B S F A G X P T) Q = Q (some (.int (oi (if c < i then some i else none)))) (mk B S F A G X P T) := by
    intro i hi hci
    by_cases h : c < i
    · have h1 : ¬ nI i ≤ nI c := nI_ge h (by omega)
      simp only [s39_0, s39_1, s39_2, s39_3, s39_4, s39_7, s39_10, s39_10N, s39_11, s39_12, s39_15, s39_16, s39_17, s39_20, s39_23, s39_26, s39_29, s39_30, s39_31, s39_34, s39_35, s39_38, s39_39, rn_os, rn_on, Option.toList_some, Option.toList_none, List.cons_append, List.nil_append, wt0, wti, wtr, wtn, nb0, nb1, va_rf, eq_self, a2_s, a2_n, p1_s, p1_n, f2_s, f2_n, false_and, and_false, true_and, and_true, not_false_eq_true, ne_eq, Nat.reduceEqDiff, Nat.reduceAdd, Nat.reduceLeDiff, Nat.reduceSub, Nat.reduceMul, Bool.false_eq_true, h1, if_false, h, if_true, oi]
    · have h1 : nI i ≤ nI c := nI_le (by omega) (by omega)
      simp only [s39_0, s39_1, s39_2, s39_3, s39_4, s39_7, s39_10, s39_10N, s39_11, s39_12, s39_15, s39_16, s39_17, s39_20, s39_23, s39_26, s39_29, s39_30, s39_31, s39_34, s39_35, s39_38, s39_39, rn_os, rn_on, Option.toList_some, Option.toList_none, List.cons_append, List.nil_append, wt0, wti, wtr, wtn, nb0, nb1, va_rf, eq_self, a2_s, a2_n, p1_s, p1_n, f2_s, f2_n, false_and, and_false, true_and, and_true, not_false_eq_true, ne_eq, Nat.reduceEqDiff, Nat.reduceAdd, Nat.reduceLeDiff, Nat.reduceSub, Nat.reduceMul, Bool.false_eq_true, h1, if_true, h, if_false, oi]
  have hl : ∀ (m i : Nat), i + m = n → c ≤ i → rn sc (d + 1) 39 2 [some (.ref (B + o)), some (.ref (B + w)), some (.int (nI c)), some (.int (nI i))] [] (mk B S F A G X P T) Q = Q (some (.int (oi (if c < lf_run (fun i => lf_in tf (s i) tn 0) m i then some (lf_run (fun i => lf_in tf (s i) tn 0) m i) else none)))) (mk B S F A G X P T) := by
    intro m
    induction m with
    | zero =>
      intro i hi hci
      have h1 : nI n ≤ nI i := nI_le (by omega) (by omega)
      rw [s39_2]
      simp only [s39_0, s39_1, s39_3, s39_4, s39_7, s39_10, s39_10N, s39_11, s39_12, s39_15, s39_16, s39_17, s39_20, s39_23, s39_26, s39_30, s39_31, s39_34, s39_35, s39_38, s39_39,  rn_os, rn_on, Option.toList_some, Option.toList_none, List.cons_append, List.nil_append, wt0, wti, wtr, wtn, nb0, nb1, va_rf, eq_self, a2_s, a2_n, p1_s, p1_n, f2_s, f2_n, false_and, and_false, true_and, and_true, not_false_eq_true, ne_eq, Nat.reduceEqDiff, Nat.reduceAdd, Nat.reduceLeDiff, Nat.reduceSub, Nat.reduceMul, Bool.false_eq_true, gt_1 ho, hs.1, h1, if_true, fin i (by omega) hci, lf_run]
      try rfl
    | succ m ih =>
      intro i hi hci
      have h1 : ¬ nI n ≤ nI i := nI_ge (by omega) (by omega)
      obtain ⟨u1, u2⟩ := hs.2.2 i (by omega)
      rw [s39_2]
      simp only [s39_0, s39_1, s39_3, s39_4, s39_7, s39_10, s39_10N, s39_11, s39_12, s39_15, s39_16, s39_17, s39_20, s39_23, s39_26, s39_30, s39_31, s39_34, s39_35, s39_38, s39_39,  rn_os, rn_on, Option.toList_some, Option.toList_none, List.cons_append, List.nil_append, wt0, wti, wtr, wtn, nb0, nb1, va_rf, eq_self, a2_s, a2_n, p1_s, p1_n, f2_s, f2_n, false_and, and_false, true_and, and_true, not_false_eq_true, ne_eq, Nat.reduceEqDiff, Nat.reduceAdd, Nat.reduceLeDiff, Nat.reduceSub, Nat.reduceMul, Bool.false_eq_true, gt_1 ho, gt_0 ho, hs.1, h1, if_false, ga (me_txa ho) (show i < 64 by omega), u2, et_is hw, c38 hw ht u1, fin i (by omega) hci, nI_1, ih (i + 1) (by omega) (by omega), lf_run]
      by_cases h3 : lf_in tf (s i) tn 0 = true
      · simp [h3, bi]
      · simp [h3, bi]
  rw [s39_0, s39_1]
  exact hl (n - c) c (by omega) (Nat.le_refl _)
theorem c40 (ho : me_tx o) (hs : cTx F A o n s) (hw : me_tx w) (ht : cTx F A w tn tf) (hc : c ≤ n) : rn sc (d + 1) 40 0 [some (.ref (B + o)), some (.ref (B + w)), some (.int (nI c)), none] [] (mk B S F A G X P T) Q = Q (some (.int (oi (if lf_run (fun i => !lf_in tf (s i) tn 0) (n - c) c < n then some (lf_run (fun i => !lf_in tf (s i) tn 0) (n - c) c) else none)))) (mk B S F A G X P T) := by
  have hn64 := hs.2.1
  have hl : ∀ (m i : Nat), i + m = n → rn sc (d + 1) 40 2 [some (.ref (B + o)), some (.ref (B + w)), some (.int (nI c)), some (.int (nI i))] [] (mk B S F A G X P T) Q = Q (some (.int (oi (if lf_run (fun i => !lf_in tf (s i) tn 0) m i < n then some (lf_run (fun i => !lf_in tf (s i) tn 0) m i) else none)))) (mk B S F A G X P T) := by
    intro m
    induction m with
    | zero =>
      intro i hi
      have h1 : nI n ≤ nI i := nI_le (by omega) (by omega)
      rw [s40_2]
      simp only [s40_0, s40_1, s40_3, s40_4, s40_7, s40_10, s40_10N, s40_11, s40_12, s40_15, s40_16, s40_17, s40_20, s40_23, s40_24, s40_25, s40_28, s40_31, s40_32,  rn_os, rn_on, Option.toList_some, Option.toList_none, List.cons_append, List.nil_append, wt0, wti, wtr, wtn, nb0, nb1, va_rf, eq_self, a2_s, a2_n, p1_s, p1_n, f2_s, f2_n, false_and, and_false, true_and, and_true, not_false_eq_true, ne_eq, Nat.reduceEqDiff, Nat.reduceAdd, Nat.reduceLeDiff, Nat.reduceSub, Nat.reduceMul, Bool.false_eq_true, gt_1 ho, hs.1, h1, if_true]
      rw [show lf_run (fun i => !lf_in tf (s i) tn 0) 0 i = i from rfl, if_neg (show ¬ i < n by omega)]
      rfl
    | succ m ih =>
      intro i hi
      have h1 : ¬ nI n ≤ nI i := nI_ge (by omega) (by omega)
      obtain ⟨u1, u2⟩ := hs.2.2 i (by omega)
      rw [s40_2]
      simp only [s40_0, s40_1, s40_3, s40_4, s40_7, s40_10, s40_10N, s40_11, s40_12, s40_15, s40_16, s40_17, s40_20, s40_23, s40_24, s40_25, s40_28, s40_31, s40_32,  rn_os, rn_on, Option.toList_some, Option.toList_none, List.cons_append, List.nil_append, wt0, wti, wtr, wtn, nb0, nb1, va_rf, eq_self, a2_s, a2_n, p1_s, p1_n, f2_s, f2_n, false_and, and_false, true_and, and_true, not_false_eq_true, ne_eq, Nat.reduceEqDiff, Nat.reduceAdd, Nat.reduceLeDiff, Nat.reduceSub, Nat.reduceMul, Bool.false_eq_true, gt_1 ho, gt_0 ho, hs.1, h1, if_false, ga (me_txa ho) (show i < 64 by omega), u2, et_is hw, c38 hw ht u1, nI_1, ih (i + 1) (by omega), lf_run]
      by_cases h3 : lf_in tf (s i) tn 0 = true
      · have : i < n := by omega
        simp [h3, bi, this, oi]
      · simp [h3, bi]
  rw [s40_0, s40_1]
  exact hl (n - c) c (by omega)
theorem c34 (ho : me_tx o) (hs : cTx F A o n s) (hc : c ≤ n) : rn sc (d + 1) 34 0 [some (.ref (B + o)), some (.int (nI c)), none, none] [] (mk B S F A G X P T) Q = Q (some (.int (oi (lf_bal s c (n - c) c 0)))) (mk B S F A G X P T) := by
  have hn64 := hs.2.1
  have hl : ∀ (m p dp : Nat), p + m = n → c ≤ p → dp ≤ p → rn sc (d + 1) 34 4 [some (.ref (B + o)), some (.int (nI c)), some (.int (nI dp)), some (.int (nI p))] [] (mk B S F A G X P T) Q = Q (some (.int (oi (lf_bal s c m p dp)))) (mk B S F A G X P T) := by
    intro m
    induction m with
    | zero =>
      intro p dp hp hcp hdp
      have h1 : nI n ≤ nI p := nI_le (by omega) (by omega)
      rw [s34_4]
      simp only [s34_0, s34_1, s34_2, s34_3, s34_5, s34_6, s34_9, s34_12, s34_13, s34_14, s34_17, s34_19, s34_22, s34_25, s34_28, s34_29, s34_30, s34_33, s34_35, s34_38, s34_41, s34_42, s34_45, s34_46, s34_47, s34_48, s34_51, s34_52, s34_53, s34_54, s34_55, s34_58, s34_61, s34_62,  rn_os, rn_on, Option.toList_some, Option.toList_none, List.cons_append, List.nil_append, wt0, wti, wtr, wtn, nb0, nb1, va_rf, eq_self, a2_s, a2_n, p1_s, p1_n, f2_s, f2_n, false_and, and_false, true_and, and_true, not_false_eq_true, ne_eq, Nat.reduceEqDiff, Nat.reduceAdd, Nat.reduceLeDiff, Nat.reduceSub, Nat.reduceMul, Bool.false_eq_true, gt_1 ho, hs.1, h1, if_true, lf_bal, oi]
    | succ m ih =>
      intro p dp hp hcp hdp
      have h1 : ¬ nI n ≤ nI p := nI_ge (by omega) (by omega)
      obtain ⟨u1, u2⟩ := hs.2.2 p (by omega)
      have mid : ∀ dq : Nat, dq ≤ p + 1 → rn sc (d + 1) 34 41 [some (.ref (B + o)), some (.int (nI c)), some (.int (nI dq)), some (.int (nI p))] [] (mk B S F A G X P T) Q = Q (some (.int (oi (if dq = 0 ∧ c < p + 1 then some (p + 1) else lf_bal s c m (p + 1) dq)))) (mk B S F A G X P T) := by
        intro dq hdq
        have g0 : 0 ≤ nI dq := nI_pos' (by omega)
        have z0 : (0 : Int32) ≤ 0 := by decide
        have h3 : c < p + 1 := by omega
        by_cases h2 : dq = 0
        · subst h2
          simp only [s34_0, s34_1, s34_2, s34_3, s34_5, s34_6, s34_9, s34_12, s34_13, s34_14, s34_17, s34_19, s34_22, s34_25, s34_28, s34_29, s34_30, s34_33, s34_35, s34_38, s34_41, s34_42, s34_45, s34_46, s34_47, s34_48, s34_51, s34_52, s34_53, s34_54, s34_55, s34_58, s34_61, s34_62,  rn_os, rn_on, Option.toList_some, Option.toList_none, List.cons_append, List.nil_append, wt0, wti, wtr, wtn, nb0, nb1, va_rf, eq_self, a2_s, a2_n, p1_s, p1_n, f2_s, f2_n, false_and, and_false, true_and, and_true, not_false_eq_true, ne_eq, Nat.reduceEqDiff, Nat.reduceAdd, Nat.reduceLeDiff, Nat.reduceSub, Nat.reduceMul, Bool.false_eq_true, nI_0, z0, if_true, not_true_eq_false, if_false, nI_1, h3, oi]
        · have h4 : ¬ nI dq = 0 := nI_ne0 (by omega) (by omega)
          simp only [s34_0, s34_1, s34_2, s34_3, s34_5, s34_6, s34_9, s34_12, s34_13, s34_14, s34_17, s34_19, s34_22, s34_25, s34_28, s34_29, s34_30, s34_33, s34_35, s34_38, s34_41, s34_42, s34_45, s34_46, s34_47, s34_48, s34_51, s34_52, s34_53, s34_54, s34_55, s34_58, s34_61, s34_62,  rn_os, rn_on, Option.toList_some, Option.toList_none, List.cons_append, List.nil_append, wt0, wti, wtr, wtn, nb0, nb1, va_rf, eq_self, a2_s, a2_n, p1_s, p1_n, f2_s, f2_n, false_and, and_false, true_and, and_true, not_false_eq_true, ne_eq, Nat.reduceEqDiff, Nat.reduceAdd, Nat.reduceLeDiff, Nat.reduceSub, Nat.reduceMul, Bool.false_eq_true, g0, if_true, h4, h2, if_false, nI_1, ih (p + 1) dq (by omega) (by omega) (by omega)]
      have n1 : ¬ (41 : Int32) = 40 := by decide
      have hpn : p < n := by omega
      rw [s34_4]
      by_cases e1 : s p = 40
      · have k1 : nI (s p) = 40 := by rw [e1]; rfl
        simp only [s34_0, s34_1, s34_2, s34_3, s34_5, s34_6, s34_9, s34_12, s34_13, s34_14, s34_17, s34_19, s34_22, s34_25, s34_28, s34_29, s34_30, s34_33, s34_35, s34_38, s34_42, s34_45, s34_46, s34_47, s34_48, s34_51, s34_52, s34_53, s34_54, s34_55, s34_58, s34_61, s34_62,  rn_os, rn_on, Option.toList_some, Option.toList_none, List.cons_append, List.nil_append, wt0, wti, wtr, wtn, nb0, nb1, va_rf, eq_self, a2_s, a2_n, p1_s, p1_n, f2_s, f2_n, false_and, and_false, true_and, and_true, not_false_eq_true, ne_eq, Nat.reduceEqDiff, Nat.reduceAdd, Nat.reduceLeDiff, Nat.reduceSub, Nat.reduceMul, Bool.false_eq_true, gt_1 ho, hs.1, h1, if_false, et_is ho, c15 ho hs (show p < 2 ^ 31 by omega), hpn, if_true, k1, not_true_eq_false, nI_1, mid (dp + 1) (by omega)]
        rw [show lf_bal s c (m + 1) p dp = lf_bal s c m (p + 1) (dp + 1) by simp [lf_bal, e1]]
      · have k1 : ¬ nI (s p) = 40 := fun h => e1 ((nI_eq (b := 40) (by omega) (by decide)).mp h)
        by_cases e2 : s p = 41
        · have k2 : nI (s p) = 41 := by rw [e2]; rfl
          by_cases e3 : dp = 0
          · subst e3
            have z : ¬ (0 : Int32) ≤ nI 0 + -1 := by decide
            simp only [s34_0, s34_1, s34_2, s34_3, s34_5, s34_6, s34_9, s34_12, s34_13, s34_14, s34_17, s34_19, s34_22, s34_25, s34_28, s34_29, s34_30, s34_33, s34_35, s34_38, s34_42, s34_45, s34_46, s34_47, s34_48, s34_51, s34_52, s34_53, s34_54, s34_55, s34_58, s34_61, s34_62,  rn_os, rn_on, Option.toList_some, Option.toList_none, List.cons_append, List.nil_append, wt0, wti, wtr, wtn, nb0, nb1, va_rf, eq_self, a2_s, a2_n, p1_s, p1_n, f2_s, f2_n, false_and, and_false, true_and, and_true, not_false_eq_true, ne_eq, Nat.reduceEqDiff, Nat.reduceAdd, Nat.reduceLeDiff, Nat.reduceSub, Nat.reduceMul, Bool.false_eq_true, gt_1 ho, hs.1, h1, if_false, et_is ho, c15 ho hs (show p < 2 ^ 31 by omega), hpn, if_true, k2, n1, not_true_eq_false, not_false_eq_true]
            rw [show lf_bal s c (m + 1) p 0 = none by simp [lf_bal, e2]]
            simp only [s34_0, s34_1, s34_2, s34_3, s34_5, s34_6, s34_9, s34_12, s34_13, s34_14, s34_17, s34_19, s34_22, s34_25, s34_28, s34_29, s34_30, s34_33, s34_35, s34_38, s34_41, s34_42, s34_45, s34_46, s34_47, s34_48, s34_51, s34_52, s34_53, s34_54, s34_55, s34_58, s34_61, s34_62,  rn_os, rn_on, Option.toList_some, Option.toList_none, List.cons_append, List.nil_append, wt0, wti, wtr, wtn, nb0, nb1, va_rf, eq_self, a2_s, a2_n, p1_s, p1_n, f2_s, f2_n, false_and, and_false, true_and, and_true, not_false_eq_true, ne_eq, Nat.reduceEqDiff, Nat.reduceAdd, Nat.reduceLeDiff, Nat.reduceSub, Nat.reduceMul, Bool.false_eq_true, z, if_false, oi]
          · obtain ⟨dr, rfl⟩ : ∃ dr, dp = dr + 1 := ⟨dp - 1, by omega⟩
            simp only [s34_0, s34_1, s34_2, s34_3, s34_5, s34_6, s34_9, s34_12, s34_13, s34_14, s34_17, s34_19, s34_22, s34_25, s34_28, s34_29, s34_30, s34_33, s34_35, s34_38, s34_42, s34_45, s34_46, s34_47, s34_48, s34_51, s34_52, s34_53, s34_54, s34_55, s34_58, s34_61, s34_62,  rn_os, rn_on, Option.toList_some, Option.toList_none, List.cons_append, List.nil_append, wt0, wti, wtr, wtn, nb0, nb1, va_rf, eq_self, a2_s, a2_n, p1_s, p1_n, f2_s, f2_n, false_and, and_false, true_and, and_true, not_false_eq_true, ne_eq, Nat.reduceEqDiff, Nat.reduceAdd, Nat.reduceLeDiff, Nat.reduceSub, Nat.reduceMul, Bool.false_eq_true, gt_1 ho, hs.1, h1, if_false, et_is ho, c15 ho hs (show p < 2 ^ 31 by omega), hpn, if_true, k2, n1, not_true_eq_false, not_false_eq_true, pk_m1, mid dr (by omega)]
            rw [show lf_bal s c (m + 1) p (dr + 1) = if dr = 0 ∧ c < p + 1 then some (p + 1) else lf_bal s c m (p + 1) dr by simp [lf_bal, e2]]
        · have k2 : ¬ nI (s p) = 41 := fun h => e2 ((nI_eq (b := 41) (by omega) (by decide)).mp h)
          simp only [s34_0, s34_1, s34_2, s34_3, s34_5, s34_6, s34_9, s34_12, s34_13, s34_14, s34_17, s34_19, s34_22, s34_25, s34_28, s34_29, s34_30, s34_33, s34_35, s34_38, s34_42, s34_45, s34_46, s34_47, s34_48, s34_51, s34_52, s34_53, s34_54, s34_55, s34_58, s34_61, s34_62,  rn_os, rn_on, Option.toList_some, Option.toList_none, List.cons_append, List.nil_append, wt0, wti, wtr, wtn, nb0, nb1, va_rf, eq_self, a2_s, a2_n, p1_s, p1_n, f2_s, f2_n, false_and, and_false, true_and, and_true, not_false_eq_true, ne_eq, Nat.reduceEqDiff, Nat.reduceAdd, Nat.reduceLeDiff, Nat.reduceSub, Nat.reduceMul, Bool.false_eq_true, gt_1 ho, hs.1, h1, if_false, et_is ho, c15 ho hs (show p < 2 ^ 31 by omega), hpn, if_true, k1, k2, not_false_eq_true, mid dp (by omega)]
          rw [show lf_bal s c (m + 1) p dp = if dp = 0 ∧ c < p + 1 then some (p + 1) else lf_bal s c m (p + 1) dp by simp [lf_bal, e1, e2]]
  have := hl (n - c) c 0 (by omega) (Nat.le_refl _) (by omega)
  rw [nI_0] at this
  rw [s34_0, s34_1, s34_2, s34_3]
  exact this
theorem cp_ar {o1 o2 sp dp m : Nat} (h1 : me_ar o1) (h2 : me_ar o2) (h3 : sp + m ≤ 64) (h4 : dp + m ≤ 64) : hp_cp (mk B S F A G X P T) (B + o1) (nI sp) (B + o2) (nI dp) (nI m) = some (mk B S F (a2 A o2 (va_cpy (A o1) (A o2) sp dp m)) G X P T) := by
  unfold hp_cp
  rw [if_pos ⟨nI_pos (by omega), nI_pos (by omega), nI_pos (by omega)⟩, me_arr h1, me_arr h2]
  dsimp only
  rw [nI_clamp (by omega), nI_clamp (by omega), nI_clamp (by omega), if_pos ⟨rfl, rfl, h3, h4⟩, me_arS h2]
/-- becomePart(other, from, to) -/
theorem c13 {p e : Nat} (ho : me_tx o) (hw : me_tx w) (hs : cTx F A w n s) (h1 : p ≤ e) (h2 : e ≤ n) : rn sc (d + 1) 13 0 [some (.ref (B + o)), some (.ref (B + w)), some (.int (nI p)), some (.int (nI e))] [] (mk B S F A G X P T) Q = Q none (mk B S (f2 F o 1 (nI (e - p))) (a2 A (o + 1) (va_cpy (A (w + 1)) (A (o + 1)) p 0 (e - p))) G X P T) := by
  have hn64 := hs.2.1
  have g1 : ¬ nI p < 0 := nI_pos (by omega)
  have g2 : ¬ nI e < nI p := nI_nlt h1 (by omega)
  have g3 : nI e ≤ nI n := nI_le h2 (by omega)
  have hcp : hp_cp (mk B S F A G X P T) (B + (w + 1)) (nI p) (B + (o + 1)) 0 (nI (e - p)) = some (mk B S F (a2 A (o + 1) (va_cpy (A (w + 1)) (A (o + 1)) p 0 (e - p))) G X P T) := by
    have h9 := cp_ar (B := B) (S := S) (F := F) (A := A) (G := G) (X := X) (P := P) (T := T) (sp := p) (dp := 0) (m := e - p) (me_txa hw) (me_txa ho) (by omega) (by omega)
    rw [nI_0] at h9
    exact h9
  simp only [s13_0, s13_1, s13_4, s13_5, s13_6, s13_9, s13_10, s13_10N, s13_11, s13_14, s13_17, s13_18, s13_18N, s13_19, s13_22, s13_23, s13_24, s13_27, s13_28, s13_29, s13_30, s13_31, s13_34, s13_35, s13_36, s13_37, s13_38, s13_41, rn_os, rn_on, Option.toList_some, Option.toList_none, List.cons_append, List.nil_append, wt0, wti, wtr, wtn, nb0, nb1, va_rf, eq_self, a2_s, a2_n, p1_s, p1_n, f2_s, f2_n, false_and, and_false, true_and, and_true, not_false_eq_true, ne_eq, Nat.reduceEqDiff, Nat.reduceAdd, Nat.reduceLeDiff, Nat.reduceSub, Nat.reduceMul, Bool.false_eq_true, g1, g2, if_false, gt_1 hw, gt_0 hw, gt_0 ho, hs.1, g3, if_true, pk_sub h1, hcp, Option.isSome_some, wt_1 ho]
theorem c12 (ho : me_tx o) (hw : me_tx w) (hs : cTx F A w n s) : rn sc (d + 2) 12 0 [some (.ref (B + o)), some (.ref (B + w))] [] (mk B S F A G X P T) Q = Q none (mk B S (f2 F o 1 (nI n)) (a2 A (o + 1) (va_cpy (A (w + 1)) (A (o + 1)) 0 0 n)) G X P T) := by
  have h := fun Q => c13 (sc := sc) (d := d) (B := B) (S := S) (G := G) (X := X) (P := P) (T := T) (Q := Q) (p := 0) (e := n) ho hw hs (Nat.zero_le _) (Nat.le_refl _)
  rw [nI_0] at h
  simp only [s12_0, s12_1, s12_1N, s12_2, s12_3, s12_3N, s12_4, s12_7, s12_7N, s12_10, rn_os, rn_on, Option.toList_some, Option.toList_none, List.cons_append, List.nil_append, wt0, wti, wtr, wtn, nb0, nb1, va_rf, eq_self, a2_s, a2_n, p1_s, p1_n, f2_s, f2_n, false_and, and_false, true_and, and_true, not_false_eq_true, ne_eq, Nat.reduceEqDiff, Nat.reduceAdd, Nat.reduceLeDiff, Nat.reduceSub, Nat.reduceMul, Bool.false_eq_true, gt_1 hw, hs.1, et_is ho, h, Nat.sub_zero]
end
