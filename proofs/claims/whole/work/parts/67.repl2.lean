section
variable {B : Nat} {a : Int32}
theorem cm_replace : Same B 52 83 [some (.int a), none] [some (.int a), none, none] false := by
  intro F A G X P T hinv
  obtain ⟨c, vn, vf, sn, sf, hok, hC, hM, hvc, hvm, hsl, hsm, hlat⟩ := id hinv
  rcases argI (N := 8) (by decide) a with hx | ⟨v, hv, rfl⟩
  · refine ⟨F, A, G, X, p1 P 0 0, T, 0, fun sc d S Pz Tz Q => ?_, fun sc d S Fz Az Gz Xz Q => c83_f (ni8 hx), hinv.p0⟩
    simp only [s52_0, s52_1, s52_4, s52_5, s52_8, s52_8N, s52_9, s52_9N, s52_10, s52_10N, s52_13, s52_14, s52_17, s52_18, s52_21, s52_21N, s52_22, s52_23, s52_26, s52_27, s52_30, s52_31, s52_34, s52_34N, s52_37, s52_40, s52_41 nb0, s52_41 nb1, s52_41 nb_bi, s52_42, s52_43, s52_46, s52_47, s52_50, s52_51 nb0, s52_51 nb1, s52_51 nb_bi, rn_os, rn_on, Option.toList_some, Option.toList_none, List.cons_append, List.nil_append, wt0, wti, wtr, wtn, nb0, nb1, va_rf, eq_self, a2_s, a2_n, p1_s, p1_n, f2_s, f2_n, false_and, and_false, true_and, and_true, not_false_eq_true, ne_eq, Nat.reduceEqDiff, Nat.reduceAdd, Nat.reduceLeDiff, Nat.reduceSub, Nat.reduceMul, Bool.false_eq_true, g0_1, e3_is, c11n hx, Bool.false_eq_true, if_false]
  have ht := me_txv hv
  have hs := hvc v hv
  have hm := hvm v hv
  have hn64 := hs.2.1
  have hs64 := hsl.2.1
  have none' : F 0 3 = -1 → ∀ (sc : xm_Sc) (d S : Nat) (Pz : Nat → Int32) (Tz : Nat → Nat → Int32) (Q : Option Value → xm_M → Prop), rn sc (d + 9) 52 0 [some (.ref B), some (.int (nI v)), none] [] (mk B S F A G X Pz Tz) Q = Q (some (.int 0)) (mk B S F A G X Pz Tz) := by
    intro h3 sc d S Pz Tz Q
    simp only [s52_0, s52_1, s52_4, s52_5, s52_8, s52_8N, s52_9, s52_9N, s52_10, s52_10N, s52_13, s52_14, s52_17, s52_18, s52_21, s52_21N, s52_22, s52_23, s52_26, s52_27, s52_30, s52_31, s52_34, s52_34N, s52_37, s52_40, s52_41 nb0, s52_41 nb1, s52_41 nb_bi, s52_42, s52_43, s52_46, s52_47, s52_50, s52_51 nb0, s52_51 nb1, s52_51 nb_bi, rn_os, rn_on, Option.toList_some, Option.toList_none, List.cons_append, List.nil_append, wt0, wti, wtr, wtn, nb0, nb1, va_rf, eq_self, a2_s, a2_n, p1_s, p1_n, f2_s, f2_n, false_and, and_false, true_and, and_true, not_false_eq_true, ne_eq, Nat.reduceEqDiff, Nat.reduceAdd, Nat.reduceLeDiff, Nat.reduceSub, Nat.reduceMul, Bool.false_eq_true, g0_1, e3_is, c11 hv, g0_3, h3, if_true]
  rcases hlat with ⟨l1, l2, l3, l4⟩ | ⟨l1, l2, l3, l4, ⟨l5, l6⟩ | ⟨x, y, hxy, hy, l5, l6⟩⟩
  · exact ⟨F, A, G, X, p1 P 0 0, T, 0, fun sc d S Pz Tz Q => none' l2 sc d S Pz Tz Q, fun sc d S Fz Az Gz Xz Q => c83_g hv (Or.inl l1), hinv.p0⟩
  · exact ⟨F, A, G, X, p1 P 0 0, T, 0, fun sc d S Pz Tz Q => none' (l2.trans l5) sc d S Pz Tz Q, fun sc d S Fz Az Gz Xz Q => c83_g hv (Or.inr ⟨l1, l6⟩), hinv.p0⟩
  have f3 := l2.trans l5
  have f4 := l3.trans l6
  have g0 : ¬ nI x = -1 := nI_m (by omega)
  by_cases hle : y ≤ vn v ∧ x + sn + (vn v - y) ≤ 64
  · obtain ⟨hyn, hle⟩ := hle
    have hP : ∀ k, k ≠ 0 → p1 P 0 0 k = P k := fun k hk => p1_n hk
    generalize hT1 : a2 T 236 (va_cpy (T 229) (T 236) (64 * v + y) 0 (vn v - y)) = T1
    have t1 : ∀ o, o ≠ 236 → T1 o = T o := fun o ho => by rw [← hT1, a2_n ho]
    have t1' : ∀ j, j < vn v - y → T1 236 j = T 229 (64 * v + y + j) := fun j hj => by
      rw [← hT1, a2_s]
      simp [va_cpy, hj]
    generalize hT2 : a2 T1 229 (va_cpy (T1 228) (T1 229) 0 (64 * v + x) sn) = T2
    have t2 : ∀ o, o ≠ 229 → T2 o = T1 o := fun o ho => by rw [← hT2, a2_n ho]
    generalize hT3 : a2 T2 229 (va_cpy (T2 236) (T2 229) 0 (64 * v + x + sn) (vn v - y)) = T3
    have t3 : ∀ o, o ≠ 229 → T3 o = T2 o := fun o ho => by rw [← hT3, a2_n ho]
    have hbyte : ∀ j, j < vn v - y → T2 236 j = tb (vf v (y + j)) := fun j hj => by
      rw [t2 236 (by decide), t1' j hj, Nat.add_assoc]
      exact (hm.2.2 (y + j) (by omega)).2
    refine ⟨f2 (f2 F (6 + 2 * v) 1 (nI (x + sn + (vn v - y)))) 1 1 0, exA A v (vn v) x y sn, G, X, p1 (p1 P 0 0) 2 0, a2 T3 230 (upd (T3 230) v (nI (x + sn + (vn v - y)))), 1, fun sc d S Pz Tz Q => ?_, fun sc d S Fz Az Gz Xz Q => ?_, hinv.var (m := x + sn + (vn v - y)) (f := fun j => if j < x then vf v j else if j < x + sn then sf (j - x) else vf v (y + (j - (x + sn)))) hv hle (fun o k h1 h2 => by rw [f2_n (by omega), f2_n (by omega)]) (by rw [f2_n (by omega), f2_s]) f2_s (fun o h => by rw [exA, a2_n h]) (fun j hj => ?_) (fun k h1 h2 => by rw [p1_n h2, p1_n h1]) p1_s (fun o h1 h2 h3 => by rw [a2_n h2, t3 o h1, t2 o h1, t1 o h3]) (by rw [a2_s]; simp [upd]) (fun u hu => by rw [a2_s]; simp [upd, hu]; rw [t3 230 (by decide), t2 230 (by decide), t1 230 (by decide)]) (fun j hj => ?_) (fun i hi => ?_)⟩
    · simp only [s52_0, s52_1, s52_4, s52_5, s52_8, s52_8N, s52_9, s52_9N, s52_10, s52_10N, s52_13, s52_14, s52_17, s52_18, s52_21, s52_21N, s52_22, s52_23, s52_26, s52_27, s52_30, s52_31, s52_34, s52_34N, s52_37, s52_40, s52_41 nb0, s52_41 nb1, s52_41 nb_bi, s52_42, s52_43, s52_46, s52_47, s52_50, s52_51 nb0, s52_51 nb1, s52_51 nb_bi, rn_os, rn_on, Option.toList_some, Option.toList_none, List.cons_append, List.nil_append, wt0, wti, wtr, wtn, nb0, nb1, va_rf, eq_self, a2_s, a2_n, p1_s, p1_n, f2_s, f2_n, false_and, and_false, true_and, and_true, not_false_eq_true, ne_eq, Nat.reduceEqDiff, Nat.reduceAdd, Nat.reduceLeDiff, Nat.reduceSub, Nat.reduceMul, Bool.false_eq_true, g0_0, g0_1, e3_is, c11 hv, g0_3, g0_4, f3, f4, g0, et_is ht, c53 hv hs hsl hxy hyn hle, i10, not_false_eq_true, if_true, w1_1, Bool.false_eq_true, if_false]
    · have q1 := c83_1 (sc := sc) (d := d + 9) (B := B) (S := S) (F := Fz) (A := Az) (G := Gz) (X := Xz) (P := p1 P 0 0) (Q := Q) hn64 (by rw [hP 13 (by decide)]; exact l6) hyn hv hm (vn v - y) 0 (by omega)
      rw [cpy_0, a2_id, hT1] at q1
      have hsl1 : mSl (p1 P 0 0) T1 sn sf := ⟨by rw [hP 2 (by decide)]; exact hsm.1, hsm.2.1, by rw [t1 228 (by decide)]; exact hsm.2.2⟩
      have q2 := c83_2 (sc := sc) (d := d + 9) (B := B) (S := S) (F := Fz) (A := Az) (G := Gz) (X := Xz) (P := p1 P 0 0) (Q := Q) (z := nI (vn v - y)) (x := x) (by rw [hP 12 (by decide)]; exact l5) (by omega) hv hsl1 sn 0 (by omega)
      rw [cpy_0, a2_id, hT2] at q2
      have q3 := c83_3 (sc := sc) (d := d + 9) (B := B) (S := S) (F := Fz) (A := Az) (G := Gz) (X := Xz) (P := p1 P 0 0) (T := T2) (Q := Q) (r := vn v - y) (x := x) (sn := sn) (by rw [hP 12 (by decide)]; exact l5) (by rw [hP 2 (by decide)]; exact hsm.1) hle hv (fun j hj => ⟨_, hbyte j hj⟩) (vn v - y) 0 (by omega)
      rw [cpy_0, a2_id, hT3] at q3
      refine (c83_i hv l1 l5 l6 hxy hm.1 hn64 hsm.1 hs64 hyn hle).trans (q1.trans ((c83_j (by omega)).trans (q2.trans ((c83_k (by rw [hP 2 (by decide)]; exact hsm.1) (by omega)).trans (q3.trans ?_)))))
      exact c83_l hv (by rw [hP 12 (by decide)]; exact l5) (by rw [hP 2 (by decide)]; exact hsm.1) (by omega)
    · rw [exA, a2_s]
      by_cases h1 : j < x
      · rw [if_pos h1]
        obtain ⟨b1, b2⟩ := hs.2.2 j (by omega)
        refine ⟨b1, ?_⟩
        unfold va_cpy
        rw [if_neg (by omega), if_neg (by omega)]
        exact b2
      · rw [if_neg h1]
        by_cases h2 : j < x + sn
        · rw [if_pos h2]
          obtain ⟨b1, b2⟩ := hsl.2.2 (j - x) (by omega)
          refine ⟨b1, ?_⟩
          unfold va_cpy
          rw [if_pos (by omega), Nat.zero_add]
          exact b2
        · rw [if_neg h2]
          obtain ⟨b1, b2⟩ := hs.2.2 (y + (j - (x + sn))) (by omega)
          refine ⟨b1, ?_⟩
          unfold va_cpy
          rw [if_neg (by omega), if_pos (by omega)]
          exact b2
    · rw [a2_n (by decide), ← hT3, a2_s]
      have e2 : T2 229 = va_cpy (T 228) (T 229) 0 (64 * v + x) sn := by rw [← hT2, a2_s, t1 228 (by decide), t1 229 (by decide)]
      by_cases h1 : j < x
      · rw [if_pos h1]
        unfold va_cpy
        rw [if_neg (by omega), e2]
        unfold va_cpy
        rw [if_neg (by omega)]
        exact (hm.2.2 j (by omega)).2
      · rw [if_neg h1]
        by_cases h2 : j < x + sn
        · rw [if_pos h2]
          unfold va_cpy
          rw [if_neg (by omega), e2]
          unfold va_cpy
          rw [if_pos (by omega), show 0 + (64 * v + j - (64 * v + x)) = j - x by omega]
          exact (hsm.2.2 (j - x) (by omega)).2
        · rw [if_neg h2]
          unfold va_cpy
          rw [if_pos (by omega), show 0 + (64 * v + j - (64 * v + x + sn)) = j - (x + sn) by omega]
          exact hbyte _ (by omega)
    · rw [a2_n (by decide), ← hT3, a2_s]
      have e2 : T2 229 = va_cpy (T 228) (T 229) 0 (64 * v + x) sn := by rw [← hT2, a2_s, t1 228 (by decide), t1 229 (by decide)]
      unfold va_cpy
      rw [if_neg (by omega), e2]
      unfold va_cpy
      rw [if_neg (by omega)]
  · refine ⟨F, A, G, X, p1 P 0 0, T, 0, fun sc d S Pz Tz Q => ?_, fun sc d S Fz Az Gz Xz Q => c83_h hv l1 l5 l6 hxy hy hm.1 hn64 hsm.1 hs64 hle, hinv.p0⟩
    simp only [s52_0, s52_1, s52_4, s52_5, s52_8, s52_8N, s52_9, s52_9N, s52_10, s52_10N, s52_13, s52_14, s52_17, s52_18, s52_21, s52_21N, s52_22, s52_23, s52_26, s52_27, s52_30, s52_31, s52_34, s52_34N, s52_37, s52_40, s52_41 nb0, s52_41 nb1, s52_41 nb_bi, s52_42, s52_43, s52_46, s52_47, s52_50, s52_51 nb0, s52_51 nb1, s52_51 nb_bi, rn_os, rn_on, Option.toList_some, Option.toList_none, List.cons_append, List.nil_append, wt0, wti, wtr, wtn, nb0, nb1, va_rf, eq_self, a2_s, a2_n, p1_s, p1_n, f2_s, f2_n, false_and, and_false, true_and, and_true, not_false_eq_true, ne_eq, Nat.reduceEqDiff, Nat.reduceAdd, Nat.reduceLeDiff, Nat.reduceSub, Nat.reduceMul, Bool.false_eq_true, g0_0, g0_1, e3_is, c11 hv, g0_3, g0_4, f3, f4, g0, et_is ht, c53f hv hs hsl hxy hy hle, not_true_eq_false, Bool.false_eq_true, if_false]
end
