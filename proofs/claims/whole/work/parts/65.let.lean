section
variable {c : CX} {B : Nat} {F A F' A' T T' : Nat → Nat → Int32} {G G' : Nat → Option Nat} {X X' : Option Nat} {P P' : Nat → Int32} {q clk k n v m la : Nat} {x y z an : Int32} {s f : Nat → Nat} {vn : Nat → Nat} {vf : Nat → Nat → Nat} {sc : xm_Sc} {d S : Nat} {Q : Option Value → xm_M → Prop}
/-- a variable has been written, and the slip is empty -/
theorem Inv.var (hinv : Inv F A P T) (hv : v < 8) (hm : m ≤ 64) (f1 : ∀ o k, o ≠ 6 + 2 * v → o ≠ 1 → F' o k = F o k) (f2' : F' (6 + 2 * v) 1 = nI m) (f3 : F' 1 1 = 0) (a1 : ∀ o, o ≠ 6 + 2 * v + 1 → A' o = A o) (a2' : ∀ j, j < m → f j < 256 ∧ A' (6 + 2 * v + 1) j = nI (f j)) (p1' : ∀ k, k ≠ 0 → k ≠ 2 → P' k = P k) (p2 : P' 2 = 0) (t1 : ∀ o, o ≠ 229 → o ≠ 230 → o ≠ 236 → T' o = T o) (t2 : T' 230 v = nI m) (t3 : ∀ u, u ≠ v → T' 230 u = T 230 u) (t4 : ∀ j, j < m → T' 229 (64 * v + j) = tb (f j)) (t5 : ∀ i, i < 64 * v ∨ 64 * v + 64 ≤ i → T' 229 i = T 229 i) : Inv F' A' P' T' := by
  obtain ⟨c, vn, vf, sn0, sf0, hok, hC, hM, hvc, hvm, hsl, hsm, hlat⟩ := hinv
  have hN := hok.1
  refine ⟨c, va_up vn v m, va_up vf v f, 0, sf0, hok, ⟨by rw [f1 _ _ (by omega) (by omega)]; exact hC.1, fun i hi => ?_⟩, ⟨by rw [p1' _ (by decide) (by decide)]; exact hM.1, fun i hi => ?_⟩, fun u hu => ?_, fun u hu => ?_, ⟨f3, Nat.zero_le _, fun j hj => absurd hj (Nat.not_lt_zero j)⟩, ⟨p2, Nat.zero_le _, fun j hj => absurd hj (Nat.not_lt_zero j)⟩, ?_⟩
  · obtain ⟨n1, n2, n3, n4⟩ := hC.2 i hi
    exact ⟨by rw [f1 _ _ (by omega) (by omega)]; exact n1, by rw [f1 _ _ (by omega) (by omega)]; exact n2, by rw [f1 _ _ (by omega) (by omega)]; exact n3, n4.kp (f1 _ _ (by omega) (by omega)) (a1 _ (by omega))⟩
  · obtain ⟨n1, n2, n3, n4, n5, n6⟩ := hM.2 i hi
    exact ⟨by rw [t1 _ (by decide) (by decide) (by decide)]; exact n1, by rw [t1 _ (by decide) (by decide) (by decide)]; exact n2, by rw [t1 _ (by decide) (by decide) (by decide)]; exact n3, by rw [t1 _ (by decide) (by decide) (by decide)]; exact n4, n5, by rw [t1 _ (by decide) (by decide) (by decide)]; exact n6⟩
  · by_cases hc : u = v
    · subst hc
      rw [up_s, up_s]
      exact ⟨f2', hm, a2'⟩
    · rw [up_n hc, up_n hc]
      exact (hvc u hu).kp (f1 _ _ (by omega) (by omega)) (a1 _ (by omega))
  · by_cases hc : u = v
    · subst hc
      rw [up_s, up_s]
      exact ⟨t2, hm, fun j hj => ⟨(a2' j hj).1, t4 j hj⟩⟩
    · rw [up_n hc, up_n hc]
      obtain ⟨n1, n2, n3⟩ := hvm u hu
      exact ⟨(t3 u hc).trans n1, n2, fun j hj => ⟨(n3 j hj).1, by rw [t5 _ (by omega)]; exact (n3 j hj).2⟩⟩
  · unfold Lat
    rw [f1 0 3 (by omega) (by omega), f1 0 4 (by omega) (by omega), f1 0 5 (by omega) (by omega), p1' 11 (by decide) (by decide), p1' 12 (by decide) (by decide), p1' 13 (by decide) (by decide), p1' 14 (by decide) (by decide)]
    exact hlat
/-! let -/
theorem c56_l {sn : Nat} {sf : Nat → Nat} (hP : mSl P T sn sf) (hv : v < 8) (m : Nat) : ∀ q, q + m = sn → rn sc d 56 16 [some (.ref (B + 227)), some (.int (nI v)), some (.int (nI q))] [] (mk B S F A G X P (a2 T 229 (va_cpy (T 228) (T 229) 0 (64 * v) q))) Q = rn sc d 56 16 [some (.ref (B + 227)), some (.int (nI v)), some (.int (nI sn))] [] (mk B S F A G X P (a2 T 229 (va_cpy (T 228) (T 229) 0 (64 * v) sn))) Q := by
  have hs64 := hP.2.1
  induction m with
  | zero =>
    intro q hq
    have : q = sn := by omega
    subst this
    rfl
  | succ m ih =>
    intro q hq
    obtain ⟨t1, t2⟩ := hP.2.2 q (by omega)
    have h1 : ¬ nI sn ≤ nI q := nI_ge (by omega) (by omega)
    have h2 : 64 * v + q < 512 := by omega
    have h3 : a2 T 229 (va_cpy (T 228) (T 229) 0 (64 * v) q) 228 = T 228 := a2_n (by decide)
    have h4 := cpy_u (T 228) (T 229) 0 (64 * v) q
    rw [Nat.zero_add, t2] at h4
    rw [s56_16, ← ih (q + 1) (by omega), ← h4]
    simp only [s56_0, s56_1, s56_2, s56_5, s56_6, s56_9, s56_12, s56_13 nb0, s56_13 nb1, s56_13 nb_bi, s56_14, s56_15, s56_17, s56_18, s56_21, s56_24, s56_25, s56_28, s56_30, s56_31, s56_32, s56_33, s56_34, s56_35, s56_38, s56_39, s56_40, s56_41, s56_44, s56_47, s56_48, s56_51, s56_52, s56_53, s56_56, s56_57, s56_58, s56_59, s56_62, s56_63 nb0, s56_63 nb1, s56_63 nb_bi,  rn_os, rn_on, Option.toList_some, Option.toList_none, List.cons_append, List.nil_append, wt0, wti, wtr, wtn, nb0, nb1, va_rf, eq_self, a2_s, a2_n, p1_s, p1_n, f2_s, f2_n, false_and, and_false, true_and, and_true, not_false_eq_true, ne_eq, Nat.reduceEqDiff, Nat.reduceAdd, Nat.reduceLeDiff, Nat.reduceSub, Nat.reduceMul, Bool.false_eq_true, g227_2, hP.1, h1, if_false, g227_3, g227_1, e64, g228 (show q < 64 by omega), h3, t2, tb_nar, w229 h2, a2_s, a2_a2, nI_1]
theorem cm_let : Same B 10 56 [some (.int x), none] [some (.int x), none] false := by
  intro F A G X P T hinv
  obtain ⟨c, vn, vf, sn, sf, hok, hC, hM, hvc, hvm, hsl, hsm, hlat⟩ := id hinv
  rcases argI (N := 8) (by decide) x with hx | ⟨v, hv, rfl⟩
  · refine ⟨F, A, G, X, p1 P 0 0, T, 0, fun sc d S Pz Tz Q => ?_, fun sc d S Fz Az Gz Xz Q => ?_, hinv.p0⟩
    · simp only [s10_0, s10_1, s10_4, s10_5, s10_8, s10_8N, s10_9, s10_9N, s10_10, s10_10N, s10_13, s10_14 nb0, s10_14 nb1, s10_14 nb_bi, s10_15, s10_15N, s10_16, s10_17, s10_20, s10_20N, s10_23, s10_24, s10_27, s10_28, s10_31, s10_32 nb0, s10_32 nb1, s10_32 nb_bi, rn_os, rn_on, Option.toList_some, Option.toList_none, List.cons_append, List.nil_append, wt0, wti, wtr, wtn, nb0, nb1, va_rf, eq_self, a2_s, a2_n, p1_s, p1_n, f2_s, f2_n, false_and, and_false, true_and, and_true, not_false_eq_true, ne_eq, Nat.reduceEqDiff, Nat.reduceAdd, Nat.reduceLeDiff, Nat.reduceSub, Nat.reduceMul, Bool.false_eq_true, g0_1, e3_is, c11n hx, Bool.false_eq_true, if_false]
    · simp only [s56_0, s56_1, s56_2, s56_5, s56_6, s56_9, s56_12, s56_13 nb0, s56_13 nb1, s56_13 nb_bi, s56_14, s56_15, s56_16, s56_17, s56_18, s56_21, s56_24, s56_25, s56_28, s56_30, s56_31, s56_32, s56_33, s56_34, s56_35, s56_38, s56_39, s56_40, s56_41, s56_44, s56_47, s56_48, s56_51, s56_52, s56_53, s56_56, s56_57, s56_58, s56_59, s56_62, s56_63 nb0, s56_63 nb1, s56_63 nb_bi, rn_os, rn_on, Option.toList_some, Option.toList_none, List.cons_append, List.nil_append, wt0, wti, wtr, wtn, nb0, nb1, va_rf, eq_self, a2_s, a2_n, p1_s, p1_n, f2_s, f2_n, false_and, and_false, true_and, and_true, not_false_eq_true, ne_eq, Nat.reduceEqDiff, Nat.reduceAdd, Nat.reduceLeDiff, Nat.reduceSub, Nat.reduceMul, Bool.false_eq_true, w227_0, c57, bi_f (ni8 hx), not_true_eq_false, Bool.false_eq_true, if_false]
  · have hs64 := hsl.2.1
    have e1 : me_tx 1 := me_tx1
    refine ⟨f2 (f2 F (6 + 2 * v) 1 (nI sn)) 1 1 0, a2 A (6 + 2 * v + 1) (va_cpy (A 2) (A (6 + 2 * v + 1)) 0 0 sn), G, X, p1 (p1 P 0 0) 2 0, a2 (a2 T 229 (va_cpy (T 228) (T 229) 0 (64 * v) sn)) 230 (upd (T 230) v (nI sn)), 1, fun sc d S Pz Tz Q => ?_, fun sc d S Fz Az Gz Xz Q => ?_, hinv.var (m := sn) (f := sf) hv hs64 (fun o k h1 h2 => by rw [f2_n (by omega), f2_n (by omega)]) (by rw [f2_n (by omega), f2_s]) f2_s (fun o h => a2_n h) (fun j hj => ⟨(hsl.2.2 j hj).1, ?_⟩) (fun k h1 h2 => by rw [p1_n h2, p1_n h1]) p1_s (fun o h1 h2 h3 => by rw [a2_n h2, a2_n h1]) (by rw [a2_s]; simp [upd]) (fun u hu => by rw [a2_s]; simp [upd, hu]) (fun j hj => ?_) (fun i hi => ?_)⟩
    · simp only [s10_0, s10_1, s10_4, s10_5, s10_8, s10_8N, s10_9, s10_9N, s10_10, s10_10N, s10_13, s10_14 nb0, s10_14 nb1, s10_14 nb_bi, s10_15, s10_15N, s10_16, s10_17, s10_20, s10_20N, s10_23, s10_24, s10_27, s10_28, s10_31, s10_32 nb0, s10_32 nb1, s10_32 nb_bi, rn_os, rn_on, Option.toList_some, Option.toList_none, List.cons_append, List.nil_append, wt0, wti, wtr, wtn, nb0, nb1, va_rf, eq_self, a2_s, a2_n, p1_s, p1_n, f2_s, f2_n, false_and, and_false, true_and, and_true, not_false_eq_true, ne_eq, Nat.reduceEqDiff, Nat.reduceAdd, Nat.reduceLeDiff, Nat.reduceSub, Nat.reduceMul, Bool.false_eq_true, g0_1, e3_is, c11 hv, g0_0, et_is (me_txv hv), c12 (me_txv hv) e1 hsl, w1_1, Bool.false_eq_true, if_false]
    · have hmsl : mSl (p1 P 0 0) T sn sf := ⟨by rw [p1_n (by decide)]; exact hsm.1, hsm.2⟩
      have h0 := c56_l (sc := sc) (d := d + 9) (B := B) (S := S) (F := Fz) (A := Az) (G := Gz) (X := Xz) (Q := Q) hmsl hv sn 0 (by omega)
      rw [cpy_0, a2_id] at h0
      have h1 : nI sn ≤ nI sn := nI_le (Nat.le_refl _) (by omega)
      have h2 : (0 : Int32) = nI 0 := rfl
      have h3 : rn sc (d + 9) 56 16 [some (.ref (B + 227)), some (.int (nI v)), some (.int (nI sn))] [] (mk B S Fz Az Gz Xz (p1 P 0 0) (a2 T 229 (va_cpy (T 228) (T 229) 0 (64 * v) sn))) Q = Q (some (.int 1)) (mk B S Fz Az Gz Xz (p1 (p1 P 0 0) 2 0) (a2 (a2 T 229 (va_cpy (T 228) (T 229) 0 (64 * v) sn)) 230 (upd (T 230) v (nI sn)))) := by
        have h5 : a2 T 229 (va_cpy (T 228) (T 229) 0 (64 * v) sn) 230 = T 230 := a2_n (by decide)
        rw [s56_16]
        simp only [s56_0, s56_1, s56_2, s56_5, s56_6, s56_9, s56_12, s56_13 nb0, s56_13 nb1, s56_13 nb_bi, s56_14, s56_15, s56_17, s56_18, s56_21, s56_24, s56_25, s56_28, s56_30, s56_31, s56_32, s56_33, s56_34, s56_35, s56_38, s56_39, s56_40, s56_41, s56_44, s56_47, s56_48, s56_51, s56_52, s56_53, s56_56, s56_57, s56_58, s56_59, s56_62, s56_63 nb0, s56_63 nb1, s56_63 nb_bi,  rn_os, rn_on, Option.toList_some, Option.toList_none, List.cons_append, List.nil_append, wt0, wti, wtr, wtn, nb0, nb1, va_rf, eq_self, a2_s, a2_n, p1_s, p1_n, f2_s, f2_n, false_and, and_false, true_and, and_true, not_false_eq_true, ne_eq, Nat.reduceEqDiff, Nat.reduceAdd, Nat.reduceLeDiff, Nat.reduceSub, Nat.reduceMul, Bool.false_eq_true, g227_2, hsm.1, h1, if_true, g227_4, w230 hv, h5, w227_2]
      have h4 : rn sc (d + 9) 56 0 [some (.ref (B + 227)), some (.int (nI v)), none] [] (mk B S Fz Az Gz Xz P T) Q = rn sc (d + 9) 56 16 [some (.ref (B + 227)), some (.int (nI v)), some (.int (nI 0))] [] (mk B S Fz Az Gz Xz (p1 P 0 0) T) Q := by
        rw [nI_0]
        simp only [s56_0, s56_1, s56_2, s56_5, s56_6, s56_9, s56_12, s56_13 nb0, s56_13 nb1, s56_13 nb_bi, s56_14, s56_15, s56_17, s56_18, s56_21, s56_24, s56_25, s56_28, s56_30, s56_31, s56_32, s56_33, s56_34, s56_35, s56_38, s56_39, s56_40, s56_41, s56_44, s56_47, s56_48, s56_51, s56_52, s56_53, s56_56, s56_57, s56_58, s56_59, s56_62, s56_63 nb0, s56_63 nb1, s56_63 nb_bi,  rn_os, rn_on, Option.toList_some, Option.toList_none, List.cons_append, List.nil_append, wt0, wti, wtr, wtn, nb0, nb1, va_rf, eq_self, a2_s, a2_n, p1_s, p1_n, f2_s, f2_n, false_and, and_false, true_and, and_true, not_false_eq_true, ne_eq, Nat.reduceEqDiff, Nat.reduceAdd, Nat.reduceLeDiff, Nat.reduceSub, Nat.reduceMul, Bool.false_eq_true, w227_0, c57, bi_t (v8 hv), i10, not_false_eq_true, if_true]
      exact h4.trans (h0.trans h3)
    · rw [a2_s]
      simp [va_cpy, hj]
      exact (hsl.2.2 j hj).2
    · rw [a2_n (by decide), a2_s]
      simp [va_cpy, hj]
      exact (hsm.2.2 j hj).2
    · rw [a2_n (by decide), a2_s]
      unfold va_cpy
      rw [if_neg (by omega)]
end
