/-! node -/
def CX.nd (c : CX) (kd a b tn : Nat) (tf : Nat → Nat) : CX := (c.N + 1, c.n, c.s, va_up c.kd c.N kd, va_up c.a c.N a, va_up c.b c.N b, va_up c.tn c.N tn, va_up c.tf c.N tf, c.F0, c.A0, c.P0, c.T0)
def nOK (N kd a b : Nat) : Prop := kd < 24 ∧ a < 2 ^ 31 ∧ (kd = 16 → a < N) ∧ (kd = 17 ∨ kd = 18 → a < N ∧ b < N) ∧ (kd = 19 ∨ kd = 20 → a < N ∧ b < 8) ∧ (kd = 21 ∨ kd = 22 → a < 8)
theorem nOK.up {N kd a b : Nat} (h : nOK N kd a b) : nOK (N + 1) kd a b := by
  obtain ⟨h1, h2, h3, h4, h5, h6⟩ := h
  exact ⟨h1, h2, fun w => by have := h3 w; omega, fun w => by have := h4 w; omega, fun w => by have := h5 w; omega, h6⟩
theorem CX.nd_ok {c : CX} {kd a b tn : Nat} {tf : Nat → Nat} (h : c.ok) (hN : c.N < 64) (hn : nOK c.N kd a b) : (c.nd kd a b tn tf).ok := by
  refine ⟨hN, h.2.1, fun i hi => ?_⟩
  have hi : i < c.N + 1 := hi
  show nOK (c.N + 1) (va_up c.kd c.N kd i) (va_up c.a c.N a i) (va_up c.b c.N b i)
  by_cases he : i = c.N
  · subst he
    rw [up_s, up_s, up_s]
    exact hn.up
  · rw [up_n he, up_n he, up_n he]
    exact nOK.up (h.2.2 i (by omega))
section
variable {c : CX} {B : Nat} {F A F' A' T T' : Nat → Nat → Int32} {G G' : Nat → Option Nat} {X X' : Option Nat} {P P' : Nat → Int32} {q kd a' b' tn sn : Nat} {x y z a b : Int32} {tf sf : Nat → Nat} {vn : Nat → Nat} {vf : Nat → Nat → Nat} {sc : xm_Sc} {d S N : Nat} {Q : Option Value → xm_M → Prop}
theorem Inv.nd (hok : c.ok) (hC : NdC c F A) (hM : NdR c P T) (hvc : VaC F A vn vf) (hvm : VaR T vn vf) (hlat : Lat F P) (hN : c.N < 64) (hn : nOK c.N kd a' b')
    (f1 : ∀ o k, o ≠ 22 + 3 * c.N → o ≠ 22 + 3 * c.N + 1 → o ≠ 1 → o ≠ 3 → F' o k = F o k) (f2' : F' 3 2 = nI (c.N + 1)) (f3 : F' (22 + 3 * c.N) 1 = nI kd) (f4 : F' (22 + 3 * c.N) 2 = nI a') (f5 : F' (22 + 3 * c.N) 3 = nI b') (f6 : cTx F' A' (22 + 3 * c.N + 1) tn tf) (a1 : ∀ o, o ≠ 22 + 3 * c.N + 1 + 1 → A' o = A o) (hsl : cTx F' A' 1 sn sf)
    (q1 : ∀ k, k ≠ 0 → k ≠ 2 → k ≠ 5 → P' k = P k) (q5 : P' 5 = nI (c.N + 1)) (t1 : ∀ o, o < 231 → T' o = T o) (t2 : ∀ i, i < c.N → T' 231 i = T 231 i ∧ T' 232 i = T 232 i ∧ T' 233 i = T 233 i ∧ T' 235 i = T 235 i) (t3 : ∀ i, i < 64 * c.N → T' 234 i = T 234 i) (t4 : T' 231 c.N = nI kd) (t5 : T' 232 c.N = nI a') (t6 : T' 233 c.N = nI b') (t7 : mTxt T' c.N tn tf) (hsm : mSl P' T' sn sf) : Inv F' A' P' T' := by
  refine ⟨c.nd kd a' b' tn tf, vn, vf, sn, sf, CX.nd_ok hok hN hn, ⟨f2', fun i hi => ?_⟩, ⟨q5, fun i hi => ?_⟩, fun u hu => ?_, fun u hu => ?_, hsl, hsm, ?_⟩
  · have hi : i < c.N + 1 := hi
    show F' (22 + 3 * i) 1 = nI (va_up c.kd c.N kd i) ∧ F' (22 + 3 * i) 2 = nI (va_up c.a c.N a' i) ∧ F' (22 + 3 * i) 3 = nI (va_up c.b c.N b' i) ∧ cTx F' A' (22 + 3 * i + 1) (va_up c.tn c.N tn i) (va_up c.tf c.N tf i)
    by_cases he : i = c.N
    · subst he
      rw [up_s, up_s, up_s, up_s, up_s]
      exact ⟨f3, f4, f5, f6⟩
    · rw [up_n he, up_n he, up_n he, up_n he, up_n he]
      obtain ⟨n1, n2, n3, n4⟩ := hC.2 i (by omega)
      exact ⟨by rw [f1 _ _ (by omega) (by omega) (by omega) (by omega)]; exact n1, by rw [f1 _ _ (by omega) (by omega) (by omega) (by omega)]; exact n2, by rw [f1 _ _ (by omega) (by omega) (by omega) (by omega)]; exact n3, n4.kp (f1 _ _ (by omega) (by omega) (by omega) (by omega)) (a1 _ (by omega))⟩
  · have hi : i < c.N + 1 := hi
    show T' 231 i = nI (va_up c.kd c.N kd i) ∧ T' 232 i = nI (va_up c.a c.N a' i) ∧ T' 233 i = nI (va_up c.b c.N b' i) ∧ mTxt T' i (va_up c.tn c.N tn i) (va_up c.tf c.N tf i)
    by_cases he : i = c.N
    · subst he
      rw [up_s, up_s, up_s, up_s, up_s]
      exact ⟨t4, t5, t6, t7⟩
    · rw [up_n he, up_n he, up_n he, up_n he, up_n he]
      obtain ⟨n1, n2, n3, n4, n5, n6⟩ := hM.2 i (by omega)
      obtain ⟨m1, m2, m3, m4⟩ := t2 i (by omega)
      exact ⟨m1.trans n1, m2.trans n2, m3.trans n3, m4.trans n4, n5, fun j hj => ⟨(n6 j hj).1, by rw [t3 _ (by omega)]; exact (n6 j hj).2⟩⟩
  · exact (hvc u hu).kp (f1 _ _ (by omega) (by omega) (by omega) (by omega)) (a1 _ (by omega))
  · obtain ⟨n1, n2, n3⟩ := hvm u hu
    exact ⟨by rw [t1 _ (by decide)]; exact n1, n2, by rw [t1 _ (by decide)]; exact n3⟩
  · unfold Lat
    rw [f1 0 3 (by omega) (by omega) (by omega) (by omega), f1 0 4 (by omega) (by omega) (by omega) (by omega), f1 0 5 (by omega) (by omega) (by omega) (by omega), q1 11 (by decide) (by decide) (by decide), q1 12 (by decide) (by decide) (by decide), q1 13 (by decide) (by decide) (by decide), q1 14 (by decide) (by decide) (by decide)]
    exact hlat
/-- both say the same of a node's parts -/
def nAns (B kd : Nat) (a b : Int32) (F A : Nat → Nat → Int32) (G : Nat → Option Nat) (X : Option Nat) (P : Nat → Int32) (T : Nat → Nat → Int32) (r : Int32) : Prop :=
  (∀ (sc : xm_Sc) (d S : Nat) (Pz : Nat → Int32) (Tz : Nat → Nat → Int32) (Q : Option Value → xm_M → Prop), rn sc (d + 1) 19 0 [some (.ref (B + 3)), some (.int (nI kd)), some (.int a), some (.int b)] [] (mk B S F A G X Pz Tz) Q = Q (some (.int r)) (mk B S F A G X Pz Tz)) ∧
  (∀ (sc : xm_Sc) (d S : Nat) (Fz Az : Nat → Nat → Int32) (Gz : Nat → Option Nat) (Xz : Option Nat) (Q : Option Value → xm_M → Prop), rn sc (d + 1) 61 21 [some (.ref (B + 227)), some (.int (nI kd)), some (.int a), some (.int b)] [] (mk B S Fz Az Gz Xz P T) Q = Q (some (.int r)) (mk B S Fz Az Gz Xz P T))
def nGood (N kd : Nat) (a b : Int32) : Prop := ∃ a' b', nOK N kd a' b' ∧ (if uA kd then a else 0) = nI a' ∧ (if uB kd then b else 0) = nI b'
theorem nI_rng (h : q < N) (hN : N ≤ 64) : 0 ≤ nI q ∧ nI q < nI N := ⟨nI_pos' (by omega), nI_lt h (by omega)⟩
theorem nd_dec (hF : F 3 2 = nI N) (hP : P 5 = nI N) (hN : N < 64) (hk : kd < 24) : (nAns B kd a b F A G X P T 1 ∧ nGood N kd a b) ∨ nAns B kd a b F A G X P T 0 := by
  by_cases h1 : kd < 5 ∨ (10 ≤ kd ∧ kd ≤ 15)
  · left
    refine ⟨⟨fun sc d S Pz Tz Q => c19_d h1, fun sc d S Fz Az Gz Xz Q => c61_d h1⟩, 0, 0, ⟨hk, by decide, fun w => by omega, fun w => by omega, fun w => by omega, fun w => by omega⟩, ?_, ?_⟩
    · rw [if_neg (show ¬ uA kd by unfold uA; omega)]; rfl
    · rw [if_neg (show ¬ uB kd by unfold uB; omega)]; rfl
  by_cases h2 : kd ≤ 9
  · have hp : nI kd = 5 ∨ nI kd = 6 ∨ nI kd = 7 ∨ nI kd = 8 ∨ nI kd = 9 := by
      rcases (show kd = 5 ∨ kd = 6 ∨ kd = 7 ∨ kd = 8 ∨ kd = 9 by omega) with rfl | rfl | rfl | rfl | rfl <;> decide
    by_cases ha : a < 0
    · right
      refine ⟨fun sc d S Pz Tz Q => ?_, fun sc d S Fz Az Gz Xz Q => ?_⟩
      · rw [c19_5 hp, if_pos ha]
      · rw [c61_5 hp, if_pos ha]
    · left
      obtain ⟨j, hj, rfl⟩ := nI_of ha
      refine ⟨⟨fun sc d S Pz Tz Q => ?_, fun sc d S Fz Az Gz Xz Q => ?_⟩, j, 0, ⟨hk, hj, fun w => by omega, fun w => by omega, fun w => by omega, fun w => by omega⟩, ?_, ?_⟩
      · rw [c19_5 hp, if_neg ha]
      · rw [c61_5 hp, if_neg ha]
      · rw [if_pos (show uA kd by unfold uA; omega)]
      · rw [if_neg (show ¬ uB kd by unfold uB; omega)]; rfl
  have hA : uA kd := by unfold uA; omega
  by_cases h3 : kd ≤ 20
  · have hp : nI kd = 16 ∨ nI kd = 17 ∨ nI kd = 18 ∨ nI kd = 19 ∨ nI kd = 20 := by
      rcases (show kd = 16 ∨ kd = 17 ∨ kd = 18 ∨ kd = 19 ∨ kd = 20 by omega) with rfl | rfl | rfl | rfl | rfl <;> decide
    rcases argI (N := N) (by omega) a with ha | ⟨i, hi, rfl⟩
    · right
      refine ⟨fun sc d S Pz Tz Q => c19_af hp hF ha, fun sc d S Fz Az Gz Xz Q => ?_⟩
      by_cases h4 : kd = 16
      · subst h4
        have := c61_16 (sc := sc) (d := d) (B := B) (S := S) (F := Fz) (A := Az) (G := Gz) (X := Xz) (P := P) (T := T) (Q := Q) (a := a) (b := b)
        rw [bi_f (niN hP ha)] at this
        exact this
      · by_cases h5 : kd ≤ 18
        · rw [c61_17 (by rcases (show kd = 17 ∨ kd = 18 by omega) with rfl | rfl <;> decide), bi_f (fun w => niN hP ha w.1)]
        · rw [c61_19 (by rcases (show kd = 19 ∨ kd = 20 by omega) with rfl | rfl <;> decide), bi_f (fun w => niN hP ha w.1)]
    · have hin : 0 ≤ nI i ∧ nI i < P 5 := by rw [hP]; exact nI_rng hi (by omega)
      by_cases h4 : kd = 16
      · subst h4
        left
        refine ⟨⟨fun sc d S Pz Tz Q => c19_16t hF (by omega) hi, fun sc d S Fz Az Gz Xz Q => ?_⟩, i, 0, ⟨hk, by omega, fun w => hi, fun w => by omega, fun w => by omega, fun w => by omega⟩, ?_, ?_⟩
        · have := c61_16 (sc := sc) (d := d) (B := B) (S := S) (F := Fz) (A := Az) (G := Gz) (X := Xz) (P := P) (T := T) (Q := Q) (a := nI i) (b := b)
          rw [bi_t hin] at this
          exact this
        · rw [if_pos hA]
        · rw [if_neg (by decide)]; rfl
      · have hB : uB kd := by unfold uB; omega
        by_cases h5 : kd ≤ 18
        · have hp2 : nI kd = 17 ∨ nI kd = 18 := by rcases (show kd = 17 ∨ kd = 18 by omega) with rfl | rfl <;> decide
          rcases argI (N := N) (by omega) b with hb | ⟨j, hj, rfl⟩
          · right
            refine ⟨fun sc d S Pz Tz Q => c19_17f hp2 hF (by omega) hi hb, fun sc d S Fz Az Gz Xz Q => ?_⟩
            rw [c61_17 hp2, bi_f (fun w => niN hP hb w.2)]
          · left
            have hjn : 0 ≤ nI j ∧ nI j < P 5 := by rw [hP]; exact nI_rng hj (by omega)
            refine ⟨⟨fun sc d S Pz Tz Q => c19_17t hp2 hF (by omega) hi hj, fun sc d S Fz Az Gz Xz Q => ?_⟩, i, j, ⟨hk, by omega, fun w => hi, fun w => ⟨hi, hj⟩, fun w => by omega, fun w => by omega⟩, ?_, ?_⟩
            · rw [c61_17 hp2, bi_t ⟨hin, hjn⟩]
            · rw [if_pos hA]
            · rw [if_pos hB]
        · have hp2 : nI kd = 19 ∨ nI kd = 20 := by rcases (show kd = 19 ∨ kd = 20 by omega) with rfl | rfl <;> decide
          rcases argI (N := 8) (by omega) b with hb | ⟨j, hj, rfl⟩
          · right
            refine ⟨fun sc d S Pz Tz Q => c19_19f hp2 hF (by omega) hi hb, fun sc d S Fz Az Gz Xz Q => ?_⟩
            rw [c61_19 hp2, bi_f (fun w => ni8 hb w.2)]
          · left
            refine ⟨⟨fun sc d S Pz Tz Q => c19_19t hp2 hF (by omega) hi hj, fun sc d S Fz Az Gz Xz Q => ?_⟩, i, j, ⟨hk, by omega, fun w => hi, fun w => by omega, fun w => ⟨hi, hj⟩, fun w => by omega⟩, ?_, ?_⟩
            · rw [c61_19 hp2, bi_t ⟨hin, v8 hj⟩]
            · rw [if_pos hA]
            · rw [if_pos hB]
  · have hB : ¬ uB kd := by unfold uB; omega
    by_cases h4 : kd = 23
    · subst h4
      rcases argI (N := 64) (by omega) a with ha | ⟨i, hi, rfl⟩
      · right
        refine ⟨fun sc d S Pz Tz Q => c19_23f ha, fun sc d S Fz Az Gz Xz Q => ?_⟩
        have := c61_23 (sc := sc) (d := d) (B := B) (M := mk B S Fz Az Gz Xz P T) (Q := Q) (a := a) (b := b)
        rw [bi_f (niN (y := 64) (N := 64) rfl ha)] at this
        exact this
      · left
        refine ⟨⟨fun sc d S Pz Tz Q => c19_23t hi, fun sc d S Fz Az Gz Xz Q => ?_⟩, i, 0, ⟨hk, by omega, fun w => by omega, fun w => by omega, fun w => by omega, fun w => by omega⟩, ?_, ?_⟩
        · have := c61_23 (sc := sc) (d := d) (B := B) (M := mk B S Fz Az Gz Xz P T) (Q := Q) (a := nI i) (b := b)
          rw [bi_t (show 0 ≤ nI i ∧ nI i < 64 from nI_rng (N := 64) hi (Nat.le_refl _))] at this
          exact this
        · rw [if_pos hA]
        · rw [if_neg hB]; rfl
    · have hp2 : nI kd = 21 ∨ nI kd = 22 := by rcases (show kd = 21 ∨ kd = 22 by omega) with rfl | rfl <;> decide
      rcases argI (N := 8) (by omega) a with ha | ⟨i, hi, rfl⟩
      · right
        refine ⟨fun sc d S Pz Tz Q => c19_21f hp2 ha, fun sc d S Fz Az Gz Xz Q => ?_⟩
        rw [c61_21 hp2, bi_f (ni8 ha)]
      · left
        refine ⟨⟨fun sc d S Pz Tz Q => c19_21t hp2 hi, fun sc d S Fz Az Gz Xz Q => ?_⟩, i, 0, ⟨hk, by omega, fun w => by omega, fun w => by omega, fun w => by omega, fun w => hi⟩, ?_, ?_⟩
        · rw [c61_21 hp2, bi_t (v8 hi)]
        · rw [if_pos hA]
        · rw [if_neg hB]; rfl
theorem cm_node : Same B 17 60 [some (.int x), some (.int a), some (.int b)] [some (.int x), some (.int a), some (.int b), none, none, none] false := by
  intro F A G X P T hinv
  obtain ⟨c, vn, vf, sn, sf, hok, hC, hM, hvc, hvm, hsl, hsm, hlat⟩ := id hinv
  have hN := hok.1
  have e5 : p1 P 0 0 5 = nI c.N := by rw [p1_n (by decide)]; exact hM.1
  have no : (x < 0 ∨ 23 < x ∨ c.N = 64) → ∃ F' A' G' X' P' T' ret, (∀ (sc : xm_Sc) (d S : Nat) (Pz : Nat → Int32) (Tz : Nat → Nat → Int32) (Q : Option Value → xm_M → Prop), rn sc (d + 9) 17 0 (some (.ref B) :: [some (.int x), some (.int a), some (.int b)]) [] (mk B S F A G X Pz Tz) Q = Q (if false = true then none else some (.int ret)) (mk B S F' A' G' X' Pz Tz)) ∧ (∀ (sc : xm_Sc) (d S : Nat) (Fz Az : Nat → Nat → Int32) (Gz : Nat → Option Nat) (Xz : Option Nat) (Q : Option Value → xm_M → Prop), rn sc (d + 9) 60 0 (some (.ref (B + 227)) :: [some (.int x), some (.int a), some (.int b), none, none, none]) [] (mk B S Fz Az Gz Xz P T) Q = Q (if false = true then none else some (.int ret)) (mk B S Fz Az Gz Xz P' T')) ∧ Inv F' A' P' T' := by
    intro h
    refine ⟨F, A, G, X, p1 P 0 0, T, -1, fun sc d S Pz Tz Q => ?_, fun sc d S Fz Az Gz Xz Q => c60_no (fun Q => c61_no e5 hN h), hinv.p0⟩
    simp only [s17_0, s17_1, s17_4, s17_5, s17_6, s17_7, s17_8, s17_11, s17_11N, s17_14, rn_os, rn_on, Option.toList_some, Option.toList_none, List.cons_append, List.nil_append, wt0, wti, wtr, wtn, nb0, nb1, va_rf, eq_self, a2_s, a2_n, p1_s, p1_n, f2_s, f2_n, false_and, and_false, true_and, and_true, not_false_eq_true, ne_eq, Nat.reduceEqDiff, Nat.reduceAdd, Nat.reduceLeDiff, Nat.reduceSub, Nat.reduceMul, Bool.false_eq_true, g0_0, g0_1, e3_is, c18_no hC.1 hN h, Bool.false_eq_true, if_false]
  rcases argI (N := 24) (by decide) x with hx | ⟨kd, hk, rfl⟩
  · refine no ?_
    rcases hx with hx | hx
    · exact Or.inl hx
    · exact Or.inr (Or.inl (Int32.lt_of_lt_of_le (b := nI 24) (by decide) hx))
  by_cases h64 : c.N = 64
  · exact no (Or.inr (Or.inr h64))
  have hN' : c.N < 64 := by omega
  have k1 : ¬ nI kd < 0 := nI_pos (by omega)
  have k2 : ¬ 23 < nI kd := nI_nlt (a := 23) (by omega) (by decide)
  rcases Or.symm (nd_dec (B := B) (F := F) (A := A) (G := G) (X := X) (P := p1 P 0 0) (T := T) (a := a) (b := b) hC.1 e5 hN' hk) with ⟨y1, y2⟩ | ⟨⟨y1, y2⟩, a', b', hg, ea, eb⟩
  · refine ⟨F, A, G, X, p1 P 0 0, T, -1, fun sc d S Pz Tz Q => ?_, fun sc d S Fz Az Gz Xz Q => c60_no (fun Q => ?_), hinv.p0⟩
    · simp only [s17_0, s17_1, s17_4, s17_5, s17_6, s17_7, s17_8, s17_11, s17_11N, s17_14, rn_os, rn_on, Option.toList_some, Option.toList_none, List.cons_append, List.nil_append, wt0, wti, wtr, wtn, nb0, nb1, va_rf, eq_self, a2_s, a2_n, p1_s, p1_n, f2_s, f2_n, false_and, and_false, true_and, and_true, not_false_eq_true, ne_eq, Nat.reduceEqDiff, Nat.reduceAdd, Nat.reduceLeDiff, Nat.reduceSub, Nat.reduceMul, Bool.false_eq_true, g0_0, g0_1, e3_is, c18_f hC.1 hN' k1 k2 (y1 sc _ S Pz Tz), Bool.false_eq_true, if_false]
    · rw [c61_pre e5 hN' k1 k2]
      exact y2 sc _ S Fz Az Gz Xz Q
  have pre : ∀ (sc : xm_Sc) (d S : Nat) (Fz Az : Nat → Nat → Int32) (Gz : Nat → Option Nat) (Xz : Option Nat) (Q : Option Value → xm_M → Prop), rn sc (d + 9) 60 0 (some (.ref (B + 227)) :: [some (.int (nI kd)), some (.int a), some (.int b), none, none, none]) [] (mk B S Fz Az Gz Xz P T) Q = rn sc (d + 9) 60 118 [some (.ref (B + 227)), some (.int (nI kd)), some (.int a), some (.int b), some (.int (if uA kd then 1 else 0)), some (.int (if uB kd then 1 else 0)), none] [] (mk B S Fz Az Gz Xz (p1 P 0 0) (nwT T c.N kd a b)) Q := by
    intro sc d S Fz Az Gz Xz Q
    refine (c60_0 (fun Q => ?_)).trans ((c60_a hk).trans (c60_b e5 hN'))
    rw [c61_pre e5 hN' k1 k2]
    exact y2 sc _ S Fz Az Gz Xz Q
  have nf : ∀ o k, o ≠ 22 + 3 * c.N → o ≠ 22 + 3 * c.N + 1 → nwF F c.N kd a b o k = F o k := fun o k h1 h2 => by
    rw [nwF, f2_n (by omega), f2_n (by omega), f2_n (by omega), f2_n (by omega)]
  have nf1 : nwF F c.N kd a b (22 + 3 * c.N) 1 = nI kd := by
    rw [nwF, f2_n (by omega), f2_n (by omega), f2_n (by omega), f2_s]
  have nf2 : nwF F c.N kd a b (22 + 3 * c.N) 2 = nI a' := by
    rw [nwF, f2_n (by omega), f2_n (by omega), f2_s]; exact ea
  have nf3 : nwF F c.N kd a b (22 + 3 * c.N) 3 = nI b' := by
    rw [nwF, f2_n (by omega), f2_s]; exact eb
  have nt : ∀ o, o < 231 → nwT T c.N kd a b o = T o := fun o ho => by
    rw [nwT, a2_n (by omega), a2_n (by omega), a2_n (by omega), a2_n (by omega)]
  have nt1 : nwT T c.N kd a b 231 = upd (T 231) c.N (nI kd) := by
    rw [nwT, a2_n (by omega), a2_n (by omega), a2_n (by omega), a2_s]
  have nt2 : nwT T c.N kd a b 232 = upd (T 232) c.N (if uA kd then a else 0) := by
    rw [nwT, a2_n (by omega), a2_n (by omega), a2_s]
  have nt3 : nwT T c.N kd a b 233 = upd (T 233) c.N (if uB kd then b else 0) := by
    rw [nwT, a2_n (by omega), a2_s]
  have nt4 : nwT T c.N kd a b 234 = T 234 := by
    rw [nwT, a2_n (by omega), a2_n (by omega), a2_n (by omega), a2_n (by omega)]
  have nt5 : nwT T c.N kd a b 235 = upd (T 235) c.N 0 := by
    rw [nwT, a2_s]
  have us : ∀ (f : Nat → Int32) (v : Int32), upd f c.N v c.N = v := fun f v => by simp [upd]
  have un : ∀ (f : Nat → Int32) (v : Int32) (i : Nat), i < c.N → upd f c.N v i = f i := fun f v i hi => by
    have : i ≠ c.N := by omega
    simp [upd, this]
  by_cases h4 : 4 < kd
  · refine ⟨f2 (nwF F c.N kd a b) 3 2 (nI (c.N + 1)), A, G, X, p1 (p1 P 0 0) 5 (nI (c.N + 1)), nwT T c.N kd a b, nI c.N, fun sc d S Pz Tz Q => ?_, fun sc d S Fz Az Gz Xz Q => (pre sc d S Fz Az Gz Xz Q).trans (c60_c e5 h4 hk), Inv.nd (kd := kd) (a' := a') (b' := b') (tn := 0) (tf := sf) (sn := sn) (sf := sf) hok hC hM hvc hvm hlat hN' hg (fun o k o1 o2 o3 o4 => by rw [f2_n (by omega), nf o k o1 o2]) f2_s (by rw [f2_n (by omega)]; exact nf1) (by rw [f2_n (by omega)]; exact nf2) (by rw [f2_n (by omega)]; exact nf3) ⟨by rw [f2_n (by omega), nwF, f2_s]; rfl, by omega, fun j hj => by omega⟩ (fun o _ => rfl) (hsl.kp (by rw [f2_n (by omega), nf _ _ (by omega) (by omega)]) rfl) (fun k h0 _ h5 => by rw [p1_n h5, p1_n h0]) p1_s nt (fun i hi => ⟨by rw [nt1, un _ _ _ hi], by rw [nt2, un _ _ _ hi], by rw [nt3, un _ _ _ hi], by rw [nt5, un _ _ _ hi]⟩) (fun i hi => by rw [nt4]) (by rw [nt1, us]) (by rw [nt2, us]; exact ea) (by rw [nt3, us]; exact eb) ⟨by rw [nt5, us]; rfl, by omega, fun j hj => by omega⟩ ⟨by rw [p1_n (by decide), p1_n (by decide)]; exact hsm.1, hsm.2.1, by rw [nt _ (by decide)]; exact hsm.2.2⟩⟩
    simp only [s17_0, s17_1, s17_4, s17_5, s17_6, s17_7, s17_8, s17_11, s17_11N, s17_14, rn_os, rn_on, Option.toList_some, Option.toList_none, List.cons_append, List.nil_append, wt0, wti, wtr, wtn, nb0, nb1, va_rf, eq_self, a2_s, a2_n, p1_s, p1_n, f2_s, f2_n, false_and, and_false, true_and, and_true, not_false_eq_true, ne_eq, Nat.reduceEqDiff, Nat.reduceAdd, Nat.reduceLeDiff, Nat.reduceSub, Nat.reduceMul, Bool.false_eq_true, g0_0, g0_1, e3_is, c18_t hC.1 hN' hk h4 (y1 sc _ S Pz Tz), Bool.false_eq_true, if_false]
  · have hs64 := hsl.2.1
    have hsm1 : mSl (p1 P 0 0) (nwT T c.N kd a b) sn sf := ⟨by rw [p1_n (by decide)]; exact hsm.1, hsm.2.1, by rw [nt _ (by decide)]; exact hsm.2.2⟩
    generalize hT1 : a2 (nwT T c.N kd a b) 234 (va_cpy (nwT T c.N kd a b 228) (nwT T c.N kd a b 234) 0 (64 * c.N) sn) = T1
    have r1 : ∀ o, o ≠ 234 → T1 o = nwT T c.N kd a b o := fun o ho => by rw [← hT1, a2_n ho]
    have r2 : T1 234 = va_cpy (T 228) (T 234) 0 (64 * c.N) sn := by rw [← hT1, a2_s, nt _ (by decide), nt4]
    refine ⟨f2 (f2 (f2 (nwF F c.N kd a b) (22 + 3 * c.N + 1) 1 (nI sn)) 1 1 0) 3 2 (nI (c.N + 1)), a2 A (22 + 3 * c.N + 1 + 1) (va_cpy (A (1 + 1)) (A (22 + 3 * c.N + 1 + 1)) 0 0 sn), G, X, p1 (p1 (p1 P 0 0) 2 0) 5 (nI (c.N + 1)), a2 T1 235 (upd (T1 235) c.N (nI sn)), nI c.N, fun sc d S Pz Tz Q => ?_, fun sc d S Fz Az Gz Xz Q => ?_, Inv.nd (kd := kd) (a' := a') (b' := b') (tn := sn) (tf := sf) (sn := 0) (sf := sf) hok hC hM hvc hvm hlat hN' hg (fun o k o1 o2 o3 o4 => by rw [f2_n (by omega), f2_n (by omega), f2_n (by omega), nf o k o1 o2]) f2_s (by rw [f2_n (by omega), f2_n (by omega), f2_n (by omega)]; exact nf1) (by rw [f2_n (by omega), f2_n (by omega), f2_n (by omega)]; exact nf2) (by rw [f2_n (by omega), f2_n (by omega), f2_n (by omega)]; exact nf3) ⟨by rw [f2_n (by omega), f2_n (by omega), f2_s], hs64, fun j hj => ⟨(hsl.2.2 j hj).1, ?_⟩⟩ (fun o ho => a2_n ho) ⟨by rw [f2_n (by omega), f2_s]; rfl, by omega, fun j hj => by omega⟩ (fun k h0 h2 h5 => by rw [p1_n h5, p1_n h2, p1_n h0]) p1_s (fun o ho => by rw [a2_n (by omega), r1 _ (by omega), nt _ ho]) (fun i hi => ⟨by rw [a2_n (by decide), r1 _ (by decide), nt1, un _ _ _ hi], by rw [a2_n (by decide), r1 _ (by decide), nt2, un _ _ _ hi], by rw [a2_n (by decide), r1 _ (by decide), nt3, un _ _ _ hi], by rw [a2_s, un _ _ _ hi, r1 _ (by decide), nt5, un _ _ _ hi]⟩) (fun i hi => ?_) (by rw [a2_n (by decide), r1 _ (by decide), nt1, us]) (by rw [a2_n (by decide), r1 _ (by decide), nt2, us]; exact ea) (by rw [a2_n (by decide), r1 _ (by decide), nt3, us]; exact eb) ⟨by rw [a2_s, us], hs64, fun j hj => ⟨(hsl.2.2 j hj).1, ?_⟩⟩ ⟨by rw [p1_n (by decide), p1_s]; rfl, by omega, fun j hj => by omega⟩⟩
    · simp only [s17_0, s17_1, s17_4, s17_5, s17_6, s17_7, s17_8, s17_11, s17_11N, s17_14, rn_os, rn_on, Option.toList_some, Option.toList_none, List.cons_append, List.nil_append, wt0, wti, wtr, wtn, nb0, nb1, va_rf, eq_self, a2_s, a2_n, p1_s, p1_n, f2_s, f2_n, false_and, and_false, true_and, and_true, not_false_eq_true, ne_eq, Nat.reduceEqDiff, Nat.reduceAdd, Nat.reduceLeDiff, Nat.reduceSub, Nat.reduceMul, Bool.false_eq_true, g0_0, g0_1, e3_is, c18_s hC.1 hN' (show kd ≤ 4 by omega) hsl (y1 sc _ S Pz Tz), Bool.false_eq_true, if_false]
    · have h0 := c60_e (sc := sc) (d := d + 9) (B := B) (S := S) (F := Fz) (A := Az) (G := Gz) (X := Xz) (Q := Q) (l1 := some (.int (nI kd))) (l2 := some (.int a)) (l3 := some (.int b)) (l4 := some (.int (if uA kd then 1 else 0))) (l5 := some (.int (if uB kd then 1 else 0))) e5 hN' hsm1 sn 0 (by omega)
      rw [cpy_0, a2_id, hT1] at h0
      exact (pre sc d S Fz Az Gz Xz Q).trans ((c60_d (by omega)).trans (h0.trans (c60_f e5 hN' hsm1.1 (by omega))))
    · rw [a2_s]
      unfold va_cpy
      rw [if_pos (by omega), Nat.sub_zero, Nat.zero_add]
      exact (hsl.2.2 j hj).2
    · rw [a2_n (by decide), r2]
      unfold va_cpy
      rw [if_neg (by omega)]
    · rw [a2_n (by decide), r2]
      unfold va_cpy
      rw [if_pos (by omega), show 0 + (64 * c.N + j - 64 * c.N) = j by omega]
      exact (hsm.2.2 j hj).2
end
