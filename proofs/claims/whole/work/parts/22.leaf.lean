/-! WHAT A NODE WITHOUT PARTS DOES, in numbers: a text is its length and its signs -/
def tb (x : Nat) : Int32 := (nI x).toInt8.toInt32
theorem tb_inj {x y : Nat} (hx : x < 256) (hy : y < 256) : tb x = tb y ↔ x = y := by
  constructor
  · intro h
    have h1 := sc_k8 x hx
    have h2 := sc_k8 y hy
    unfold tb at h
    rw [h] at h1
    exact (nI_eq (by omega) (by omega)).mp (h1.symm.trans h2)
  · intro h
    rw [h]
def oi (p : Option Nat) : Int32 := match p with
  | some p => nI p
  | none => -1
/-- is x among the m signs from i on -/
def lf_in (f : Nat → Nat) (x : Nat) : Nat → Nat → Bool
  | 0, _ => false
  | m + 1, i => if f i = x then true else lf_in f x m (i + 1)
/-- are the m signs from i on those of s behind c -/
def lf_eq (f s : Nat → Nat) (c : Nat) : Nat → Nat → Bool
  | 0, _ => true
  | m + 1, i => if f i = s (c + i) then lf_eq f s c m (i + 1) else false
/-- how far the run goes -/
def lf_run (g : Nat → Bool) : Nat → Nat → Nat
  | 0, i => i
  | m + 1, i => if g i = true then lf_run g m (i + 1) else i
/-- brackets: how many are open, the place behind which -/
def lf_bal (s : Nat → Nat) (after : Nat) : Nat → Nat → Nat → Option Nat
  | 0, _, _ => none
  | m + 1, p, dp => if s p = 41 ∧ dp = 0 then none else if (if s p = 40 then dp + 1 else if s p = 41 then dp - 1 else dp) = 0 ∧ after < p + 1 then some (p + 1) else lf_bal s after m (p + 1) (if s p = 40 then dp + 1 else if s p = 41 then dp - 1 else dp)
theorem e64 {k i : Nat} : (64 : Int32) * nI k + nI i = nI (64 * k + i) := by
  rw [show (64 : Int32) = nI 64 from rfl, pk_mul, nI_add]
section
variable {sc : xm_Sc} {d B S : Nat} {F A : Nat → Nat → Int32} {G : Nat → Option Nat} {X : Option Nat} {P : Nat → Int32} {T : Nat → Nat → Int32} {Q : Option Value → xm_M → Prop} {r k q a n c : Nat}
theorem c71_l {tn : Nat} {tf : Nat → Nat} {p x : Nat} (hk : k < 64) (hn : T 235 k = nI tn) (htn : tn ≤ 64) (ht : ∀ j, j < tn → tf j < 256 ∧ T 234 (64 * k + j) = tb (tf j)) (hp : p < 64) (hx : x < 256) (hs : T 236 p = tb x) : ∀ (m i : Nat), i + m = tn → rn sc d 71 2 [some (.ref (B + 227)), some (.int (nI k)), some (.int (nI p)), some (.int (nI i))] [] (mk B S F A G X P T) Q = Q (some (.int (bi (lf_in tf x m i = true)))) (mk B S F A G X P T) := by
  intro m
  induction m with
  | zero =>
    intro i hi
    have h1 : nI tn ≤ nI i := nI_le (by omega) (by omega)
    simp only [s71_0, s71_1, s71_2, s71_3, s71_4, s71_7, s71_8, s71_9, s71_12, s71_13, s71_16, s71_18, s71_19, s71_20, s71_21, s71_22, s71_23, s71_24, s71_27, s71_28, s71_29, s71_32, s71_33 nb0, s71_33 nb1, s71_33 nb_bi, s71_34, s71_37, s71_40, s71_41 nb0, s71_41 nb1, s71_41 nb_bi, rn_os, rn_on, Option.toList_some, Option.toList_none, List.cons_append, List.nil_append, wt0, wti, wtr, wtn, nb0, nb1, va_rf, eq_self, a2_s, a2_n, p1_s, p1_n, f2_s, f2_n, false_and, and_false, true_and, and_true, not_false_eq_true, ne_eq, Nat.reduceEqDiff, Nat.reduceAdd, Nat.reduceLeDiff, Nat.reduceSub, Nat.reduceMul, Bool.false_eq_true, g227_10, g235 hk, hn, h1, if_true, lf_in, bi, Bool.false_eq_true, if_false]
  | succ m ih =>
    intro i hi
    have h1 : ¬ nI tn ≤ nI i := nI_ge (by omega) (by omega)
    obtain ⟨t1, t2⟩ := ht i (by omega)
    have h2 : (64 * k + i) < 4096 := by omega
    rw [s71_2]
    simp only [s71_0, s71_1, s71_3, s71_4, s71_7, s71_8, s71_9, s71_12, s71_13, s71_16, s71_18, s71_19, s71_20, s71_21, s71_22, s71_23, s71_24, s71_27, s71_28, s71_29, s71_32, s71_33 nb0, s71_33 nb1, s71_33 nb_bi, s71_34, s71_37, s71_40, s71_41 nb0, s71_41 nb1, s71_41 nb_bi,  rn_os, rn_on, Option.toList_some, Option.toList_none, List.cons_append, List.nil_append, wt0, wti, wtr, wtn, nb0, nb1, va_rf, eq_self, a2_s, a2_n, p1_s, p1_n, f2_s, f2_n, false_and, and_false, true_and, and_true, not_false_eq_true, ne_eq, Nat.reduceEqDiff, Nat.reduceAdd, Nat.reduceLeDiff, Nat.reduceSub, Nat.reduceMul, Bool.false_eq_true, g227_10, g227_9, g227_15, g235 hk, hn, h1, if_false, e64, g234 h2, g236 hp, hs, t2, tb_inj t1 hx, nI_1, ih (i + 1) (by omega), lf_in]
    by_cases h3 : tf i = x
    · simp [h3, bi]
    · simp [h3]
theorem c71 {tn : Nat} {tf : Nat → Nat} {p x : Nat} (hk : k < 64) (hn : T 235 k = nI tn) (htn : tn ≤ 64) (ht : ∀ j, j < tn → tf j < 256 ∧ T 234 (64 * k + j) = tb (tf j)) (hp : p < 64) (hx : x < 256) (hs : T 236 p = tb x) : rn sc d 71 0 [some (.ref (B + 227)), some (.int (nI k)), some (.int (nI p)), none] [] (mk B S F A G X P T) Q = Q (some (.int (bi (lf_in tf x tn 0 = true)))) (mk B S F A G X P T) := by
  have h := c71_l (sc := sc) (d := d) (B := B) (S := S) (F := F) (A := A) (G := G) (X := X) (P := P) (Q := Q) hk hn htn ht hp hx hs tn 0 (by omega)
  rw [nI_0] at h
  rw [s71_0, s71_1]
  exact h
/-- the subject as the model has it -/
def mSub (P : Nat → Int32) (T : Nat → Nat → Int32) (n : Nat) (s : Nat → Nat) : Prop := P 16 = nI n ∧ n ≤ 64 ∧ ∀ j, j < n → s j < 256 ∧ T 236 j = tb (s j)
/-- a node's text as the model has it -/
def mTxt (T : Nat → Nat → Int32) (k tn : Nat) (tf : Nat → Nat) : Prop := T 235 k = nI tn ∧ tn ≤ 64 ∧ ∀ j, j < tn → tf j < 256 ∧ T 234 (64 * k + j) = tb (tf j)
/-- a variable's text as the model has it -/
def mVar (T : Nat → Nat → Int32) (v tn : Nat) (tf : Nat → Nat) : Prop := T 230 v = nI tn ∧ tn ≤ 64 ∧ ∀ j, j < tn → tf j < 256 ∧ T 229 (64 * v + j) = tb (tf j)
theorem c71m {tn : Nat} {tf : Nat → Nat} {p : Nat} {s : Nat → Nat} (hk : k < 64) (ht : mTxt T k tn tf) (hs : mSub P T n s) (hp : p < n) : rn sc d 71 0 [some (.ref (B + 227)), some (.int (nI k)), some (.int (nI p)), none] [] (mk B S F A G X P T) Q = Q (some (.int (bi (lf_in tf (s p) tn 0 = true)))) (mk B S F A G X P T) :=
  c71 hk ht.1 ht.2.1 ht.2.2 (by have := hs.2.1; omega) (hs.2.2 p hp).1 (hs.2.2 p hp).2
theorem c73 {tn : Nat} {tf : Nat → Nat} {s : Nat → Nat} (hk : k < 64) (ht : mTxt T k tn tf) (hs : mSub P T n s) (hc : c ≤ n) : rn sc (d + 1) 73 0 [some (.ref (B + 227)), some (.int (nI k)), some (.int (nI c)), none] [] (mk B S F A G X P T) Q = Q (some (.int (oi (if c < lf_run (fun i => lf_in tf (s i) tn 0) (n - c) c then some (lf_run (fun i => lf_in tf (s i) tn 0) (n - c) c) else none)))) (mk B S F A G X P T) := by
  have hl : ∀ (m i : Nat), i + m = n → c ≤ i → rn sc (d + 1) 73 2 [some (.ref (B + 227)), some (.int (nI k)), some (.int (nI c)), some (.int (nI i))] [] (mk B S F A G X P T) Q = Q (some (.int (oi (if c < lf_run (fun i => lf_in tf (s i) tn 0) m i then some (lf_run (fun i => lf_in tf (s i) tn 0) m i) else none)))) (mk B S F A G X P T) := by
    have hn64 := hs.2.1
    have fin : ∀ i, i ≤ n → c ≤ i → rn sc (d + 1) 73 25 [some (.ref (B + 227)), some (.int (nI k)), some (.int (nI c)), some (.int (nI i))] [] (mk B S F A G X P T) Q = Q (some (.int (oi (if c < i then some i else none)))) (mk B S F A G X P T) := by
      intro i hi hci
      by_cases h : c < i
      · have h1 : ¬ nI i ≤ nI c := nI_ge h (by omega)
        simp only [s73_0, s73_1, s73_2, s73_3, s73_4, s73_7, s73_10, s73_11, s73_12, s73_13, s73_16, s73_19, s73_22, s73_25, s73_26, s73_27, s73_30, s73_31, s73_34, s73_35, rn_os, rn_on, Option.toList_some, Option.toList_none, List.cons_append, List.nil_append, wt0, wti, wtr, wtn, nb0, nb1, va_rf, eq_self, a2_s, a2_n, p1_s, p1_n, f2_s, f2_n, false_and, and_false, true_and, and_true, not_false_eq_true, ne_eq, Nat.reduceEqDiff, Nat.reduceAdd, Nat.reduceLeDiff, Nat.reduceSub, Nat.reduceMul, Bool.false_eq_true, h1, if_false, h, if_true, oi]
      · have h1 : nI i ≤ nI c := nI_le (by omega) (by omega)
        simp only [s73_0, s73_1, s73_2, s73_3, s73_4, s73_7, s73_10, s73_11, s73_12, s73_13, s73_16, s73_19, s73_22, s73_25, s73_26, s73_27, s73_30, s73_31, s73_34, s73_35, rn_os, rn_on, Option.toList_some, Option.toList_none, List.cons_append, List.nil_append, wt0, wti, wtr, wtn, nb0, nb1, va_rf, eq_self, a2_s, a2_n, p1_s, p1_n, f2_s, f2_n, false_and, and_false, true_and, and_true, not_false_eq_true, ne_eq, Nat.reduceEqDiff, Nat.reduceAdd, Nat.reduceLeDiff, Nat.reduceSub, Nat.reduceMul, Bool.false_eq_true, h1, if_true, h, if_false, oi]
    intro m
    induction m with
    | zero =>
      intro i hi hci
      have h1 : nI n ≤ nI i := nI_le (by omega) (by omega)
      rw [s73_2]
      simp only [s73_0, s73_1, s73_3, s73_4, s73_7, s73_10, s73_11, s73_12, s73_13, s73_16, s73_19, s73_22, s73_26, s73_27, s73_30, s73_31, s73_34, s73_35,  rn_os, rn_on, Option.toList_some, Option.toList_none, List.cons_append, List.nil_append, wt0, wti, wtr, wtn, nb0, nb1, va_rf, eq_self, a2_s, a2_n, p1_s, p1_n, f2_s, f2_n, false_and, and_false, true_and, and_true, not_false_eq_true, ne_eq, Nat.reduceEqDiff, Nat.reduceAdd, Nat.reduceLeDiff, Nat.reduceSub, Nat.reduceMul, Bool.false_eq_true, g227_16, hs.1, h1, if_true, fin i (by omega) hci, lf_run]
      try rfl
    | succ m ih =>
      intro i hi hci
      have h1 : ¬ nI n ≤ nI i := nI_ge (by omega) (by omega)
      rw [s73_2]
      simp only [s73_0, s73_1, s73_3, s73_4, s73_7, s73_10, s73_11, s73_12, s73_13, s73_16, s73_19, s73_22, s73_26, s73_27, s73_30, s73_31, s73_34, s73_35,  rn_os, rn_on, Option.toList_some, Option.toList_none, List.cons_append, List.nil_append, wt0, wti, wtr, wtn, nb0, nb1, va_rf, eq_self, a2_s, a2_n, p1_s, p1_n, f2_s, f2_n, false_and, and_false, true_and, and_true, not_false_eq_true, ne_eq, Nat.reduceEqDiff, Nat.reduceAdd, Nat.reduceLeDiff, Nat.reduceSub, Nat.reduceMul, Bool.false_eq_true, g227_16, hs.1, h1, if_false, e227_is, c71m hk ht hs (show i < n by omega), fin i (by omega) hci, nI_1, ih (i + 1) (by omega) (by omega), lf_run]
      by_cases h3 : lf_in tf (s i) tn 0 = true
      · simp [h3, bi]
      · simp [h3, bi]
  rw [s73_0, s73_1]
  exact hl (n - c) c (by omega) (Nat.le_refl _)
theorem c74 {tn : Nat} {tf : Nat → Nat} {s : Nat → Nat} (hk : k < 64) (ht : mTxt T k tn tf) (hs : mSub P T n s) (hc : c ≤ n) : rn sc (d + 1) 74 0 [some (.ref (B + 227)), some (.int (nI k)), some (.int (nI c)), none] [] (mk B S F A G X P T) Q = Q (some (.int (oi (if lf_run (fun i => !lf_in tf (s i) tn 0) (n - c) c < n then some (lf_run (fun i => !lf_in tf (s i) tn 0) (n - c) c) else none)))) (mk B S F A G X P T) := by
  have hn64 := hs.2.1
  have fin : ∀ i, i ≤ n → rn sc (d + 1) 74 25 [some (.ref (B + 227)), some (.int (nI k)), some (.int (nI c)), some (.int (nI i))] [] (mk B S F A G X P T) Q = Q (some (.int (oi (if i < n then some i else none)))) (mk B S F A G X P T) := by
    intro i hi
    by_cases h : i < n
    · have h1 : ¬ nI n ≤ nI i := nI_ge h (by omega)
      simp only [s74_0, s74_1, s74_2, s74_3, s74_4, s74_7, s74_10, s74_11, s74_12, s74_13, s74_16, s74_19, s74_22, s74_25, s74_26, s74_27, s74_30, s74_33, s74_34, s74_37, s74_38, rn_os, rn_on, Option.toList_some, Option.toList_none, List.cons_append, List.nil_append, wt0, wti, wtr, wtn, nb0, nb1, va_rf, eq_self, a2_s, a2_n, p1_s, p1_n, f2_s, f2_n, false_and, and_false, true_and, and_true, not_false_eq_true, ne_eq, Nat.reduceEqDiff, Nat.reduceAdd, Nat.reduceLeDiff, Nat.reduceSub, Nat.reduceMul, Bool.false_eq_true, g227_16, hs.1, h1, if_false, h, if_true, oi]
    · have h1 : nI n ≤ nI i := nI_le (by omega) (by omega)
      simp only [s74_0, s74_1, s74_2, s74_3, s74_4, s74_7, s74_10, s74_11, s74_12, s74_13, s74_16, s74_19, s74_22, s74_25, s74_26, s74_27, s74_30, s74_33, s74_34, s74_37, s74_38, rn_os, rn_on, Option.toList_some, Option.toList_none, List.cons_append, List.nil_append, wt0, wti, wtr, wtn, nb0, nb1, va_rf, eq_self, a2_s, a2_n, p1_s, p1_n, f2_s, f2_n, false_and, and_false, true_and, and_true, not_false_eq_true, ne_eq, Nat.reduceEqDiff, Nat.reduceAdd, Nat.reduceLeDiff, Nat.reduceSub, Nat.reduceMul, Bool.false_eq_true, g227_16, hs.1, h1, if_true, h, if_false, oi]
  have hl : ∀ (m i : Nat), i + m = n → rn sc (d + 1) 74 2 [some (.ref (B + 227)), some (.int (nI k)), some (.int (nI c)), some (.int (nI i))] [] (mk B S F A G X P T) Q = Q (some (.int (oi (if lf_run (fun i => !lf_in tf (s i) tn 0) m i < n then some (lf_run (fun i => !lf_in tf (s i) tn 0) m i) else none)))) (mk B S F A G X P T) := by
    intro m
    induction m with
    | zero =>
      intro i hi
      have h1 : nI n ≤ nI i := nI_le (by omega) (by omega)
      rw [s74_2]
      simp only [s74_0, s74_1, s74_3, s74_4, s74_7, s74_10, s74_11, s74_12, s74_13, s74_16, s74_19, s74_22, s74_26, s74_27, s74_30, s74_33, s74_34, s74_37, s74_38,  rn_os, rn_on, Option.toList_some, Option.toList_none, List.cons_append, List.nil_append, wt0, wti, wtr, wtn, nb0, nb1, va_rf, eq_self, a2_s, a2_n, p1_s, p1_n, f2_s, f2_n, false_and, and_false, true_and, and_true, not_false_eq_true, ne_eq, Nat.reduceEqDiff, Nat.reduceAdd, Nat.reduceLeDiff, Nat.reduceSub, Nat.reduceMul, Bool.false_eq_true, g227_16, hs.1, h1, if_true, fin i (by omega), lf_run]
      try rfl
    | succ m ih =>
      intro i hi
      have h1 : ¬ nI n ≤ nI i := nI_ge (by omega) (by omega)
      rw [s74_2]
      simp only [s74_0, s74_1, s74_3, s74_4, s74_7, s74_10, s74_11, s74_12, s74_13, s74_16, s74_19, s74_22, s74_26, s74_27, s74_30, s74_33, s74_34, s74_37, s74_38,  rn_os, rn_on, Option.toList_some, Option.toList_none, List.cons_append, List.nil_append, wt0, wti, wtr, wtn, nb0, nb1, va_rf, eq_self, a2_s, a2_n, p1_s, p1_n, f2_s, f2_n, false_and, and_false, true_and, and_true, not_false_eq_true, ne_eq, Nat.reduceEqDiff, Nat.reduceAdd, Nat.reduceLeDiff, Nat.reduceSub, Nat.reduceMul, Bool.false_eq_true, g227_16, hs.1, h1, if_false, e227_is, c71m hk ht hs (show i < n by omega), fin i (by omega), nI_1, ih (i + 1) (by omega), lf_run]
      by_cases h3 : lf_in tf (s i) tn 0 = true
      · simp [h3, bi]
      · simp [h3, bi]
  rw [s74_0, s74_1]
  exact hl (n - c) c (by omega)
/-- behind(words, 64 k, .., c) and behind(texts, 64 v, .., c) -/
theorem c72w {tn : Nat} {tf : Nat → Nat} {s : Nat → Nat} (hk : k < 64) (htn : tn ≤ 64) (ht : ∀ j, j < tn → tf j < 256 ∧ T 234 (64 * k + j) = tb (tf j)) (hs : mSub P T n s) (hc : c ≤ n) : rn sc d 72 0 [some (.ref (B + 227)), some (.ref (B + 234)), some (.int (nI (64 * k))), some (.int (nI tn)), some (.int (nI c)), none] [] (mk B S F A G X P T) Q = Q (some (.int (oi (if tn ≤ n - c ∧ lf_eq tf s c tn 0 = true then some (c + tn) else none)))) (mk B S F A G X P T) := by
  have hn64 := hs.2.1
  by_cases h0 : tn ≤ n - c
  · have h1 : nI tn ≤ nI n - nI c := by rw [pk_sub hc]; exact nI_le h0 (by omega)
    have hl : ∀ (m i : Nat), i + m = tn → rn sc d 72 16 [some (.ref (B + 227)), some (.ref (B + 234)), some (.int (nI (64 * k))), some (.int (nI tn)), some (.int (nI c)), some (.int (nI i))] [] (mk B S F A G X P T) Q = Q (some (.int (oi (if lf_eq tf s c m i = true then some (c + tn) else none)))) (mk B S F A G X P T) := by
      intro m
      induction m with
      | zero =>
        intro i hi
        have h1 : nI tn ≤ nI i := nI_le (by omega) (by omega)
        rw [s72_16]
        simp only [s72_0, s72_1, s72_2, s72_5, s72_7, s72_8, s72_11, s72_12, s72_13, s72_14, s72_18, s72_19, s72_22, s72_22N, s72_23, s72_24, s72_26, s72_27, s72_28, s72_29, s72_32, s72_34, s72_36, s72_37, s72_38, s72_41, s72_42, s72_43, s72_46, s72_49, s72_51, s72_52, s72_53,  rn_os, rn_on, Option.toList_some, Option.toList_none, List.cons_append, List.nil_append, wt0, wti, wtr, wtn, nb0, nb1, va_rf, eq_self, a2_s, a2_n, p1_s, p1_n, f2_s, f2_n, false_and, and_false, true_and, and_true, not_false_eq_true, ne_eq, Nat.reduceEqDiff, Nat.reduceAdd, Nat.reduceLeDiff, Nat.reduceSub, Nat.reduceMul, Bool.false_eq_true, h1, if_true, lf_eq, oi, nI_add]
      | succ m ih =>
        intro i hi
        have h1 : ¬ nI tn ≤ nI i := nI_ge (by omega) (by omega)
        obtain ⟨t1, t2⟩ := ht i (by omega)
        obtain ⟨u1, u2⟩ := hs.2.2 (c + i) (by omega)
        have h2 : (64 * k + i) < 4096 := by omega
        have h3 : c + i < 64 := by omega
        rw [s72_16]
        simp only [s72_0, s72_1, s72_2, s72_5, s72_7, s72_8, s72_11, s72_12, s72_13, s72_14, s72_18, s72_19, s72_22, s72_22N, s72_23, s72_24, s72_26, s72_27, s72_28, s72_29, s72_32, s72_34, s72_36, s72_37, s72_38, s72_41, s72_42, s72_43, s72_46, s72_49, s72_51, s72_52, s72_53,  rn_os, rn_on, Option.toList_some, Option.toList_none, List.cons_append, List.nil_append, wt0, wti, wtr, wtn, nb0, nb1, va_rf, eq_self, a2_s, a2_n, p1_s, p1_n, f2_s, f2_n, false_and, and_false, true_and, and_true, not_false_eq_true, ne_eq, Nat.reduceEqDiff, Nat.reduceAdd, Nat.reduceLeDiff, Nat.reduceSub, Nat.reduceMul, Bool.false_eq_true, g227_15, h1, if_false, nI_add, g234 h2, g236 h3, t2, u2, tb_inj t1 u1, nI_1, ih (i + 1) (by omega), lf_eq]
        by_cases h4 : tf i = s (c + i)
        · simp [h4]
        · simp [h4, oi]
    simp only [s72_0, s72_1, s72_2, s72_5, s72_7, s72_8, s72_11, s72_12, s72_13, s72_14, s72_18, s72_19, s72_22, s72_22N, s72_23, s72_24, s72_26, s72_27, s72_28, s72_29, s72_32, s72_34, s72_36, s72_37, s72_38, s72_41, s72_42, s72_43, s72_46, s72_49, s72_51, s72_52, s72_53,  rn_os, rn_on, Option.toList_some, Option.toList_none, List.cons_append, List.nil_append, wt0, wti, wtr, wtn, nb0, nb1, va_rf, eq_self, a2_s, a2_n, p1_s, p1_n, f2_s, f2_n, false_and, and_false, true_and, and_true, not_false_eq_true, ne_eq, Nat.reduceEqDiff, Nat.reduceAdd, Nat.reduceLeDiff, Nat.reduceSub, Nat.reduceMul, Bool.false_eq_true, g227_16, hs.1, h1, if_true]
    rw [← nI_0, hl tn 0 (by omega)]
    simp [h0]
  · have h1 : ¬ nI tn ≤ nI n - nI c := by rw [pk_sub hc]; exact nI_ge (by omega) (by omega)
    simp only [s72_0, s72_1, s72_2, s72_5, s72_7, s72_8, s72_11, s72_12, s72_13, s72_14, s72_18, s72_19, s72_22, s72_22N, s72_23, s72_24, s72_26, s72_27, s72_28, s72_29, s72_32, s72_34, s72_36, s72_37, s72_38, s72_41, s72_42, s72_43, s72_46, s72_49, s72_51, s72_52, s72_53,  rn_os, rn_on, Option.toList_some, Option.toList_none, List.cons_append, List.nil_append, wt0, wti, wtr, wtn, nb0, nb1, va_rf, eq_self, a2_s, a2_n, p1_s, p1_n, f2_s, f2_n, false_and, and_false, true_and, and_true, not_false_eq_true, ne_eq, Nat.reduceEqDiff, Nat.reduceAdd, Nat.reduceLeDiff, Nat.reduceSub, Nat.reduceMul, Bool.false_eq_true, g227_16, hs.1, h1, if_false, h0, false_and, oi]
theorem c72v {v tn : Nat} {tf : Nat → Nat} {s : Nat → Nat} (hv : v < 8) (htn : tn ≤ 64) (ht : ∀ j, j < tn → tf j < 256 ∧ T 229 (64 * v + j) = tb (tf j)) (hs : mSub P T n s) (hc : c ≤ n) : rn sc d 72 0 [some (.ref (B + 227)), some (.ref (B + 229)), some (.int (nI (64 * v))), some (.int (nI tn)), some (.int (nI c)), none] [] (mk B S F A G X P T) Q = Q (some (.int (oi (if tn ≤ n - c ∧ lf_eq tf s c tn 0 = true then some (c + tn) else none)))) (mk B S F A G X P T) := by
  have hn64 := hs.2.1
  by_cases h0 : tn ≤ n - c
  · have h1 : nI tn ≤ nI n - nI c := by rw [pk_sub hc]; exact nI_le h0 (by omega)
    have hl : ∀ (m i : Nat), i + m = tn → rn sc d 72 16 [some (.ref (B + 227)), some (.ref (B + 229)), some (.int (nI (64 * v))), some (.int (nI tn)), some (.int (nI c)), some (.int (nI i))] [] (mk B S F A G X P T) Q = Q (some (.int (oi (if lf_eq tf s c m i = true then some (c + tn) else none)))) (mk B S F A G X P T) := by
      intro m
      induction m with
      | zero =>
        intro i hi
        have h1 : nI tn ≤ nI i := nI_le (by omega) (by omega)
        rw [s72_16]
        simp only [s72_0, s72_1, s72_2, s72_5, s72_7, s72_8, s72_11, s72_12, s72_13, s72_14, s72_18, s72_19, s72_22, s72_22N, s72_23, s72_24, s72_26, s72_27, s72_28, s72_29, s72_32, s72_34, s72_36, s72_37, s72_38, s72_41, s72_42, s72_43, s72_46, s72_49, s72_51, s72_52, s72_53,  rn_os, rn_on, Option.toList_some, Option.toList_none, List.cons_append, List.nil_append, wt0, wti, wtr, wtn, nb0, nb1, va_rf, eq_self, a2_s, a2_n, p1_s, p1_n, f2_s, f2_n, false_and, and_false, true_and, and_true, not_false_eq_true, ne_eq, Nat.reduceEqDiff, Nat.reduceAdd, Nat.reduceLeDiff, Nat.reduceSub, Nat.reduceMul, Bool.false_eq_true, h1, if_true, lf_eq, oi, nI_add]
      | succ m ih =>
        intro i hi
        have h1 : ¬ nI tn ≤ nI i := nI_ge (by omega) (by omega)
        obtain ⟨t1, t2⟩ := ht i (by omega)
        obtain ⟨u1, u2⟩ := hs.2.2 (c + i) (by omega)
        have h2 : (64 * v + i) < 512 := by omega
        have h3 : c + i < 64 := by omega
        rw [s72_16]
        simp only [s72_0, s72_1, s72_2, s72_5, s72_7, s72_8, s72_11, s72_12, s72_13, s72_14, s72_18, s72_19, s72_22, s72_22N, s72_23, s72_24, s72_26, s72_27, s72_28, s72_29, s72_32, s72_34, s72_36, s72_37, s72_38, s72_41, s72_42, s72_43, s72_46, s72_49, s72_51, s72_52, s72_53,  rn_os, rn_on, Option.toList_some, Option.toList_none, List.cons_append, List.nil_append, wt0, wti, wtr, wtn, nb0, nb1, va_rf, eq_self, a2_s, a2_n, p1_s, p1_n, f2_s, f2_n, false_and, and_false, true_and, and_true, not_false_eq_true, ne_eq, Nat.reduceEqDiff, Nat.reduceAdd, Nat.reduceLeDiff, Nat.reduceSub, Nat.reduceMul, Bool.false_eq_true, g227_15, h1, if_false, nI_add, g229 h2, g236 h3, t2, u2, tb_inj t1 u1, nI_1, ih (i + 1) (by omega), lf_eq]
        by_cases h4 : tf i = s (c + i)
        · simp [h4]
        · simp [h4, oi]
    simp only [s72_0, s72_1, s72_2, s72_5, s72_7, s72_8, s72_11, s72_12, s72_13, s72_14, s72_18, s72_19, s72_22, s72_22N, s72_23, s72_24, s72_26, s72_27, s72_28, s72_29, s72_32, s72_34, s72_36, s72_37, s72_38, s72_41, s72_42, s72_43, s72_46, s72_49, s72_51, s72_52, s72_53,  rn_os, rn_on, Option.toList_some, Option.toList_none, List.cons_append, List.nil_append, wt0, wti, wtr, wtn, nb0, nb1, va_rf, eq_self, a2_s, a2_n, p1_s, p1_n, f2_s, f2_n, false_and, and_false, true_and, and_true, not_false_eq_true, ne_eq, Nat.reduceEqDiff, Nat.reduceAdd, Nat.reduceLeDiff, Nat.reduceSub, Nat.reduceMul, Bool.false_eq_true, g227_16, hs.1, h1, if_true]
    rw [← nI_0, hl tn 0 (by omega)]
    simp [h0]
  · have h1 : ¬ nI tn ≤ nI n - nI c := by rw [pk_sub hc]; exact nI_ge (by omega) (by omega)
    simp only [s72_0, s72_1, s72_2, s72_5, s72_7, s72_8, s72_11, s72_12, s72_13, s72_14, s72_18, s72_19, s72_22, s72_22N, s72_23, s72_24, s72_26, s72_27, s72_28, s72_29, s72_32, s72_34, s72_36, s72_37, s72_38, s72_41, s72_42, s72_43, s72_46, s72_49, s72_51, s72_52, s72_53,  rn_os, rn_on, Option.toList_some, Option.toList_none, List.cons_append, List.nil_append, wt0, wti, wtr, wtn, nb0, nb1, va_rf, eq_self, a2_s, a2_n, p1_s, p1_n, f2_s, f2_n, false_and, and_false, true_and, and_true, not_false_eq_true, ne_eq, Nat.reduceEqDiff, Nat.reduceAdd, Nat.reduceLeDiff, Nat.reduceSub, Nat.reduceMul, Bool.false_eq_true, g227_16, hs.1, h1, if_false, h0, false_and, oi]
end
