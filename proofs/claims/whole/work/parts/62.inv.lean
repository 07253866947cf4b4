/-! what stands between the calls -/
def NdC (c : CX) (F A : Nat → Nat → Int32) : Prop := F 3 2 = nI c.N ∧ ∀ i, i < c.N → F (22 + 3 * i) 1 = nI (c.kd i) ∧ F (22 + 3 * i) 2 = nI (c.a i) ∧ F (22 + 3 * i) 3 = nI (c.b i) ∧ cTx F A (22 + 3 * i + 1) (c.tn i) (c.tf i)
def NdR (c : CX) (P : Nat → Int32) (T : Nat → Nat → Int32) : Prop := P 5 = nI c.N ∧ ∀ i, i < c.N → T 231 i = nI (c.kd i) ∧ T 232 i = nI (c.a i) ∧ T 233 i = nI (c.b i) ∧ mTxt T i (c.tn i) (c.tf i)
def mSl (P : Nat → Int32) (T : Nat → Nat → Int32) (n : Nat) (f : Nat → Nat) : Prop := P 2 = nI n ∧ n ≤ 64 ∧ ∀ j, j < n → f j < 256 ∧ T 228 j = tb (f j)
def Lat (F : Nat → Nat → Int32) (P : Nat → Int32) : Prop := (P 11 = 0 ∧ F 0 3 = -1 ∧ F 0 4 = -1 ∧ F 0 5 = -1) ∨ (P 11 = 1 ∧ F 0 3 = P 12 ∧ F 0 4 = P 13 ∧ F 0 5 = P 14 ∧ ((P 12 = -1 ∧ P 13 = -1) ∨ ∃ x y, x ≤ y ∧ y ≤ 64 ∧ P 12 = nI x ∧ P 13 = nI y))
def Inv (F A : Nat → Nat → Int32) (P : Nat → Int32) (T : Nat → Nat → Int32) : Prop :=
  ∃ (c : CX) (vn : Nat → Nat) (vf : Nat → Nat → Nat) (sn : Nat) (sf : Nat → Nat), c.ok ∧ NdC c F A ∧ NdR c P T ∧ VaC F A vn vf ∧ VaR T vn vf ∧ cTx F A 1 sn sf ∧ mSl P T sn sf ∧ Lat F P
/-- a call on both sides: the same answer, and it stands again -/
def Same (B yc ym : Nat) (lc lm : xm_Ls) (nothing : Bool) : Prop :=
  ∀ (F A : Nat → Nat → Int32) (G : Nat → Option Nat) (X : Option Nat) (P : Nat → Int32) (T : Nat → Nat → Int32), Inv F A P T → ∃ F' A' G' X' P' T' ret, (∀ (sc : xm_Sc) (d S : Nat) (Pz : Nat → Int32) (Tz : Nat → Nat → Int32) (Q : Option Value → xm_M → Prop), rn sc (d + 9) yc 0 (some (.ref B) :: lc) [] (mk B S F A G X Pz Tz) Q = Q (if nothing = true then none else some (.int ret)) (mk B S F' A' G' X' Pz Tz)) ∧ (∀ (sc : xm_Sc) (d S : Nat) (Fz Az : Nat → Nat → Int32) (Gz : Nat → Option Nat) (Xz : Option Nat) (Q : Option Value → xm_M → Prop), rn sc (d + 9) ym 0 (some (.ref (B + 227)) :: lm) [] (mk B S Fz Az Gz Xz P T) Q = Q (if nothing = true then none else some (.int ret)) (mk B S Fz Az Gz Xz P' T')) ∧ Inv F' A' P' T'
section
variable {c : CX} {B : Nat} {F A F' A' T T' : Nat → Nat → Int32} {G G' : Nat → Option Nat} {X X' : Option Nat} {P P' : Nat → Int32} {q clk k n v la : Nat} {x y an : Int32} {s : Nat → Nat} {vn : Nat → Nat} {vf : Nat → Nat → Nat}
/-- the model copies the subject -/
theorem c65_cp {sc : xm_Sc} {d S : Nat} {Q : Option Value → xm_M → Prop} {l2 l3 l5 l6 : Option Value} (hP : P 16 = nI n) (hv : v < 8) (hs : mVar T v n s) (m : Nat) : ∀ q, q + m = n → rn sc (d + 1) 65 35 [some (.ref (B + 227)), some (.int (nI v)), l2, l3, some (.int (nI q)), l5, l6] [] (mk B S F A G X P (a2 T 236 (va_cpy (T 229) (T 236) (64 * v) 0 q))) Q = rn sc (d + 1) 65 35 [some (.ref (B + 227)), some (.int (nI v)), l2, l3, some (.int (nI n)), l5, l6] [] (mk B S F A G X P (a2 T 236 (va_cpy (T 229) (T 236) (64 * v) 0 n))) Q := by
  induction m with
  | zero =>
    intro q hq
    have : q = n := by omega
    subst this
    rfl
  | succ m ih =>
    intro q hq
    obtain ⟨t1, t2⟩ := hs.2.2 q (by omega)
    rw [c65_c hP hs.2.1 hv (show q < n by omega) (r := s q) (by rw [a2_n (by decide)]; exact t2), a2_a2, a2_s, ← t2]
    have := cpy_u (T 229) (T 236) (64 * v) 0 q
    rw [Nat.zero_add] at this
    rw [this]
    exact ih (q + 1) (by omega)
def CX.mt (c : CX) (n : Nat) (s : Nat → Nat) (F A : Nat → Nat → Int32) (P : Nat → Int32) (T : Nat → Nat → Int32) : CX := (c.N, n, s, c.kd, c.a, c.b, c.tn, c.tf, F, A, P, T)
theorem CX.mt_ok {F0 A0 P0 T0} (h : c.ok) (hn : n ≤ 64) : (c.mt n s F0 A0 P0 T0).ok := ⟨h.1, hn, h.2.2⟩
theorem a2_id {o : Nat} : a2 T o (T o) = T := by
  funext o'
  by_cases h : o' = o
  · subst h; simp [a2]
  · simp [a2, h]
theorem cm_match : Same B 25 65 [some (.int x), some (.int y), some (.int an), none, none, none] [some (.int x), some (.int y), some (.int an), none, none, none] false := by
  intro F A G X P T hinv
  obtain ⟨c, vn, vf, sn, sf, hok, hC, hM, hvc, hvm, hsl, hsm, hlat⟩ := id hinv
  have hN := hok.1
  have p0 : Inv F A (p1 P 0 0) T := by
    refine ⟨c, vn, vf, sn, sf, hok, hC, ⟨by rw [p1_n (by decide)]; exact hM.1, hM.2⟩, hvc, hvm, hsl, ⟨by rw [p1_n (by decide)]; exact hsm.1, hsm.2⟩, ?_⟩
    unfold Lat
    rw [p1_n (by decide), p1_n (by decide), p1_n (by decide), p1_n (by decide)]
    exact hlat
  rcases argI (N := 8) (by decide) x with hx | ⟨v, hv, rfl⟩
  · refine ⟨F, A, G, X, p1 P 0 0, T, -1, fun sc d S Pz Tz Q => c25a hx hC.1 hN, fun sc d S Fz Az Gz Xz Q => c65a ?_, p0⟩
    rintro ⟨h1, h2⟩
    rcases hx with hx | hx
    · exact Int32.not_lt.mpr h1 hx
    · exact Int32.not_le.mpr h2 hx
  · rcases argI (N := c.N) (by omega) y with hy | ⟨k, hk, rfl⟩
    · refine ⟨F, A, G, X, p1 P 0 0, T, -1, fun sc d S Pz Tz Q => c25b hv hC.1 hy, fun sc d S Fz Az Gz Xz Q => c65b hv ?_, p0⟩
      rw [hM.1]
      rintro ⟨h1, h2⟩
      rcases hy with hy | hy
      · exact Int32.not_lt.mpr h1 hy
      · exact Int32.not_le.mpr h2 hy
    · have hvt := hvc v hv
      have hvm' := hvm v hv
      have hn64 := hvt.2.1
      obtain ⟨la, hla, hla2⟩ : ∃ la, nI la = (if an = 0 then nI (vn v) else 0) ∧ la ≤ vn v := by
        by_cases h : an = 0
        · exact ⟨vn v, by rw [if_pos h], Nat.le_refl _⟩
        · exact ⟨0, by rw [if_neg h]; rfl, Nat.zero_le _⟩
      generalize hT1 : a2 T 236 (va_cpy (T 229) (T 236) (64 * v) 0 (vn v)) = T1
      have ht : ∀ o, o ≠ 236 → T1 o = T o := fun o ho => by rw [← hT1, a2_n ho]
      have h236 : ∀ j, j < vn v → T1 236 j = T 229 (64 * v + j) := fun j hj => by rw [← hT1, a2_s]; simp [va_cpy, hj]
      have hpm : ∀ k, k ≠ 0 → k ≠ 16 → k ≠ 11 → k ≠ 12 → k ≠ 13 → k ≠ 14 → k ≠ 25 → k ≠ 28 → k ≠ 29 → mdP (mcP P (vn v)) k = P k := fun k _ _ _ _ _ _ _ _ _ => by simp [mdP, mcP, p1, *]
      have hrf : ∀ o k, o ≠ 215 → o ≠ 217 → o ≠ 214 → ruF F (vn v) o k = F o k := fun o k _ _ _ => by rw [ruF, f2_n (by omega), f2_n (by omega), f2_n (by omega)]
      have hra : ∀ o, o ≠ 216 → ruA A v (vn v) o = A o := fun o ho => by rw [ruA, a2_n ho]
      have hok1 : (c.mt (vn v) (vf v) (ruF F (vn v)) (ruA A v (vn v)) (mdP (mcP P (vn v))) T1).ok := CX.mt_ok hok hn64
      have hsmm : Sm (c.mt (vn v) (vf v) (ruF F (vn v)) (ruA A v (vn v)) (mdP (mcP P (vn v))) T1) (ruF F (vn v)) (ruA A v (vn v)) (mdP (mcP P (vn v))) T1 := by
        refine ⟨⟨?_, ⟨?_, hn64, fun j hj => ?_⟩, fun i hi => ?_⟩, ⟨?_, ⟨?_, hn64, fun j hj => ?_⟩, fun i hi => ?_⟩, vn, vf, fun u hu => ?_, fun u hu => ?_, ⟨fun _ => rfl, fun _ => rfl, rfl, rfl⟩, rfl, rfl, rfl, rfl, rfl⟩
        · rw [hrf _ _ (by omega) (by omega) (by omega)]; exact hC.1
        · simp [ruF, f2]; rfl
        · have hj : j < vn v := hj
          refine ⟨(hvt.2.2 j hj).1, ?_⟩
          rw [ruA, a2_s]
          simp [va_cpy, hj]
          exact (hvt.2.2 j hj).2
        · have hi : i < c.N := hi
          obtain ⟨n1, n2, n3, n4⟩ := hC.2 i hi
          exact ⟨by rw [hrf _ _ (by omega) (by omega) (by omega)]; exact n1, by rw [hrf _ _ (by omega) (by omega) (by omega)]; exact n2, by rw [hrf _ _ (by omega) (by omega) (by omega)]; exact n3, n4.kp (hrf _ _ (by omega) (by omega) (by omega)) (hra _ (by omega))⟩
        · rw [hpm 5 (by decide) (by decide) (by decide) (by decide) (by decide) (by decide) (by decide) (by decide) (by decide)]; exact hM.1
        · simp [mdP, mcP, p1]; rfl
        · have hj : j < vn v := hj
          refine ⟨(hvm'.2.2 j hj).1, ?_⟩
          rw [h236 j hj]
          exact (hvm'.2.2 j hj).2
        · obtain ⟨n1, n2, n3, n4, n5, n6⟩ := hM.2 i hi
          exact ⟨by rw [ht 231 (by decide)]; exact n1, by rw [ht 232 (by decide)]; exact n2, by rw [ht 233 (by decide)]; exact n3, by rw [ht 235 (by decide)]; exact n4, n5, by rw [ht 234 (by decide)]; exact n6⟩
        · exact (hvc u hu).kp (hrf _ _ (by omega) (by omega) (by omega)) (hra _ (by omega))
        · obtain ⟨n1, n2, n3⟩ := hvm u hu
          exact ⟨by rw [ht 230 (by decide)]; exact n1, n2, by rw [ht 229 (by decide)]; exact n3⟩
      rw [← CX.at_self (c := c.mt (vn v) (vf v) (ruF F (vn v)) (ruA A v (vn v)) (mdP (mcP P (vn v))) T1)] at hsmm
      obtain ⟨F1, A1, G1, X1, P1, T2, ret, r1, r2, ⟨⟨c2, hc2, hs2⟩, he2, he3⟩⟩ := tries (B := B) (M := 27009000) (c := c.mt (vn v) (vf v) (ruF F (vn v)) (ruA A v (vn v)) (mdP (mcP P (vn v))) T1) hok1 hk hla2 (by decide) (by decide) (la + 1) 0 0 0 _ _ _ G X _ _ (by omega) hsmm (by omega) (by simp [ruF, f2]; rfl) (by simp [mdP, p1]; rfl) (by simp [ruF, f2]) (by simp [mdP, p1]) (by simp [mdP, p1]) (by simp [mdP, p1]; rfl) (by omega)
      obtain ⟨b1, b2, b3, b4, b5, b6, b7, b8, b9, b10, b11, b12⟩ := hc2
      obtain ⟨s1, s2, vn2, vf2, s3, s4, s5, s6⟩ := hs2
      have hlf : ∀ o k, o ≠ 0 → lqF F1 ret (F1 214 5) (F1 214 6) (F1 217 5) o k = F1 o k := fun o k ho => by rw [lqF, f2_n (by omega), f2_n (by omega), f2_n (by omega)]
      refine ⟨lqF F1 ret (F1 214 5) (F1 214 6) (F1 217 5), A1, G1, X1, P1, T2, ret, fun sc d S Pz Tz Q => ?_, fun sc d S Fz Az Gz Xz Q => ?_, c2, vn2, vf2, sn, sf, b1, ⟨?_, fun i hi => ?_⟩, ⟨s2.1, s2.2.2⟩, fun u hu => ?_, s4, ⟨?_, hsl.2.1, fun j hj => ?_⟩, ⟨?_, hsm.2.1, fun j hj => ?_⟩, ?_⟩
      · refine c25 hv hC.1 hN hk (fun Q => ?_)
        rw [c26 hv hvt hla]
        exact r1 sc d S Pz Tz Q _ _
      · have h0 := c65_cp (sc := sc) (d := d + 8) (B := B) (S := S) (F := Fz) (A := Az) (G := Gz) (X := Xz) (P := mcP P (vn v)) (Q := Q) (l2 := some (.int (nI k))) (l3 := some (.int an)) (l5 := none) (l6 := none) (by simp [mcP, p1]) hv hvm' (vn v) 0 (by omega)
        rw [cpy_0, a2_id, hT1] at h0
        rw [c65 hv hM.1 hN hk hvm', h0, c65_d (by simp [mcP, p1]) hn64 hla]
        exact r2 sc (d + 3) S Fz Az Gz Xz Q _ _
      · rw [hlf _ _ (by omega)]; exact s1.1
      · have hN2 := b1.1
        obtain ⟨n1, n2, n3, n4⟩ := s1.2.2 i hi
        exact ⟨by rw [hlf _ _ (by omega)]; exact n1, by rw [hlf _ _ (by omega)]; exact n2, by rw [hlf _ _ (by omega)]; exact n3, n4.kp (hlf _ _ (by omega)) rfl⟩
      · exact (s3 u hu).kp (hlf _ _ (by omega)) rfl
      · rw [hlf _ _ (by omega), s5.2.1, b8]
        show ruF F (vn v) 1 1 = nI sn
        rw [hrf _ _ (by omega) (by omega) (by omega)]
        exact hsl.1
      · rw [s5.2.2.2, b9]
        show sf j < 256 ∧ ruA A v (vn v) 2 j = nI (sf j)
        rw [hra 2 (by decide)]
        exact hsl.2.2 j hj
      · rw [s6.1, b10]
        show mdP (mcP P (vn v)) 2 = nI sn
        rw [hpm 2 (by decide) (by decide) (by decide) (by decide) (by decide) (by decide) (by decide) (by decide) (by decide)]
        exact hsm.1
      · rw [s6.2.2.2.2, b12]
        show sf j < 256 ∧ T1 228 j = tb (sf j)
        rw [ht 228 (by decide)]
        exact hsm.2.2 j hj
      · have e11 : P1 11 = 1 := by
          rw [s6.2.1, b11]
          show mdP (mcP P (vn v)) 11 = 1
          simp [mdP, p1]
        have e5 : lqF F1 ret (F1 214 5) (F1 214 6) (F1 217 5) 0 5 = F1 217 5 := by simp [lqF, f2]
        have e3 : lqF F1 ret (F1 214 5) (F1 214 6) (F1 217 5) 0 3 = if ret = 1 then F1 214 5 else -1 := by simp [lqF, f2]
        have e4 : lqF F1 ret (F1 214 5) (F1 214 6) (F1 217 5) 0 4 = if ret = 1 then F1 214 6 else -1 := by simp [lqF, f2]
        refine Or.inr ⟨e11, ?_, ?_, e5.trans he2, ?_⟩
        · rw [e3]
          rcases he3 with ⟨h1, s0, e0, h2, h3, h4, h5, h6, h7⟩ | ⟨h1, h2, h3⟩
          · rw [if_pos h1, h4, h6]
          · rw [if_neg h1, h2]
            show -1 = mdP (mcP P (vn v)) 12
            simp [mdP, p1]
        · rw [e4]
          rcases he3 with ⟨h1, s0, e0, h2, h3, h4, h5, h6, h7⟩ | ⟨h1, h2, h3⟩
          · rw [if_pos h1, h5, h7]
          · rw [if_neg h1, h3]
            show -1 = mdP (mcP P (vn v)) 13
            simp [mdP, p1]
        · rcases he3 with ⟨h1, s0, e0, h2, h3, h4, h5, h6, h7⟩ | ⟨h1, h2, h3⟩
          · exact Or.inr ⟨s0, e0, h2, h3, h6, h7⟩
          · left
            rw [h2, h3]
            show mdP (mcP P (vn v)) 12 = -1 ∧ mdP (mcP P (vn v)) 13 = -1
            simp [mdP, p1]
end
