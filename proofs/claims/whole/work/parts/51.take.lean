/-! takeStep and begins, side by side -/
def nF (F : Nat → Nat → Int32) (q : Nat) : Nat → Nat → Int32 := f2 F 217 5 (nI (q + 1))
def nA (F A : Nat → Nat → Int32) (q : Nat) : Nat → Nat → Int32 := caA A (q + 1) (F 214 6) (F 214 10) (F 225 1)
def nG (G : Nat → Option Nat) (B k q : Nat) : Nat → Option Nat := va_up G (q + 1) (some (B + (22 + 3 * k)))
/-- one turn of the class, some of the model, and where they are then -/
def Nx (c : CX) (B rt K V : Nat) (F A : Nat → Nat → Int32) (G : Nat → Option Nat) (X : Option Nat) (P : Nat → Int32) (T : Nat → Nat → Int32) : Prop :=
  ∃ F' A' G' X' P' T', CRun B F A G X F' A' G' X' ∧ MRun B rt P T P' T' ∧ (Sim c B rt K (V - 1) F' A' G' X' P' T' ∨ Fin c B rt K F' A' G' P' T')
section
variable {c : CX} {g g' : GH} {B : Nat} {F A F' A' T T' T0 T2 : Nat → Nat → Int32} {G G' : Nat → Option Nat} {X X' : Option Nat} {P P' P0 : Nat → Int32} {L : SL} {kl : KL} {q q' clk clk' rt cu cu' r p e k s w o o1 V K l s0 : Nat} {es : SL} {ek : KL} {vn : Nat → Nat} {vf : Nat → Nat → Nat}
theorem m0 {P' : Nat → Int32} {T' : Nat → Nat → Int32} (h1 : P 28 = 0) (h2 : P 29 = 0) (h3 : P 27 = 0) (hc : ∀ (sc : xm_Sc) (d S : Nat) (F A : Nat → Nat → Int32) (G : Nat → Option Nat) (X : Option Nat) (Q : Option Value → xm_M → Prop), rn sc (d + 4) 68 0 [some (.ref (B + 227)), none, none, none] [] (mk B S F A G X P T) Q = Q none (mk B S F A G X P' T')) : MRun B rt P T P' T' := fun sc d S F A G X Q _ _ l4 => ⟨l4, c66_0 h1 h2 h3 (hc sc d S F A G X)⟩
theorem cB (h7 : F 214 7 = 4) (h8 : F 214 8 = 0) (hX : X = some (B + (22 + 3 * k))) (hk : k < 64) (h5 : F 217 5 = nI q) (hq : q < 3000) (hc : ∀ (sc : xm_Sc) (d S : Nat) (P : Nat → Int32) (T : Nat → Nat → Int32) (Q : Option Value → xm_M → Prop), rn sc (d + 6) 29 50 [some (.ref (B + 214)), some (.int (nI (q + 1)))] [.int (F (22 + 3 * k) 1)] (mk B S (nF F q) (nA F A q) (nG G B k q) X P T) Q = Q none (mk B S F' A' G' X' P T)) : CRun B F A G X F' A' G' X' := fun t ht sc d S P T Q l1 l2 => c27_0 ht h7 h8 (fun Q => by rw [c29_pre hX hk h5 hq]; exact hc sc d S P T Q)
theorem kpC.n : kpC F A (nF F q) (nA F A q) := ⟨fun o k ho => f2_n (by omega), fun o ho => by rw [nA, caA, a2_n (by omega), a2_n (by omega), a2_n (by omega), a2_n (by omega)]⟩
theorem nA_n {j : Nat} (h : j ≠ q + 1) : nA F A q o j = A o j := by
  unfold nA caA
  by_cases h1 : o = 222
  · subst h1; simp [a2, upd, h]
  · rw [a2_n h1]
    by_cases h2 : o = 221
    · subst h2; simp [a2, upd, h]
    · rw [a2_n h2]
      by_cases h3 : o = 220
      · subst h3; simp [a2, upd, h]
      · rw [a2_n h3]
        by_cases h4 : o = 219
        · subst h4; simp [a2, upd, h]
        · rw [a2_n h4]
theorem SB.cnt (h : SB c g B rt q clk F A G X P T) : Bs c g B rt (q + 1) clk q (g.BS q) (g.BK q) (nF F q) (nA F A q) (nG G B (g.k q) q) P T := by
  obtain ⟨⟨hok, hsm, hR, hq, h7, h28, h29, h25, h26, h5, hpL, hpk, h244, hKO, hDec⟩, hq3, ho, h8, hX, h6, h10, h14, h27, -⟩ := h
  have e4 : nA F A q 224 = A 224 := by rw [nA, caA, a2_n (by decide), a2_n (by decide), a2_n (by decide), a2_n (by decide)]
  have e6 : nA F A q 226 = A 226 := by rw [nA, caA, a2_n (by decide), a2_n (by decide), a2_n (by decide), a2_n (by decide)]
  refine ⟨hok, hsm.kp hok kpC.n kpR.rf, ?_, hq3, by rw [nF, f2_n (by omega)]; exact h7, h28, h29, h25, h26, f2_s, ⟨by rw [e4]; exact hpL.1, by rw [nF, f2_n (by omega)]; exact hpL.2⟩, ⟨by rw [e6]; exact hpk.1, by rw [nF, f2_n (by omega)]; exact hpk.2⟩, h244, hKO, hDec.mono (by omega)⟩
  refine hR.cnt (fun o j hj => nA_n hj) (fun j hj => up_n hj) ⟨up_s, ?_, ?_, ?_⟩
  · rw [← h6]; simp [nA, caA, a2, upd]
  · rw [← h10]; simp [nA, caA, a2, upd]
  · rw [← hpk.2]; simp [nA, caA, a2, upd]
/-- a node that succeeds once at most, on the class's side and on the model's -/
theorem pl_c (hok : c.ok) (hC : StC c F A) (hV : VaC F A vn vf) (hk : k < c.N) (hkd : c.kd k < 11 ∨ c.kd k = 13 ∨ c.kd k = 22) (hs : s0 ≤ c.n) {sc : xm_Sc} {d S : Nat} {Q : Option Value → xm_M → Prop} : rn sc (d + 4) 35 0 [some (.ref (B + 214)), some (.ref (B + (22 + 3 * k))), some (.int (nI s0))] [] (mk B S F A G X P T) Q = Q (some (.int (oi (lf (c.kd k) (c.a k) c.n s0 c.s (c.tn k) (c.tf k) (vn (c.a k)) (vf (c.a k)))))) (mk B S F A G X P T) := by
  obtain ⟨hN, hn, ho⟩ := hok
  obtain ⟨-, o2, -, -, -, o6⟩ := ho k hk
  obtain ⟨-, hsu, hno⟩ := hC
  obtain ⟨n1, n2, n3, n4⟩ := hno k hk
  have hk : k < 64 := by omega
  have hcase : c.kd k = 0 ∨ c.kd k = 1 ∨ c.kd k = 2 ∨ c.kd k = 3 ∨ c.kd k = 4 ∨ (c.kd k = 5 ∨ c.kd k = 6 ∨ c.kd k = 7 ∨ c.kd k = 8 ∨ c.kd k = 9 ∨ c.kd k = 10 ∨ c.kd k = 13) ∨ c.kd k = 22 := by omega
  rcases hcase with h | h | h | h | h | h | h
  · rw [h] at n1 ⊢; exact c35_0 hsu hk n4 hs n2 o2 n1
  · rw [h] at n1 ⊢; exact c35_1 hsu hk n4 hs n2 o2 n1
  · rw [h] at n1 ⊢; exact c35_2 hsu hk n4 hs n2 o2 n1
  · rw [h] at n1 ⊢; exact c35_3 hsu hk n4 hs n2 o2 n1
  · rw [h] at n1 ⊢; exact c35_4 hsu hk n4 hs n2 o2 n1
  · exact c35_c hsu hk n4 hs n2 o2 n1 h
  · have ha := o6 (Or.inr h)
    rw [h] at n1 ⊢; exact c35_22 hsu hk n4 hs n2 o2 n1 ha (hV _ ha)
theorem pl_m (hok : c.ok) (hC : StR c P T) (hV : VaR T vn vf) (hk : k < c.N) (hkd : c.kd k < 11 ∨ c.kd k = 13 ∨ c.kd k = 22) (hs : s0 ≤ c.n) {sc : xm_Sc} {d S : Nat} {Q : Option Value → xm_M → Prop} : rn sc (d + 2) 70 0 [some (.ref (B + 227)), some (.int (nI k)), some (.int (nI s0)), none, none] [] (mk B S F A G X P T) Q = Q (some (.int (oi (lf (c.kd k) (c.a k) c.n s0 c.s (c.tn k) (c.tf k) (vn (c.a k)) (vf (c.a k)))))) (mk B S F A G X P T) := by
  obtain ⟨hN, hn, ho⟩ := hok
  obtain ⟨-, o2, -, -, -, o6⟩ := ho k hk
  obtain ⟨-, hsu, hno⟩ := hC
  obtain ⟨n1, n2, n3, n4⟩ := hno k hk
  have hk : k < 64 := by omega
  have hcase : c.kd k = 0 ∨ c.kd k = 1 ∨ c.kd k = 2 ∨ c.kd k = 3 ∨ c.kd k = 4 ∨ c.kd k = 5 ∨ c.kd k = 6 ∨ c.kd k = 7 ∨ c.kd k = 8 ∨ c.kd k = 9 ∨ c.kd k = 10 ∨ c.kd k = 13 ∨ c.kd k = 22 := by omega
  rcases hcase with h | h | h | h | h | h | h | h | h | h | h | h | h
  · rw [h] at n1 ⊢; exact c70_0 hk n4 hsu hs n2 o2 n1
  · rw [h] at n1 ⊢; exact c70_1 hk n4 hsu hs n2 o2 n1
  · rw [h] at n1 ⊢; exact c70_2 hk n4 hsu hs n2 o2 n1
  · rw [h] at n1 ⊢; exact c70_3 hk n4 hsu hs n2 o2 n1
  · rw [h] at n1 ⊢; exact c70_4 hk n4 hsu hs n2 o2 n1
  · rw [h] at n1 ⊢; exact c70_5 hk n4 hsu hs n2 o2 n1
  · rw [h] at n1 ⊢; exact c70_6 hk n4 hsu hs n2 o2 n1
  · rw [h] at n1 ⊢; exact c70_7 hk n4 hsu hs n2 o2 n1
  · rw [h] at n1 ⊢; exact c70_8 hk n4 hsu hs n2 o2 n1
  · rw [h] at n1 ⊢; exact c70_9 hk n4 hsu hs n2 o2 n1
  · rw [h] at n1 ⊢; exact c70_10 hk n4 hsu hs n2 o2 n1
  · rw [h] at n1 ⊢; exact c70_13 hk n4 hsu hs n2 o2 n1
  · have ha := o6 (Or.inr h)
    rw [h] at n1 ⊢; exact c70_22 hk n4 hsu hs n2 o2 n1 ha (hV _ ha)
end
