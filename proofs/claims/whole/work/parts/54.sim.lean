/-! a whole try, side by side -/
section
variable {c : CX} {g g' : GH} {B : Nat} {F A F' A' T T' T0 T2 : Nat → Nat → Int32} {G G' : Nat → Option Nat} {X X' : Option Nat} {P P' P0 : Nat → Int32} {q clk rt k s0 V K : Nat}
theorem tO (hok : c.ok) (h : OV c F A X P T) : ∃ F' A' G' X' P' T', CRun B F A G X F' A' G' X' ∧ MRun B rt P T P' T' ∧ Fin c B rt K F' A' G' P' T' := by
  obtain ⟨h1, h2, h3, ⟨a, h4⟩, h5, h6, h7, h8⟩ := h
  exact ⟨f2 F 214 7 3, A, G, X, P, T, fun t ht sc d S P T Q l1 l2 => c27_0 ht h2 h3 (fun Q => c29_o h4 h5), MRun.rf, ⟨h1.kp hok (kpC.f214) kpR.rf, 3000, Nat.le_refl _, by rw [f2_n (by omega)]; exact h5, h6, Or.inr (Or.inr (Or.inr ⟨f2_s, h7, h8⟩))⟩⟩
theorem Fin.ne (h : Fin c B rt K F A G P T) : ¬ F 214 7 = 4 := by
  obtain ⟨-, q, -, -, -, h | h | h | h⟩ := h <;> rw [h.1] <;> decide
theorem sim (hok : c.ok) (V : Nat) : ∀ (t : Nat) (F A : Nat → Nat → Int32) (G : Nat → Option Nat) (X : Option Nat) (P : Nat → Int32) (T : Nat → Nat → Int32), t + V < 900000 → Sim c B rt K V F A G X P T → ∃ F' A' G' X' P' T', (∀ (sc : xm_Sc) (d S : Nat) (Pz : Nat → Int32) (Tz : Nat → Nat → Int32) (Q : Option Value → xm_M → Prop) (l1 l2 : Option Value), rn sc (d + 7) 27 35 [some (.ref (B + 214)), l1, l2, some (.int (nI t))] [] (mk B S F A G X Pz Tz) Q = Q none (mk B S F' A' G' X' Pz Tz)) ∧ MRun B rt P T P' T' ∧ Fin c B rt K F' A' G' P' T' := by
  induction V with
  | zero =>
    intro t F A G X P T ht h
    obtain ⟨clk, -, ⟨g, q, h1, h2⟩ | ⟨g, q, cu, e, h1, h2⟩ | ⟨g, q, cu, L, kl, h1, h2⟩ | h1⟩ := h
    · have := h1.2.1
      omega
    · omega
    · omega
    · obtain ⟨F', A', G', X', P', T', r1, r2, r3⟩ := tO (B := B) (rt := rt) (K := K) (G := G) hok h1
      refine ⟨F', A', G', X', P', T', fun sc d S Pz Tz Q l1 l2 => ?_, r2, r3⟩
      rw [r1 t (by omega)]
      exact c27_e r3.ne
  | succ V ih =>
    intro t F A G X P T ht h
    have hn : Nx c B rt K (V + 1) F A G X P T := by
      obtain ⟨clk, hc, ⟨g, q, h1, h2⟩ | ⟨g, q, cu, e, h1, h2⟩ | ⟨g, q, cu, L, kl, h1, h2⟩ | h1⟩ := h
      · exact tB h1 h2 hc
      · exact tG h1 h2 hc
      · exact tK h1 h2 hc
      · obtain ⟨F', A', G', X', P', T', r1, r2, r3⟩ := tO (B := B) (rt := rt) (K := K) (G := G) hok h1
        exact ⟨F', A', G', X', P', T', r1, r2, Or.inr r3⟩
    obtain ⟨F', A', G', X', P', T', r1, r2, r3⟩ := hn
    rcases r3 with r3 | r3
    · obtain ⟨F2, A2, G2, X2, P2, T2, s1, s2, s3⟩ := ih (t + 1) F' A' G' X' P' T' (by omega) r3
      refine ⟨F2, A2, G2, X2, P2, T2, fun sc d S Pz Tz Q l1 l2 => ?_, r2.tr s2, s3⟩
      rw [r1 t (by omega)]
      exact s1 sc d S Pz Tz Q l1 l2
    · refine ⟨F', A', G', X', P', T', fun sc d S Pz Tz Q l1 l2 => ?_, r2, r3⟩
      rw [r1 t (by omega)]
      exact c27_e r3.ne
end
