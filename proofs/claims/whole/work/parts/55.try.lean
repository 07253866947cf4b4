/-! a try from its call on -/
def CX.at (c : CX) (x : Int32) : CX := (c.N, c.n, c.s, c.kd, c.a, c.b, c.tn, c.tf, f2 c.F0 214 5 x, c.A0, c.P0, c.T0)
def Ed (c : CX) (B K : Nat) (F A : Nat → Nat → Int32) (G : Nat → Option Nat) (P : Nat → Int32) (T : Nat → Nat → Int32) (ret : Int32) : Prop :=
  Sm c F A P T ∧ ∃ q, q ≤ 3000 ∧ F 217 5 = nI q ∧ P 14 = nI q ∧
  ( (F 214 7 = 0 ∧ P 28 = 0 ∧ P 29 = 0 ∧ ret = -1 ∧ ∃ clk, clk ≤ K ∧ P 25 = nI clk)
  ∨ (F 214 7 = 1 ∧ P 28 = 0 ∧ P 29 = 0 ∧ ∃ g rt clk e, ret = nI rt ∧ clk ≤ K ∧ P 25 = nI clk ∧ Rows c g B A T G q clk rt rt ∧ g.Dn rt ∧ F 214 6 = nI e ∧ T 239 rt = nI e ∧ pile (A 226) (g.EK rt) ∧ F 225 1 = nI (g.EK rt).length ∧ ∀ x ∈ g.EK rt, 0 < x.1 ∧ T 244 (x.1 - 1) = nI x.2)
  ∨ (F 214 7 = 2 ∧ P 28 = 1 ∧ ret = -1)
  ∨ (F 214 7 = 3 ∧ P 28 = 0 ∧ P 29 = 1 ∧ ret = -1) )
section
variable {c : CX} {g g' : GH} {B : Nat} {F A F' A' T T' T0 T2 : Nat → Nat → Int32} {G G' : Nat → Option Nat} {X X' : Option Nat} {P P' P0 : Nat → Int32} {q clk rt k s0 V K : Nat}
theorem CX.at_F {x : Int32} : (c.at x).F0 = f2 c.F0 214 5 x := rfl
theorem CX.at_ok {x : Int32} (h : c.ok) : (c.at x).ok := h
theorem cr_n {x : Int32} {o k : Nat} (n1 : o ≠ 214) (n2 : o ≠ 223) (n3 : o ≠ 225) : crF F x o k = F o k := by
  rw [crF, cbF, f2_n (by omega), f2_n (by omega), f2_n (by omega), f2_n (by omega), f2_n (by omega), f2_n (by omega), f2_n (by omega)]
/-- the class's memory as runFrom begins -/
theorem Sm.start (h : Sm c F A P T) (hok : c.ok) (x : Int32) (hk : kpR P T P' T') : Sm (c.at x) (crF F x) A P' T' := by
  obtain ⟨h1, h2, vn, vf, h3, h4, h5, h6⟩ := h
  have hN := hok.1
  have e0 : ∀ k, (c.at x).F0 0 k = c.F0 0 k := fun k => by rw [CX.at_F, f2_n (by omega)]
  have e1 : ∀ k, (c.at x).F0 1 k = c.F0 1 k := fun k => by rw [CX.at_F, f2_n (by omega)]
  refine ⟨⟨(cr_n (by omega) (by omega) (by omega)).trans h1.1, h1.2.1.kp (cr_n (by omega) (by omega) (by omega)) rfl, fun i hi => ?_⟩, h2.kp hk, vn, vf, fun v hv => (h3 v hv).kp (cr_n (by omega) (by omega) (by omega)) rfl, h4.kp hk, ⟨fun k => ?_, fun k => ?_, ?_, h5.2.2.2⟩, h6.kp hk⟩
  · have hi : i < c.N := hi
    obtain ⟨n1, n2, n3, n4⟩ := h1.2.2 i hi
    exact ⟨(cr_n (by omega) (by omega) (by omega)).trans n1, (cr_n (by omega) (by omega) (by omega)).trans n2, (cr_n (by omega) (by omega) (by omega)).trans n3, n4.kp (cr_n (by omega) (by omega) (by omega)) rfl⟩
  · rw [cr_n (by omega) (by omega) (by omega), e0]; exact h5.1 k
  · rw [cr_n (by omega) (by omega) (by omega), e1]; exact h5.2.1 k
  · have e2 : (c.at x).F0 214 5 = x := by rw [CX.at_F, f2_s]
    rw [e2]
    simp [crF, cbF, f2]
def g0 (k s q : Nat) : GH := mkG (fun _ => k) (fun _ => s) (fun _ => 0) (fun _ => 0) (fun _ => []) (fun _ => []) (fun _ => []) (fun _ => []) (fun r => r = q) (fun _ => False) (fun _ => 0)
theorem kpR.rb {kk cc u : Int32} : kpR P T (rbP P q) (rbT T q kk cc u) := ⟨by simp [rbP, p1], by simp [rbP, p1], fun o h1 h2 => by
  unfold rbT
  rw [a2_n (by omega), a2_n (by omega), a2_n (by omega), a2_n (by omega), a2_n (by omega), a2_n (by omega), a2_n (by omega)]⟩
theorem try1 (hok : c.ok) (hsm : Sm c F A P T) (hq : q ≤ 3000) (h5 : F 217 5 = nI q) (h14 : P 14 = nI q) (h28 : P 28 = 0) (h29 : P 29 = 0) (h25 : P 25 = nI clk) (hK : clk + 3001 * 9000 ≤ K) (hk : k < c.N) (hs : s0 ≤ c.n) : ∃ F' A' G' X' P' T' ret, (∀ (sc : xm_Sc) (d S : Nat) (Pz : Nat → Int32) (Tz : Nat → Nat → Int32) (Q : Option Value → xm_M → Prop), rn sc (d + 7) 27 0 [some (.ref (B + 214)), some (.ref (B + (22 + 3 * k))), some (.int (nI s0)), none] [] (mk B S F A G X Pz Tz) Q = Q none (mk B S F' A' G' X' Pz Tz)) ∧ (∀ (sc : xm_Sc) (d S : Nat) (Fz Az : Nat → Nat → Int32) (Gz : Nat → Option Nat) (Xz : Option Nat) (Q : Option Value → xm_M → Prop), rn sc (d + 5) 66 0 [some (.ref (B + 227)), some (.int (nI k)), some (.int (nI s0)), none, none] [] (mk B S Fz Az Gz Xz P T) Q = Q (some (.int ret)) (mk B S Fz Az Gz Xz P' T')) ∧ Ed (c.at (nI s0)) B K F' A' G' P' T' ret := by
  have c5 : crF F (nI s0) 217 5 = nI q := by rw [cr_n (by omega) (by omega) (by omega)]; exact h5
  by_cases hq3 : q < 3000
  · have hsm1 := hsm.start hok (nI s0) (kpR.rb (q := q) (kk := nI k) (cc := nI s0) (u := -1))
    have hR : Rows (c.at (nI s0)) (g0 k s0 q) B A (rbT T q (nI k) (nI s0) (-1)) G q clk q q := by
      have hlv : LvP (c.at (nI s0)) (g0 k s0 q) (rbT T q (nI k) (nI s0) (-1)) clk q := ⟨by simp [rbT, a2, upd]; rfl, hk, by simp [rbT, a2, upd]; rfl, hs, trivial, trivial, Nat.zero_le _, fun x hx => absurd hx (by simp [g0, GH.BK, mkG]), trivial, Nat.zero_le _⟩
      refine ⟨fun r hr => ?_, fun r hr => False.elim hr, fun z => absurd rfl z, Or.inl rfl, by simp [rbT, a2, upd], rfl, rfl, rfl, by rw [CX.at_F, f2_s]; rfl⟩
      have hr : r = q := hr
      subst hr
      exact ⟨fun z => z, Nat.le_refl _, Nat.le_refl _, hlv, fun z => absurd z (Nat.lt_irrefl _), fun z => absurd rfl z, fun z => absurd rfl z⟩
    have hsb : SB (c.at (nI s0)) (g0 k s0 q) B q q clk (crF F (nI s0)) A G (some (B + (22 + 3 * k))) (rbP P q) (rbT T q (nI k) (nI s0) (-1)) := by
      refine ⟨⟨CX.at_ok hok, hsm1, hR, hq, by simp [crF, cbF, f2], by simp [rbP, p1, h28], by simp [rbP, p1, h29], by simp [rbP, p1, h25], by simp [rbP, p1], c5, ⟨trivial, by simp [crF, cbF, f2]; rfl⟩, ⟨trivial, by simp [crF, cbF, f2]; rfl⟩, fun x hx => absurd hx (by simp [g0, GH.BK, mkG]), trivial, trivial⟩, hq3, rfl, by simp [crF, cbF, f2], rfl, by simp [crF, cbF, f2]; rfl, by simp [crF, cbF, f2]; rfl, by simp [rbP, p1], by simp [rbP, p1], by simp [rbT, a2, upd], by simp [rbT, a2, upd], by simp [rbT, a2, upd]⟩
    have hsim : Sim (c.at (nI s0)) B q K 9000 (crF F (nI s0)) A G (some (B + (22 + 3 * k))) (rbP P q) (rbT T q (nI k) (nI s0) (-1)) := ⟨clk, hK, Or.inl ⟨_, q, hsb, by
      have : ((g0 k s0 q).BS q).length = 0 := rfl
      omega⟩⟩
    obtain ⟨F', A', G', X', P', T', r1, r2, r3⟩ := sim (CX.at_ok hok) 9000 0 _ _ _ _ _ _ (by omega) hsim
    have rc : ∀ (sc : xm_Sc) (d S : Nat) (Pz : Nat → Int32) (Tz : Nat → Nat → Int32) (Q : Option Value → xm_M → Prop), rn sc (d + 7) 27 0 [some (.ref (B + 214)), some (.ref (B + (22 + 3 * k))), some (.int (nI s0)), none] [] (mk B S F A G X Pz Tz) Q = Q none (mk B S F' A' G' X' Pz Tz) := fun sc d S Pz Tz Q => by
      rw [c27]
      exact r1 sc d S Pz Tz Q _ _
    have rm : ∀ (sc : xm_Sc) (d S : Nat) (Fz Az : Nat → Nat → Int32) (Gz : Nat → Option Nat) (Xz : Option Nat) (Q : Option Value → xm_M → Prop), ∃ l4, rn sc (d + 5) 66 0 [some (.ref (B + 227)), some (.int (nI k)), some (.int (nI s0)), none, none] [] (mk B S Fz Az Gz Xz P T) Q = rn sc (d + 5) 66 12 [some (.ref (B + 227)), some (.int (nI k)), some (.int (nI s0)), some (.int (nI q)), l4] [] (mk B S Fz Az Gz Xz P' T') Q := fun sc d S Fz Az Gz Xz Q => by
      obtain ⟨l4, e4⟩ := r2 sc d S Fz Az Gz Xz Q (some (.int (nI k))) (some (.int (nI s0))) none
      refine ⟨l4, ?_⟩
      rw [← e4]
      exact c66 (by simp [rbP, p1]) rfl (fun Q => c67 h14 hq3)
    obtain ⟨f1, q', f2', f3, f4, f5⟩ := r3
    rcases f5 with ⟨a1, a2, a3, a4, a5, a6⟩ | ⟨a1, a2, a3, a4, a5, g, clk', e, a6⟩ | ⟨a1, a2⟩ | ⟨a1, a2, a3⟩
    · refine ⟨F', A', G', X', P', T', -1, rc, fun sc d S Fz Az Gz Xz Q => ?_, f1, q', f2', f3, f4, Or.inl ⟨a1, a2, a3, rfl, a6⟩⟩
      obtain ⟨l4, e4⟩ := rm sc d S Fz Az Gz Xz Q
      rw [e4, c66_e a2 a3 (Or.inr a4) a5, if_neg (by rw [a4]; decide)]
    · refine ⟨F', A', G', X', P', T', nI q, rc, fun sc d S Fz Az Gz Xz Q => ?_, f1, q', f2', f3, f4, Or.inr (Or.inl ⟨a1, a2, a3, g, q, clk', e, rfl, a6⟩)⟩
      obtain ⟨l4, e4⟩ := rm sc d S Fz Az Gz Xz Q
      rw [e4, c66_e a2 a3 (Or.inl a4) a5, if_pos a4]
    · refine ⟨F', A', G', X', P', T', -1, rc, fun sc d S Fz Az Gz Xz Q => ?_, f1, q', f2', f3, f4, Or.inr (Or.inr (Or.inl ⟨a1, a2, rfl⟩))⟩
      obtain ⟨l4, e4⟩ := rm sc d S Fz Az Gz Xz Q
      rw [e4, c66_a (Or.inl a2)]
    · refine ⟨F', A', G', X', P', T', -1, rc, fun sc d S Fz Az Gz Xz Q => ?_, f1, q', f2', f3, f4, Or.inr (Or.inr (Or.inr ⟨a1, a2, a3, rfl⟩))⟩
      obtain ⟨l4, e4⟩ := rm sc d S Fz Az Gz Xz Q
      rw [e4, c66_a (Or.inr ⟨a2, a3⟩)]
  · have hq3 : q = 3000 := by omega
    subst hq3
    have hsm1 : Sm (c.at (nI s0)) (crF F (nI s0)) A (p1 P 29 1) T := hsm.start hok (nI s0) ⟨by simp [p1], by simp [p1], fun _ _ _ => rfl⟩
    have h8 : crF F (nI s0) 214 8 = 0 := by simp [crF, cbF, f2]
    have h7 : crF F (nI s0) 214 7 = 4 := by simp [crF, cbF, f2]
    refine ⟨f2 (crF F (nI s0)) 214 7 3, A, G, some (B + (22 + 3 * k)), p1 P 29 1, T, -1, fun sc d S Pz Tz Q => ?_, fun sc d S Fz Az Gz Xz Q => ?_, hsm1.kp (CX.at_ok hok) (kpC.f214) kpR.rf, 3000, Nat.le_refl _, by rw [f2_n (by omega)]; exact c5, by rw [p1_n (by decide)]; exact h14, Or.inr (Or.inr (Or.inr ⟨f2_s, by rw [p1_n (by decide)]; exact h28, p1_s, rfl⟩))⟩
    · rw [c27, c27_0 (by decide) h7 h8 (fun Q => c29_o rfl c5)]
      exact c27_e (by rw [f2_s]; decide)
    · rw [c66 (P' := p1 P 29 1) (T' := T) (root := P 26) (by simp [p1]) rfl (fun Q => c67o h14)]
      exact c66_a (Or.inr ⟨by rw [p1_n (by decide)]; exact h28, p1_s⟩)
end
