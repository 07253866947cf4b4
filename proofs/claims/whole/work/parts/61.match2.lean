/-! match on both sides -/
section
variable {c c' : CX} {B : Nat} {F A F' A' T T' : Nat → Nat → Int32} {G G' : Nat → Option Nat} {X X' : Option Nat} {P P' : Nat → Int32} {q clk k n v la : Nat} {x y an : Int32} {s : Nat → Nat}
theorem f2_f2 {o k : Nat} {x y : Int32} : f2 (f2 F o k x) o k y = f2 F o k y := by
  funext o' k'
  by_cases h : o' = o ∧ k' = k
  · simp [f2, h]
  · simp [f2, h]
theorem CX.at_at : (c.at x).at y = c.at y := by
  show (c.N, c.n, c.s, c.kd, c.a, c.b, c.tn, c.tf, f2 (f2 c.F0 214 5 x) 214 5 y, c.A0, c.P0, c.T0) = c.at y
  rw [f2_f2]
  rfl
theorem CX.at_self : c.at (c.F0 214 5) = c := by
  have : f2 c.F0 214 5 (c.F0 214 5) = c.F0 := by
    funext o k
    by_cases h : o = 214 ∧ k = 5
    · obtain ⟨rfl, rfl⟩ := h
      simp [f2]
    · simp [f2, h]
  show (c.N, c.n, c.s, c.kd, c.a, c.b, c.tn, c.tf, f2 c.F0 214 5 (c.F0 214 5), c.A0, c.P0, c.T0) = c
  rw [this]
  rfl
def CX.lt (c : CX) (x y : Int32) : CX := (c.N, c.n, c.s, c.kd, c.a, c.b, c.tn, c.tf, c.F0, c.A0, p1 (p1 c.P0 12 x) 13 y, c.T0)
theorem CX.lt_ok (h : c.ok) : (c.lt x y).ok := ⟨h.1, h.2.1, h.2.2⟩
theorem CX.lt_P : (c.lt x y).P0 = p1 (p1 c.P0 12 x) 13 y := rfl
theorem Sm.lt (h : Sm c F A P T) (x y : Int32) : Sm (c.lt x y) F A (p1 (p1 P 12 x) 13 y) T := by
  obtain ⟨h1, h2, vn, vf, h3, h4, h5, h6⟩ := h
  refine ⟨h1, ?_, vn, vf, h3, h4, h5, ?_⟩
  · exact ⟨by rw [p1_n (by decide), p1_n (by decide)]; exact h2.1, ⟨by rw [p1_n (by decide), p1_n (by decide)]; exact h2.2.1.1, h2.2.1.2⟩, h2.2.2⟩
  · refine ⟨?_, ?_, ?_, ?_, h6.2.2.2.2⟩
    · rw [CX.lt_P, p1_n (by decide), p1_n (by decide), p1_n (by decide), p1_n (by decide)]; exact h6.1
    · rw [CX.lt_P, p1_n (by decide), p1_n (by decide), p1_n (by decide), p1_n (by decide)]; exact h6.2.1
    · rw [CX.lt_P]; simp [p1]
    · rw [CX.lt_P]; simp [p1]
theorem Rows.cg {g : GH} {rt cu : Nat} (h1 : c'.N = c.N) (h2 : c'.n = c.n) (h3 : c'.s = c.s) (h4 : c'.kd = c.kd) (h5 : c'.F0 = c.F0) (h : Rows c g B A T G q clk rt cu) : Rows c' g B A T G q clk rt cu := by
  unfold Rows LvP DRe PP BalOK at h ⊢
  simp only [h1, h2, h3, h4, h5]
  exact h
theorem CX.lt_N : (c.lt x y).N = c.N := rfl
theorem CX.lt_n : (c.lt x y).n = c.n := rfl
theorem CX.lt_s : (c.lt x y).s = c.s := rfl
theorem CX.lt_kd : (c.lt x y).kd = c.kd := rfl
theorem CX.lt_F : (c.lt x y).F0 = c.F0 := rfl
/-- another subject, other latest places: the same nodes, the same slip -/
def CX.sm (c c' : CX) : Prop := c'.ok ∧ c'.N = c.N ∧ c'.kd = c.kd ∧ c'.a = c.a ∧ c'.b = c.b ∧ c'.tn = c.tn ∧ c'.tf = c.tf ∧ (∀ k, c'.F0 1 k = c.F0 1 k) ∧ c'.A0 2 = c.A0 2 ∧ c'.P0 2 = c.P0 2 ∧ c'.P0 11 = c.P0 11 ∧ c'.T0 = c.T0
def EM (c : CX) (F A : Nat → Nat → Int32) (P : Nat → Int32) (T : Nat → Nat → Int32) (ret : Int32) : Prop :=
  (∃ c', c.sm c' ∧ Sm c' F A P T) ∧ F 217 5 = P 14 ∧ ((ret = 1 ∧ ∃ s e, s ≤ e ∧ e ≤ 64 ∧ F 214 5 = nI s ∧ F 214 6 = nI e ∧ P 12 = nI s ∧ P 13 = nI e) ∨ (¬ ret = 1 ∧ P 12 = c.P0 12 ∧ P 13 = c.P0 13))
theorem CX.at_sm (hok : c.ok) : c.sm (c.at x) := ⟨CX.at_ok hok, rfl, rfl, rfl, rfl, rfl, rfl, fun k => by rw [CX.at_F, f2_n (by omega)], rfl, rfl, rfl, rfl⟩
theorem CX.lt_sm (hok : c.ok) : c.sm (c.lt x y) := ⟨CX.lt_ok hok, rfl, rfl, rfl, rfl, rfl, rfl, fun k => rfl, rfl, by
  rw [CX.lt_P, p1_n (by decide), p1_n (by decide)], by
  rw [CX.lt_P, p1_n (by decide), p1_n (by decide)], rfl⟩
theorem CX.sm.tr {c2 : CX} (h : c.sm c') (h' : c'.sm c2) : c.sm c2 := by
  obtain ⟨a1, a2, a3, a4, a5, a6, a7, a8, a9, a10, a11, a12⟩ := h
  obtain ⟨b1, b2, b3, b4, b5, b6, b7, b8, b9, b10, b11, b12⟩ := h'
  exact ⟨b1, b2.trans a2, b3.trans a3, b4.trans a4, b5.trans a5, b6.trans a6, b7.trans a7, fun k => (b8 k).trans (a8 k), b9.trans a9, b10.trans a10, b11.trans a11, b12.trans a12⟩
theorem tries (hok : c.ok) (hk : k < c.N) (hla : la ≤ c.n) {M : Nat} (hM : 3001 * 9000 ≤ M) (hM2 : 65 * M + 1 < 2 ^ 31) (m : Nat) : ∀ (s0 clk q : Nat) (x : Int32) (F A : Nat → Nat → Int32) (G : Nat → Option Nat) (X : Option Nat) (P : Nat → Int32) (T : Nat → Nat → Int32), s0 + m = la + 1 → Sm (c.at x) F A P T → q ≤ 3000 → F 217 5 = nI q → P 14 = nI q → F 214 7 = 0 → P 28 = 0 → P 29 = 0 → P 25 = nI clk → clk ≤ s0 * M → ∃ F' A' G' X' P' T' ret, (∀ (sc : xm_Sc) (d S : Nat) (Pz : Nat → Int32) (Tz : Nat → Nat → Int32) (Q : Option Value → xm_M → Prop) (l1 l3 : Option Value), rn sc (d + 8) 26 41 [some (.ref (B + 214)), l1, some (.ref (B + (22 + 3 * k))), l3, some (.int (nI la)), some (.int (nI s0))] [] (mk B S F A G X Pz Tz) Q = Q (some (.int ret)) (mk B S F' A' G' X' Pz Tz)) ∧ (∀ (sc : xm_Sc) (d S : Nat) (Fz Az : Nat → Nat → Int32) (Gz : Nat → Option Nat) (Xz : Option Nat) (Q : Option Value → xm_M → Prop) (l1 l3 : Option Value), rn sc (d + 6) 65 124 [some (.ref (B + 227)), l1, some (.int (nI k)), l3, some (.int (nI la)), some (.int (-1)), some (.int (nI s0))] [] (mk B S Fz Az Gz Xz P T) Q = Q (some (.int ret)) (mk B S Fz Az Gz Xz P' T')) ∧ EM c F' A' P' T' ret := by
  have hn := hok.2.1
  induction m with
  | zero =>
    intro s0 clk q x F A G X P T hm hsm hq h5 h14 h7 h28 h29 h25 hclk
    refine ⟨F, A, G, X, P, T, 0, fun sc d S Pz Tz Q l1 l3 => ?_, fun sc d S Fz Az Gz Xz Q l1 l3 => ?_, ⟨_, CX.at_sm hok, hsm⟩, h5.trans h14.symm, Or.inr ⟨by decide, ?_, ?_⟩⟩
    · rw [c26_x (Or.inl (by omega)) (by omega) (by omega) (by rw [h7]; decide), h7]
    · exact c65_x (Or.inl (by omega)) (by omega) (by omega) (Or.inr (Or.inr ⟨h28, h29, rfl⟩))
    · obtain ⟨-, -, vn, vf, -, -, -, z⟩ := hsm
      exact z.2.2.1
    · obtain ⟨-, -, vn, vf, -, -, -, z⟩ := hsm
      exact z.2.2.2.1
  | succ m ih =>
    intro s0 clk q x F A G X P T hm hsm hq h5 h14 h7 h28 h29 h25 hclk
    obtain ⟨F1, A1, G1, X1, P1, T1, ret, r1, r2, he⟩ := try1 (B := B) (G := G) (X := X) (c := c.at x) (k := k) (s0 := s0) (K := clk + 3001 * 9000) (clk := clk) (CX.at_ok hok) hsm hq h5 h14 h28 h29 h25 (Nat.le_refl _) hk (show s0 ≤ c.n by omega)
    rw [CX.at_at] at he
    obtain ⟨hs1, q', hq', h5', h14', he⟩ := he
    have hMs : (s0 + 1) * M = s0 * M + M := Nat.succ_mul s0 M
    have hM3 : (s0 + 1) * M ≤ 65 * M := Nat.mul_le_mul_right M (by omega)
    have hcl : ∀ z, z ≤ clk + 3001 * 9000 → z ≤ (s0 + 1) * M := fun z hz => by
      rw [hMs]
      generalize s0 * M = y at hclk
      omega
    have hcl2 : ∀ z, z ≤ clk + 3001 * 9000 → z + 1 < 2 ^ 31 := fun z hz => by
      have := hcl z hz
      generalize (s0 + 1) * M = y at this hM3
      omega
    have hfz : FzR (c.at (nI s0)) P1 T1 := by
      obtain ⟨-, -, vn, vf, -, -, -, z⟩ := hs1
      exact z
    have hfc : FzC (c.at (nI s0)) F1 A1 := by
      obtain ⟨-, -, vn, vf, -, -, z, -⟩ := hs1
      exact z
    have e26 : ∀ (sc : xm_Sc) (d S : Nat) (Pz : Nat → Int32) (Tz : Nat → Nat → Int32) (Q : Option Value → xm_M → Prop) (l1 l3 : Option Value), rn sc (d + 8) 26 41 [some (.ref (B + 214)), l1, some (.ref (B + (22 + 3 * k))), l3, some (.int (nI la)), some (.int (nI s0))] [] (mk B S F A G X Pz Tz) Q = rn sc (d + 8) 26 41 [some (.ref (B + 214)), l1, some (.ref (B + (22 + 3 * k))), l3, some (.int (nI la)), some (.int (nI (s0 + 1)))] [] (mk B S F1 A1 G1 X1 Pz Tz) Q := fun sc d S Pz Tz Q l1 l3 => c26_l (by omega) (by omega) h7 (fun Q => r1 sc d S Pz Tz Q)
    have e65 : ∀ (sc : xm_Sc) (d S : Nat) (Fz Az : Nat → Nat → Int32) (Gz : Nat → Option Nat) (Xz : Option Nat) (Q : Option Value → xm_M → Prop) (l1 l3 : Option Value), rn sc (d + 6) 65 124 [some (.ref (B + 227)), l1, some (.int (nI k)), l3, some (.int (nI la)), some (.int (-1)), some (.int (nI s0))] [] (mk B S Fz Az Gz Xz P T) Q = rn sc (d + 6) 65 124 [some (.ref (B + 227)), l1, some (.int (nI k)), l3, some (.int (nI la)), some (.int ret), some (.int (nI (s0 + 1)))] [] (mk B S Fz Az Gz Xz P1 T1) Q := fun sc d S Fz Az Gz Xz Q l1 l3 => c65_l (by omega) (by omega) h28 h29 (fun Q => r2 sc d S Fz Az Gz Xz Q)
    rcases he with ⟨a1, a2, a3, rfl, clk', a5, a6⟩ | ⟨a1, a2, a3, g, rt, clk', e, rfl, a5, a6, hR, hd, a7, a8, a9, a10, a11⟩ | ⟨a1, a2, rfl⟩ | ⟨a1, a2, a3, rfl⟩
    · obtain ⟨F2, A2, G2, X2, P2, T2, ret2, q1, q2, q3⟩ := ih (s0 + 1) clk' q' (nI s0) F1 A1 G1 X1 P1 T1 (by omega) hs1 hq' h5' h14' a1 a2 a3 a6 (hcl _ a5)
      exact ⟨F2, A2, G2, X2, P2, T2, ret2, fun sc d S Pz Tz Q l1 l3 => (e26 sc d S Pz Tz Q l1 l3).trans (q1 sc d S Pz Tz Q l1 l3), fun sc d S Fz Az Gz Xz Q l1 l3 => (e65 sc d S Fz Az Gz Xz Q l1 l3).trans (q2 sc d S Fz Az Gz Xz Q l1 l3), q3⟩
    · obtain ⟨hrt1, hrt2, ⟨-, -, hs238, hsn, -⟩, -, e', -, j2, j3, j4, -⟩ := hR.2.1 rt hd
      have hee : F1 214 6 = nI e' := by rw [a7, ← a8, j2]
      have hst : F1 214 5 = nI (g.s rt) := by
        rw [hfc.2.2.1]
        exact hR.2.2.2.2.2.2.2.2.symm
      have hsm2 : Sm ((c.at (nI s0)).lt (T1 238 rt) (T1 239 rt)) F1 A1 (p1 (p1 P1 12 (T1 238 rt)) 13 (T1 239 rt)) T1 := hs1.lt _ _
      have j4' : e' ≤ c.n := j4
      obtain ⟨F2, A2, T2, k1, k2, k3, k4⟩ := keepOK (X := X1) (c := (c.at (nI s0)).lt (T1 238 rt) (T1 239 rt)) (P := p1 (p1 P1 12 (T1 238 rt)) 13 (T1 239 rt)) (CX.lt_ok (CX.at_ok hok)) hsm2 hq' (hR.cg CX.lt_N CX.lt_n CX.lt_s CX.lt_kd CX.lt_F) hd (by rw [p1_n (by decide), p1_n (by decide)]; exact a6) (hcl2 _ a5) a9 a10 a11
      refine ⟨F2, A2, G1, X1, p1 (p1 P1 12 (T1 238 rt)) 13 (T1 239 rt), T2, 1, fun sc d S Pz Tz Q l1 l3 => (e26 sc d S Pz Tz Q l1 l3).trans ?_, fun sc d S Fz Az Gz Xz Q l1 l3 => (e65 sc d S Fz Az Gz Xz Q l1 l3).trans ?_, ⟨_, (CX.at_sm hok).tr (CX.lt_sm (CX.at_ok hok)), k3⟩, ?_, Or.inl ⟨rfl, g.s rt, e', j3, by omega, ?_, ?_, ?_, ?_⟩⟩
      · exact c26_s (by omega) (by omega) a1 (by rw [k4 _ _ (by omega)]; exact a1) (fun Q => k1 sc (d + 4) S Pz Tz Q)
      · exact c65_s (by omega) (by omega) (by omega) (fun Q => k2 sc (d + 4) S Fz Az Gz Xz Q)
      · rw [k4 _ _ (by omega), p1_n (by decide), p1_n (by decide), h5', h14']
      · rw [k4 _ _ (by omega)]; exact hst
      · rw [k4 _ _ (by omega)]; exact hee
      · rw [p1_n (by decide), p1_s]; exact hs238
      · rw [p1_s]; exact j2
    · refine ⟨F1, A1, G1, X1, P1, T1, 2, fun sc d S Pz Tz Q l1 l3 => (e26 sc d S Pz Tz Q l1 l3).trans ?_, fun sc d S Fz Az Gz Xz Q l1 l3 => (e65 sc d S Fz Az Gz Xz Q l1 l3).trans ?_, ⟨_, CX.at_sm hok, hs1⟩, h5'.trans h14'.symm, Or.inr ⟨by decide, hfz.2.2.1, hfz.2.2.2.1⟩⟩
      · rw [c26_x (Or.inr (by rw [a1]; decide)) (by omega) (by omega) (by rw [a1]; decide), a1]
      · exact c65_x (Or.inr (Or.inl a2)) (by omega) (by omega) (Or.inl ⟨a2, rfl⟩)
    · refine ⟨F1, A1, G1, X1, P1, T1, 3, fun sc d S Pz Tz Q l1 l3 => (e26 sc d S Pz Tz Q l1 l3).trans ?_, fun sc d S Fz Az Gz Xz Q l1 l3 => (e65 sc d S Fz Az Gz Xz Q l1 l3).trans ?_, ⟨_, CX.at_sm hok, hs1⟩, h5'.trans h14'.symm, Or.inr ⟨by decide, hfz.2.2.1, hfz.2.2.2.1⟩⟩
      · rw [c26_x (Or.inr (by rw [a1]; decide)) (by omega) (by omega) (by rw [a1]; decide), a1]
      · exact c65_x (Or.inr (Or.inr ⟨a2, a3⟩)) (by omega) (by omega) (Or.inr (Or.inl ⟨a2, a3, rfl⟩))
end
