section
variable {c : CX} {g g' : GH} {B : Nat} {F A F' A' T T' T0 T2 : Nat → Nat → Int32} {G G' : Nat → Option Nat} {X X' : Option Nat} {P P' P0 : Nat → Int32} {L : SL} {kl : KL} {q q' clk clk' rt cu cu' r p e k s w o o1 V K : Nat} {es : SL} {ek : KL}
theorem m2 {P' : Nat → Int32} {T' : Nat → Nat → Int32} (h1 : P 28 = 0) (h2 : P 29 = 0) (h3 : P 27 = 2) (hr : P 26 = nI r) (hb : r < 3000) (hne : ¬ nI r = nI rt) (hu : T 240 r = nI p) (hc : ∀ (sc : xm_Sc) (d S : Nat) (F A : Nat → Nat → Int32) (G : Nat → Option Nat) (X : Option Nat) (Q : Option Value → xm_M → Prop), rn sc (d + 4) 78 0 [some (.ref (B + 227)), some (.int (nI r)), none, none, none] [] (mk B S F A G X (p1 P 26 (nI p)) T) Q = Q none (mk B S F A G X P' T')) : MRun B rt P T P' T' := fun sc d S F A G X Q _ _ _ => ⟨_, c66_2 h1 h2 h3 hr hb hne hu (hc sc d S F A G X)⟩
theorem PP.suc {x y : Nat} (hp : PP c g T x y) (hQ : ∀ r, agQ T T' r) (hnd : ∀ r, g.Dn r → r ≠ cu) : PP c (gSuc g cu es ek) T' x y := by
  obtain ⟨p1, p2, p2', p3⟩ := hp
  refine ⟨p1, by rw [hQ y 240 (by omega) (by omega)]; exact p2, p2', ?_⟩
  rw [hQ x 241 (by omega) (by omega), hQ x 242 (by omega) (by omega), hQ x 243 (by omega) (by omega)]
  rcases p3 with p3 | ⟨u1, u2, u3, u4, a, d1, d2, d3, d4, d5, d6, d7, d8, d9, d10, d11⟩ | p3 | p3 | p3 | p3
  · exact Or.inl p3
  · obtain ⟨t2, t3, t4, t5, t6, t7, t8, t9⟩ := agG.suc (g := g) (cu := cu) (es := es) (ek := ek) (hnd a d5)
    exact Or.inr (Or.inl ⟨u1, u2, u3, u4, a, d1, d2, by rw [hQ a 240 (by omega) (by omega)]; exact d3, d4, Or.inl d5, d6, d7, d8, d9, d10.trans t7.symm, d11.1.trans t9.symm, d11.2⟩)
  · exact Or.inr (Or.inr (Or.inl p3))
  · exact Or.inr (Or.inr (Or.inr (Or.inl p3)))
  · exact Or.inr (Or.inr (Or.inr (Or.inr (Or.inl p3))))
  · exact Or.inr (Or.inr (Or.inr (Or.inr (Or.inr p3))))
/-- what a part that succeeded gives its upper row -/
theorem PP.kk (hpp : PP c g T p cu) (hR : Rows c g B A T G q clk rt cu') (hd : g.Dn cu) : (∀ x ∈ g.EK cu, x ∈ g.BK p ∨ (p + 1 ≤ x.1 ∧ x.1 ≤ q)) ∧ g.BK p <:+ g.EK cu := by
  obtain ⟨h1, -, -, h3⟩ := hpp
  obtain ⟨-, -, -, -, e, -, -, -, -, -, -, -, k8, -, k10, -⟩ := hR.2.1 cu hd
  have hb : g.BK cu = g.BK p → (∀ x ∈ g.EK cu, x ∈ g.BK p ∨ (p + 1 ≤ x.1 ∧ x.1 ≤ q)) ∧ g.BK p <:+ g.EK cu := by
    intro hb
    rw [hb] at k8 k10
    exact ⟨fun x hx => (k8 x hx).imp id (fun z => ⟨by omega, z.2⟩), k10⟩
  rcases h3 with h3 | ⟨u1, u2, u3, u4, a, d1, d2, d3, d4, d5, d6, d7, d8, d9, d10, d11, d12⟩ | h3 | h3 | h3 | h3
  · exact hb h3.2.2.2.2.2.1
  · obtain ⟨-, -, -, -, e', -, -, -, -, -, -, -, j8, -, j10, -⟩ := hR.2.1 a d5
    rw [d11] at k8 k10
    rw [d8] at j8 j10
    refine ⟨fun x hx => ?_, j10.trans k10⟩
    rcases k8 x hx with hx | hx
    · exact (j8 x hx).imp id (fun z => ⟨by omega, z.2⟩)
    · exact Or.inr ⟨by omega, hx.2⟩
  · exact hb h3.2.2.2.1
  · exact hb h3.2.2.2.2.1
  · exact hb h3.2.2.2.2.1
  · exact hb h3.2.2.2.2.1
/-- a part's success makes its upper row's: the rows -/
theorem Rows.sup (hok : c.ok) (hR : Rows c g B A T G q clk rt cu) (hq : q ≤ 3000) (hd : g.Dn cu) (hp : g.On p) (hpc : p ≠ cu) (hn : g.nx p = cu) (he : T 239 cu = nI e) (he2 : e < 2 ^ 31) (hcl : clk ≤ clk') (hT : ∀ r, r ≠ p → agT T T' r) (hTc : ∀ o, 237 ≤ o → o ≤ 243 → o ≠ 239 → T' o p = T o p) (h239 : T' 239 p = nI e) (hA : ∀ o j, (o ≠ 220 ∨ j ≠ p + 1) → 219 ≤ o → o ≤ 222 → A' o j = A o j) (hek : (ek = g.EK cu ∧ c.kd (g.k p) ≠ 19) ∨ (c.kd (g.k p) = 19 ∧ ∃ t, ek = (p + 1, t) :: g.EK cu ∧ clk < t ∧ t ≤ clk' ∧ A' 220 (p + 1) = nI e)) (hfirst : ¬ ((c.kd (g.k p) = 16 ∨ c.kd (g.k p) = 17) ∧ T 241 p = nI cu)) : Rows c (gSuc g p (g.ES cu) ek) B A' T' G q clk' rt p := by
  obtain ⟨hR1, -⟩ := hR.upp hq hd hp hpc hn
  obtain ⟨hpd, -, -, hlv, -, h6, -⟩ := hR.1 p hp
  obtain ⟨hpq, hpp, -⟩ := h6 hpc
  rw [hn] at hpp
  have hQ : ∀ r, agQ T T' r := by
    intro r o h1 h2
    by_cases hc : r = p
    · subst hc; exact hTc o (by omega) h2 (by omega)
    · exact hT r hc o (by omega) h2
  have hnd : ∀ r, g.Dn r → r ≠ p := fun r hr z => hpd (z ▸ hr)
  obtain ⟨hk1, hk2⟩ := hpp.kk hR hd
  obtain ⟨-, hcq, -, -, e', j1, j2, j3, j4, j5, j6, j7, j8, j9, j10, -⟩ := hR.2.1 cu hd
  have hpp' : PP c (gSuc g p (g.ES cu) ek) T' p cu := hpp.suc hQ hnd
  have a6 : (gSuc g p (g.ES cu) ek).ES p = g.ES cu := up_s
  have a8 : (gSuc g p (g.ES cu) ek).EK p = ek := up_s
  have b6 : (gSuc g p (g.ES cu) ek).ES cu = g.ES cu := up_n (fun z => hpc z.symm)
  have b8 : (gSuc g p (g.ES cu) ek).EK cu = g.EK cu := up_n (fun z => hpc z.symm)
  have hdc : (gSuc g p (g.ES cu) ek).Dn cu := Or.inl hd
  have h9c : T' 239 cu = nI e := (hT cu (fun z => hpc z.symm) 239 (by omega) (by omega)).trans he
  obtain ⟨hp1, hp2, hp3, hp4⟩ := id hpp
  have hoo : (g.EK cu).length + (g.o p + (if c.kd (g.k p) = 19 then 1 else 0)) ≤ q := by
    rcases hp4 with h3 | ⟨u1, u2, u3, u4, u5⟩ | h3 | h3 | h3 | h3
    · rw [if_neg (by omega), Nat.add_zero, ← h3.2.2.2.2.2.2]; exact j7
    · rw [if_neg (by omega), Nat.add_zero, ← u4]; exact j7
    · rw [if_neg (by omega), Nat.add_zero, ← h3.2.2.2.2.1]; exact j7
    · rw [if_pos h3.1, ← h3.2.2.2.2.2]; exact j7
    · rw [if_neg (by omega), Nat.add_zero, ← h3.2.2.2.2.2]; exact j7
    · rw [if_neg (by omega), Nat.add_zero, ← h3.2.2.2.2.2]; exact j7
  have hkp : KOK (g.ES cu) ek ∧ ek.length + g.o p ≤ q ∧ (∀ x ∈ ek, x ∈ g.BK p ∨ (p + 1 ≤ x.1 ∧ x.1 ≤ q)) ∧ StD ek clk' ∧ g.BK p <:+ ek := by
    rcases hek with ⟨h1, h2⟩ | ⟨h1, t, h2, h3, h4, -⟩
    · subst h1
      rw [if_neg h2] at hoo
      exact ⟨j6, hoo, hk1, j9.mono hcl, hk2⟩
    · subst h2
      rw [if_pos h1] at hoo
      refine ⟨j6.up (List.suffix_cons _ _), by simp; omega, fun x hx => ?_, ⟨by show 0 < t; omega, h4, j9.mono (by show clk ≤ t - 1; omega)⟩, hk2.trans (List.suffix_cons _ _)⟩
      rcases List.mem_cons.mp hx with rfl | hx
      · exact Or.inr ⟨Nat.le_refl _, hpq⟩
      · exact hk1 x hx
  have hn64 := hok.2.1
  have hee : e' = e := nI_r (by omega) he2 (j2.symm.trans he)
  subst hee
  refine hR1.suc hp hpq hcl hT hTc hA (e := e') ?_
  refine ⟨hpq, h239, by show g.s p ≤ e'; omega, j4, by rw [a6]; exact j5, by rw [a6, a8]; exact hkp.1, by rw [a8]; exact hkp.2.1, by rw [a8]; exact hkp.2.2.1, by rw [a8]; exact hkp.2.2.2.1, by rw [a8]; exact hkp.2.2.2.2, ?_⟩
  have c1 : (gSuc g p (g.ES cu) ek).k p = g.k p := rfl
  rw [c1, a6, a8]
  rcases hp4 with h3 | ⟨u1, u2, u3, u4, a, d1, d2, d3, d4, d5, d6⟩ | h3 | h3 | h3 | h3
  · exact absurd ⟨h3.1, h3.2.1⟩ hfirst
  · refine Or.inr (Or.inl ⟨u1, cu, (hQ p 242 (by omega) (by omega)).trans u2, hpp', ?_, ?_, hdc, b6.symm, ?_, h9c⟩)
    · rw [hQ p 241 (by omega) (by omega), d4]
      intro z
      have := nI_r (by omega) (by omega) z
      omega
    · rw [hQ p 241 (by omega) (by omega), d4]
      exact nI_m (by omega)
    · rw [b8]
      rcases hek with ⟨h1, h2⟩ | ⟨h1, -⟩
      · exact h1
      · omega
  · refine Or.inr (Or.inr (Or.inl ⟨Or.inl h3.1, cu, (hQ p 241 (by omega) (by omega)).trans h3.2.1.1, hpp', hdc, b6.symm, ?_, h9c⟩))
    rw [b8]
    rcases hek with ⟨h1, h2⟩ | ⟨h1, -⟩
    · exact h1
    · omega
  · rcases hek with ⟨h1, h2⟩ | ⟨h1, t, h2, -, -, h5⟩
    · exact absurd h3.1 h2
    · refine Or.inr (Or.inr (Or.inr (Or.inl ⟨h1, cu, t, (hQ p 241 (by omega) (by omega)).trans h3.2.1.1, hpp', hdc, b6.symm, ?_, h9c, h5⟩)))
      rw [b8]
      exact h2
  · refine Or.inr (Or.inr (Or.inl ⟨Or.inr (Or.inl h3.1), cu, (hQ p 241 (by omega) (by omega)).trans h3.2.1.1, hpp', hdc, b6.symm, ?_, h9c⟩))
    rw [b8]
    rcases hek with ⟨h1, h2⟩ | ⟨h1, -⟩
    · exact h1
    · omega
  · refine Or.inr (Or.inr (Or.inl ⟨Or.inr (Or.inr h3.1), cu, (hQ p 241 (by omega) (by omega)).trans h3.2.1.1, hpp', hdc, b6.symm, ?_, h9c⟩))
    rw [b8]
    rcases hek with ⟨h1, h2⟩ | ⟨h1, -⟩
    · exact h1
    · omega
end
