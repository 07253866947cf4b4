section
variable {c : CX} {g g' : GH} {B : Nat} {F A A' T T' : Nat → Nat → Int32} {G G' : Nat → Option Nat} {X : Option Nat} {P P' : Nat → Int32} {L : SL} {kl : KL} {q q' clk clk' rt cu cu' r p e : Nat}
theorem StR.kd (h : StR c P T) {i : Nat} (hi : i < c.N) : T 231 i = nI (c.kd i) := (h.2.2 i hi).1
theorem kpR.rs {z : Int32} : kpR P T (rsP P z) (rsT T r z) := ⟨by simp [rsP, p1], by simp [rsP, p1], fun o h1 h2 => by rw [rsT, a2_n (by omega)]⟩
theorem kpR.p26 {z : Int32} : kpR P T (p1 P 26 z) T := ⟨by simp [p1], by simp [p1], fun _ _ _ => rfl⟩
theorem kpR.tr {P'' : Nat → Int32} {T'' : Nat → Nat → Int32} (h : kpR P T P' T') (h' : kpR P' T' P'' T'') : kpR P T P'' T'' := ⟨h'.1.trans h.1, ⟨h'.2.1.1.trans h.2.1.1, h'.2.1.2.1.trans h.2.1.2.1, h'.2.1.2.2.1.trans h.2.1.2.2.1, h'.2.1.2.2.2.1.trans h.2.1.2.2.2.1, h'.2.1.2.2.2.2.trans h.2.1.2.2.2.2⟩, fun o h1 h2 => (h'.2.2 o h1 h2).trans (h.2.2 o h1 h2)⟩
theorem Bs.md (h : Bs c g B rt q clk cu L kl F A G P T) (hk : kpR P T P' T') (hR : Rows c g' B A T' G q clk rt cu') (h28 : P' 28 = P 28) (h29 : P' 29 = P 29) (h25 : P' 25 = P 25) (h26 : P' 26 = nI cu') (h244 : T' 244 = T 244) : Bs c g' B rt q clk cu' L kl F A G P' T' := by
  obtain ⟨h1, h2, h3, h4, h5, h6, h7, h8, h9, h10, h11, h12, h13, h14⟩ := h
  exact ⟨h1, h2.kp h1 kpC.rf hk, hR, h4, h5, h28.trans h6, h29.trans h7, h25.trans h8, h26, h10, h11, h12, by rw [h244]; exact h13, h14⟩
/-- one turn of the model, going back into a row -/
theorem m1 {P' : Nat → Int32} {T' : Nat → Nat → Int32} (h1 : P 28 = 0) (h2 : P 29 = 0) (h3 : P 27 = 1) (hc : ∀ (sc : xm_Sc) (d S : Nat) (F A : Nat → Nat → Int32) (G : Nat → Option Nat) (X : Option Nat) (Q : Option Value → xm_M → Prop), rn sc (d + 4) 77 0 [some (.ref (B + 227)), none, none] [] (mk B S F A G X P T) Q = Q none (mk B S F A G X P' T')) : MRun B rt P T P' T' := fun sc d S F A G X Q _ _ l4 => ⟨l4, c66_1 h1 h2 h3 (hc sc d S F A G X)⟩
theorem m3 {P' : Nat → Int32} {T' : Nat → Nat → Int32} (h1 : P 28 = 0) (h2 : P 29 = 0) (h3 : P 27 = 3) (hr : P 26 = nI r) (hb : r < 3000) (hne : ¬ nI r = nI rt) (hu : T 240 r = nI p) (hc : ∀ (sc : xm_Sc) (d S : Nat) (F A : Nat → Nat → Int32) (G : Nat → Option Nat) (X : Option Nat) (Q : Option Value → xm_M → Prop), rn sc (d + 4) 80 0 [some (.ref (B + 227)), some (.int (nI r)), none, none, none] [] (mk B S F A G X (p1 P 26 (nI p)) T) Q = Q none (mk B S F A G X P' T')) : MRun B rt P T P' T' := fun sc d S F A G X Q _ _ _ => ⟨_, c66_3 h1 h2 h3 hr hb hne hu (hc sc d S F A G X)⟩
theorem t239_a {x : Nat} {z : Int32} (r : Nat) (h : r ≠ x) : agT T (rsT T x z) r := fun o h1 h2 => by
  by_cases h3 : o = 239
  · subst h3; simp [rsT, a2, upd, h]
  · rw [rsT, a2_n h3]
theorem t239_b {x : Nat} {z : Int32} (o : Nat) (_ : 237 ≤ o) (_ : o ≤ 243) (h3 : o ≠ 239) : rsT T x z o x = T o x := by rw [rsT, a2_n h3]
/-- into a succeeded row and down to its part b -/
theorem Rows.od {b : Nat} (h : Rows c g B A T G q clk rt cu) (hq : q ≤ 3000) (hd : g.Dn cu) (hb : g.Dn b) (hpp : PP c g T cu b) : Rows c ((gOpen g cu).st (gOpen g cu).On (gOpen g cu).Dn (va_up (gOpen g cu).nx cu b)) B A T G q clk rt b := by
  have hcq := (h.2.1 cu hd).2.1
  have hbc := hpp.1
  refine (h.opn hq hd).dwn (Or.inr rfl) hcq ⟨hb, by omega⟩ (hpp.fr agT.rf agT.rf agG.st agG.st (fun a d1 d2 _ _ => ⟨agT.rf, agG.st, d1, by omega⟩)) (fun r hr hne => ?_)
  rcases hr with hr | hr
  · have := (h.1 r hr).2.2.1
    omega
  · omega
def Bd (g : GH) (m : Nat) : Prop := ∃ l : List Nat, l.length ≤ m ∧ ∀ r, g.Dn r → r ∈ l
theorem Bd.opn {m : Nat} (h : Bd g m) (hd : g.Dn cu) : ∃ m', m = m' + 1 ∧ Bd (gOpen g cu) m' := by
  obtain ⟨l, h1, h2⟩ := h
  have hm := h2 cu hd
  have hl := List.length_erase_of_mem hm
  have hp := List.length_pos_of_mem hm
  refine ⟨m - 1, by omega, l.erase cu, by omega, fun r hr => ?_⟩
  exact (List.mem_erase_of_ne hr.2).mpr (h2 r hr.1)
theorem wk_m {m m' N x : Nat} (h : m * 3002 + 0 < N + 1) (hm : m = m' + 1) (hx : x < 3002) : m' * 3002 + x < N := by
  subst hm
  rw [Nat.add_mul, Nat.one_mul] at h
  generalize m' * 3002 = y at h ⊢
  omega
/-- where the model stands when the class takes its next choice -/
def Top (c : CX) (g : GH) (rt cu : Nat) (P : Nat → Int32) (T : Nat → Nat → Int32) : Prop :=
  (P 27 = 1 ∧ g.Dn cu ∧ (c.kd (g.k cu) = 11 ∨ c.kd (g.k cu) = 12 ∨ c.kd (g.k cu) = 14 ∨ (c.kd (g.k cu) = 16 ∧ T 241 cu = -1))) ∨
  (P 27 = 3 ∧ g.On cu ∧ cu ≠ rt ∧ ∃ p, g.On p ∧ p ≠ cu ∧ g.nx p = cu ∧ c.kd (g.k p) = 18 ∧ T 243 p = 0) ∨
  (P 27 = 3 ∧ g.On cu ∧ cu = rt)
theorem walk (N : Nat) : ∀ (g : GH) (cu m : Nat) (P : Nat → Int32) (T : Nat → Nat → Int32), SK c g B rt q clk cu L kl F A G P T → Bd g m → m * 3002 + (if P 27 = 1 then 0 else cu + 1) < N → ∃ g' cu' P' T', MRun B rt P T P' T' ∧ SK c g' B rt q clk cu' L kl F A G P' T' ∧ Top c g' rt cu' P' T' := by
  induction N with
  | zero => intro g cu m P T _ _ h; omega
  | succ N ih =>
    intro g cu m P T hk hbd hN
    obtain ⟨hb, hm, hp14, hcq, hmode⟩ := id hk
    obtain ⟨hok, hsm, hR, hq, h7, h28, h29, h25, h26, -⟩ := id hb
    have hN64 := hok.1
    rcases hmode with ⟨h27, hd, hL⟩ | ⟨h27, ho, hL⟩
    · -- into it
      obtain ⟨-, -, hlv, -, e, hde⟩ := hR.2.1 cu hd
      obtain ⟨hk1, hk2, -⟩ := hlv
      have hkd := hsm.2.1.kd hk2
      obtain ⟨m', hm', hbd'⟩ := hbd.opn hd
      rw [if_pos h27] at hN
      obtain ⟨-, hd239, -, -, -, -, -, -, -, -, hda⟩ := hde
      have down : ∀ (b : Nat) (P' : Nat → Int32), g.Dn b → PP c g T cu b → g.ES cu = g.ES b → P' = p1 P 26 (nI b) → MRun B rt P T P' T → ∃ g' cu' P' T', MRun B rt P T P' T' ∧ SK c g' B rt q clk cu' L kl F A G P' T' ∧ Top c g' rt cu' P' T' := by
        intro b P' hdb hpp hes hP' hrun
        have hR' := hR.od hq hd hdb hpp
        have hbq := (hR.2.1 b hdb).2.1
        subst hP'
        obtain ⟨g2, cu2, P2, T2, r1, r2⟩ := ih _ b m' (p1 P 26 (nI b)) T ⟨hb.md kpR.p26 hR' (by simp [p1]) (by simp [p1]) (by simp [p1]) (by simp [p1]) rfl, hm, by simp [p1, hp14], hbq, Or.inl ⟨by simp [p1, h27], ⟨hdb, by have := hpp.1; omega⟩, hL.trans hes⟩⟩ hbd' (by rw [if_pos (by simp [p1, h27])]; exact wk_m hN hm' (by decide))
        exact ⟨g2, cu2, P2, T2, hrun.tr r1, r2⟩
      rcases hda with ⟨k1, k2, k3⟩ | ⟨k1, b, k2, k3, k4, k5, k6, k7, k8, k9⟩ | ⟨k1, b, k2, k3, k6, k7, k8, k9⟩ | ⟨k1, b, t, k2, k3, k6, k7, k8, k9, k10⟩ | ⟨k1, k2⟩ | ⟨k1, k2⟩ | ⟨k1, k2, k3⟩
      · exact ⟨g, cu, P, T, MRun.rf, hk, Or.inl ⟨h27, hd, Or.inr (Or.inr (Or.inr ⟨k1, k2⟩))⟩⟩
      · refine down b _ k6 k3 k7 rfl (m1 h28 h29 h27 (fun sc d S F A G X Q => ?_))
        rw [c77_two h26 (by omega) hk1 (by omega) ?_, k2]
        rcases k1 with k1 | k1
        · exact Or.inl ⟨by rw [hkd, k1]; rfl, k5⟩
        · exact Or.inr (by rw [hkd, k1]; rfl)
      · refine down b _ k6 k3 k7 rfl (m1 h28 h29 h27 (fun sc d S F A G X Q => ?_))
        rw [c77_one h26 (by omega) hk1 (by omega) ?_, k2]
        rcases k1 with k1 | k1 | k1
        · exact Or.inl (by rw [hkd, k1]; rfl)
        · exact Or.inr (Or.inr (Or.inl (by rw [hkd, k1]; rfl)))
        · exact Or.inr (Or.inr (Or.inr (by rw [hkd, k1]; rfl)))
      · refine down b _ k6 k3 k7 rfl (m1 h28 h29 h27 (fun sc d S F A G X Q => ?_))
        rw [c77_one h26 (by omega) hk1 (by omega) (Or.inr (Or.inl (by rw [hkd, k1]; rfl))), k2]
      · refine ⟨g, cu, P, T, MRun.rf, hk, Or.inl ⟨h27, hd, ?_⟩⟩
        rcases k1 with k1 | ⟨k1, -⟩
        · exact Or.inl k1
        · exact Or.inr (Or.inl k1)
      · exact ⟨g, cu, P, T, MRun.rf, hk, Or.inl ⟨h27, hd, Or.inr (Or.inr (Or.inl k1))⟩⟩
      · have hrun : MRun B rt P T (rsP P (-1)) (rsT T cu (-1)) := m1 h28 h29 h27 (fun sc d S F A G X Q => by
          refine c77_d h26 (by omega) hk1 (by omega) hkd ?_
          rcases k1 with k1 | k1 | k1 | k1
          · refine Or.inl ?_
            rw [nI_toInt (by omega)]
            omega
          · exact Or.inr (Or.inl (by rw [k1]; rfl))
          · exact Or.inr (Or.inr (Or.inr (Or.inl (by rw [k1]; rfl))))
          · exact Or.inr (Or.inr (Or.inr (Or.inr (by rw [k1]; rfl)))))
        have hR' : Rows c (gOpen g cu) B A (rsT T cu (-1)) G q clk rt cu := (hR.opn hq hd).t239 (x := cu) (fun z => z.2 rfl) (fun r hr => t239_a r hr) t239_b
        obtain ⟨g2, cu2, P2, T2, r1, r2⟩ := ih _ cu m' (rsP P (-1)) (rsT T cu (-1)) ⟨hb.md kpR.rs hR' (by simp [rsP, p1]) (by simp [rsP, p1]) (by simp [rsP, p1]) (by simp [rsP, p1, h26]) (by simp [rsT, a2]), hm, by simp [rsP, p1, hp14], hcq, Or.inr ⟨by simp [rsP, p1], Or.inr rfl, hL.trans k2⟩⟩ hbd' (by rw [if_neg (by simp [rsP, p1])]; exact wk_m hN hm' (by omega))
        exact ⟨g2, cu2, P2, T2, hrun.tr r1, r2⟩
    · -- out of it
      by_cases hcr : cu = rt
      · exact ⟨g, cu, P, T, MRun.rf, hk, Or.inr (Or.inr ⟨h27, ho, hcr⟩)⟩
      obtain ⟨p, hp, hpc, hn⟩ := hR.2.2.1 hcr
      obtain ⟨hpd, hrp, -, hlv, -, hpp, -⟩ := hR.1 p hp
      obtain ⟨hpq, hpp, -⟩ := hpp hpc
      rw [hn] at hpp
      obtain ⟨hk1, hk2, -⟩ := hlv
      have hkd := hsm.2.1.kd hk2
      have hrt := (hR.1 cu ho).2.1
      have hne : ¬ nI cu = nI rt := fun z => hcr (nI_r (by omega) (by omega) z)
      have hm1 : ¬ P 27 = 1 := by rw [h27]; decide
      rw [if_neg hm1] at hN
      obtain ⟨hpcu, hup, -, hpp⟩ := hpp
      -- up to p, which fails too
      have up : ∀ (x : Int32), T 231 (g.k p) = x → (((x = 16 ∨ x = 17) ∧ ¬ nI cu = T 242 p) ∨ (x = 18 ∧ ¬ T 243 p = 0) ∨ (¬ x = 16 ∧ ¬ x = 17 ∧ ¬ x = 18)) → g.BS cu = g.BS p → ∃ g' cu' P' T', MRun B rt P T P' T' ∧ SK c g' B rt q clk cu' L kl F A G P' T' ∧ Top c g' rt cu' P' T' := by
        intro x hx hx2 hbs
        have hrun : MRun B rt P T (rsP (p1 P 26 (nI p)) (-1)) (rsT T p (-1)) := m3 h28 h29 h27 h26 (by omega) hne hup (fun sc d S F A G X Q => c80_f p1_s (by omega) hk1 (by omega) hx hx2)
        have hR' : Rows c (gFup g cu) B A (rsT T p (-1)) G q clk rt p := (hR.fup hq ho hp hpc hn).1.t239 (x := p) hpd (fun r hr => t239_a r hr) t239_b
        obtain ⟨g2, cu2, P2, T2, r1, r2⟩ := ih (gFup g cu) p m (rsP (p1 P 26 (nI p)) (-1)) (rsT T p (-1)) ⟨hb.md (kpR.p26.tr kpR.rs) hR' (by simp [rsP, p1]) (by simp [rsP, p1]) (by simp [rsP, p1]) (by simp [rsP, p1]) (by simp [rsT, a2]), hm, by simp [rsP, p1, hp14], hpq, Or.inr ⟨by simp [rsP, p1], ⟨hp, hpc⟩, hL.trans hbs⟩⟩ hbd (by rw [if_neg (by simp [rsP, p1])]; omega)
        exact ⟨g2, cu2, P2, T2, hrun.tr r1, r2⟩
      rcases hpp with ⟨k1, k2, k3, k4, k5, k6, k7⟩ | ⟨u1, u2, u3, u4, a, d1, d2, d3, d4, d5, d6, d7, d8, d9, d10, d11⟩ | ⟨k1, k2, k3, k4, k5, k6⟩ | ⟨k1, k2, k3, k4, k5⟩ | ⟨k1, k2, k3, k4, k5⟩ | ⟨k1, k2, k3, k4, k5⟩
      · refine up _ hkd (Or.inl ⟨?_, ?_⟩) k5
        · rcases k1 with k1 | k1
          · exact Or.inl (by rw [k1]; rfl)
          · exact Or.inr (by rw [k1]; rfl)
        · rw [k3]
          exact nI_m (by omega)
      · have hrun : MRun B rt P T (p1 (p1 (p1 P 26 (nI p)) 26 (nI a)) 27 1) (a2 T 242 (upd (T 242) p (-1))) := m3 h28 h29 h27 h26 (by omega) hne hup (fun sc d S F A G X Q => by
          rw [← d4]
          refine c80_two p1_s (by omega) hk1 (by omega) ?_ u2
          rcases u1 with u1 | u1
          · exact Or.inl (by rw [hkd, u1]; rfl)
          · exact Or.inr (by rw [hkd, u1]; rfl))
        have hR' : Rows c (gSwp g cu p a) B A (a2 T 242 (upd (T 242) p (-1))) G q clk rt a := hR.swp hq ho hp hpc hn d5 d1 u1 d3 d4 d6 d7 d8 d9 d11.2 (fun r hr o h1 h2 => by
          by_cases h3 : o = 242
          · subst h3; simp [a2, upd, hr]
          · rw [a2_n h3]) (fun o _ _ h3 => by rw [a2_n h3]) (by simp [a2, upd])
        have haq := (hR.2.1 a d5).2.1
        obtain ⟨g2, cu2, P2, T2, r1, r2⟩ := ih (gSwp g cu p a) a m (p1 (p1 (p1 P 26 (nI p)) 26 (nI a)) 27 1) (a2 T 242 (upd (T 242) p (-1))) ⟨hb.md ⟨by simp [p1], by simp [p1], fun o h1 h2 => by rw [a2_n (by omega)]⟩ hR' (by simp [p1]) (by simp [p1]) (by simp [p1]) (by simp [p1]) (by simp [a2]), hm, by simp [p1, hp14], haq, Or.inl ⟨by simp [p1], d5, hL.trans d10⟩⟩ hbd (by rw [if_pos (by simp [p1])]; omega)
        exact ⟨g2, cu2, P2, T2, hrun.tr r1, r2⟩
      · rcases k6 with ⟨k6, k7⟩ | ⟨k6, k7⟩
        · exact ⟨g, cu, P, T, MRun.rf, hk, Or.inr (Or.inl ⟨h27, ho, hcr, p, hp, hpc, hn, k1, k6⟩)⟩
        · refine up _ hkd (Or.inr (Or.inl ⟨by rw [k1]; rfl, by rw [k6]; decide⟩)) k7
      · exact up _ hkd (Or.inr (Or.inr (by rw [k1]; decide))) k4
      · exact up _ hkd (Or.inr (Or.inr (by rw [k1]; decide))) k4
      · exact up _ hkd (Or.inr (Or.inr (by rw [k1]; decide))) k4
end
