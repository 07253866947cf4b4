section
variable {c : CX} {g g' : GH} {B : Nat} {F A F' A' T T' T0 T2 : Nat → Nat → Int32} {G G' : Nat → Option Nat} {X X' : Option Nat} {P P' P0 : Nat → Int32} {L : SL} {kl : KL} {q q' clk clk' rt cu cu' r p e k s w o o1 V K l : Nat} {es : SL} {ek : KL}
theorem kpC.f214 {k : Nat} {z : Int32} (hk : k ≠ 5 := by decide) : kpC F A (f2 F 214 k z) A := ⟨fun o j ho => f2_n (by omega), fun _ _ => rfl⟩
theorem kpC.tr {F'' A'' : Nat → Nat → Int32} (h : kpC F A F' A') (h' : kpC F' A' F'' A'') : kpC F A F'' A'' := ⟨fun o k ho => (h'.1 o k ho).trans (h.1 o k ho), fun o ho => (h'.2 o ho).trans (h.2 o ho)⟩
theorem kpC.cb {x y z : Int32} : kpC F A (cbF F x y z) A := ((kpC.f214).tr kpC.f214).tr kpC.f214
/-- the class's goOn from here, the model's way up, and where they are then -/
def Gd (c : CX) (B rt K V : Nat) (w l : Nat) (F A : Nat → Nat → Int32) (G : Nat → Option Nat) (X : Option Nat) (P : Nat → Int32) (T : Nat → Nat → Int32) : Prop :=
  ∃ F' A' X' P' T', (∀ (sc : xm_Sc) (d S : Nat) (Pz : Nat → Int32) (Tz : Nat → Nat → Int32) (Q : Option Value → xm_M → Prop), rn sc (d + 6) 45 9 [some (.ref (B + 214)), some (.int (nI w)), some (.int (nI l))] [] (mk B S F A G X Pz Tz) Q = Q none (mk B S F' A' G X' Pz Tz)) ∧ MRun B rt P T P' T' ∧ (Sim c B rt K V F' A' G X' P' T' ∨ Fin c B rt K F' A' G P' T')
theorem chain (n : Nat) : ∀ (g : GH) (cu clk l : Nat) (F A : Nat → Nat → Int32) (P : Nat → Int32) (T : Nat → Nat → Int32), cu < n → Bs c g B rt q clk cu (g.ES cu) (g.EK cu) F A G P T → g.Dn cu → F 214 6 = nI e → T 239 cu = nI e → e ≤ c.n → P 14 = nI q → P 27 = 2 → cu < l → l < 4000 → clk + cu + 3001 * V ≤ K → 3 * (3000 - q) + (g.ES cu).length ≤ V → Gd c B rt K V (g.w cu) l F A G X P T := by
  induction n with
  | zero => intro g cu clk l F A P T h; omega
  | succ n ih =>
    intro g cu clk l F A P T hcn hb hd h6 he hen h14 h27 hl hl2 hK hV
    obtain ⟨hok, hsm, hR, hq, h7, h28, h29, h25, h26, h5, hpL, hpk, h244, hKO, hDec⟩ := id hb
    have hN64 := hok.1
    have hn64 := hok.2.1
    obtain ⟨hrt, hcq, -, -, e', j1, j2, j3, j4, j5, j6, j7, j8, j9, j10, -⟩ := hR.2.1 cu hd
    by_cases hcr : cu = rt
    · -- the match itself
      subst hcr
      have hw : g.w cu = 0 := hR.2.2.2.2.2.1
      rw [hw]
      refine ⟨f2 F 214 7 1, A, X, P, T, fun sc d S Pz Tz Q => by rw [nI_0]; exact c45_0, MRun.rf, Or.inr ?_⟩
      exact ⟨hsm.kp hok kpC.f214 kpR.rf, q, hq, by rw [f2_n (by omega)]; exact h5, h14, Or.inr (Or.inl ⟨f2_s, h28, h29, h27, h26, g, clk, e, by omega, h25, hR, hd, by rw [f2_n (by omega)]; exact h6, he, hpk.1, by rw [f2_n (by omega)]; exact hpk.2, h244⟩)⟩
    obtain ⟨p, hp, hpc, hn⟩ := hR.2.2.1 hcr
    obtain ⟨hpd, hrp, -, hlv, htk, hpp, -⟩ := hR.1 p hp
    obtain ⟨hpq, hpp, -⟩ := hpp hpc
    rw [hn] at hpp
    obtain ⟨tk1, tk2, tk3, tk4⟩ := htk hpq
    obtain ⟨hk1, hk2, hk3, hk4, -, -, -, hk8, -, hk10⟩ := id hlv
    have hkd := hsm.2.1.kd hk2
    have hkc := (hsm.1.2.2 _ hk2).1
    have hne : ¬ nI cu = nI rt := fun z => hcr (nI_r (by omega) (by omega) z)
    have hee : e' = e := nI_r (by omega) (by omega) (j2.symm.trans he)
    subst hee
    have hm1 : ¬ nI e' = -1 := nI_m (by omega)
    obtain ⟨hpcu, hup, hsp, hpp4⟩ := id hpp
    have hse : g.s p ≤ e' := by omega
    -- the model's success at p; the class as it then stands
    have go : ∀ (clk' l' : Nat) (F' A' : Nat → Nat → Int32) (P' : Nat → Int32) (T' : Nat → Nat → Int32) (ek : KL), MRun B rt P T P' T' → Sm c F' A' P' T' → (∀ r, r ≠ p → agT T T' r) → (∀ o, 237 ≤ o → o ≤ 243 → o ≠ 239 → T' o p = T o p) → T' 239 p = nI e' → (∀ o j, (o ≠ 220 ∨ j ≠ p + 1) → 219 ≤ o → o ≤ 222 → A' o j = A o j) → ((ek = g.EK cu ∧ c.kd (g.k p) ≠ 19) ∨ (c.kd (g.k p) = 19 ∧ ∃ t, ek = (p + 1, t) :: g.EK cu ∧ clk < t ∧ t ≤ clk' ∧ A' 220 (p + 1) = nI e')) → ¬ ((c.kd (g.k p) = 16 ∨ c.kd (g.k p) = 17) ∧ T 241 p = nI cu) → clk ≤ clk' → clk' ≤ clk + 1 → F' 214 7 = 4 → P' 28 = 0 → P' 29 = 0 → P' 25 = nI clk' → P' 26 = nI p → P' 14 = nI q → P' 27 = 2 → F' 217 5 = nI q → A' 224 = A 224 → F' 223 1 = F 223 1 → pile (A' 226) ek → F' 225 1 = nI ek.length → (∀ x ∈ ek, 0 < x.1 ∧ T' 244 (x.1 - 1) = nI x.2) → F' 214 6 = nI e' → p < l' → l' < 4000 → Gd c B rt K V (g.w p) l' F' A' G X P' T' := by
      intro clk' l' F' A' P' T' ek r1 r2 r3 r4 r5 r6 r7 r8 r9 r9' r10 r11 r12 r13 r14 r15 r16 r17 r18 r19 r20 r21 r22 r23 r24 r25
      have hR' := hR.sup hok hq hd hp hpc hn he (by omega) r9 r3 r4 r5 r6 r7 r8
      have a6 : (gSuc g p (g.ES cu) ek).ES p = g.ES cu := up_s
      have a8 : (gSuc g p (g.ES cu) ek).EK p = ek := up_s
      have hko : KOK (g.ES cu) ek := by
        rcases r7 with ⟨rfl, -⟩ | ⟨-, t, rfl, -⟩
        · exact hKO
        · exact hKO.up (List.suffix_cons _ _)
      have := ih (gSuc g p (g.ES cu) ek) p clk' l' F' A' P' T' (by omega) ⟨hok, r2, hR', hq, r10, r11, r12, r13, r14, r17, ⟨by rw [a6, r18]; exact hpL.1, by rw [a6, r19]; exact hpL.2⟩, ⟨by rw [a8]; exact r20, by rw [a8]; exact r21⟩, by rw [a8]; exact r22, by rw [a6, a8]; exact hko, by rw [a6]; exact hDec⟩ (Or.inr rfl) r23 r5 hen r15 r16 r24 r25 (by omega) (by rw [a6]; exact hV)
      exact this
    have silent : ∀ x, T 231 (g.k p) = x → (((x = 16 ∨ x = 17) ∧ ¬ nI cu = T 241 p) ∨ (¬ x = 16 ∧ ¬ x = 17 ∧ ¬ x = 19 ∧ ¬ x = 20)) → c.kd (g.k p) ≠ 19 → ¬ ((c.kd (g.k p) = 16 ∨ c.kd (g.k p) = 17) ∧ T 241 p = nI cu) → g.w cu = g.w p → Gd c B rt K V (g.w cu) l F A G X P T := by
      intro x hx hx2 h19 hf hw
      have hrun : MRun B rt P T (rsP (p1 P 26 (nI p)) (nI e')) (rsT T p (nI e')) := m2 h28 h29 h27 h26 (by omega) hne hup (fun sc d S F A G X Q => by
        rw [← he]
        exact c78_s p1_s (by omega) hk1 (by omega) (by omega) hx hx2)
      have := go clk l F A (rsP (p1 P 26 (nI p)) (nI e')) (rsT T p (nI e')) (g.EK cu) hrun (hsm.kp hok kpC.rf (kpR.p26.tr kpR.rs)) (fun r hr => t239_a r hr) t239_b (by simp [rsT, a2, upd]) (fun _ _ _ _ _ => rfl) (Or.inl ⟨rfl, h19⟩) hf (Nat.le_refl _) (by omega) h7 (by simp [rsP, p1, h28]) (by simp [rsP, p1, h29]) (by simp [rsP, p1, h25]) (by simp [rsP, p1]) (by simp [rsP, p1, h14]) (by simp [rsP, p1, hm1]) h5 rfl rfl hpk.1 hpk.2 (by simpa [rsT, a2] using h244) h6 (by omega) hl2
      rw [hw]
      obtain ⟨F', A', X', P', T', q1, q2, q3⟩ := this
      exact ⟨F', A', X', P', T', q1, hrun.tr q2, q3⟩
    rcases hpp4 with ⟨k1, k2, k3, k4, k5, k6, k7⟩ | ⟨u1, u2, u3, u4, a, d1, d2, d3, d4, d5, d6⟩ | ⟨k1, k2, k3, k4⟩ | ⟨k1, k2, k3, k4, k5, k6⟩ | ⟨k1, k2, k3, k4⟩ | ⟨k1, k2, k3, k4⟩
    · -- its second part, or itself anew
      obtain ⟨hR1, hch⟩ := hR.upp hq hd hp hpc hn
      obtain ⟨l', rfl⟩ : ∃ l', l = l' + 1 := ⟨l - 1, by omega⟩
      obtain ⟨ka, ha1, ha2, ha3⟩ : ∃ ka, ka < c.N ∧ (if T 231 (g.k p) = 16 then nI (g.k p) else T 233 (g.k p)) = nI ka ∧ ((c.kd (g.k p) = 17 → c.b (g.k p) = ka) ∧ (c.kd (g.k p) = 16 → ka = g.k p)) := by
        rcases k1 with k1 | k1
        · exact ⟨g.k p, hk2, by rw [if_pos (by rw [hkd, k1]; rfl)], fun z => by omega, fun _ => rfl⟩
        · exact ⟨c.b (g.k p), ((hok.2.2 _ hk2).2.2.2.1 (Or.inl k1)).2, by rw [if_neg (by rw [hkd, k1]; decide)]; exact (hsm.2.1.2.2 _ hk2).2.2.1, fun _ => rfl, fun z => by omega⟩
      have hkr : T 231 (g.k p) = 16 ∨ T 231 (g.k p) = 17 := by
        rcases k1 with k1 | k1
        · exact Or.inl (by rw [hkd, k1]; rfl)
        · exact Or.inr (by rw [hkd, k1]; rfl)
      have hrun1 : q < 3000 → MRun B rt P T (rbP (p1 P 26 (nI p)) q) (bT T q (nI ka) (nI e') p 242) := fun hq3 => m2 h28 h29 h27 h26 (by omega) hne hup (fun sc d S F A G X Q => by
        rw [bT, ← ha2, ← he]
        exact c78_b p1_s (by omega) hk1 (by omega) (by omega) k2 hkr (by rw [p1_n (by decide)]; exact h14) hq3)
      have hrun2 : q = 3000 → MRun B rt P T (p1 (p1 P 26 (nI p)) 29 1) (a2 T 242 (upd (T 242) p (nI p))) := fun hq3 => m2 h28 h29 h27 h26 (by omega) hne hup (fun sc d S F A G X Q => c78_o p1_s (by omega) hk1 (by omega) (by omega) k2 hkr (by rw [p1_n (by decide), h14, hq3]; rfl))
      have hbeg := begT (X' := some (B + (22 + 3 * ka))) (F' := cbF F (nI e') (nI (g.w p)) 0) (w := g.w p) (s := e') (k := ka) (o := g.o p) (bs := g.ES cu) (bk := g.EK cu) (V := V) (K := K) (P0 := p1 P 26 (nI p)) (T0 := T) (T2 := a2 T 242 (upd (T 242) p (nI p))) hok (hsm.kp hok kpC.cb kpR.rf) hR1 hp hpq hq hch (fun k hk => p1_n hk) (fun _ _ _ => rfl) hrun1 hrun2 (fun o o1 o2 => a2_n (by omega)) h28 h29 h25 h14 (by simp [cbF, f2, h7]) (by simp [cbF, f2]) rfl (by simp [cbF, f2]) (by simp [cbF, f2]) (by simp [cbF, f2, h5]) ⟨hpL.1, by simp [cbF, f2, hpL.2]⟩ ⟨hpk.1, by simp [cbF, f2, hpk.2]⟩ h244 ha1 hen hse j5 j6 (by omega) (fun x hx => by
        rcases j8 x hx with h | h
        · rw [k6] at h
          have := hk8 x h
          omega
        · exact h.2) j9 (by omega) (Or.inr (Or.inl ⟨k1, rfl, rfl, rfl, cu, hpcu, hcq, hup, k2, hd, k4, k5, k6, k7, rfl, rfl, hsp⟩)) hV (by omega)
      obtain ⟨P', T', r1, r2⟩ := hbeg
      refine ⟨cbF F (nI e') (nI (g.w p)) 0, A, _, P', T', fun sc d S Pz Tz Q => ?_, r1, Or.inl r2⟩
      rw [k4, ← h6]
      exact c45_b (by omega) (by omega) tk1 (by omega) hkc (by omega) (fun z => by rw [← ha3.1 z]; exact (hsm.1.2.2 _ hk2).2.2.1) ha3.2 hsm.1.1 hN64 ha1 (by omega) tk3
    · refine silent _ hkd ?_ (by omega) (fun z => ?_) u3
      · refine Or.inl ⟨?_, ?_⟩
        · rcases u1 with u1 | u1
          · exact Or.inl (by rw [u1]; rfl)
          · exact Or.inr (by rw [u1]; rfl)
        · rw [d4]
          intro z
          have := nI_r (by omega) (by omega) z
          omega
      · have := nI_r (by omega) (by omega) (d4.symm.trans z.2)
        omega
    · exact silent _ hkd (Or.inr (by rw [k1]; decide)) (by omega) (by omega) k3
    · -- a KEEP: both note it
      obtain ⟨l', rfl⟩ : ∃ l', l = l' + 1 := ⟨l - 1, by omega⟩
      have hP25 : (p1 P 26 (nI p)) 25 + 1 = nI (clk + 1) := by rw [p1_n (by decide), h25, nI_1]
      have hrun : MRun B rt P T (p1 (rsP (p1 P 26 (nI p)) (nI e')) 25 (nI (clk + 1))) (a2 (rsT T p (nI e')) 244 (upd (T 244) p (nI (clk + 1)))) := m2 h28 h29 h27 h26 (by omega) hne hup (fun sc d S F A G X Q => by
        rw [← he, ← hP25]
        exact c78_19 p1_s (by omega) hk1 (by omega) (by omega) (by rw [hkd, k1]; rfl))
      have := go (clk + 1) l' (f2 F 225 1 (nI ((g.EK cu).length + 1))) (a2 (a2 A 220 (upd (A 220) (p + 1) (nI e'))) 226 (upd (A 226) (g.EK cu).length (nI (p + 1)))) (p1 (rsP (p1 P 26 (nI p)) (nI e')) 25 (nI (clk + 1))) (a2 (rsT T p (nI e')) 244 (upd (T 244) p (nI (clk + 1)))) ((p + 1, clk + 1) :: g.EK cu) hrun (hsm.kp hok ⟨fun o k ho => f2_n (by omega), fun o ho => by rw [a2_n (by omega), a2_n (by omega)]⟩ (((kpR.p26 (z := nI p)).tr (kpR.rs (r := p) (z := nI e'))).tr ⟨by simp [p1], by simp [p1], fun o o1 o2 => a2_n (by omega)⟩)) (fun r hr o o1 o2 => by rw [a2_n (by omega)]; exact t239_a r hr o o1 o2) (fun o o1 o2 o3 => by rw [a2_n (by omega)]; exact t239_b o o1 o2 o3) (by simp [rsT, a2, upd]) (fun o j h1 h2 h3 => by
        rw [a2_n (by omega)]
        by_cases h4 : o = 220
        · subst h4
          have : j ≠ p + 1 := by omega
          simp [a2, upd, this]
        · rw [a2_n h4]) (Or.inr ⟨k1, clk + 1, rfl, by omega, Nat.le_refl _, by simp [a2, upd]⟩) (by omega) (by omega) (Nat.le_refl _) (by rw [f2_n (by omega)]; exact h7) (by simp [rsP, p1, h28]) (by simp [rsP, p1, h29]) (by simp [p1]) (by simp [rsP, p1]) (by simp [rsP, p1, h14]) (by simp [rsP, p1, hm1]) (by rw [f2_n (by omega)]; exact h5) (by rw [a2_n (by decide), a2_n (by decide)]) (by rw [f2_n (by omega)]) (by rw [a2_s]; exact hpk.1.push (x := (p + 1, clk + 1))) (by rw [f2_s]; rfl) (fun x hx => by
          rw [a2_s]
          rcases List.mem_cons.mp hx with rfl | hx
          · exact ⟨by simp, by simp [upd]⟩
          · have h1 := h244 x hx
            refine ⟨h1.1, ?_⟩
            have h2 : ¬ x.1 - 1 = p := by
              rcases j8 x hx with h | h
              · rw [k5] at h
                have := hk8 x h
                omega
              · omega
            simp [upd, h2]
            exact h1.2) (by rw [f2_n (by omega)]; exact h6) (by omega) (by omega)
      obtain ⟨F', A', X', P', T', q1, q2, q3⟩ := this
      refine ⟨F', A', X', P', T', fun sc d S Pz Tz Q => ?_, hrun.tr q2, q3⟩
      rw [k3, ← q1 sc d S Pz Tz Q]
      refine c45_s (st := p + 1) (k := g.k p) (kd := c.kd (g.k p)) (by omega) (by omega) tk1 (by omega) hkc (by omega) (by omega) (by omega) (by rw [a2_n (by decide), a2_n (by decide)]; exact tk3) (fun Q => ?_)
      rw [← h6]
      exact c47k (by omega) tk1 (by omega) (by rw [hkc, k1]; decide) hpk.2 (by omega)
    · -- a NOW: the variable on both sides
      obtain ⟨l', rfl⟩ : ∃ l', l = l' + 1 := ⟨l - 1, by omega⟩
      have hv8 : c.b (g.k p) < 8 := ((hok.2.2 _ hk2).2.2.2.2.1 (Or.inr k1)).2
      have hsm1 : Sm c F A (rsP (p1 P 26 (nI p)) (nI e')) (rsT T p (nI e')) := hsm.kp hok kpC.rf (kpR.p26.tr kpR.rs)
      have hsm2 := hsm1.set hok hv8 hse hen
      have hrun : MRun B rt P T (rsP (p1 P 26 (nI p)) (nI e')) (mvT (rsT T p (nI e')) (c.b (g.k p)) (g.s p) (e' - g.s p)) := m2 h28 h29 h27 h26 (by omega) hne hup (fun sc d S F A G X Q => by
        have := c78_20 (sc := sc) (d := d + 3) (B := B) (S := S) (F := F) (A := A) (G := G) (X := X) (P := p1 P 26 (nI p)) (T := T) (Q := Q) (a := cu) (T' := mvT (rsT T p (nI e')) (c.b (g.k p)) (g.s p) (e' - g.s p)) p1_s (by omega) hk1 (by omega) (by omega) (by rw [hkd, k1]; rfl) (fun Q => by
          rw [he, (hsm.2.1.2.2 _ hk2).2.2.1]
          exact c79 hsm1.2.1.2.1 hv8 (by omega) ((t239_b 238 (by omega) (by omega) (by omega)).trans hk3) (by simp [rsT, a2, upd]) hse hen)
        rw [he] at this
        exact this)
      have hmv : ∀ o, 237 ≤ o → mvT (rsT T p (nI e')) (c.b (g.k p)) (g.s p) (e' - g.s p) o = rsT T p (nI e') o := fun o ho => by rw [mvT, a2_n (by omega), a2_n (by omega)]
      have := go clk l' (cvF F (c.b (g.k p)) (e' - g.s p)) (cvA A (c.b (g.k p)) (g.s p) (e' - g.s p)) (rsP (p1 P 26 (nI p)) (nI e')) (mvT (rsT T p (nI e')) (c.b (g.k p)) (g.s p) (e' - g.s p)) (g.EK cu) hrun hsm2 (fun r hr o o1 o2 => by rw [hmv o o1]; exact t239_a r hr o o1 o2) (fun o o1 o2 o3 => by rw [hmv o o1]; exact t239_b o o1 o2 o3) (by rw [hmv 239 (by omega)]; simp [rsT, a2, upd]) (fun o j _ h2 h3 => by rw [cvA, a2_n (by omega)]) (Or.inl ⟨rfl, by omega⟩) (by omega) (Nat.le_refl _) (by omega) (by rw [cvF, f2_n (by omega)]; exact h7) (by simp [rsP, p1, h28]) (by simp [rsP, p1, h29]) (by simp [rsP, p1, h25]) (by simp [rsP, p1]) (by simp [rsP, p1, h14]) (by simp [rsP, p1, hm1]) (by rw [cvF, f2_n (by omega)]; exact h5) (by rw [cvA, a2_n (by omega)]) (by rw [cvF, f2_n (by omega)]) (by rw [cvA, a2_n (by omega)]; exact hpk.1) (by rw [cvF, f2_n (by omega)]; exact hpk.2) (by rw [hmv 244 (by omega)]; simpa [rsT, a2] using h244) (by rw [cvF, f2_n (by omega)]; exact h6) (by omega) (by omega)
      obtain ⟨F', A', X', P', T', q1, q2, q3⟩ := this
      refine ⟨F', A', X', P', T', fun sc d S Pz Tz Q => ?_, hrun.tr q2, q3⟩
      rw [k3, ← q1 sc d S Pz Tz Q]
      refine c45_s (st := p + 1) (k := g.k p) (kd := c.kd (g.k p)) (by omega) (by omega) tk1 (by omega) hkc (by omega) (by omega) (by omega) (by rw [cvA, a2_n (by omega)]; exact tk3) (fun Q => ?_)
      exact c47n hsm.1.2.1 (by omega) tk1 (by omega) (by rw [hkc, k1]; rfl) (hsm.1.2.2 _ hk2).2.2.1 hv8 tk2 h6 hse hen
    · exact silent _ hkd (Or.inr (by rw [k1]; decide)) (by omega) (by omega) k3
end
