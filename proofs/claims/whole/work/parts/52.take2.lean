section
variable {c : CX} {g g' : GH} {B : Nat} {F A F' A' T T' T0 T2 : Nat → Nat → Int32} {G G' : Nat → Option Nat} {X X' : Option Nat} {P P' P0 : Nat → Int32} {L : SL} {kl : KL} {q q' clk clk' rt cu cu' r p e k s w o o1 V K l s0 : Nat} {es : SL} {ek : KL} {vn : Nat → Nat} {vf : Nat → Nat → Nat}
theorem kpC.ck {z pl st : Nat} : kpC F A (ckF F z pl) (ckA A z st pl) := ⟨fun o k ho => by rw [ckF, f2_n (by omega), f2_n (by omega), f2_n (by omega)], fun o ho => by rw [ckA, a2_n (by omega), a2_n (by omega)]⟩
theorem chOK (hb : Bs c g B rt q clk r (g.BS r) (g.BK r) F A G P T) (hrq : r < q) (ho : g.On r) (h1 : T 241 r = -1) (h2 : T 242 r = -1) (hse : g.s r ≤ e) (hen : e ≤ c.n) (hkd : c.kd (g.k r) = 16 ∨ c.kd (g.k r) = 11 ∨ (c.kd (g.k r) = 12 ∧ BalOK c (g.s r) e) ∨ c.kd (g.k r) = 14) (h10 : F 214 10 = nI (g.w r)) (p14 : P 14 = nI q) : SG c (gSuc g r ((r + 1, g.BK r) :: g.BS r) (g.BK r)) B rt q clk r e (ckF F (g.BS r).length e) (ckA A (g.BS r).length (r + 1) e) G (rsP P (nI e)) (rsT T r (nI e)) := by
  obtain ⟨hok, hsm0, hR, hq, h7, h28, h29, h25, h26, h5, hpL, hpk, h244', hKO, hDec⟩ := id hb
  have hn64 := hok.2.1
  have hm1 : ¬ nI e = -1 := nI_m (by omega)
  refine lfOK hb hrq ho h1 h2 (hsm0.kp hok kpC.ck kpR.rs) hse hen (Or.inr ⟨rfl, ?_, ?_, ?_, hkd⟩) (fun o j h1 h2 h3 => ?_) ?_ ?_ ?_ ?_ ?_ ?_ ?_ (fun x hx => t239_a x hx) t239_b ?_ ?_ ?_ ?_ ?_ ?_ ?_ ?_
  · rw [ckA, a2_s]
    exact hpL.1.push (x := (r + 1, g.BK r))
  · simp [ckF, f2]
  · rw [ckA, a2_n (by decide), a2_s]
    simp [upd]
  · rw [ckA, a2_n (by omega)]
    by_cases h4 : o = 220
    · subst h4
      have : j ≠ r + 1 := by omega
      simp [a2, upd, this]
    · rw [a2_n h4]
  · rw [ckA, a2_n (by decide), a2_n (by decide)]
  · simp [ckF, f2]
  · simp [ckF, f2]
  · simp [ckF, f2]
  · simp [ckF, f2]
  · simp [ckF, f2]
  · simp [ckF, f2, h10]
  · simp [rsT, a2, upd]
  · simp [rsT, a2]
  · simp [rsP, p1]
  · simp [rsP, p1]
  · simp [rsP, p1]
  · simp [rsP, p1]
  · simp [rsP, p1, p14]
  · simp [rsP, p1, hm1]
theorem tB (h : SB c g B rt q clk F A G X P T) (hV : 3 * (3000 - q) + (g.BS q).length ≤ V) (hVK : clk + 3001 * V ≤ K) : Nx c B rt K V F A G X P T := by
  have hb := h.cnt
  obtain ⟨⟨hok, hsm, hR, -, h7, h28, h29, h25, h26, h5, -⟩, hq3, ho, h8, hX, h6, h10, h14, h27, t1, t2, t3⟩ := id h
  obtain ⟨-, hsm1, hR1, hq1, h71, -, -, -, -, h51, hpL1, hpk1, h244, hKO1, hDec1⟩ := id hb
  obtain ⟨hnd, hrt, -, ⟨l1, l2, l3, l4, l5, l6, l7, l8, l9, l10⟩, -⟩ := hR.1 q ho
  have hN64 := hok.1
  have hn64 := hok.2.1
  have hkd := hsm.2.1.kd l2
  have hkc := (hsm.1.2.2 _ l2).1
  have hch : ∀ r, g.On r → r ≠ q → r < q := fun r hr hne => by have := (hR.1 r hr).2.2.1; omega
  have hL := l5.len
  have f6 : nF F q 214 6 = nI (g.s q) := by rw [nF, f2_n (by omega)]; exact h6
  have f10 : nF F q 214 10 = nI (g.w q) := by rw [nF, f2_n (by omega)]; exact h10
  obtain ⟨hk24, hka31, ok16, ok17, ok19, ok21⟩ := hok.2.2 _ l2
  have hm1 : ¬ nI (g.s q) = -1 := nI_m (by omega)
  have hz3 : (g.BS q).length < 3000 := by omega
  -- both fail
  have no : ∀ (F' : Nat → Nat → Int32) (X' : Option Nat), CRun B F A G X F' (nA F A q) (nG G B (g.k q) q) X' → MRun B rt P T (rsP P (-1)) (rsT T q (-1)) → kpC (nF F q) (nA F A q) F' (nA F A q) → F' 225 1 = nF F q 225 1 → F' 223 1 = nF F q 223 1 → F' 217 5 = nF F q 217 5 → F' 214 7 = nF F q 214 7 → F' 214 8 = 2 → Nx c B rt K V F A G X P T := by
    intro F' X' r1 r2 r3 r4 r5 r6 r7 r8
    exact ⟨F', nA F A q, nG G B (g.k q) q, X', _, _, r1, r2, Or.inl ⟨clk, by omega, Or.inr (Or.inr (Or.inl ⟨g, q + 1, q, g.BS q, g.BK q, lfNo hb (by omega) ho r3 r4 r5 r6 r7 r8 h14, by omega⟩))⟩⟩
  -- both succeed, and can be gone back into
  have ch : ∀ e, CRun B F A G X (ckF (nF F q) (g.BS q).length e) (ckA (nA F A q) (g.BS q).length (q + 1) e) (nG G B (g.k q) q) X → MRun B rt P T (rsP P (nI e)) (rsT T q (nI e)) → g.s q ≤ e → e ≤ c.n → (c.kd (g.k q) = 16 ∨ c.kd (g.k q) = 11 ∨ (c.kd (g.k q) = 12 ∧ BalOK c (g.s q) e) ∨ c.kd (g.k q) = 14) → Nx c B rt K V F A G X P T := by
    intro e r1 r2 r3 r4 r5
    refine ⟨_, _, _, _, _, _, r1, r2, Or.inl ⟨clk, by omega, Or.inr (Or.inl ⟨_, q + 1, q, e, chOK hb (by omega) ho t1 t2 r3 r4 r5 f10 h14, ?_⟩)⟩⟩
    have a6 : (gSuc g q ((q + 1, g.BK q) :: g.BS q) (g.BK q)).ES q = (q + 1, g.BK q) :: g.BS q := up_s
    rw [a6]
    simp only [List.length_cons]
    omega
  -- both begin a part
  have bg : ∀ (F' A' : Nat → Nat → Int32) (w o : Nat) (bs : SL), CRun B F A G X F' A' (nG G B (g.k q) q) (some (B + (22 + 3 * c.a (g.k q)))) → (q + 1 < 3000 → MRun B rt P T (rbP P (q + 1)) (bT T (q + 1) (nI (c.a (g.k q))) (nI (g.s q)) q 241)) → (q + 1 = 3000 → MRun B rt P T (p1 P 29 1) (a2 T 241 (upd (T 241) q (nI q)))) → c.a (g.k q) < c.N → kpC (nF F q) (nA F A q) F' A' → (∀ o, 219 ≤ o → o ≤ 222 → A' o = nA F A q o) → A' 226 = nA F A q 226 → F' 225 1 = nF F q 225 1 → F' 217 5 = nF F q 217 5 → F' 214 7 = nF F q 214 7 → F' 214 8 = 0 → F' 214 6 = nI (g.s q) → F' 214 10 = nI w → pile (A' 224) bs → F' 223 1 = nI bs.length → bs.length ≤ (g.BS q).length + 1 → Dec bs (q + 1) → KOK bs (g.BK q) → o ≤ g.o q + 1 → w ≤ q + 1 → NW c g T q (q + 1) 241 w o bs (g.BK q) → Nx c B rt K V F A G X P T := by
    intro F' A' w o bs r1 r2 r3 r4 r5 r6 r7 r8 r9 r10 r11 r12 r13 r14 r15 r16 r17 r18 r19 r20 r21
    have hRA : Rows c g B A' T (nG G B (g.k q) q) (q + 1) clk rt q := hR1.fr (fun o j o1 o2 => by rw [r6 o o1 o2]) (fun _ => agT.rf) (Nat.le_refl _)
    obtain ⟨P', T', s1, s2⟩ := begT (X' := some (B + (22 + 3 * c.a (g.k q)))) (F' := F') (A' := A') (w := w) (s := g.s q) (k := c.a (g.k q)) (o := o) (bs := bs) (bk := g.BK q) (V := V - 1) (K := K) (P0 := P) (T0 := T) (T2 := a2 T 241 (upd (T 241) q (nI q))) hok (hsm1.kp hok r5 kpR.rf) hRA ho (Nat.lt_succ_self _) hq1 hch (fun _ _ => rfl) (fun _ _ _ => rfl) r2 r3 (fun o o1 o2 => a2_n (by omega)) h28 h29 h25 h14 (r10.trans h71) r11 rfl r12 r13 (r9.trans h51) ⟨r14, r15⟩ ⟨by rw [r7]; exact hpk1.1, by rw [r8]; exact hpk1.2⟩ h244 r4 l4 (Nat.le_refl _) r17 r18 (by omega) (fun x hx => by have := l8 x hx; omega) l9 r20 r21 (by omega) (by omega)
    exact ⟨F', A', _, _, P', T', r1, s1, Or.inl s2⟩
  have hk64 : g.k q < 64 := by omega
  have n2 := (hsm.1.2.2 _ l2).2.1
  have n2' : nF F q (22 + 3 * g.k q) 2 = nI (c.a (g.k q)) := (hsm1.1.2.2 _ l2).2.1
  have m2' := (hsm.2.1.2.2 _ l2).2.1
  have hh : (c.kd (g.k q) < 11 ∨ c.kd (g.k q) = 13 ∨ c.kd (g.k q) = 22) ∨ c.kd (g.k q) = 21 ∨ (c.kd (g.k q) = 11 ∨ c.kd (g.k q) = 14) ∨ c.kd (g.k q) = 16 ∨ c.kd (g.k q) = 12 ∨ c.kd (g.k q) = 15 ∨ (c.kd (g.k q) = 17 ∨ c.kd (g.k q) = 19 ∨ c.kd (g.k q) = 20) ∨ c.kd (g.k q) = 18 ∨ c.kd (g.k q) = 23 := by omega
  rcases hh with hh | hh | hh | hh | hh | hh | hh | hh | hh
  · -- it succeeds once at most
    obtain ⟨-, -, vn, vf, hvc, hvr, -⟩ := id hsm
    obtain ⟨hC1, -⟩ := id hsm1
    have hvc1 : VaC (nF F q) (nA F A q) vn vf := hvc.kp kpC.n
    generalize hy : lf (c.kd (g.k q)) (c.a (g.k q)) c.n (g.s q) c.s (c.tn (g.k q)) (c.tf (g.k q)) (vn (c.a (g.k q))) (vf (c.a (g.k q))) = y
    have r1 : CRun B F A G X (csF (nF F q) (oi y)) (nA F A q) (nG G B (g.k q) q) X := cB h7 h8 hX hk64 h5 hq3 (fun sc d S P T Q => by
      refine c29_p ?_ hX (fun Q => ?_)
      · rw [hkc]
        rcases hh with hh | hh | hh
        · refine Or.inl ?_
          rw [nI_toInt (by omega)]
          omega
        · exact Or.inr (Or.inl (by rw [hh]; rfl))
        · exact Or.inr (Or.inr (Or.inr (by rw [hh]; rfl)))
      · rw [f6, ← hy]
        exact pl_c hok hC1 hvc1 l2 hh l4)
    have r2 : MRun B rt P T (rsP P (oi y)) (rsT T q (oi y)) := m0 h28 h29 h27 (fun sc d S F A G X Q => by
      refine c68_p h26 hq3 l1 hk64 hkd ?_ (fun Q => ?_)
      · rcases hh with hh | hh | hh
        · refine Or.inl ?_
          rw [nI_toInt (by omega)]
          omega
        · refine Or.inl ?_
          rw [nI_toInt (by omega)]
          omega
        · exact Or.inr (Or.inr (by rw [hh]; rfl))
      · rw [l3, ← hy]
        exact pl_m hok hsm.2.1 hvr l2 hh l4)
    cases y with
    | none =>
      have e1 : csF (nF F q) (oi none) = f2 (nF F q) 214 8 2 := by simp [csF, oi]
      rw [e1] at r1
      exact no _ X r1 r2 kpC.f214 (f2_n (by omega)) (f2_n (by omega)) (f2_n (by omega)) (f2_n (by omega)) f2_s
    | some e =>
      have hle := lf_le l4 hh hy
      have hm : ¬ nI e = -1 := nI_m (by omega)
      have e1 : csF (nF F q) (oi (some e)) = f2 (f2 (nF F q) 214 6 (nI e)) 214 8 1 := by simp [csF, oi, hm]
      rw [e1] at r1
      refine ⟨_, _, _, _, _, _, r1, r2, Or.inl ⟨clk, by omega, Or.inr (Or.inl ⟨gSuc g q (g.BS q) (g.BK q), q + 1, q, e, lfOK hb (by omega) ho t1 t2 (hsm1.kp hok ((kpC.f214).tr kpC.f214) kpR.rs) hle.1 hle.2 (Or.inl ⟨rfl, rfl, by simp [f2], by omega⟩) (fun _ _ _ _ _ => rfl) rfl (by simp [f2]) (by simp [f2]) (by simp [f2]) (by simp [f2]) (by simp [f2]) (by simp [f2, f10]) (fun x hx => t239_a x hx) t239_b (by simp [rsT, a2, upd, oi]) (by simp [rsT, a2]) (by simp [rsP, p1]) (by simp [rsP, p1]) (by simp [rsP, p1]) (by simp [rsP, p1]) (by simp [rsP, p1, h14]) (by simp [rsP, p1, oi, hm]), ?_⟩)⟩⟩
      have a6 : (gSuc g q (g.BS q) (g.BK q)).ES q = g.BS q := up_s
      rw [a6]
      omega
  · -- PLACE
    have hv8 := ok21 (Or.inl hh)
    have hkc' : F (22 + 3 * g.k q) 1 = 21 := by rw [hkc, hh]; rfl
    have hkc1 : nF F q (22 + 3 * g.k q) 1 = 21 := by rw [nF, f2_n (by omega)]; exact hkc'
    have r1 : CRun B F A G X (csF (f2 (nF F q) (6 + 2 * c.a (g.k q)) 1 (nI (dgN (g.s q)))) (nI (g.s q))) (cdA (nA F A q) (6 + 2 * c.a (g.k q)) (g.s q)) (nG G B (g.k q) q) X := cB h7 h8 hX hk64 h5 hq3 (fun sc d S P T Q => by
      rw [hkc']
      refine c29_p (Or.inr (Or.inr (Or.inl rfl))) hX (fun Q => ?_)
      rw [f6]
      exact c35_21 hsm1.1.2.1 hk64 l4 n2' hkc1 hv8)
    have r2 : MRun B rt P T (rsP P (nI (g.s q))) (rsT (tdT T (c.a (g.k q)) (g.s q)) q (nI (g.s q))) := m0 h28 h29 h27 (fun sc d S F A G X Q => by
      refine c68_p h26 hq3 l1 hk64 (hkd.trans (by rw [hh]; rfl)) (Or.inr (Or.inl rfl)) (fun Q => ?_)
      rw [l3]
      exact c70_21 hk64 (hsm.2.1.2.2 _ l2).2.2.2 hsm.2.1.2.1 l4 m2' hv8 (by rw [hkd, hh]; rfl))
    have e1 : csF (f2 (nF F q) (6 + 2 * c.a (g.k q)) 1 (nI (dgN (g.s q)))) (nI (g.s q)) = f2 (f2 (f2 (nF F q) (6 + 2 * c.a (g.k q)) 1 (nI (dgN (g.s q)))) 214 6 (nI (g.s q))) 214 8 1 := by simp [csF, hm1]
    rw [e1] at r1
    have hsm2 := (hsm1.dig hok hv8 l4).kp hok ((kpC.f214 (k := 6) (z := nI (g.s q))).tr (kpC.f214 (k := 8) (z := 1))) (kpR.rs (r := q) (z := nI (g.s q)))
    have htd : ∀ o, 237 ≤ o → tdT T (c.a (g.k q)) (g.s q) o = T o := fun o ho => by rw [tdT, a2_n (by omega), a2_n (by omega)]
    have hcd : ∀ o, 214 ≤ o → cdA (nA F A q) (6 + 2 * c.a (g.k q)) (g.s q) o = nA F A q o := fun o ho => by rw [cdA, a2_n (by omega)]
    have hff : ∀ o k, 214 ≤ o → f2 (nF F q) (6 + 2 * c.a (g.k q)) 1 (nI (dgN (g.s q))) o k = nF F q o k := fun o k ho => f2_n (by omega)
    refine ⟨_, _, _, _, _, _, r1, r2, Or.inl ⟨clk, by omega, Or.inr (Or.inl ⟨gSuc g q (g.BS q) (g.BK q), q + 1, q, g.s q, lfOK hb (by omega) ho t1 t2 hsm2 (Nat.le_refl _) l4 (Or.inl ⟨rfl, hcd _ (by omega), by rw [f2_n (by omega), f2_n (by omega), hff _ _ (by omega)], by omega⟩) (fun o _ _ o1 _ => by rw [hcd o (by omega)]) (hcd _ (by omega)) (by rw [f2_n (by omega), f2_n (by omega), hff _ _ (by omega)]) (by rw [f2_n (by omega), f2_n (by omega), hff _ _ (by omega)]) (by rw [f2_n (by omega), f2_n (by omega), hff _ _ (by omega)]) (by rw [f2_n (by omega), f2_s]) f2_s (by rw [f2_n (by omega), f2_n (by omega), hff _ _ (by omega)]; exact f10) (fun x hx o o1 o2 => by rw [t239_a x hx o o1 o2, htd o o1]) (fun o o1 o2 o3 => by rw [t239_b o o1 o2 o3, htd o o1]) (by simp [rsT, a2, upd]) (by rw [rsT, a2_n (by decide), htd _ (by omega)]) (by simp [rsP, p1]) (by simp [rsP, p1]) (by simp [rsP, p1]) (by simp [rsP, p1]) (by simp [rsP, p1, h14]) (by simp [rsP, p1, hm1]), ?_⟩)⟩⟩
    have a6 : (gSuc g q (g.BS q) (g.BK q)).ES q = g.BS q := up_s
    rw [a6]
    omega
  · -- ARB, FENCE
    refine ch (g.s q) (cB h7 h8 hX hk64 h5 hq3 (fun sc d S P T Q => ?_)) (m0 h28 h29 h27 (fun sc d S F A G X Q => ?_)) (Nat.le_refl _) l4 ?_
    · refine c29_c ?_ (by omega) f6 (by omega) hpL1.2 hz3
      rw [hkc]
      rcases hh with hh | hh
      · exact Or.inl (by rw [hh]; rfl)
      · exact Or.inr (Or.inl (by rw [hh]; rfl))
    · refine c68_p h26 hq3 l1 hk64 hkd (Or.inl ?_) (fun Q => ?_)
      · rw [nI_toInt (by omega)]
        omega
      · rw [l3]
        rcases hh with hh | hh
        · have := c70_11 (sc := sc) (d := d + 1) (B := B) (S := S) (F := F) (A := A) (G := G) (X := X) (Q := Q) (vn := 0) (vf := c.s) hk64 (hsm.2.1.2.2 _ l2).2.2.2 hsm.2.1.2.1 l4 m2' hka31 (by rw [hkd, hh]; rfl)
          simpa [lf, oi] using this
        · have := c70_14 (sc := sc) (d := d + 1) (B := B) (S := S) (F := F) (A := A) (G := G) (X := X) (Q := Q) (vn := 0) (vf := c.s) hk64 (hsm.2.1.2.2 _ l2).2.2.2 hsm.2.1.2.1 l4 m2' hka31 (by rw [hkd, hh]; rfl)
          simpa [lf, oi] using this
    · rcases hh with hh | hh
      · exact Or.inr (Or.inl hh)
      · exact Or.inr (Or.inr (Or.inr hh))
  · -- MANY
    refine ch (g.s q) (cB h7 h8 hX hk64 h5 hq3 (fun sc d S P T Q => ?_)) (m0 h28 h29 h27 (fun sc d S F A G X Q => ?_)) (Nat.le_refl _) l4 (Or.inl hh)
    · refine c29_c ?_ (by omega) f6 (by omega) hpL1.2 hz3
      rw [hkc]
      exact Or.inr (Or.inr (by rw [hh]; rfl))
    · rw [← l3]
      exact c68_16 h26 hq3 l1 hk64 (by rw [hkd, hh]; rfl)
  · -- BALANCED
    have hkc' : F (22 + 3 * g.k q) 1 = 12 := by rw [hkc, hh]; rfl
    have r2 : MRun B rt P T (rsP P (oi (lf_bal c.s (g.s q) (c.n - g.s q) (g.s q) 0))) (rsT T q (oi (lf_bal c.s (g.s q) (c.n - g.s q) (g.s q) 0))) := m0 h28 h29 h27 (fun sc d S F A G X Q => by
      refine c68_p h26 hq3 l1 hk64 hkd (Or.inl ?_) (fun Q => ?_)
      · rw [nI_toInt (by omega)]
        omega
      · rw [l3]
        have := c70_12 (sc := sc) (d := d + 1) (B := B) (S := S) (F := F) (A := A) (G := G) (X := X) (Q := Q) (vn := 0) (vf := c.s) hk64 (hsm.2.1.2.2 _ l2).2.2.2 hsm.2.1.2.1 l4 m2' hka31 (by rw [hkd, hh]; rfl)
        simpa [lf] using this)
    cases hy : lf_bal c.s (g.s q) (c.n - g.s q) (g.s q) 0 with
    | none =>
      rw [hy] at r2
      refine no (f2 (nF F q) 214 8 2) X (cB h7 h8 hX hk64 h5 hq3 (fun sc d S P T Q => ?_)) r2 kpC.f214 (f2_n (by omega)) (f2_n (by omega)) (f2_n (by omega)) (f2_n (by omega)) f2_s
      rw [hkc']
      exact c29_12n hsm1.1.2.1 f6 l4 hy
    | some e =>
      rw [hy] at r2
      have hle := lf_bal_le hy
      refine ch e (cB h7 h8 hX hk64 h5 hq3 (fun sc d S P T Q => ?_)) r2 (by omega) (by omega) (Or.inr (Or.inr (Or.inl ⟨hh, BalOK.ini l4 hy⟩)))
      rw [hkc']
      exact c29_12 hsm1.1.2.1 f6 l4 hy (by omega) (by omega) hpL1.2 hz3
  · -- ABORT
    have hkc' : F (22 + 3 * g.k q) 1 = 15 := by rw [hkc, hh]; rfl
    refine ⟨f2 (nF F q) 214 7 2, nA F A q, nG G B (g.k q) q, X, p1 P 28 1, T, cB h7 h8 hX hk64 h5 hq3 (fun sc d S P T Q => ?_), m0 h28 h29 h27 (fun sc d S F A G X Q => c68_15 h26 hq3 l1 hk64 (by rw [hkd, hh]; rfl)), Or.inr ⟨hsm1.kp hok kpC.f214 ⟨by simp [p1], by simp [p1], fun _ _ _ => rfl⟩, q + 1, hq1, by rw [f2_n (by omega)]; exact h51, by rw [p1_n (by decide)]; exact h14, Or.inr (Or.inr (Or.inl ⟨f2_s, p1_s⟩))⟩⟩
    rw [hkc']
    exact c29_15
  · -- THEN, KEEP, NOW
    have haN : c.a (g.k q) < c.N := by
      rcases hh with hh | hh | hh
      · exact (ok17 (Or.inl hh)).1
      · exact (ok19 (Or.inl hh)).1
      · exact (ok19 (Or.inr hh)).1
    have hkk : T 231 (g.k q) = 17 ∨ T 231 (g.k q) = 18 ∨ T 231 (g.k q) = 19 ∨ T 231 (g.k q) = 20 := by
      rcases hh with hh | hh | hh
      · exact Or.inl (by rw [hkd, hh]; rfl)
      · exact Or.inr (Or.inr (Or.inl (by rw [hkd, hh]; rfl)))
      · exact Or.inr (Or.inr (Or.inr (by rw [hkd, hh]; rfl)))
    refine bg (cbF (nF F q) (nI (g.s q)) (nI (q + 1)) 0) (nA F A q) (q + 1) (if c.kd (g.k q) = 19 then g.o q + 1 else g.o q) (g.BS q) (cB h7 h8 hX hk64 h5 hq3 (fun sc d S P T Q => ?_)) (fun hq4 => m0 h28 h29 h27 (fun sc d S F A G X Q => ?_)) (fun hq4 => m0 h28 h29 h27 (fun sc d S F A G X Q => ?_)) haN kpC.cb (fun _ _ _ => rfl) rfl (by simp [cbF, f2]) (by simp [cbF, f2]) (by simp [cbF, f2]) (by simp [cbF, f2]) (by simp [cbF, f2]) (by simp [cbF, f2]) hpL1.1 (by simp [cbF, f2]; exact hpL1.2) (by omega) hDec1 hKO1 (by split <;> omega) (by omega) ?_
    · rw [← f6]
      refine c29_w ?_ hX hk64 n2' hsm1.1.1 hN64 haN
      rw [hkc]
      rcases hh with hh | hh | hh
      · exact Or.inl (by rw [hh]; rfl)
      · exact Or.inr (Or.inl (by rw [hh]; rfl))
      · exact Or.inr (Or.inr (by rw [hh]; rfl))
    · rw [bT, ← l3, ← m2']
      exact c68_b h26 hq3 l1 hk64 hkk h14 hq4
    · exact c68_bo h26 hq3 l1 hk64 hkk (by rw [h14, hq4]; rfl)
    · rcases hh with hh | hh | hh
      · rw [if_neg (by omega)]
        exact Or.inl ⟨Or.inr hh, rfl, t2, rfl, rfl, rfl, rfl⟩
      · rw [if_pos hh]
        exact Or.inr (Or.inr (Or.inr (Or.inl ⟨hh, ⟨rfl, t2⟩, rfl, rfl, rfl, rfl⟩)))
      · rw [if_neg (by omega)]
        exact Or.inr (Or.inr (Or.inr (Or.inr (Or.inl ⟨hh, ⟨rfl, t2⟩, rfl, rfl, rfl, rfl⟩))))
  · -- OR
    have haN := (ok17 (Or.inr hh)).1
    have hkc' : F (22 + 3 * g.k q) 1 = 18 := by rw [hkc, hh]; rfl
    refine bg (cbF (f2 (nF F q) 223 1 (nI ((g.BS q).length + 1))) (nI (g.s q)) (nI (g.w q)) 0) (a2 (nA F A q) 224 (upd (nA F A q 224) (g.BS q).length (nI (q + 1)))) (g.w q) (g.o q) ((q + 1, g.BK q) :: g.BS q) (cB h7 h8 hX hk64 h5 hq3 (fun sc d S P T Q => ?_)) (fun hq4 => m0 h28 h29 h27 (fun sc d S F A G X Q => ?_)) (fun hq4 => m0 h28 h29 h27 (fun sc d S F A G X Q => ?_)) haN ⟨fun o k ho => by rw [cbF, f2_n (by omega), f2_n (by omega), f2_n (by omega), f2_n (by omega)], fun o ho => a2_n (by omega)⟩ (fun o o1 o2 => a2_n (by omega)) (a2_n (by decide)) (by simp [cbF, f2]) (by simp [cbF, f2]) (by simp [cbF, f2]) (by simp [cbF, f2]) (by simp [cbF, f2]) (by simp [cbF, f2]) (by rw [a2_s]; exact hpL1.1.push (x := (q + 1, g.BK q))) (by simp [cbF, f2]) (by simp) ⟨Nat.succ_pos _, Nat.le_refl _, l5⟩ ⟨List.suffix_refl _, l6⟩ (by omega) (by omega) (Or.inr (Or.inr (Or.inl ⟨hh, ⟨rfl, t2⟩, rfl, rfl, rfl, Or.inl ⟨t3, rfl⟩⟩)))
    · rw [← f6, ← f10, hkc']
      exact c29_18 hX hk64 n2' hsm1.1.1 hN64 haN hpL1.2 hz3
    · rw [bT, ← l3, ← m2']
      exact c68_b h26 hq3 l1 hk64 (Or.inr (Or.inl (by rw [hkd, hh]; rfl))) h14 hq4
    · exact c68_bo h26 hq3 l1 hk64 (Or.inr (Or.inl (by rw [hkd, hh]; rfl))) (by rw [h14, hq4]; rfl)
  · -- LATER
    have hkc' : F (22 + 3 * g.k q) 1 = 23 := by rw [hkc, hh]; rfl
    have hkr : T 231 (g.k q) = 23 := by rw [hkd, hh]; rfl
    by_cases haN : c.a (g.k q) < c.N
    · have hf : 0 ≤ T 232 (g.k q) ∧ T 232 (g.k q) < P 5 := by
        rw [m2', hsm.2.1.1]
        exact ⟨Int32.not_lt.mp (nI_pos hka31), nI_lt haN (by omega)⟩
      refine bg (cbF (nF F q) (nI (g.s q)) (nI (g.w q)) 0) (nA F A q) (g.w q) (g.o q) (g.BS q) (cB h7 h8 hX hk64 h5 hq3 (fun sc d S P T Q => ?_)) (fun hq4 => m0 h28 h29 h27 (fun sc d S F A G X Q => ?_)) (fun hq4 => m0 h28 h29 h27 (fun sc d S F A G X Q => ?_)) haN kpC.cb (fun _ _ _ => rfl) rfl (by simp [cbF, f2]) (by simp [cbF, f2]) (by simp [cbF, f2]) (by simp [cbF, f2]) (by simp [cbF, f2]) (by simp [cbF, f2]) hpL1.1 (by simp [cbF, f2]; exact hpL1.2) (by omega) hDec1 hKO1 (by omega) (by omega) (Or.inr (Or.inr (Or.inr (Or.inr (Or.inr ⟨hh, ⟨rfl, t2⟩, rfl, rfl, rfl, rfl⟩)))))
      · rw [← f6, ← f10, hkc']
        exact c29_23 hX hk64 n2' hsm1.1.1 hN64 haN
      · rw [bT, ← l3, ← m2']
        exact c68_23 h26 hq3 l1 hk64 hkr hf h14 hq4
      · exact c68_23o h26 hq3 l1 hk64 hkr hf (by rw [h14, hq4]; rfl)
    · have hf : ¬ (0 ≤ T 232 (g.k q) ∧ T 232 (g.k q) < P 5) := by
        rw [m2', hsm.2.1.1]
        exact fun z => Int32.not_lt.mpr (nI_le (by omega) hka31) z.2
      refine no (cbF (nF F q) (nI (g.s q)) (nI (g.w q)) 2) none (cB h7 h8 hX hk64 h5 hq3 (fun sc d S P T Q => ?_)) (m0 h28 h29 h27 (fun sc d S F A G X Q => c68_23n h26 hq3 l1 hk64 hkr hf)) kpC.cb (by simp [cbF, f2]) (by simp [cbF, f2]) (by simp [cbF, f2]) (by simp [cbF, f2]) (by simp [cbF, f2])
      rw [← f6, ← f10, hkc']
      exact c29_23n hX hk64 n2' hsm1.1.1 (by omega) hka31
end
