section
variable {c : CX} {g g' : GH} {B : Nat} {A A' T T' : Nat → Nat → Int32} {G G' : Nat → Option Nat} {q q' clk clk' rt cu r p e : Nat}
/-- the class has counted the row -/
theorem Rows.cnt (h : Rows c g B A T G q clk rt q) (hA : ∀ o j, j ≠ q + 1 → A' o j = A o j) (hG : ∀ j, j ≠ q + 1 → G' j = G j) (htk : TkP g B A' G' q) : Rows c g B A' T G' (q + 1) clk rt q := by
  have hk : ∀ r, r < q → TkP g B A G r → TkP g B A' G' r := fun r hr ht => ht.fr agG.rf (hG _ (by omega)) (hA _ _ (by omega)) (hA _ _ (by omega)) (hA _ _ (by omega))
  refine ⟨fun r hr => ?_, fun r hr => ?_, h.2.2.1, h.2.2.2.1, h.2.2.2.2⟩
  · obtain ⟨h1, h2, h3, h4, h5, h6, h7⟩ := h.1 r hr
    refine ⟨h1, h2, h3, h4, fun _ => ?_, fun z => ?_, h7⟩
    · by_cases hc : r < q
      · exact hk r hc (h5 hc)
      · have : r = q := by omega
        subst this
        exact htk
    · obtain ⟨k1, k2, k3⟩ := h6 z
      exact ⟨by omega, k2, k3⟩
  · obtain ⟨h1, h2, h3, h4, e, h5⟩ := h.2.1 r hr
    exact ⟨h1, by omega, h3, hk r h2 h4, e, h5.fr (by omega) (Nat.le_refl _) agT.rf agG.rf (hA _ _ (by omega)) (fun a d1 _ _ => ⟨agT.rf, agG.rf, d1⟩)⟩
/-- the current row has succeeded -/
def gSuc (g : GH) (cu : Nat) (es : SL) (ek : KL) : GH := (g.en cu es ek).st (fun r => g.On r ∧ r ≠ cu) (fun r => g.Dn r ∨ r = cu) g.nx
theorem agG.suc {es : SL} {ek : KL} (h : r ≠ cu) : agG g (gSuc g cu es ek) r := (agG.en h).trans agG.st
theorem Rows.suc {es : SL} {ek : KL} (h : Rows c g B A T G q clk rt cu) (ho : g.On cu) (hcq : cu < q) (hcl : clk ≤ clk') (hT : ∀ r, r ≠ cu → agT T T' r) (hTc : ∀ o, 237 ≤ o → o ≤ 243 → o ≠ 239 → T' o cu = T o cu) (hA : ∀ o j, (o ≠ 220 ∨ j ≠ cu + 1) → 219 ≤ o → o ≤ 222 → A' o j = A o j) (hde : DRe c (gSuc g cu es ek) A' T' q clk' cu e) : Rows c (gSuc g cu es ek) B A' T' G q clk' rt cu := by
  have hnd : ∀ r, g.Dn r → r ≠ cu := fun r hr z => (h.1 cu ho).1 (z ▸ hr)
  have hQ : ∀ r, agQ T T' r := by
    intro r o h1 h2
    by_cases hc : r = cu
    · subst hc; exact hTc o (by omega) h2 (by omega)
    · exact hT r hc o (by omega) h2
  have hgl : ∀ r, (gSuc g cu es ek).k r = g.k r ∧ (gSuc g cu es ek).s r = g.s r ∧ (gSuc g cu es ek).w r = g.w r ∧ (gSuc g cu es ek).o r = g.o r ∧ (gSuc g cu es ek).BS r = g.BS r ∧ (gSuc g cu es ek).BK r = g.BK r := fun r => ⟨rfl, rfl, rfl, rfl, rfl, rfl⟩
  have hlv : ∀ r, LvP c g T clk r → LvP c (gSuc g cu es ek) T' clk' r := by
    intro r hl
    by_cases hc : r = cu
    · subst hc
      obtain ⟨k1, k2, k3, k4, k5, k6, k7, k8, k9, k10⟩ := hl
      exact ⟨(hTc 237 (by omega) (by omega) (by omega)).trans k1, k2, (hTc 238 (by omega) (by omega) (by omega)).trans k3, k4, k5, k6, k7, k8, k9.mono hcl, k10⟩
    · exact hl.fr (hT r hc) (agG.suc hc) hcl
  have htk : ∀ r, TkP g B A G r → TkP (gSuc g cu es ek) B A' G r := by
    intro r ht
    unfold TkP
    rw [hA 219 _ (Or.inl (by omega)) (by omega) (by omega), hA 221 _ (Or.inl (by omega)) (by omega) (by omega), hA 222 _ (Or.inl (by omega)) (by omega) (by omega)]
    exact ht
  have hpp : ∀ {x y}, PP c g T x y → PP c (gSuc g cu es ek) T' x y := by
    intro x y hp
    obtain ⟨p1, p2, p2', p3⟩ := hp
    refine ⟨p1, by rw [hQ y 240 (by omega) (by omega)]; exact p2, p2', ?_⟩
    rw [hQ x 241 (by omega) (by omega), hQ x 242 (by omega) (by omega), hQ x 243 (by omega) (by omega)]
    rcases p3 with p3 | ⟨u1, u2, u3, u4, a, d1, d2, d3, d4, d5, d6, d7, d8, d9, d10, d11⟩ | p3 | p3 | p3 | p3
    · exact Or.inl p3
    · obtain ⟨t2, t3, t4, t5, t6, t7, t8, t9⟩ := agG.suc (g := g) (cu := cu) (es := es) (ek := ek) (hnd a d5)
      exact Or.inr (Or.inl ⟨u1, u2, u3, u4, a, d1, d2, by rw [hQ a 240 (by omega) (by omega)]; exact d3, d4, Or.inl d5, d6, d7, d8, d9, d10.trans t7.symm, d11.1.trans t9.symm, d11.2⟩)
    · exact Or.inr (Or.inr (Or.inl p3))
    · exact Or.inr (Or.inr (Or.inr (Or.inl p3)))
    · exact Or.inr (Or.inr (Or.inr (Or.inr (Or.inl p3))))
    · exact Or.inr (Or.inr (Or.inr (Or.inr (Or.inr p3))))
  have hup : ∀ {r}, g.On r → r ≠ cu → (gSuc g cu es ek).On r := fun h1 h2 => ⟨h1, h2⟩
  refine ⟨fun r hr => ?_, fun r hr => ?_, fun hc => ?_, Or.inr (Or.inr rfl), ?_⟩
  · obtain ⟨hr, hrc⟩ := hr
    obtain ⟨h1, h2, h3, h4, h5, h6, h7⟩ := h.1 r hr
    refine ⟨fun z => z.elim h1 hrc, h2, h3, hlv r h4, fun z => htk r (h5 z), fun _ => ?_, fun z => ?_⟩
    · obtain ⟨k1, k2, k3⟩ := h6 hrc
      refine ⟨k1, hpp k2, ?_⟩
      by_cases hc : g.nx r = cu
      · exact Or.inr hc
      · exact Or.inl ⟨k3.resolve_right hc, hc⟩
    · obtain ⟨p, k1, k2, k3⟩ := h7 z
      exact ⟨p, ⟨k1, k2⟩, k2, k3⟩
  · rcases hr with hr | rfl
    · obtain ⟨h1, h2, h3, h4, e, h5⟩ := h.2.1 r hr
      have hrc := hnd r hr
      exact ⟨h1, h2, hlv r h3, htk r h4, e, h5.fr (Nat.le_refl _) hcl (hT r hrc) (agG.suc hrc) (hA 220 _ (Or.inr (by omega)) (by omega) (by omega)) (fun a d1 _ _ => ⟨hT a (hnd a d1), agG.suc (hnd a d1), Or.inl d1⟩)⟩
    · obtain ⟨h1, h2, h3, h4, h5, h6, h7⟩ := h.1 _ ho
      exact ⟨h2, hcq, hlv _ h4, htk _ (h5 hcq), e, hde⟩
  · obtain ⟨p, k1, k2, k3⟩ := h.2.2.1 hc
    exact ⟨p, ⟨k1, k2⟩, k2, k3⟩
  · obtain ⟨k1, k2⟩ := h.2.2.2.2
    exact ⟨(hQ rt 240 (by omega) (by omega)).trans k1, k2⟩
/-- the upper row of a succeeded one is the current one -/
theorem Rows.upp (h : Rows c g B A T G q clk rt cu) (hq : q ≤ 3000) (hd : g.Dn cu) (hp : g.On p) (hpc : p ≠ cu) (hn : g.nx p = cu) : Rows c g B A T G q clk rt p ∧ ∀ r, g.On r → r ≠ p → r < p := by
  have hno : ∀ r, g.On r → r ≠ cu := fun r hr z => (h.1 r hr).1 (z ▸ hd)
  have hle := h.le hq hp hpc hn
  refine ⟨⟨fun r hr => ?_, h.2.1, fun hc => ?_, Or.inl hp, h.2.2.2.2⟩, fun r hr hne => by have := hle r hr (hno r hr); omega⟩
  · obtain ⟨h1, h2, h3, h4, h5, h6, h7⟩ := h.1 r hr
    refine ⟨h1, h2, hle r hr (hno r hr), h4, h5, fun z => ?_, fun z => ?_⟩
    · obtain ⟨k1, k2, k3⟩ := h6 (hno r hr)
      refine ⟨k1, k2, ?_⟩
      rcases k3 with k3 | k3
      · exact Or.inl k3
      · exfalso
        have e1 := k2.2.1
        have e2 := ((h.1 p hp).2.2.2.2.2.1 hpc).2.1.2.1
        rw [k3] at e1
        rw [hn] at e2
        have := (h.1 p hp).2.2.2.2.2.1 hpc
        exact z (nI_r (by omega) (by omega) (e1.symm.trans e2))
    · obtain ⟨p', k1, k2, k3⟩ := h7 z
      exact ⟨p', k1, fun e => hno r hr (by rw [← k3, e, hn]), k3⟩
  · obtain ⟨p', k1, k2, k3⟩ := (h.1 p hp).2.2.2.2.2.2 hc
    exact ⟨p', k1, fun e => by
      have := ((h.1 p' k1).2.2.2.2.2.1 k2).2.1.1
      omega, k3⟩
/-- going down to a part that stands succeeded -/
theorem Rows.dwn {b : Nat} (h : Rows c g B A T G q clk rt cu) (ho : g.On cu) (hcq : cu < q) (hb : g.Dn b) (hpp : PP c g T cu b) (hlt : ∀ r, g.On r → r ≠ cu → r < cu) : Rows c (g.st g.On g.Dn (va_up g.nx cu b)) B A T G q clk rt b := by
  have hbc := hpp.1
  have hbq := (h.2.1 b hb).2.1
  have hp' : ∀ {x y}, PP c g T x y → PP c (g.st g.On g.Dn (va_up g.nx cu b)) T x y := fun hp => hp.fr agT.rf agT.rf agG.st agG.st (fun a d1 _ _ _ => ⟨agT.rf, agG.st, d1⟩)
  refine ⟨fun r hr => ?_, fun r hr => ?_, fun hc => ⟨cu, ho, by omega, up_s⟩, Or.inr hb, h.2.2.2.2⟩
  · obtain ⟨h1, h2, h3, h4, h5, h6, h7⟩ := h.1 r hr
    refine ⟨h1, h2, by omega, h4.fr agT.rf agG.st (Nat.le_refl _), fun z => (h5 z).fr agG.st rfl rfl rfl rfl, fun _ => ?_, fun z => ?_⟩
    · by_cases hc : r = cu
      · subst hc
        refine ⟨hcq, ?_, Or.inr up_s⟩
        show PP c _ T r (va_up g.nx r b r)
        rw [up_s]
        exact hp' hpp
      · obtain ⟨k1, k2, k3⟩ := h6 hc
        show r < q ∧ PP c _ T r (va_up g.nx cu b r) ∧ (g.On (va_up g.nx cu b r) ∨ va_up g.nx cu b r = b)
        rw [up_n hc]
        refine ⟨k1, hp' k2, Or.inl ?_⟩
        rcases k3 with k3 | k3
        · exact k3
        · exact k3 ▸ ho
    · obtain ⟨p', k1, k2, k3⟩ := h7 z
      exact ⟨p', k1, by have := (h.1 p' k1).2.2.1; omega, (up_n k2).trans k3⟩
  · obtain ⟨h1, h2, h3, h4, e, h5⟩ := h.2.1 r hr
    exact ⟨h1, h2, h3.fr agT.rf agG.st (Nat.le_refl _), h4.fr agG.st rfl rfl rfl rfl, e, h5.fr (Nat.le_refl _) (Nat.le_refl _) agT.rf agG.st rfl (fun a d1 _ _ => ⟨agT.rf, agG.st, d1⟩)⟩
/-- the end of a row that moves may be written -/
theorem Rows.t239 (h : Rows c g B A T G q clk rt cu) {x : Nat} (ho : ¬ g.Dn x) (hT : ∀ r, r ≠ x → agT T T' r) (hx : ∀ o, 237 ≤ o → o ≤ 243 → o ≠ 239 → T' o x = T o x) : Rows c g B A T' G q clk rt cu := by
  have hQ : ∀ r, agQ T T' r := by
    intro r o h1 h2
    by_cases hc : r = x
    · subst hc; exact hx o (by omega) h2 (by omega)
    · exact hT r hc o (by omega) h2
  have hnd : ∀ r, g.Dn r → r ≠ x := fun r hr z => ho (z ▸ hr)
  have hlv : ∀ r, LvP c g T clk r → LvP c g T' clk r := by
    intro r hl
    by_cases hc : r = x
    · subst hc
      obtain ⟨k1, k2, k3, k4⟩ := hl
      exact ⟨(hx 237 (by omega) (by omega) (by omega)).trans k1, k2, (hx 238 (by omega) (by omega) (by omega)).trans k3, k4⟩
    · exact hl.fr (hT r hc) agG.rf (Nat.le_refl _)
  have hpp : ∀ {x y}, PP c g T x y → PP c g T' x y := fun hp => hp.frq (hQ _) (hQ _) agG.rf agG.rf (fun a d1 _ _ _ => ⟨hQ a, agG.rf, d1⟩)
  refine ⟨fun r hr => ?_, fun r hr => ?_, h.2.2.1, h.2.2.2.1, ?_⟩
  · obtain ⟨h1, h2, h3, h4, h5, h6, h7⟩ := h.1 r hr
    exact ⟨h1, h2, h3, hlv r h4, h5, fun z => ⟨(h6 z).1, hpp (h6 z).2.1, (h6 z).2.2⟩, h7⟩
  · obtain ⟨h1, h2, h3, h4, e, h5⟩ := h.2.1 r hr
    exact ⟨h1, h2, hlv r h3, h4, e, h5.fr (Nat.le_refl _) (Nat.le_refl _) (hT r (hnd r hr)) agG.rf rfl (fun a d1 _ _ => ⟨hT a (hnd a d1), agG.rf, d1⟩)⟩
  · obtain ⟨k1, k2⟩ := h.2.2.2.2
    exact ⟨(hQ rt 240 (by omega) (by omega)).trans k1, k2⟩
/-- the current row is left for its upper one: it has failed -/
def gFup (g : GH) (cu : Nat) : GH := g.st (fun r => g.On r ∧ r ≠ cu) g.Dn g.nx
theorem Rows.fup (h : Rows c g B A T G q clk rt cu) (hq : q ≤ 3000) (ho : g.On cu) (hp : g.On p) (hpc : p ≠ cu) (hn : g.nx p = cu) : Rows c (gFup g cu) B A T G q clk rt p ∧ ∀ r, (gFup g cu).On r → r ≠ p → r < p := by
  have hle := h.le hq hp hpc hn
  have hp' : ∀ {x y}, PP c g T x y → PP c (gFup g cu) T x y := fun hp => hp.fr agT.rf agT.rf agG.st agG.st (fun a d1 _ _ _ => ⟨agT.rf, agG.st, d1⟩)
  refine ⟨⟨fun r hr => ?_, fun r hr => ?_, fun hc => ?_, Or.inl ⟨hp, hpc⟩, h.2.2.2.2⟩, fun r hr hne => by have := hle r hr.1 hr.2; omega⟩
  · obtain ⟨hr, hrc⟩ := hr
    obtain ⟨h1, h2, h3, h4, h5, h6, h7⟩ := h.1 r hr
    refine ⟨h1, h2, hle r hr hrc, h4.fr agT.rf agG.st (Nat.le_refl _), fun z => (h5 z).fr agG.st rfl rfl rfl rfl, fun z => ?_, fun z => ?_⟩
    · obtain ⟨k1, k2, k3⟩ := h6 hrc
      refine ⟨k1, hp' k2, ?_⟩
      have hnc : g.nx r ≠ cu := by
        intro k3
        have e1 := k2.2.1
        have e2 := ((h.1 p hp).2.2.2.2.2.1 hpc).2.1.2.1
        rw [k3] at e1
        rw [hn] at e2
        have := (h.1 p hp).2.2.2.2.2.1 hpc
        exact z (nI_r (by omega) (by omega) (e1.symm.trans e2))
      exact Or.inl ⟨k3.resolve_right hnc, hnc⟩
    · obtain ⟨p', k1, k2, k3⟩ := h7 z
      exact ⟨p', ⟨k1, k2⟩, fun e => hrc (by rw [← k3, e, hn]), k3⟩
  · obtain ⟨h1, h2, h3, h4, e, h5⟩ := h.2.1 r hr
    exact ⟨h1, h2, h3.fr agT.rf agG.st (Nat.le_refl _), h4.fr agG.st rfl rfl rfl rfl, e, h5.fr (Nat.le_refl _) (Nat.le_refl _) agT.rf agG.st rfl (fun a d1 _ _ => ⟨agT.rf, agG.st, d1⟩)⟩
  · obtain ⟨p', k1, k2, k3⟩ := (h.1 p hp).2.2.2.2.2.2 hc
    exact ⟨p', ⟨k1, k2⟩, fun e => by
      have := ((h.1 p' k1).2.2.2.2.2.1 k2).2.1.1
      omega, k3⟩
end
