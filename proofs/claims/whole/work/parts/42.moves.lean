section
variable {c : CX} {g g' : GH} {B : Nat} {A A' T T' : Nat → Nat → Int32} {G G' : Nat → Option Nat} {q q' clk clk' rt cu r p e : Nat}
/-- no succeeded row is the upper row of the current one -/
theorem Rows.up (h : Rows c g B A T G q clk rt cu) (hq : q ≤ 3000) (hcu : cu < 2 ^ 31) {r : Nat} (hd : g.Dn r) : ¬ T 240 cu = nI r := by
  intro h1
  have hr := (h.2.1 r hd).2.1
  by_cases hc : cu = rt
  · rw [hc, h.2.2.2.2.1] at h1
    exact nI_m (by omega) h1.symm
  · obtain ⟨p, hp, hpc, hn⟩ := h.2.2.1 hc
    obtain ⟨-, h2, -⟩ := (h.1 p hp).2.2.2.2.2.1 hpc
    rw [hn] at h2
    have := h2.par h1 hcu (by omega)
    subst this
    exact (h.1 _ hp).1 hd
/-- going back into a succeeded row: it may move again -/
def gOpen (g : GH) (cu : Nat) : GH := g.st (fun r => g.On r ∨ r = cu) (fun r => g.Dn r ∧ r ≠ cu) g.nx
theorem Rows.opn (h : Rows c g B A T G q clk rt cu) (hq : q ≤ 3000) (hd : g.Dn cu) : Rows c (gOpen g cu) B A T G q clk rt cu := by
  have hcq := (h.2.1 cu hd).2.1
  have hno : ∀ r, g.On r → r ≠ cu := fun r hr e => (h.1 r hr).1 (e ▸ hd)
  refine ⟨fun r hr => ?_, fun r hr => ?_, fun hc => ?_, Or.inl (Or.inr rfl), h.2.2.2.2⟩
  · rcases hr with hr | rfl
    · obtain ⟨h1, h2, h3, h4, h5, h6, h7⟩ := h.1 r hr
      refine ⟨fun z => h1 z.1, h2, h3, h4.fr agT.rf agG.st (Nat.le_refl _), fun z => (h5 z).fr agG.st rfl rfl rfl rfl, fun z => ?_, fun z => ?_⟩
      · obtain ⟨k1, k2, k3⟩ := h6 z
        refine ⟨k1, k2.fr agT.rf agT.rf agG.st agG.st (fun a d1 d2 d3 d4 => ⟨agT.rf, agG.st, d1, fun e => ?_⟩), k3.imp Or.inl id⟩
        subst e
        rcases k3 with k3 | k3
        · have := (h.1 _ k3).2.2.1
          omega
        · omega
      · obtain ⟨p, k1, k2, k3⟩ := h7 z
        exact ⟨p, Or.inl k1, k2, k3⟩
    · obtain ⟨h1, h2, h3, h4, e, h5⟩ := h.2.1 _ hd
      refine ⟨fun z => z.2 rfl, h1, Nat.le_refl _, h3.fr agT.rf agG.st (Nat.le_refl _), fun _ => h4.fr agG.st rfl rfl rfl rfl, fun z => absurd rfl z, fun z => ?_⟩
      obtain ⟨p, k1, k2, k3⟩ := h.2.2.1 z
      exact ⟨p, Or.inl k1, k2, k3⟩
  · obtain ⟨h1, h2, h3, h4, e, h5⟩ := h.2.1 r hr.1
    refine ⟨h1, h2, h3.fr agT.rf agG.st (Nat.le_refl _), h4.fr agG.st rfl rfl rfl rfl, e, h5.fr (Nat.le_refl _) (Nat.le_refl _) agT.rf agG.st rfl (fun a d1 d2 d3 => ⟨agT.rf, agG.st, d1, fun z => ?_⟩)⟩
    subst z
    exact h.up hq (by omega) hr.1 d3
  · obtain ⟨p, k1, k2, k3⟩ := h.2.2.1 hc
    exact ⟨p, Or.inl k1, k2, k3⟩
/-- a part is begun: row q -/
def gNew (g : GH) (cu q k s w o : Nat) (bs : SL) (bk : KL) : GH := (g.row q k s w o bs bk).st (fun r => g.On r ∨ r = q) g.Dn (va_up g.nx cu q)
theorem agG.new {k s w o : Nat} {bs : SL} {bk : KL} (h : r ≠ q) : agG g (gNew g cu q k s w o bs bk) r := (agG.row h).trans agG.st
theorem Rows.new {k s w o : Nat} {bs : SL} {bk : KL} (h : Rows c g B A T G q clk rt cu) (hq : q < 3000) (ho : g.On cu) (hcq : cu < q) (hch : ∀ r, g.On r → r ≠ cu → r < cu) (hT : ∀ r, r ≠ cu → r ≠ q → agT T T' r) (hTc : T' 237 cu = T 237 cu ∧ T' 238 cu = T 238 cu ∧ T' 240 cu = T 240 cu) (hpp : PP c (gNew g cu q k s w o bs bk) T' cu q) (hlv : LvP c (gNew g cu q k s w o bs bk) T' clk q) (hrt : rt < q) : Rows c (gNew g cu q k s w o bs bk) B A T' G q clk rt q := by
  have hnd : ∀ r, g.Dn r → r ≠ cu := fun r hr e => (h.1 cu ho).1 (e ▸ hr)
  have hlc : ∀ r, r ≠ q → LvP c g T clk r → LvP c (gNew g cu q k s w o bs bk) T' clk r := by
    intro r hr hl
    by_cases hc : r = cu
    · subst hc
      obtain ⟨g1, g2, g3, g4, g5, -, g7, -⟩ := agG.new (g := g) (cu := r) (k := k) (s := s) (w := w) (o := o) (bs := bs) (bk := bk) hr
      obtain ⟨k1, k2, k3, k4⟩ := hl
      unfold LvP
      rw [hTc.1, hTc.2.1, g1, g2, g3, g4, g5, g7]
      exact ⟨k1, k2, k3, k4⟩
    · exact hl.fr (hT r hc hr) (agG.new hr) (Nat.le_refl _)
  refine ⟨fun r hr => ?_, fun r hr => ?_, fun hc => ⟨cu, Or.inl ho, by omega, up_s⟩, Or.inl (Or.inr rfl), ?_⟩
  · rcases hr with hr | rfl
    · obtain ⟨h1, h2, h3, h4, h5, h6, h7⟩ := h.1 r hr
      have hrq : r ≠ q := by omega
      refine ⟨h1, h2, by omega, hlc r hrq h4, fun z => (h5 z).fr (agG.new hrq) rfl rfl rfl rfl, fun _ => ?_, fun z => ?_⟩
      · by_cases hc : r = cu
        · subst hc
          refine ⟨hcq, ?_, Or.inr up_s⟩
          show PP c _ T' r (va_up g.nx r q r)
          rw [up_s]
          exact hpp
        · obtain ⟨k1, k2, k3⟩ := h6 hc
          have e1 : (gNew g cu q k s w o bs bk).nx r = g.nx r := up_n hc
          rw [e1]
          refine ⟨k1, ?_, ?_⟩
          · have hnq : g.nx r ≠ q := by
              rcases k3 with k3 | k3
              · have := (h.1 _ k3).2.2.1
                omega
              · omega
            have hq2 : ∀ a, g.Dn a → a ≠ q := fun a ha => by have := (h.2.1 a ha).2.1; omega
            by_cases hnc : g.nx r = cu
            · -- the row above the current one
              rw [hnc] at k2 ⊢
              obtain ⟨p1, p2, p2', p3⟩ := k2
              obtain ⟨a1, a2, a3, a4, a5, a6, a7, a8⟩ := agG.new (g := g) (cu := cu) (q := q) (r := r) (k := k) (s := s) (w := w) (o := o) (bs := bs) (bk := bk) hrq
              obtain ⟨b1, b2, b3, b4, b5, b6, b7, b8⟩ := agG.new (g := g) (cu := cu) (q := q) (r := cu) (k := k) (s := s) (w := w) (o := o) (bs := bs) (bk := bk) (by omega)
              refine ⟨p1, by rw [hTc.2.2]; exact p2, by rw [a2, b2]; exact p2', ?_⟩
              rw [hT r hc hrq 241 (by omega) (by omega), hT r hc hrq 242 (by omega) (by omega), hT r hc hrq 243 (by omega) (by omega), a1, a3, a4, a5, a7, b3, b4, b5, b7]
              rcases p3 with p3 | ⟨u1, u2, u3, u4, a, d1, d2, d3, d4, d5, d6, d7, d8, d9, d10, d11⟩ | p3 | p3 | p3 | p3
              · exact Or.inl p3
              · obtain ⟨t2, t3, t4, t5, t6, t7, t8, t9⟩ := agG.new (g := g) (cu := cu) (q := q) (r := a) (k := k) (s := s) (w := w) (o := o) (bs := bs) (bk := bk) (hq2 a d5)
                refine Or.inr (Or.inl ⟨u1, u2, u3, u4, a, d1, d2, by rw [hT a (hnd a d5) (hq2 a d5) 240 (by omega) (by omega)]; exact d3, d4, d5, t4.trans d6, t6.trans d7, t8.trans d8, t5.trans d9, d10.trans t7.symm, d11.1.trans t9.symm, by rw [a2, t3]; exact d11.2⟩)
              · exact Or.inr (Or.inr (Or.inl p3))
              · exact Or.inr (Or.inr (Or.inr (Or.inl p3)))
              · exact Or.inr (Or.inr (Or.inr (Or.inr (Or.inl p3))))
              · exact Or.inr (Or.inr (Or.inr (Or.inr (Or.inr p3))))
            · exact k2.fr (hT r hc hrq) (hT _ hnc hnq) (agG.new hrq) (agG.new hnq) (fun a d1 _ _ _ => ⟨hT a (hnd a d1) (hq2 a d1), agG.new (hq2 a d1), d1⟩)
          · rcases k3 with k3 | k3
            · exact Or.inl (Or.inl k3)
            · exact Or.inl (Or.inl (k3 ▸ ho))
      · obtain ⟨p, k1, k2, k3⟩ := h7 z
        exact ⟨p, Or.inl k1, by have := (h.1 p k1).2.2.1; omega, (up_n k2).trans k3⟩
    · exact ⟨fun z => by have := (h.2.1 _ z).2.1; omega, by omega, Nat.le_refl _, hlv, fun z => absurd z (by omega), fun z => absurd rfl z, fun _ => ⟨cu, Or.inl ho, by omega, up_s⟩⟩
  · obtain ⟨h1, h2, h3, h4, e, h5⟩ := h.2.1 r hr
    have hrq : r ≠ q := by omega
    have hq2 : ∀ a, g.Dn a → a ≠ q := fun a ha => by have := (h.2.1 a ha).2.1; omega
    exact ⟨h1, h2, hlc r hrq h3, h4.fr (agG.new hrq) rfl rfl rfl rfl, e, h5.fr (Nat.le_refl _) (Nat.le_refl _) (hT r (hnd r hr) hrq) (agG.new hrq) rfl (fun a d1 _ _ => ⟨hT a (hnd a d1) (hq2 a d1), agG.new (hq2 a d1), d1⟩)⟩
  · obtain ⟨k1, k2, k3, k4⟩ := h.2.2.2.2
    obtain ⟨g1, g2, g3, g4, g5, -, g7, -⟩ := agG.new (g := g) (cu := cu) (q := q) (r := rt) (k := k) (s := s) (w := w) (o := o) (bs := bs) (bk := bk) (by omega)
    rw [g2, g3, g5, g7]
    refine ⟨?_, k2, k3, k4⟩
    by_cases hc : rt = cu
    · rw [hc, hTc.2.2, ← hc]; exact k1
    · rw [hT rt hc (by omega) 240 (by omega) (by omega)]; exact k1
end
