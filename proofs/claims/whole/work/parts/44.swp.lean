section
variable {c : CX} {g g' : GH} {B : Nat} {A A' T T' : Nat → Nat → Int32} {G G' : Nat → Option Nat} {q q' clk clk' rt cu r p e : Nat}
theorem PP.frs (h : PP c g T p r) (hp : T' 241 p = T 241 p ∧ T' 242 p = T 242 p ∧ T' 243 p = T 243 p) (hr : T' 240 r = T 240 r) (gp : agG g g' p) (gr : agG g g' r) (ha : ∀ a, g.Dn a → p < a → a < r → T 240 a = nI p → T' 240 a = T 240 a ∧ agG g g' a ∧ g'.Dn a) : PP c g' T' p r := by
  obtain ⟨a1, a2, a3, a4, a5, a6, a7, a8⟩ := gp
  obtain ⟨b1, b2, b3, b4, b5, b6, b7, b8⟩ := gr
  obtain ⟨h1, h2, h2', h3⟩ := h
  refine ⟨h1, by rw [hr]; exact h2, by rw [a2, b2]; exact h2', ?_⟩
  rw [hp.1, hp.2.1, hp.2.2, a1, a3, a4, a5, a7, b3, b4, b5, b7]
  rcases h3 with h3 | ⟨h3, h4, h5, h6, a, k1, k2, k3, k4, k5, k6, k7, k8, k9, k10, k11⟩ | h3 | h3 | h3 | h3
  · exact Or.inl h3
  · obtain ⟨t1, ⟨t2, t3, t4, t5, t6, t7, t8, t9⟩, t10⟩ := ha a k5 k1 k2 k3
    refine Or.inr (Or.inl ⟨h3, h4, h5, h6, a, k1, k2, by rw [t1]; exact k3, k4, t10, t4.trans k6, t6.trans k7, t8.trans k8, t5.trans k9, k10.trans t7.symm, k11.1.trans t9.symm, by rw [a2, t3]; exact k11.2⟩)
  · exact Or.inr (Or.inr (Or.inl h3))
  · exact Or.inr (Or.inr (Or.inr (Or.inl h3)))
  · exact Or.inr (Or.inr (Or.inr (Or.inr (Or.inl h3))))
  · exact Or.inr (Or.inr (Or.inr (Or.inr (Or.inr h3))))
/-- what the rows don't look at may move -/
theorem Rows.fr (h : Rows c g B A T G q clk rt cu) (hA : ∀ o j, 219 ≤ o → o ≤ 222 → A' o j = A o j) (hT : ∀ r, agT T T' r) (hc : clk ≤ clk') : Rows c g B A' T' G q clk' rt cu := by
  have hpp : ∀ {x y}, PP c g T x y → PP c g T' x y := fun hp => hp.fr (hT _) (hT _) agG.rf agG.rf (fun a d1 _ _ _ => ⟨hT a, agG.rf, d1⟩)
  have htk : ∀ {x}, TkP g B A G x → TkP g B A' G x := fun ht => ht.fr agG.rf rfl (hA _ _ (by omega) (by omega)) (hA _ _ (by omega) (by omega)) (hA _ _ (by omega) (by omega))
  refine ⟨fun r hr => ?_, fun r hr => ?_, h.2.2.1, h.2.2.2.1, ?_⟩
  · obtain ⟨h1, h2, h3, h4, h5, h6, h7⟩ := h.1 r hr
    exact ⟨h1, h2, h3, h4.fr (hT r) agG.rf hc, fun z => htk (h5 z), fun z => ⟨(h6 z).1, hpp (h6 z).2.1, (h6 z).2.2⟩, h7⟩
  · obtain ⟨h1, h2, h3, h4, e, h5⟩ := h.2.1 r hr
    exact ⟨h1, h2, h3.fr (hT r) agG.rf hc, htk h4, e, h5.fr (Nat.le_refl _) hc (hT r) agG.rf (hA _ _ (by omega) (by omega)) (fun a d1 _ _ => ⟨hT a, agG.rf, d1⟩)⟩
  · obtain ⟨k1, k2⟩ := h.2.2.2.2
    exact ⟨(hT rt 240 (by omega) (by omega)).trans k1, k2⟩
/-- the second part has failed: back into the first -/
def gSwp (g : GH) (cu p a : Nat) : GH := g.st (fun r => g.On r ∧ r ≠ cu) g.Dn (va_up g.nx p a)
theorem Rows.swp {a : Nat} (h : Rows c g B A T G q clk rt cu) (hq : q ≤ 3000) (ho : g.On cu) (hp : g.On p) (hpc : p ≠ cu) (hn : g.nx p = cu) (hda : g.Dn a) (hpa : p < a) (hkd : c.kd (g.k p) = 16 ∨ c.kd (g.k p) = 17) (h240 : T 240 a = nI p) (h241 : T 241 p = nI a) (hw : g.w a = p + 1) (hbs : g.BS a = g.BS p) (hbk : g.BK a = g.BK p) (hoo : g.o a = g.o p) (hss : g.s p ≤ g.s a) (hT : ∀ r, r ≠ p → agT T T' r) (hTp : ∀ o, 237 ≤ o → o ≤ 243 → o ≠ 242 → T' o p = T o p) (hT2 : T' 242 p = -1) : Rows c (gSwp g cu p a) B A T' G q clk rt a := by
  have hle := h.le hq hp hpc hn
  have hnp : ∀ x, g.Dn x → x ≠ p := fun x hx z => (h.1 p hp).1 (z ▸ hx)
  have ht240 : ∀ x, T' 240 x = T 240 x := by
    intro x
    by_cases hx : x = p
    · subst hx; exact hTp 240 (by omega) (by omega) (by omega)
    · exact hT x hx 240 (by omega) (by omega)
  have hlv : ∀ r, LvP c g T clk r → LvP c (gSwp g cu p a) T' clk r := by
    intro r hl
    by_cases hc : r = p
    · subst hc
      obtain ⟨k1, k2, k3, k4⟩ := hl
      exact ⟨(hTp 237 (by omega) (by omega) (by omega)).trans k1, k2, (hTp 238 (by omega) (by omega) (by omega)).trans k3, k4⟩
    · exact hl.fr (hT r hc) agG.st (Nat.le_refl _)
  have hpq := ((h.1 p hp).2.2.2.2.2.1 hpc).1
  refine ⟨fun r hr => ?_, fun r hr => ?_, fun hc => ⟨p, ⟨hp, hpc⟩, by omega, up_s⟩, Or.inr hda, ?_⟩
  · obtain ⟨hr, hrc⟩ := hr
    obtain ⟨h1, h2, h3, h4, h5, h6, h7⟩ := h.1 r hr
    have hrp := hle r hr hrc
    refine ⟨h1, h2, by omega, hlv r h4, fun z => (h5 z).fr agG.st rfl rfl rfl rfl, fun _ => ?_, fun z => ?_⟩
    · by_cases hc : r = p
      · subst hc
        refine ⟨hpq, ?_, Or.inr up_s⟩
        show PP c _ T' r (va_up g.nx r a r)
        rw [up_s]
        exact ⟨hpa, (ht240 a).trans h240, hss, Or.inl ⟨hkd, (hTp 241 (by omega) (by omega) (by omega)).trans h241, hT2, hw, hbs, hbk, hoo⟩⟩
      · obtain ⟨k1, k2, k3⟩ := h6 hrc
        show r < q ∧ PP c _ T' r (va_up g.nx p a r) ∧ ((g.On (va_up g.nx p a r) ∧ va_up g.nx p a r ≠ cu) ∨ va_up g.nx p a r = a)
        rw [up_n hc]
        have hnc : g.nx r ≠ cu := by
          intro k3
          have e1 := k2.2.1
          have e2 := ((h.1 p hp).2.2.2.2.2.1 hpc).2.1.2.1
          rw [k3] at e1
          rw [hn] at e2
          exact hc (nI_r (by omega) (by omega) (e1.symm.trans e2))
        exact ⟨k1, k2.frs ⟨hT r hc 241 (by omega) (by omega), hT r hc 242 (by omega) (by omega), hT r hc 243 (by omega) (by omega)⟩ (ht240 _) agG.st agG.st (fun x d1 _ _ _ => ⟨ht240 x, agG.st, d1⟩), Or.inl ⟨k3.resolve_right hnc, hnc⟩⟩
    · obtain ⟨p', k1, k2, k3⟩ := h7 z
      have hpp' : p' ≠ p := fun z => by rw [z, hn] at k3; exact hrc k3.symm
      exact ⟨p', ⟨k1, k2⟩, by have := hle p' k1 k2; omega, (up_n hpp').trans k3⟩
  · obtain ⟨h1, h2, h3, h4, e, h5⟩ := h.2.1 r hr
    exact ⟨h1, h2, hlv r h3, h4.fr agG.st rfl rfl rfl rfl, e, h5.fr (Nat.le_refl _) (Nat.le_refl _) (hT r (hnp r hr)) agG.st rfl (fun x d1 _ _ => ⟨hT x (hnp x d1), agG.st, d1⟩)⟩
  · obtain ⟨k1, k2⟩ := h.2.2.2.2
    exact ⟨(ht240 rt).trans k1, k2⟩
end
/-! the two memories side by side -/
def Sm (c : CX) (F A : Nat → Nat → Int32) (P : Nat → Int32) (T : Nat → Nat → Int32) : Prop := StC c F A ∧ StR c P T ∧ ∃ vn vf, VaC F A vn vf ∧ VaR T vn vf ∧ FzC c F A ∧ FzR c P T
theorem Sm.kp {c : CX} {F A F' A' : Nat → Nat → Int32} {P P' : Nat → Int32} {T T' : Nat → Nat → Int32} (h : Sm c F A P T) (hc : c.ok) (k1 : kpC F A F' A') (k2 : kpR P T P' T') : Sm c F' A' P' T' := by
  obtain ⟨h1, h2, vn, vf, h3, h4, h5, h6⟩ := h
  exact ⟨h1.kp hc k1, h2.kp k2, vn, vf, h3.kp k1, h4.kp k2, h5.kp k1, h6.kp k2⟩
/-- what stands in every turn: the piles L, kl, the rows -/
def Bs (c : CX) (g : GH) (B rt q clk cu : Nat) (L : SL) (kl : KL) (F A : Nat → Nat → Int32) (G : Nat → Option Nat) (P : Nat → Int32) (T : Nat → Nat → Int32) : Prop :=
  c.ok ∧ Sm c F A P T ∧ Rows c g B A T G q clk rt cu ∧ q ≤ 3000 ∧ F 214 7 = 4 ∧ P 28 = 0 ∧ P 29 = 0 ∧ P 25 = nI clk ∧ P 26 = nI cu ∧ F 217 5 = nI q ∧ (pile (A 224) L ∧ F 223 1 = nI L.length) ∧ (pile (A 226) kl ∧ F 225 1 = nI kl.length) ∧ (∀ x ∈ kl, 0 < x.1 ∧ T 244 (x.1 - 1) = nI x.2) ∧ KOK L kl ∧ Dec L q
/-- the class begins a node: row q of the model -/
def SB (c : CX) (g : GH) (B rt q clk : Nat) (F A : Nat → Nat → Int32) (G : Nat → Option Nat) (X : Option Nat) (P : Nat → Int32) (T : Nat → Nat → Int32) : Prop :=
  Bs c g B rt q clk q (g.BS q) (g.BK q) F A G P T ∧ q < 3000 ∧ g.On q ∧ F 214 8 = 0 ∧ X = some (B + (22 + 3 * g.k q)) ∧ F 214 6 = nI (g.s q) ∧ F 214 10 = nI (g.w q) ∧ P 14 = nI (q + 1) ∧ P 27 = 0 ∧ T 241 q = -1 ∧ T 242 q = -1 ∧ T 243 q = 0
/-- the class goes on: row cu has succeeded at e -/
def SG (c : CX) (g : GH) (B rt q clk cu e : Nat) (F A : Nat → Nat → Int32) (G : Nat → Option Nat) (P : Nat → Int32) (T : Nat → Nat → Int32) : Prop :=
  Bs c g B rt q clk cu (g.ES cu) (g.EK cu) F A G P T ∧ g.Dn cu ∧ F 214 8 = 1 ∧ F 214 6 = nI e ∧ T 239 cu = nI e ∧ F 214 10 = nI (g.w cu) ∧ P 14 = nI q ∧ P 27 = 2
/-- the class goes back: the model at cu, into it (1) or out of it (3) -/
def SK (c : CX) (g : GH) (B rt q clk cu : Nat) (L : SL) (kl : KL) (F A : Nat → Nat → Int32) (G : Nat → Option Nat) (P : Nat → Int32) (T : Nat → Nat → Int32) : Prop :=
  Bs c g B rt q clk cu L kl F A G P T ∧ F 214 8 = 2 ∧ P 14 = nI q ∧ cu < q ∧ ((P 27 = 1 ∧ g.Dn cu ∧ L = g.ES cu) ∨ (P 27 = 3 ∧ g.On cu ∧ L = g.BS cu))
/-- the model has run over; the class will see it at its next step -/
def OV (c : CX) (F A : Nat → Nat → Int32) (X : Option Nat) (P : Nat → Int32) (T : Nat → Nat → Int32) : Prop :=
  Sm c F A P T ∧ F 214 7 = 4 ∧ F 214 8 = 0 ∧ (∃ a, X = some a) ∧ F 217 5 = 3000 ∧ P 14 = 3000 ∧ P 28 = 0 ∧ P 29 = 1
def Sim (c : CX) (B rt K V : Nat) (F A : Nat → Nat → Int32) (G : Nat → Option Nat) (X : Option Nat) (P : Nat → Int32) (T : Nat → Nat → Int32) : Prop :=
  ∃ clk, clk + 3001 * V ≤ K ∧ ((∃ g q, SB c g B rt q clk F A G X P T ∧ 3 * (3000 - q) + (g.BS q).length ≤ V) ∨ (∃ g q cu e, SG c g B rt q clk cu e F A G P T ∧ 3 * (3000 - q) + (g.ES cu).length + 1 ≤ V) ∨ (∃ g q cu L kl, SK c g B rt q clk cu L kl F A G P T ∧ 3 * (3000 - q) + L.length + 2 ≤ V) ∨ OV c F A X P T)
/-- the end of a try -/
def Fin (c : CX) (B rt K : Nat) (F A : Nat → Nat → Int32) (G : Nat → Option Nat) (P : Nat → Int32) (T : Nat → Nat → Int32) : Prop :=
  Sm c F A P T ∧ ∃ q, q ≤ 3000 ∧ F 217 5 = nI q ∧ P 14 = nI q ∧
  ( (F 214 7 = 0 ∧ P 28 = 0 ∧ P 29 = 0 ∧ P 27 = 3 ∧ P 26 = nI rt ∧ ∃ clk, clk ≤ K ∧ P 25 = nI clk)
  ∨ (F 214 7 = 1 ∧ P 28 = 0 ∧ P 29 = 0 ∧ P 27 = 2 ∧ P 26 = nI rt ∧ ∃ g clk e, clk ≤ K ∧ P 25 = nI clk ∧ Rows c g B A T G q clk rt rt ∧ g.Dn rt ∧ F 214 6 = nI e ∧ T 239 rt = nI e ∧ pile (A 226) (g.EK rt) ∧ F 225 1 = nI (g.EK rt).length ∧ ∀ x ∈ g.EK rt, 0 < x.1 ∧ T 244 (x.1 - 1) = nI x.2)
  ∨ (F 214 7 = 2 ∧ P 28 = 1)
  ∨ (F 214 7 = 3 ∧ P 28 = 0 ∧ P 29 = 1) )
/-! runs -/
def MRun (B root : Nat) (P : Nat → Int32) (T : Nat → Nat → Int32) (P' : Nat → Int32) (T' : Nat → Nat → Int32) : Prop :=
  ∀ (sc : xm_Sc) (d S : Nat) (F A : Nat → Nat → Int32) (G : Nat → Option Nat) (X : Option Nat) (Q : Option Value → xm_M → Prop) (l1 l2 l4 : Option Value), ∃ l4', rn sc (d + 5) 66 12 [some (.ref (B + 227)), l1, l2, some (.int (nI root)), l4] [] (mk B S F A G X P T) Q = rn sc (d + 5) 66 12 [some (.ref (B + 227)), l1, l2, some (.int (nI root)), l4'] [] (mk B S F A G X P' T') Q
def CRun (B : Nat) (F A : Nat → Nat → Int32) (G : Nat → Option Nat) (X : Option Nat) (F' A' : Nat → Nat → Int32) (G' : Nat → Option Nat) (X' : Option Nat) : Prop :=
  ∀ (t : Nat) (_ : t < 1000000) (sc : xm_Sc) (d S : Nat) (P : Nat → Int32) (T : Nat → Nat → Int32) (Q : Option Value → xm_M → Prop) (l1 l2 : Option Value), rn sc (d + 7) 27 35 [some (.ref (B + 214)), l1, l2, some (.int (nI t))] [] (mk B S F A G X P T) Q = rn sc (d + 7) 27 35 [some (.ref (B + 214)), l1, l2, some (.int (nI (t + 1)))] [] (mk B S F' A' G' X' P T) Q
theorem MRun.rf {B root : Nat} {P : Nat → Int32} {T : Nat → Nat → Int32} : MRun B root P T P T := fun _ _ _ _ _ _ _ _ _ _ l4 => ⟨l4, rfl⟩
theorem MRun.tr {B root : Nat} {P P' P'' : Nat → Int32} {T T' T'' : Nat → Nat → Int32} (h : MRun B root P T P' T') (h' : MRun B root P' T' P'' T'') : MRun B root P T P'' T'' := fun sc d S F A G X Q l1 l2 l4 => by
  obtain ⟨l5, e5⟩ := h sc d S F A G X Q l1 l2 l4
  obtain ⟨l6, e6⟩ := h' sc d S F A G X Q l1 l2 l5
  exact ⟨l6, e5.trans e6⟩
