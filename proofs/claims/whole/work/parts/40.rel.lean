/-! THE TWO MATCHERS SIDE BY SIDE: what is the same for a whole match, and what moves -/
/-- number of nodes, the subject, and of each node: kind, a, b, its text -/
def CX : Type := Nat × Nat × (Nat → Nat) × (Nat → Nat) × (Nat → Nat) × (Nat → Nat) × (Nat → Nat) × (Nat → Nat → Nat) × ((Nat → Nat → Int32) × (Nat → Nat → Int32) × (Nat → Int32) × (Nat → Nat → Int32))
def CX.N (c : CX) : Nat := c.1
def CX.n (c : CX) : Nat := c.2.1
def CX.s (c : CX) : Nat → Nat := c.2.2.1
def CX.kd (c : CX) : Nat → Nat := c.2.2.2.1
def CX.a (c : CX) : Nat → Nat := c.2.2.2.2.1
def CX.b (c : CX) : Nat → Nat := c.2.2.2.2.2.1
def CX.tn (c : CX) : Nat → Nat := c.2.2.2.2.2.2.1
def CX.tf (c : CX) : Nat → Nat → Nat := c.2.2.2.2.2.2.2.1
/-- what a match leaves alone besides -/
def CX.F0 (c : CX) : Nat → Nat → Int32 := c.2.2.2.2.2.2.2.2.1
def CX.A0 (c : CX) : Nat → Nat → Int32 := c.2.2.2.2.2.2.2.2.2.1
def CX.P0 (c : CX) : Nat → Int32 := c.2.2.2.2.2.2.2.2.2.2.1
def CX.T0 (c : CX) : Nat → Nat → Int32 := c.2.2.2.2.2.2.2.2.2.2.2
def FzC (c : CX) (F A : Nat → Nat → Int32) : Prop := (∀ k, F 0 k = c.F0 0 k) ∧ (∀ k, F 1 k = c.F0 1 k) ∧ F 214 5 = c.F0 214 5 ∧ A 2 = c.A0 2
def FzR (c : CX) (P : Nat → Int32) (T : Nat → Nat → Int32) : Prop := P 2 = c.P0 2 ∧ P 11 = c.P0 11 ∧ P 12 = c.P0 12 ∧ P 13 = c.P0 13 ∧ T 228 = c.T0 228
def CX.ok (c : CX) : Prop := c.N ≤ 64 ∧ c.n ≤ 64 ∧ ∀ i, i < c.N → c.kd i < 24 ∧ c.a i < 2 ^ 31 ∧ (c.kd i = 16 → c.a i < c.N) ∧ (c.kd i = 17 ∨ c.kd i = 18 → c.a i < c.N ∧ c.b i < c.N) ∧ (c.kd i = 19 ∨ c.kd i = 20 → c.a i < c.N ∧ c.b i < 8) ∧ (c.kd i = 21 ∨ c.kd i = 22 → c.a i < 8)
def StC (c : CX) (F A : Nat → Nat → Int32) : Prop := F 3 2 = nI c.N ∧ cTx F A 215 c.n c.s ∧ ∀ i, i < c.N → F (22 + 3 * i) 1 = nI (c.kd i) ∧ F (22 + 3 * i) 2 = nI (c.a i) ∧ F (22 + 3 * i) 3 = nI (c.b i) ∧ cTx F A (22 + 3 * i + 1) (c.tn i) (c.tf i)
def StR (c : CX) (P : Nat → Int32) (T : Nat → Nat → Int32) : Prop := P 5 = nI c.N ∧ mSub P T c.n c.s ∧ ∀ i, i < c.N → T 231 i = nI (c.kd i) ∧ T 232 i = nI (c.a i) ∧ T 233 i = nI (c.b i) ∧ mTxt T i (c.tn i) (c.tf i)
def VaC (F A : Nat → Nat → Int32) (vn : Nat → Nat) (vf : Nat → Nat → Nat) : Prop := ∀ v, v < 8 → cTx F A (6 + 2 * v) (vn v) (vf v)
def VaR (T : Nat → Nat → Int32) (vn : Nat → Nat) (vf : Nat → Nat → Nat) : Prop := ∀ v, v < 8 → mVar T v (vn v) (vf v)
/-- nothing of nodes, subject and variables has moved -/
def kpC (F A F' A' : Nat → Nat → Int32) : Prop := (∀ o k, (o = 3 ∨ (6 ≤ o ∧ o < 214) ∨ o = 215 ∨ o = 0 ∨ o = 1 ∨ (o = 214 ∧ k = 5)) → F' o k = F o k) ∧ ∀ o, ((6 ≤ o ∧ o < 214) ∨ o = 216 ∨ o = 2) → A' o = A o
def kpR (P : Nat → Int32) (T : Nat → Nat → Int32) (P' : Nat → Int32) (T' : Nat → Nat → Int32) : Prop := P' 5 = P 5 ∧ (P' 16 = P 16 ∧ P' 2 = P 2 ∧ P' 11 = P 11 ∧ P' 12 = P 12 ∧ P' 13 = P 13) ∧ ∀ o, 228 ≤ o → o ≤ 236 → T' o = T o
theorem kpC.rf {F A : Nat → Nat → Int32} : kpC F A F A := ⟨fun _ _ _ => rfl, fun _ _ => rfl⟩
theorem kpR.rf {P : Nat → Int32} {T : Nat → Nat → Int32} : kpR P T P T := ⟨rfl, ⟨rfl, rfl, rfl, rfl, rfl⟩, fun _ _ _ => rfl⟩
theorem cTx.kp {F A F' A' : Nat → Nat → Int32} {o n : Nat} {f : Nat → Nat} (h : cTx F A o n f) (h1 : F' o 1 = F o 1) (h2 : A' (o + 1) = A (o + 1)) : cTx F' A' o n f := ⟨h1.trans h.1, h.2.1, fun j hj => by rw [h2]; exact h.2.2 j hj⟩
theorem StC.kp {c : CX} {F A F' A' : Nat → Nat → Int32} (h : StC c F A) (hc : c.ok) (k : kpC F A F' A') : StC c F' A' := by
  refine ⟨by rw [k.1 3 2 (Or.inl rfl)]; exact h.1, h.2.1.kp (k.1 215 1 (by omega)) (k.2 216 (by omega)), fun i hi => ?_⟩
  have hN := hc.1
  obtain ⟨h1, h2, h3, h4⟩ := h.2.2 i hi
  exact ⟨by rw [k.1 _ _ (by omega)]; exact h1, by rw [k.1 _ _ (by omega)]; exact h2, by rw [k.1 _ _ (by omega)]; exact h3, h4.kp (k.1 _ 1 (by omega)) (k.2 _ (by omega))⟩
theorem VaC.kp {F A F' A' : Nat → Nat → Int32} {vn : Nat → Nat} {vf : Nat → Nat → Nat} (h : VaC F A vn vf) (k : kpC F A F' A') : VaC F' A' vn vf := fun v hv => (h v hv).kp (k.1 _ 1 (by omega)) (k.2 _ (by omega))
theorem StR.kp {c : CX} {P P' : Nat → Int32} {T T' : Nat → Nat → Int32} (h : StR c P T) (k : kpR P T P' T') : StR c P' T' := by
  refine ⟨k.1.trans h.1, ⟨k.2.1.1.trans h.2.1.1, h.2.1.2.1, fun j hj => by rw [k.2.2 236 (by omega) (by omega)]; exact h.2.1.2.2 j hj⟩, fun i hi => ?_⟩
  obtain ⟨h1, h2, h3, h4⟩ := h.2.2 i hi
  refine ⟨by rw [k.2.2 231 (by omega) (by omega)]; exact h1, by rw [k.2.2 232 (by omega) (by omega)]; exact h2, by rw [k.2.2 233 (by omega) (by omega)]; exact h3, by rw [k.2.2 235 (by omega) (by omega)]; exact h4.1, h4.2.1, fun j hj => by rw [k.2.2 234 (by omega) (by omega)]; exact h4.2.2 j hj⟩
theorem VaR.kp {P P' : Nat → Int32} {T T' : Nat → Nat → Int32} {vn : Nat → Nat} {vf : Nat → Nat → Nat} (h : VaR T vn vf) (k : kpR P T P' T') : VaR T' vn vf := fun v hv => ⟨by rw [k.2.2 230 (by omega) (by omega)]; exact (h v hv).1, (h v hv).2.1, fun j hj => by rw [k.2.2 229 (by omega) (by omega)]; exact (h v hv).2.2 j hj⟩
theorem FzC.kp {c : CX} {F A F' A' : Nat → Nat → Int32} (h : FzC c F A) (k : kpC F A F' A') : FzC c F' A' := ⟨fun j => (k.1 0 j (by omega)).trans (h.1 j), fun j => (k.1 1 j (by omega)).trans (h.2.1 j), (k.1 214 5 (by omega)).trans h.2.2.1, (k.2 2 (by omega)).trans h.2.2.2⟩
theorem FzR.kp {c : CX} {P P' : Nat → Int32} {T T' : Nat → Nat → Int32} (h : FzR c P T) (k : kpR P T P' T') : FzR c P' T' := ⟨k.2.1.2.1.trans h.1, k.2.1.2.2.1.trans h.2.1, k.2.1.2.2.2.1.trans h.2.2.1, k.2.1.2.2.2.2.trans h.2.2.2.1, (k.2.2 228 (by omega) (by omega)).trans h.2.2.2.2⟩
/-! piles: lists, the top first -/
abbrev KL : Type := List (Nat × Nat)
abbrev SL : Type := List (Nat × KL)
def pile {α : Type} (f : Nat → Int32) : List (Nat × α) → Prop
  | [] => True
  | x :: l => f l.length = nI x.1 ∧ pile f l
/-- the choices' steps fall, and all are below b -/
def Dec : SL → Nat → Prop
  | [], _ => True
  | x :: l, b => 0 < x.1 ∧ x.1 ≤ b ∧ Dec l (x.1 - 1)
/-- each choice's kept list is the end of the one above it -/
def KOK : SL → KL → Prop
  | [], _ => True
  | x :: l, kl => x.2 <:+ kl ∧ KOK l x.2
/-- the stamps fall, and all are below b -/
def StD : KL → Nat → Prop
  | [], _ => True
  | x :: l, b => 0 < x.2 ∧ x.2 ≤ b ∧ StD l (x.2 - 1)
theorem pile.kp {α : Type} {f f' : Nat → Int32} : ∀ {l : List (Nat × α)}, pile f l → (∀ j, j < l.length → f' j = f j) → pile f' l
  | [], _, _ => trivial
  | x :: l, h, hf => ⟨(hf l.length (by simp)).trans h.1, pile.kp h.2 (fun j hj => hf j (by simp; omega))⟩
theorem pile.push {α : Type} {f : Nat → Int32} {l : List (Nat × α)} {x : Nat × α} (h : pile f l) : pile (upd f l.length (nI x.1)) (x :: l) := ⟨by simp [upd], h.kp (fun j hj => by simp [upd]; intro e; omega)⟩
theorem pile.suf {α : Type} {f : Nat → Int32} : ∀ {l l' : List (Nat × α)}, pile f l → l' <:+ l → pile f l'
  | [], l', h, hs => by
    have := List.suffix_nil.mp hs
    subst this
    exact h
  | x :: l, l', h, hs => by
    rcases List.suffix_cons_iff.mp hs with rfl | h2
    · exact h
    · exact pile.suf h.2 h2
theorem Dec.len : ∀ {l : SL} {b : Nat}, Dec l b → l.length ≤ b
  | [], _, _ => by simp
  | x :: l, b, h => by
    have := Dec.len h.2.2
    simp
    have h1 := h.1
    have h2 := h.2.1
    omega
theorem Dec.mono : ∀ {l : SL} {b c : Nat}, Dec l b → b ≤ c → Dec l c
  | [], _, _, _, _ => trivial
  | x :: l, b, c, h, hc => ⟨h.1, Nat.le_trans h.2.1 hc, h.2.2⟩
theorem StD.mono : ∀ {l : KL} {b c : Nat}, StD l b → b ≤ c → StD l c
  | [], _, _, _, _ => trivial
  | x :: l, b, c, h, hc => ⟨h.1, Nat.le_trans h.2.1 hc, h.2.2⟩
theorem KOK.up {l : SL} {kl kl' : KL} (h : KOK l kl) (hs : kl <:+ kl') : KOK l kl' := by
  cases l with
  | nil => trivial
  | cons x l => exact ⟨h.1.trans hs, h.2⟩
/-! ghosts of the rows -/
def GH : Type := (Nat → Nat) × (Nat → Nat) × (Nat → Nat) × (Nat → Nat) × (Nat → SL) × (Nat → SL) × (Nat → KL) × (Nat → KL) × (Nat → Prop) × (Nat → Prop) × (Nat → Nat)
def GH.k (g : GH) : Nat → Nat := g.1
def GH.s (g : GH) : Nat → Nat := g.2.1
def GH.w (g : GH) : Nat → Nat := g.2.2.1
def GH.o (g : GH) : Nat → Nat := g.2.2.2.1
def GH.BS (g : GH) : Nat → SL := g.2.2.2.2.1
def GH.ES (g : GH) : Nat → SL := g.2.2.2.2.2.1
def GH.BK (g : GH) : Nat → KL := g.2.2.2.2.2.2.1
def GH.EK (g : GH) : Nat → KL := g.2.2.2.2.2.2.2.1
def GH.On (g : GH) : Nat → Prop := g.2.2.2.2.2.2.2.2.1
def GH.Dn (g : GH) : Nat → Prop := g.2.2.2.2.2.2.2.2.2.1
def GH.nx (g : GH) : Nat → Nat := g.2.2.2.2.2.2.2.2.2.2
def mkG (k s w o : Nat → Nat) (BS ES : Nat → SL) (BK EK : Nat → KL) (On Dn : Nat → Prop) (nx : Nat → Nat) : GH := (k, s, w, o, BS, ES, BK, EK, On, Dn, nx)
/-- what is said of every live row: its node and start on both sides, its lists -/
def LvP (c : CX) (g : GH) (T : Nat → Nat → Int32) (clk r : Nat) : Prop :=
  T 237 r = nI (g.k r) ∧ g.k r < c.N ∧ T 238 r = nI (g.s r) ∧ g.s r ≤ c.n ∧ Dec (g.BS r) r ∧ KOK (g.BS r) (g.BK r) ∧ (g.BK r).length + g.o r ≤ r ∧ (∀ x ∈ g.BK r, x.1 ≤ r) ∧ StD (g.BK r) clk ∧ g.w r ≤ r
/-- a row that the class has counted too -/
def TkP (g : GH) (B : Nat) (A : Nat → Nat → Int32) (G : Nat → Option Nat) (r : Nat) : Prop :=
  G (r + 1) = some (B + (22 + 3 * g.k r)) ∧ A 219 (r + 1) = nI (g.s r) ∧ A 221 (r + 1) = nI (g.w r) ∧ A 222 (r + 1) = nI (g.BK r).length
/-- row r is the one part of p that is gone on with: what it has from p -/
def PP (c : CX) (g : GH) (T : Nat → Nat → Int32) (p r : Nat) : Prop :=
  p < r ∧ T 240 r = nI p ∧ g.s p ≤ g.s r ∧
  ( ((c.kd (g.k p) = 16 ∨ c.kd (g.k p) = 17) ∧ T 241 p = nI r ∧ T 242 p = -1 ∧ g.w r = p + 1 ∧ g.BS r = g.BS p ∧ g.BK r = g.BK p ∧ g.o r = g.o p)
  ∨ ((c.kd (g.k p) = 16 ∨ c.kd (g.k p) = 17) ∧ T 242 p = nI r ∧ g.w r = g.w p ∧ g.o r = g.o p ∧ ∃ a, p < a ∧ a < r ∧ T 240 a = nI p ∧ T 241 p = nI a ∧ g.Dn a ∧ g.w a = p + 1 ∧ g.BS a = g.BS p ∧ g.BK a = g.BK p ∧ g.o a = g.o p ∧ g.BS r = g.ES a ∧ g.BK r = g.EK a ∧ g.s p ≤ g.s a)
  ∨ (c.kd (g.k p) = 18 ∧ (T 241 p = nI r ∧ T 242 p = -1) ∧ g.w r = g.w p ∧ g.BK r = g.BK p ∧ g.o r = g.o p ∧ ((T 243 p = 0 ∧ g.BS r = (p + 1, g.BK p) :: g.BS p) ∨ (T 243 p = 1 ∧ g.BS r = g.BS p)))
  ∨ (c.kd (g.k p) = 19 ∧ (T 241 p = nI r ∧ T 242 p = -1) ∧ g.w r = p + 1 ∧ g.BS r = g.BS p ∧ g.BK r = g.BK p ∧ g.o r = g.o p + 1)
  ∨ (c.kd (g.k p) = 20 ∧ (T 241 p = nI r ∧ T 242 p = -1) ∧ g.w r = p + 1 ∧ g.BS r = g.BS p ∧ g.BK r = g.BK p ∧ g.o r = g.o p)
  ∨ (c.kd (g.k p) = 23 ∧ (T 241 p = nI r ∧ T 242 p = -1) ∧ g.w r = g.w p ∧ g.BS r = g.BS p ∧ g.BK r = g.BK p ∧ g.o r = g.o p) )
/-- a BALANCED's place: as many of each from its start on, never below -/
def BalOK (c : CX) (p e : Nat) : Prop := ∀ af, e ≤ af → lf_bal c.s af (c.n - p) p 0 = lf_bal c.s af (c.n - e) e 0
/-- a row that stands succeeded, at e -/
def DRe (c : CX) (g : GH) (A T : Nat → Nat → Int32) (q clk r e : Nat) : Prop :=
  r < q ∧ T 239 r = nI e ∧ g.s r ≤ e ∧ e ≤ c.n ∧ Dec (g.ES r) q ∧ KOK (g.ES r) (g.EK r) ∧ (g.EK r).length + g.o r ≤ q ∧ (∀ x ∈ g.EK r, x ∈ g.BK r ∨ (r + 1 ≤ x.1 ∧ x.1 ≤ q)) ∧ StD (g.EK r) clk ∧ g.BK r <:+ g.EK r ∧
  ( (c.kd (g.k r) = 16 ∧ T 241 r = -1 ∧ T 242 r = -1 ∧ g.ES r = (r + 1, g.BK r) :: g.BS r ∧ g.EK r = g.BK r)
  ∨ ((c.kd (g.k r) = 16 ∨ c.kd (g.k r) = 17) ∧ ∃ b, T 242 r = nI b ∧ PP c g T r b ∧ ¬ T 241 r = nI b ∧ ¬ T 241 r = -1 ∧ g.Dn b ∧ g.ES r = g.ES b ∧ g.EK r = g.EK b ∧ T 239 b = nI e)
  ∨ ((c.kd (g.k r) = 18 ∨ c.kd (g.k r) = 20 ∨ c.kd (g.k r) = 23) ∧ ∃ a, T 241 r = nI a ∧ PP c g T r a ∧ g.Dn a ∧ g.ES r = g.ES a ∧ g.EK r = g.EK a ∧ T 239 a = nI e)
  ∨ (c.kd (g.k r) = 19 ∧ ∃ a t, T 241 r = nI a ∧ PP c g T r a ∧ g.Dn a ∧ g.ES r = g.ES a ∧ g.EK r = (r + 1, t) :: g.EK a ∧ T 239 a = nI e ∧ A 220 (r + 1) = nI e)
  ∨ ((c.kd (g.k r) = 11 ∨ (c.kd (g.k r) = 12 ∧ BalOK c (g.s r) e)) ∧ g.ES r = (r + 1, g.BK r) :: g.BS r ∧ g.EK r = g.BK r ∧ A 220 (r + 1) = nI e ∧ T 241 r = -1 ∧ T 242 r = -1)
  ∨ (c.kd (g.k r) = 14 ∧ g.ES r = (r + 1, g.BK r) :: g.BS r ∧ g.EK r = g.BK r ∧ T 241 r = -1 ∧ T 242 r = -1)
  ∨ ((c.kd (g.k r) < 11 ∨ c.kd (g.k r) = 13 ∨ c.kd (g.k r) = 21 ∨ c.kd (g.k r) = 22) ∧ g.ES r = g.BS r ∧ g.EK r = g.BK r ∧ T 241 r = -1 ∧ T 242 r = -1) )
/-- the rows: q of them are counted by the class, cu is the current one, rt the first of this try -/
def Rows (c : CX) (g : GH) (B : Nat) (A T : Nat → Nat → Int32) (G : Nat → Option Nat) (q clk rt cu : Nat) : Prop :=
  (∀ r, g.On r → ¬ g.Dn r ∧ rt ≤ r ∧ r ≤ cu ∧ LvP c g T clk r ∧ (r < q → TkP g B A G r) ∧ (r ≠ cu → r < q ∧ PP c g T r (g.nx r) ∧ (g.On (g.nx r) ∨ g.nx r = cu)) ∧ (r ≠ rt → ∃ p, g.On p ∧ p ≠ cu ∧ g.nx p = r)) ∧
  (∀ r, g.Dn r → rt ≤ r ∧ r < q ∧ LvP c g T clk r ∧ TkP g B A G r ∧ ∃ e, DRe c g A T q clk r e) ∧
  (cu ≠ rt → ∃ p, g.On p ∧ p ≠ cu ∧ g.nx p = cu) ∧ (g.On cu ∨ g.Dn cu) ∧ (T 240 rt = -1 ∧ g.w rt = 0 ∧ g.BS rt = [] ∧ g.BK rt = [] ∧ nI (g.s rt) = c.F0 214 5)
