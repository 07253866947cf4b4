/-! how the rows move -/
def GH.st (g : GH) (On Dn : Nat → Prop) (nx : Nat → Nat) : GH := mkG g.k g.s g.w g.o g.BS g.ES g.BK g.EK On Dn nx
def GH.row (g : GH) (q k s w o : Nat) (bs : SL) (bk : KL) : GH := mkG (va_up g.k q k) (va_up g.s q s) (va_up g.w q w) (va_up g.o q o) (va_up g.BS q bs) g.ES (va_up g.BK q bk) g.EK g.On g.Dn g.nx
def GH.en (g : GH) (r : Nat) (es : SL) (ek : KL) : GH := mkG g.k g.s g.w g.o g.BS (va_up g.ES r es) g.BK (va_up g.EK r ek) g.On g.Dn g.nx
def agT (T T' : Nat → Nat → Int32) (r : Nat) : Prop := ∀ o, 237 ≤ o → o ≤ 243 → T' o r = T o r
def agG (g g' : GH) (r : Nat) : Prop := g'.k r = g.k r ∧ g'.s r = g.s r ∧ g'.w r = g.w r ∧ g'.o r = g.o r ∧ g'.BS r = g.BS r ∧ g'.ES r = g.ES r ∧ g'.BK r = g.BK r ∧ g'.EK r = g.EK r
def agQ (T T' : Nat → Nat → Int32) (r : Nat) : Prop := ∀ o, 240 ≤ o → o ≤ 243 → T' o r = T o r
theorem agT.q {T T' : Nat → Nat → Int32} {r : Nat} (h : agT T T' r) : agQ T T' r := fun o h1 h2 => h o (by omega) h2
theorem agT.rf {T : Nat → Nat → Int32} {r : Nat} : agT T T r := fun _ _ _ => rfl
theorem agG.rf {g : GH} {r : Nat} : agG g g r := ⟨rfl, rfl, rfl, rfl, rfl, rfl, rfl, rfl⟩
theorem agG.st {g : GH} {On Dn : Nat → Prop} {nx : Nat → Nat} {r : Nat} : agG g (g.st On Dn nx) r := ⟨rfl, rfl, rfl, rfl, rfl, rfl, rfl, rfl⟩
theorem up_n {α : Type} {f : Nat → α} {i j : Nat} {v : α} (h : j ≠ i) : va_up f i v j = f j := if_neg h
theorem up_s {α : Type} {f : Nat → α} {i : Nat} {v : α} : va_up f i v i = v := if_pos rfl
theorem agG.row {g : GH} {q k s w o : Nat} {bs : SL} {bk : KL} {r : Nat} (h : r ≠ q) : agG g (g.row q k s w o bs bk) r := ⟨up_n h, up_n h, up_n h, up_n h, up_n h, rfl, up_n h, rfl⟩
theorem agG.en {g : GH} {q : Nat} {es : SL} {ek : KL} {r : Nat} (h : r ≠ q) : agG g (g.en q es ek) r := ⟨rfl, rfl, rfl, rfl, rfl, up_n h, rfl, up_n h⟩
theorem agG.trans {g g' g'' : GH} {r : Nat} (h : agG g g' r) (h' : agG g' g'' r) : agG g g'' r := ⟨h'.1.trans h.1, h'.2.1.trans h.2.1, h'.2.2.1.trans h.2.2.1, h'.2.2.2.1.trans h.2.2.2.1, h'.2.2.2.2.1.trans h.2.2.2.2.1, h'.2.2.2.2.2.1.trans h.2.2.2.2.2.1, h'.2.2.2.2.2.2.1.trans h.2.2.2.2.2.2.1, h'.2.2.2.2.2.2.2.trans h.2.2.2.2.2.2.2⟩
section
variable {c : CX} {g g' : GH} {B : Nat} {A A' T T' : Nat → Nat → Int32} {G G' : Nat → Option Nat} {q q' clk clk' rt cu r p e : Nat}
theorem LvP.fr (h : LvP c g T clk r) (hT : agT T T' r) (hg : agG g g' r) (hc : clk ≤ clk') : LvP c g' T' clk' r := by
  obtain ⟨g1, g2, g3, g4, g5, -, g7, -⟩ := hg
  obtain ⟨h1, h2, h3, h4, h5, h6, h7, h8, h9, h10⟩ := h
  unfold LvP
  rw [hT 237 (by omega) (by omega), hT 238 (by omega) (by omega), g1, g2, g3, g4, g5, g7]
  exact ⟨h1, h2, h3, h4, h5, h6, h7, h8, h9.mono hc, h10⟩
theorem TkP.fr (h : TkP g B A G r) (hg : agG g g' r) (h1 : G' (r + 1) = G (r + 1)) (h2 : A' 219 (r + 1) = A 219 (r + 1)) (h3 : A' 221 (r + 1) = A 221 (r + 1)) (h4 : A' 222 (r + 1) = A 222 (r + 1)) : TkP g' B A' G' r := by
  obtain ⟨g1, g2, g3, g4, g5, -, g7, -⟩ := hg
  unfold TkP
  rw [h1, h2, h3, h4, g1, g2, g3, g7]
  exact h
theorem PP.frq (h : PP c g T p r) (hp : agQ T T' p) (hr : agQ T T' r) (gp : agG g g' p) (gr : agG g g' r) (ha : ∀ a, g.Dn a → p < a → a < r → T 240 a = nI p → agQ T T' a ∧ agG g g' a ∧ g'.Dn a) : PP c g' T' p r := by
  obtain ⟨a1, a2, a3, a4, a5, a6, a7, a8⟩ := gp
  obtain ⟨b1, b2, b3, b4, b5, b6, b7, b8⟩ := gr
  obtain ⟨h1, h2, h2', h3⟩ := h
  refine ⟨h1, by rw [hr 240 (by omega) (by omega)]; exact h2, by rw [a2, b2]; exact h2', ?_⟩
  rw [hp 241 (by omega) (by omega), hp 242 (by omega) (by omega), hp 243 (by omega) (by omega), a1, a3, a4, a5, a7, b3, b4, b5, b7]
  rcases h3 with h3 | ⟨h3, h4, h5, h6, a, k1, k2, k3, k4, k5, k6, k7, k8, k9, k10, k11⟩ | h3 | h3 | h3 | h3
  · exact Or.inl h3
  · obtain ⟨t1, ⟨t2, t3, t4, t5, t6, t7, t8, t9⟩, t10⟩ := ha a k5 k1 k2 k3
    refine Or.inr (Or.inl ⟨h3, h4, h5, h6, a, k1, k2, by rw [t1 240 (by omega) (by omega)]; exact k3, k4, t10, t4.trans k6, t6.trans k7, t8.trans k8, t5.trans k9, k10.trans t7.symm, k11.1.trans t9.symm, by rw [a2, t3]; exact k11.2⟩)
  · exact Or.inr (Or.inr (Or.inl h3))
  · exact Or.inr (Or.inr (Or.inr (Or.inl h3)))
  · exact Or.inr (Or.inr (Or.inr (Or.inr (Or.inl h3))))
  · exact Or.inr (Or.inr (Or.inr (Or.inr (Or.inr h3))))
theorem PP.fr (h : PP c g T p r) (hp : agT T T' p) (hr : agT T T' r) (gp : agG g g' p) (gr : agG g g' r) (ha : ∀ a, g.Dn a → p < a → a < r → T 240 a = nI p → agT T T' a ∧ agG g g' a ∧ g'.Dn a) : PP c g' T' p r := h.frq hp.q hr.q gp gr (fun a d1 d2 d3 d4 => ⟨(ha a d1 d2 d3 d4).1.q, (ha a d1 d2 d3 d4).2⟩)
theorem DRe.fr (h : DRe c g A T q clk r e) (hq : q ≤ q') (hc : clk ≤ clk') (hT : agT T T' r) (hg : agG g g' r) (hA : A' 220 (r + 1) = A 220 (r + 1)) (ha : ∀ a, g.Dn a → r < a → T 240 a = nI r → agT T T' a ∧ agG g g' a ∧ g'.Dn a) : DRe c g' A' T' q' clk' r e := by
  obtain ⟨h1, h2, h3, h4, h5, h6, h7, h8, h9, h10, h11⟩ := h
  have hpp : ∀ {b}, g.Dn b → PP c g T r b → PP c g' T' r b := fun {b} hd hp => hp.fr hT (ha b hd hp.1 hp.2.1).1 hg (ha b hd hp.1 hp.2.1).2.1 (fun a d1 d2 _ d4 => ha a d1 d2 d4)
  obtain ⟨g1, g2, g3, g4, g5, g6, g7, g8⟩ := id hg
  refine ⟨by omega, by rw [hT 239 (by omega) (by omega)]; exact h2, by rw [g2]; exact h3, h4, by rw [g6]; exact h5.mono hq, by rw [g6, g8]; exact h6, by rw [g8, g4]; omega, by rw [g8, g7]; exact fun x hx => (h8 x hx).imp id (fun z => ⟨z.1, by omega⟩), by rw [g8]; exact h9.mono hc, by rw [g7, g8]; exact h10, ?_⟩
  rw [hT 241 (by omega) (by omega), hT 242 (by omega) (by omega), hA, g1, g2, g5, g6, g7, g8]
  rcases h11 with k | ⟨k1, b, k2, k3, k4, k5, k6, k7, k8, k9⟩ | ⟨k1, b, k2, k3, k6, k7, k8, k9⟩ | ⟨k1, b, t, k2, k3, k6, k7, k8, k9, k10⟩ | k | k | k
  · exact Or.inl k
  · obtain ⟨t1, ⟨t2, t3, t4, t5, t6, t7, t8, t9⟩, t10⟩ := ha b k6 k3.1 k3.2.1
    exact Or.inr (Or.inl ⟨k1, b, k2, hpp k6 k3, k4, k5, t10, k7.trans t7.symm, k8.trans t9.symm, by rw [t1 239 (by omega) (by omega)]; exact k9⟩)
  · obtain ⟨t1, ⟨t2, t3, t4, t5, t6, t7, t8, t9⟩, t10⟩ := ha b k6 k3.1 k3.2.1
    exact Or.inr (Or.inr (Or.inl ⟨k1, b, k2, hpp k6 k3, t10, k7.trans t7.symm, k8.trans t9.symm, by rw [t1 239 (by omega) (by omega)]; exact k9⟩))
  · obtain ⟨t1, ⟨t2, t3, t4, t5, t6, t7, t8, t9⟩, t10⟩ := ha b k6 k3.1 k3.2.1
    exact Or.inr (Or.inr (Or.inr (Or.inl ⟨k1, b, t, k2, hpp k6 k3, t10, k7.trans t7.symm, by rw [k8, t9], by rw [t1 239 (by omega) (by omega)]; exact k9, k10⟩)))
  · exact Or.inr (Or.inr (Or.inr (Or.inr (Or.inl k))))
  · exact Or.inr (Or.inr (Or.inr (Or.inr (Or.inr (Or.inl k)))))
  · exact Or.inr (Or.inr (Or.inr (Or.inr (Or.inr (Or.inr k)))))
theorem nI_r {x y : Nat} (hx : x < 2 ^ 31) (hy : y < 2 ^ 31) (h : nI x = nI y) : x = y := (nI_eq hx hy).mp h
theorem nI_m {x : Nat} (hx : x < 2 ^ 31) : ¬ nI x = -1 := fun h => nI_pos hx (by rw [h]; decide)
/-- the path: every row on it is below the current one's upper row -/
theorem Rows.le (h : Rows c g B A T G q clk rt cu) (hq : q ≤ 3000) (hp : g.On p) (hpc : p ≠ cu) (hn : g.nx p = cu) : ∀ r, g.On r → r ≠ cu → r ≤ p := by
  have key : ∀ m r, cu ≤ r + m → g.On r → r ≠ cu → r ≤ p := by
    intro m
    induction m with
    | zero =>
      intro r hm hr hne
      have := (h.1 r hr).2.2.1
      omega
    | succ m ih =>
      intro r hm hr hne
      obtain ⟨-, -, h1, -, -, h2, -⟩ := h.1 r hr
      obtain ⟨h3, h4, h5⟩ := h2 hne
      have h6 := h4.1
      obtain ⟨-, -, h7, -, -, h8, -⟩ := h.1 p hp
      obtain ⟨h9, h10, -⟩ := h8 hpc
      rcases h5 with h5 | h5
      · by_cases hc : g.nx r = cu
        · have e1 := h4.2.1
          have e2 := h10.2.1
          rw [hc] at e1
          rw [hn] at e2
          have := nI_r (by omega) (by omega) (e1.symm.trans e2)
          omega
        · have := ih (g.nx r) (by omega) h5 hc
          omega
      · have e1 := h4.2.1
        have e2 := h10.2.1
        rw [h5] at e1
        rw [hn] at e2
        have := nI_r (by omega) (by omega) (e1.symm.trans e2)
        omega
  intro r hr hne
  exact key cu r (by omega) hr hne
/-- which row a part's parent is -/
theorem PP.par (h : PP c g T p r) {p' : Nat} (h' : T 240 r = nI p') (h1 : r < 2 ^ 31) (h2 : p' < 2 ^ 31) : p' = p := nI_r h2 (by have := h.1; omega) (h'.symm.trans h.2.1)
end
