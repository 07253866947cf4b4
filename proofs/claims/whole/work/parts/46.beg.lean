/-! a part is begun on both sides -/
def bT (T : Nat → Nat → Int32) (q : Nat) (k s : Int32) (r o1 : Nat) : Nat → Nat → Int32 := a2 (rbT T q k s (nI r)) o1 (upd (upd (T o1) q (-1)) r (nI q))
section
variable {c : CX} {g g' : GH} {B : Nat} {F A F' A' T T' T0 T2 : Nat → Nat → Int32} {G G' : Nat → Option Nat} {X X' : Option Nat} {P P' P0 : Nat → Int32} {L : SL} {kl : KL} {q q' clk clk' rt cu cu' r p e k s w o o1 V K : Nat} {bs : SL} {bk : KL} {kk ss : Int32}
theorem bT_o (ho1 : o1 = 241 ∨ o1 = 242) (hx : r ≠ q) (hc : r ≠ cu) : agT T (bT T q kk ss cu o1) r := by
  intro o h1 h2
  have : o = 237 ∨ o = 238 ∨ o = 239 ∨ o = 240 ∨ o = 241 ∨ o = 242 ∨ o = 243 := by omega
  rcases ho1 with rfl | rfl <;> rcases this with rfl | rfl | rfl | rfl | rfl | rfl | rfl <;> simp [bT, rbT, a2, upd, hx, hc]
theorem bT_c (ho1 : o1 = 241 ∨ o1 = 242) (hx : cu ≠ q) (h1 : 237 ≤ o) (h2 : o ≤ 243) (h3 : o ≠ o1) : bT T q kk ss cu o1 o cu = T o cu := by
  have : o = 237 ∨ o = 238 ∨ o = 239 ∨ o = 240 ∨ o = 241 ∨ o = 242 ∨ o = 243 := by omega
  rcases ho1 with rfl | rfl <;> rcases this with rfl | rfl | rfl | rfl | rfl | rfl | rfl <;> first | (exact absurd rfl h3) | (simp [bT, rbT, a2, upd, hx])
theorem bT_1 : bT T q kk ss cu o1 o1 cu = nI q := by simp [bT, a2, upd]
theorem bT_q (ho1 : o1 = 241 ∨ o1 = 242) (hx : cu ≠ q) : bT T q kk ss cu o1 237 q = kk ∧ bT T q kk ss cu o1 238 q = ss ∧ bT T q kk ss cu o1 239 q = ss ∧ bT T q kk ss cu o1 240 q = nI cu ∧ bT T q kk ss cu o1 241 q = -1 ∧ bT T q kk ss cu o1 242 q = -1 ∧ bT T q kk ss cu o1 243 q = 0 := by
  have hx' : q ≠ cu := fun z => hx z.symm
  rcases ho1 with rfl | rfl <;> simp [bT, rbT, a2, upd, hx']
theorem bT_k (ho1 : o1 = 241 ∨ o1 = 242) (h : o < 237 ∨ 243 < o) : bT T q kk ss cu o1 o = T o := by
  unfold bT rbT
  rw [a2_n (by omega), a2_n (by omega), a2_n (by omega), a2_n (by omega), a2_n (by omega), a2_n (by omega), a2_n (by omega), a2_n (by omega)]
/-- how a new part has its things from its upper row -/
def NW (c : CX) (g : GH) (T : Nat → Nat → Int32) (cu q o1 w o : Nat) (bs : SL) (bk : KL) : Prop :=
  ((c.kd (g.k cu) = 16 ∨ c.kd (g.k cu) = 17) ∧ o1 = 241 ∧ T 242 cu = -1 ∧ w = cu + 1 ∧ bs = g.BS cu ∧ bk = g.BK cu ∧ o = g.o cu)
  ∨ ((c.kd (g.k cu) = 16 ∨ c.kd (g.k cu) = 17) ∧ o1 = 242 ∧ w = g.w cu ∧ o = g.o cu ∧ ∃ a, cu < a ∧ a < q ∧ T 240 a = nI cu ∧ T 241 cu = nI a ∧ g.Dn a ∧ g.w a = cu + 1 ∧ g.BS a = g.BS cu ∧ g.BK a = g.BK cu ∧ g.o a = g.o cu ∧ bs = g.ES a ∧ bk = g.EK a ∧ g.s cu ≤ g.s a)
  ∨ (c.kd (g.k cu) = 18 ∧ (o1 = 241 ∧ T 242 cu = -1) ∧ w = g.w cu ∧ bk = g.BK cu ∧ o = g.o cu ∧ ((T 243 cu = 0 ∧ bs = (cu + 1, g.BK cu) :: g.BS cu) ∨ (T 243 cu = 1 ∧ bs = g.BS cu)))
  ∨ (c.kd (g.k cu) = 19 ∧ (o1 = 241 ∧ T 242 cu = -1) ∧ w = cu + 1 ∧ bs = g.BS cu ∧ bk = g.BK cu ∧ o = g.o cu + 1)
  ∨ (c.kd (g.k cu) = 20 ∧ (o1 = 241 ∧ T 242 cu = -1) ∧ w = cu + 1 ∧ bs = g.BS cu ∧ bk = g.BK cu ∧ o = g.o cu)
  ∨ (c.kd (g.k cu) = 23 ∧ (o1 = 241 ∧ T 242 cu = -1) ∧ w = g.w cu ∧ bs = g.BS cu ∧ bk = g.BK cu ∧ o = g.o cu)
theorem NW.ow (h : NW c g T cu q o1 w o bs bk) : o1 = 241 ∨ o1 = 242 := by
  rcases h with h | h | h | h | h | h
  · exact Or.inl h.2.1
  · exact Or.inr h.2.1
  · exact Or.inl h.2.1.1
  · exact Or.inl h.2.1.1
  · exact Or.inl h.2.1.1
  · exact Or.inl h.2.1.1
theorem NW.pp (h : NW c g T cu q o1 w o bs bk) (hcq : cu < q) (hs : g.s cu ≤ s) : PP c (gNew g cu q k s w o bs bk) (bT T q kk ss cu o1) cu q := by
  have ho1 := h.ow
  have hne : cu ≠ q := by omega
  obtain ⟨a1, a2, a3, a4, a5, a6, a7, a8⟩ := agG.new (g := g) (cu := cu) (q := q) (r := cu) (k := k) (s := s) (w := w) (o := o) (bs := bs) (bk := bk) hne
  have b2 : (gNew g cu q k s w o bs bk).s q = s := up_s
  have b3 : (gNew g cu q k s w o bs bk).w q = w := up_s
  have b4 : (gNew g cu q k s w o bs bk).o q = o := up_s
  have b5 : (gNew g cu q k s w o bs bk).BS q = bs := up_s
  have b7 : (gNew g cu q k s w o bs bk).BK q = bk := up_s
  refine ⟨hcq, (bT_q ho1 hne).2.2.2.1, by rw [a2, b2]; exact hs, ?_⟩
  rw [a1, a3, a4, a5, a7, b3, b4, b5, b7]
  have h243 : bT T q kk ss cu o1 243 cu = T 243 cu := bT_c ho1 hne (by omega) (by omega) (by omega)
  rw [h243]
  rcases h with ⟨h1, h2, h3, h4⟩ | ⟨h1, h2, h3, h4, a, k1, k2, k3, k4, k5, k6, k7, k8, k9, k10, k11, k12⟩ | ⟨h1, ⟨h2, h3⟩, h4⟩ | ⟨h1, ⟨h2, h3⟩, h4⟩ | ⟨h1, ⟨h2, h3⟩, h4⟩ | ⟨h1, ⟨h2, h3⟩, h4⟩
  · subst h2
    exact Or.inl ⟨h1, bT_1, (bT_c (Or.inl rfl) hne (by omega) (by omega) (by omega)).trans h3, h4⟩
  · subst h2
    obtain ⟨t2, t3, t4, t5, t6, t7, t8, t9⟩ := agG.new (g := g) (cu := cu) (q := q) (r := a) (k := k) (s := s) (w := w) (o := o) (bs := bs) (bk := bk) (by omega)
    refine Or.inr (Or.inl ⟨h1, bT_1, h3, h4, a, k1, k2, ?_, (bT_c (Or.inr rfl) hne (by omega) (by omega) (by omega)).trans k4, k5, t4.trans k6, t6.trans k7, t8.trans k8, t5.trans k9, k10.trans t7.symm, k11.trans t9.symm, by rw [a2, t3]; exact k12⟩)
    rw [bT_o (Or.inr rfl) (by omega) (by omega) 240 (by omega) (by omega)]
    exact k3
  · subst h2
    exact Or.inr (Or.inr (Or.inl ⟨h1, ⟨bT_1, (bT_c (Or.inl rfl) hne (by omega) (by omega) (by omega)).trans h3⟩, h4⟩))
  · subst h2
    exact Or.inr (Or.inr (Or.inr (Or.inl ⟨h1, ⟨bT_1, (bT_c (Or.inl rfl) hne (by omega) (by omega) (by omega)).trans h3⟩, h4⟩)))
  · subst h2
    exact Or.inr (Or.inr (Or.inr (Or.inr (Or.inl ⟨h1, ⟨bT_1, (bT_c (Or.inl rfl) hne (by omega) (by omega) (by omega)).trans h3⟩, h4⟩))))
  · subst h2
    exact Or.inr (Or.inr (Or.inr (Or.inr (Or.inr ⟨h1, ⟨bT_1, (bT_c (Or.inl rfl) hne (by omega) (by omega) (by omega)).trans h3⟩, h4⟩))))
theorem begT (hok : c.ok) (hsm : Sm c F' A' P T) (hR : Rows c g B A' T G' q clk rt cu) (ho : g.On cu) (hcq : cu < q) (hq : q ≤ 3000) (hch : ∀ r, g.On r → r ≠ cu → r < cu) (hP0 : ∀ k, k ≠ 26 → P0 k = P k) (hT0 : ∀ o x, (o ≠ 243 ∨ x ≠ cu) → T0 o x = T o x) (hrun1 : q < 3000 → MRun B rt P T (rbP P0 q) (bT T0 q (nI k) (nI s) cu o1)) (hrun2 : q = 3000 → MRun B rt P T (p1 P0 29 1) T2) (hT2 : ∀ o, 228 ≤ o → o ≤ 236 → T2 o = T o) (h28 : P 28 = 0) (h29 : P 29 = 0) (h25 : P 25 = nI clk) (h14 : P 14 = nI q) (h7 : F' 214 7 = 4) (h8 : F' 214 8 = 0) (hX : X' = some (B + (22 + 3 * k))) (h6 : F' 214 6 = nI s) (h10 : F' 214 10 = nI w) (h5 : F' 217 5 = nI q) (hpL : pile (A' 224) bs ∧ F' 223 1 = nI bs.length) (hpk : pile (A' 226) bk ∧ F' 225 1 = nI bk.length) (h244 : ∀ x ∈ bk, 0 < x.1 ∧ T 244 (x.1 - 1) = nI x.2) (hk : k < c.N) (hs : s ≤ c.n) (hss : g.s cu ≤ s) (hD : Dec bs q) (hK : KOK bs bk) (hlen : bk.length + o ≤ q) (hx : ∀ x ∈ bk, x.1 ≤ q) (hst : StD bk clk) (hw : w ≤ q) (hnw : NW c g T0 cu q o1 w o bs bk) (hV : 3 * (3000 - q) + bs.length ≤ V) (hVK : clk + 3001 * V ≤ K) : ∃ P' T', MRun B rt P T P' T' ∧ Sim c B rt K V F' A' G' X' P' T' := by
  have ho1 := hnw.ow
  have hne : cu ≠ q := by omega
  have hTT : ∀ o, o ≠ 243 → T0 o = T o := fun o h => funext (fun x => hT0 o x (Or.inl h))
  by_cases hq3 : q < 3000
  · have hrt := (hR.1 cu ho).2.1
    have hlv : LvP c (gNew g cu q k s w o bs bk) (bT T0 q (nI k) (nI s) cu o1) clk q := by
      have b1 : (gNew g cu q k s w o bs bk).k q = k := up_s
      have b2 : (gNew g cu q k s w o bs bk).s q = s := up_s
      have b3 : (gNew g cu q k s w o bs bk).w q = w := up_s
      have b4 : (gNew g cu q k s w o bs bk).o q = o := up_s
      have b5 : (gNew g cu q k s w o bs bk).BS q = bs := up_s
      have b7 : (gNew g cu q k s w o bs bk).BK q = bk := up_s
      unfold LvP
      rw [b1, b2, b3, b4, b5, b7]
      exact ⟨(bT_q ho1 hne).1, hk, (bT_q ho1 hne).2.1, hs, hD, hK, hlen, hx, hst, hw⟩
    have hR' := hR.new (k := k) (s := s) (w := w) (o := o) (bs := bs) (bk := bk) hq3 ho hcq hch (T' := bT T0 q (nI k) (nI s) cu o1) (fun r h1 h2 o h3 h4 => (bT_o ho1 h2 h1 o h3 h4).trans (hT0 o r (Or.inr h1))) ⟨(bT_c ho1 hne (by omega) (by omega) (by omega)).trans (by rw [hTT 237 (by omega)]), (bT_c ho1 hne (by omega) (by omega) (by omega)).trans (by rw [hTT 238 (by omega)]), (bT_c ho1 hne (by omega) (by omega) (by omega)).trans (by rw [hTT 240 (by omega)])⟩ (hnw.pp hcq hss) hlv (by omega)
    refine ⟨_, _, hrun1 hq3, clk, hVK, Or.inl ⟨gNew g cu q k s w o bs bk, q, ?_, ?_⟩⟩
    · have b1 : (gNew g cu q k s w o bs bk).k q = k := up_s
      have b2 : (gNew g cu q k s w o bs bk).s q = s := up_s
      have b3 : (gNew g cu q k s w o bs bk).w q = w := up_s
      have b5 : (gNew g cu q k s w o bs bk).BS q = bs := up_s
      have b7 : (gNew g cu q k s w o bs bk).BK q = bk := up_s
      unfold SB
      rw [b1, b2, b3, b5, b7]
      have e : ∀ k, k ≠ 26 → k ≠ 14 → k ≠ 27 → rbP P0 q k = P k := fun k h1 h2 h3 => by
        rw [rbP, p1_n h3, p1_n h2, p1_n h1]; exact hP0 k h1
      refine ⟨⟨hok, hsm.kp hok kpC.rf ⟨e 5 (by decide) (by decide) (by decide), ⟨e 16 (by decide) (by decide) (by decide), e 2 (by decide) (by decide) (by decide), e 11 (by decide) (by decide) (by decide), e 12 (by decide) (by decide) (by decide), e 13 (by decide) (by decide) (by decide)⟩, fun o h1 h2 => by rw [bT_k ho1 (by omega), hTT o (by omega)]⟩, hR', hq, h7, (e 28 (by decide) (by decide) (by decide)).trans h28, (e 29 (by decide) (by decide) (by decide)).trans h29, (e 25 (by decide) (by decide) (by decide)).trans h25, by simp [rbP, p1], h5, hpL, hpk, ?_, hK, hD⟩, hq3, Or.inr rfl, h8, hX, h6, h10, by simp [rbP, p1], by simp [rbP, p1], (bT_q ho1 hne).2.2.2.2.1, (bT_q ho1 hne).2.2.2.2.2.1, (bT_q ho1 hne).2.2.2.2.2.2⟩
      rw [bT_k ho1 (by omega), hTT 244 (by omega)]
      exact h244
    · have b5 : (gNew g cu q k s w o bs bk).BS q = bs := up_s
      rw [b5]
      exact hV
  · have hq3 : q = 3000 := by omega
    subst hq3
    refine ⟨_, _, hrun2 rfl, clk, hVK, Or.inr (Or.inr (Or.inr ⟨hsm.kp hok kpC.rf ⟨by rw [p1_n (by decide)]; exact hP0 5 (by decide), ⟨by rw [p1_n (by decide)]; exact hP0 16 (by decide), by rw [p1_n (by decide)]; exact hP0 2 (by decide), by rw [p1_n (by decide)]; exact hP0 11 (by decide), by rw [p1_n (by decide)]; exact hP0 12 (by decide), by rw [p1_n (by decide)]; exact hP0 13 (by decide)⟩, hT2⟩, h7, h8, ⟨_, hX⟩, h5, ?_, ?_, p1_s⟩))⟩
    · rw [p1_n (by decide), hP0 14 (by decide)]; exact h14
    · rw [p1_n (by decide), hP0 28 (by decide)]; exact h28
end
