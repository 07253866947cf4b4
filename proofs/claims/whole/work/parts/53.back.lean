/-! goOn, goBack, side by side -/
section
variable {c : CX} {g g' : GH} {B : Nat} {F A F' A' T T' T0 T2 : Nat → Nat → Int32} {G G' : Nat → Option Nat} {X X' : Option Nat} {P P' P0 : Nat → Int32} {L : SL} {kl : KL} {q q' clk clk' rt cu cu' r p e k s w o o1 V K l s0 z : Nat} {es : SL} {ek : KL} {vn : Nat → Nat} {vf : Nat → Nat → Nat}
theorem tG (h : SG c g B rt q clk cu e F A G P T) (hV : 3 * (3000 - q) + (g.ES cu).length + 1 ≤ V) (hVK : clk + 3001 * V ≤ K) : Nx c B rt K V F A G X P T := by
  obtain ⟨hb, hd, h8, h6, he, h10, h14, h27⟩ := h
  obtain ⟨hok, hsm, hR, hq, h7, -⟩ := id hb
  obtain ⟨-, hcq, -, -, e', -, j2, -, j4, -⟩ := hR.2.1 cu hd
  rw [he.symm.trans j2] at h6
  obtain ⟨F', A', X', P', T', r1, r2, r3⟩ := chain (X := X) (V := V - 1) (K := K) (cu + 1) g cu clk 3000 F A P T (Nat.lt_succ_self _) hb hd h6 j2 j4 h14 h27 (by omega) (by omega) (by omega) (by omega)
  exact ⟨F', A', G, X', P', T', fun t ht sc d S P T Q l1 l2 => c27_1 ht h7 h8 (fun Q => by rw [c45_pre h10]; exact r1 sc d S P T Q), r2, r3⟩
theorem cK (h7 : F 214 7 = 4) (h8 : F 214 8 = 2) (hz : F 223 1 = nI (z + 1)) (hz2 : z < 3000) (hst : A 224 z = nI (r + 1)) (hst2 : r + 1 < 3001) (hG : G (r + 1) = some (B + (22 + 3 * k))) (hk : k < 64) (hc : ∀ (sc : xm_Sc) (d S : Nat) (P : Nat → Int32) (T : Nat → Nat → Int32) (Q : Option Value → xm_M → Prop), rn sc (d + 6) 49 88 [some (.ref (B + 214)), some (.int (nI (r + 1))), some (.ref (B + (22 + 3 * k)))] [.int (F (22 + 3 * k) 1)] (mk B S (cgF F z (A 222 (r + 1)) (A 221 (r + 1))) A G X P T) Q = Q none (mk B S F' A' G' X' P T)) : CRun B F A G X F' A' G' X' := fun t ht sc d S P T Q l1 l2 => c27_2 ht h7 h8 (fun Q => by rw [c49_pre hz hz2 hst hst2 hG hk]; exact hc sc d S P T Q)
theorem kpC.cg {x y : Int32} : kpC F A (cgF F z x y) A := ⟨fun o k ho => by rw [cgF, f2_n (by omega), f2_n (by omega), f2_n (by omega)], fun _ _ => rfl⟩
/-- a choice is taken: what stands then -/
theorem Bs.pop (hb : Bs c g B rt q clk cu ((r + 1, g.BK r) :: g.BS r) kl F A G P T) (hR' : Rows c g' B A T G q clk rt r) (hlv : LvP c g T clk r) (htk : TkP g B A G r) (hrq : r < q) (h26 : P' 26 = nI r) (hP : ∀ k, k ≠ 26 → P' k = P k) : Bs c g' B rt q clk r (g.BS r) (g.BK r) (cgF F (g.BS r).length (A 222 (r + 1)) (A 221 (r + 1))) A G P' T := by
  obtain ⟨hok, hsm, hR, hq, h7, h28, h29, h25, -, h5, hpL, hpk, h244, hKO, hDec⟩ := hb
  obtain ⟨l1, l2, l3, l4, l5, l6, l7, l8, l9, l10⟩ := hlv
  obtain ⟨k1, k2, k3, k4⟩ := htk
  refine ⟨hok, hsm.kp hok kpC.cg ⟨hP 5 (by decide), ⟨hP 16 (by decide), hP 2 (by decide), hP 11 (by decide), hP 12 (by decide), hP 13 (by decide)⟩, fun _ _ _ => rfl⟩, hR', hq, by simp [cgF, f2, h7], (hP 28 (by decide)).trans h28, (hP 29 (by decide)).trans h29, (hP 25 (by decide)).trans h25, h26, by simp [cgF, f2, h5], ⟨hpL.1.2, by simp [cgF, f2]⟩, ⟨hpk.1.suf hKO.1, by simp [cgF, f2, k4]⟩, fun x hx => h244 x (hKO.1.subset hx), l6, l5.mono (by omega)⟩
theorem tK (h : SK c g B rt q clk cu L kl F A G P T) (hV : 3 * (3000 - q) + L.length + 2 ≤ V) (hVK : clk + 3001 * V ≤ K) : Nx c B rt K V F A G X P T := by
  have hbd : Bd g q := ⟨List.range q, by simp, fun r hr => List.mem_range.mpr (h.1.2.2.1.2.1 r hr).2.1⟩
  obtain ⟨g1, r, P1, T1, hrun, hk1, htop⟩ := walk (q * 3002 + (if P 27 = 1 then 0 else cu + 1) + 1) g cu q P T h hbd (Nat.lt_succ_self _)
  suffices hs : Nx c B rt K V F A G X P1 T1 by
    obtain ⟨F', A', G', X', P', T', r1, r2, r3⟩ := hs
    exact ⟨F', A', G', X', P', T', r1, hrun.tr r2, r3⟩
  clear hrun hbd h
  obtain ⟨hb, hm, h14, hrq, hmode⟩ := hk1
  obtain ⟨hok, hsm, hR, hq, h7, h28, h29, h25, h26, h5, hpL, hpk, h244, hKO, hDec⟩ := id hb
  have hN64 := hok.1
  have hn64 := hok.2.1
  rcases htop with ⟨h27, hd, hkd⟩ | ⟨h27, ho, hcr, p, hp, hpc, hn, hk18, h243⟩ | ⟨h27, ho, rfl⟩
  · -- a leaf or a MANY with no part yet
    have hL : L = g1.ES r := by
      rcases hmode with ⟨-, -, z⟩ | ⟨z, -⟩
      · exact z
      · rw [h27] at z
        exact absurd z (by decide)
    obtain ⟨hrt, -, hlv, htk, e, j1, j2, j3, j4, j5, j6, j7, j8, j9, j10, j11⟩ := hR.2.1 r hd
    obtain ⟨l1, l2, l3, l4, l5, l6, l7, l8, l9, l10⟩ := id hlv
    obtain ⟨k1, k2, k3, k4⟩ := id htk
    have hES : g1.ES r = (r + 1, g1.BK r) :: g1.BS r ∧ T1 241 r = -1 ∧ T1 242 r = -1 ∧ (c.kd (g1.k r) = 11 → A 220 (r + 1) = nI e) ∧ (c.kd (g1.k r) = 12 → A 220 (r + 1) = nI e ∧ BalOK c (g1.s r) e) := by
      rcases j11 with a | ⟨a, b, -, -, -, a4, -⟩ | ⟨a, -⟩ | ⟨a, -⟩ | a | a | ⟨a, -⟩
      · exact ⟨a.2.2.2.1, a.2.1, a.2.2.1, fun z => by omega, fun z => by omega⟩
      · exfalso
        rcases hkd with z | z | z | z
        · omega
        · omega
        · omega
        · exact a4 z.2
      · omega
      · omega
      · exact ⟨a.2.1, a.2.2.2.2.1, a.2.2.2.2.2, fun _ => a.2.2.2.1, fun z => ⟨a.2.2.2.1, by
          rcases a.1 with y | y
          · omega
          · exact y.2⟩⟩
      · exact ⟨a.2.1, a.2.2.2.1, a.2.2.2.2, fun z => by omega, fun z => by omega⟩
      · omega
    obtain ⟨hES, ht1, ht2, hto1, hto2⟩ := hES
    rw [hES] at hL
    subst hL
    have hL3 := l5.len
    have hRo := hR.opn hq hd
    have hbp := hb.pop hRo hlv htk hrq h26 (fun _ _ => rfl)
    have hk64 : g1.k r < 64 := by omega
    have hkc := (hsm.1.2.2 _ l2).1
    have hkm := hsm.2.1.kd l2
    have f10 : cgF F (g1.BS r).length (A 222 (r + 1)) (A 221 (r + 1)) 214 10 = nI (g1.w r) := by simp [cgF, f2, k3]
    have f3 : cgF F (g1.BS r).length (A 222 (r + 1)) (A 221 (r + 1)) 223 1 = nI (g1.BS r).length := by simp [cgF, f2]
    have hsm1 : Sm c (cgF F (g1.BS r).length (A 222 (r + 1)) (A 221 (r + 1))) A P1 T1 := hsm.kp hok kpC.cg kpR.rf
    have n2' := (hsm1.1.2.2 _ l2).2.1
    have hcK : ∀ {F' A' : Nat → Nat → Int32} {G' : Nat → Option Nat} {X' : Option Nat}, (∀ (sc : xm_Sc) (d S : Nat) (P : Nat → Int32) (T : Nat → Nat → Int32) (Q : Option Value → xm_M → Prop), rn sc (d + 6) 49 88 [some (.ref (B + 214)), some (.int (nI (r + 1))), some (.ref (B + (22 + 3 * g1.k r)))] [.int (F (22 + 3 * g1.k r) 1)] (mk B S (cgF F (g1.BS r).length (A 222 (r + 1)) (A 221 (r + 1))) A G X P T) Q = Q none (mk B S F' A' G' X' P T)) → CRun B F A G X F' A' G' X' := fun hc => cK h7 hm hpL.2 (by omega) hpL.1.1 (by omega) k1 hk64 hc
    -- both fail
    have no : MRun B rt P1 T1 (rsP P1 (-1)) (rsT T1 r (-1)) → CRun B F A G X (f2 (cgF F (g1.BS r).length (A 222 (r + 1)) (A 221 (r + 1))) 214 8 2) A G X → Nx c B rt K V F A G X P1 T1 := by
      intro r1 r2
      refine ⟨_, _, _, _, _, _, r2, r1, Or.inl ⟨clk, by omega, Or.inr (Or.inr (Or.inl ⟨gOpen g1 r, q, r, g1.BS r, g1.BK r, lfNo (g := gOpen g1 r) hbp hrq (Or.inr rfl) kpC.f214 (f2_n (by omega)) (f2_n (by omega)) (f2_n (by omega)) (f2_n (by omega)) f2_s h14, ?_⟩))⟩⟩
      simp only [List.length_cons] at hV
      omega
    have ch : ∀ e, CRun B F A G X (ckF (cgF F (g1.BS r).length (A 222 (r + 1)) (A 221 (r + 1))) (g1.BS r).length e) (ckA A (g1.BS r).length (r + 1) e) G X → MRun B rt P1 T1 (rsP P1 (nI e)) (rsT T1 r (nI e)) → g1.s r ≤ e → e ≤ c.n → (c.kd (g1.k r) = 16 ∨ c.kd (g1.k r) = 11 ∨ (c.kd (g1.k r) = 12 ∧ BalOK c (g1.s r) e) ∨ c.kd (g1.k r) = 14) → Nx c B rt K V F A G X P1 T1 := by
      intro e r1 r2 r3 r4 r5
      refine ⟨_, _, _, _, _, _, r1, r2, Or.inl ⟨clk, by omega, Or.inr (Or.inl ⟨_, q, r, e, chOK (g := gOpen g1 r) hbp hrq (Or.inr rfl) ht1 ht2 r3 r4 r5 f10 h14, ?_⟩)⟩⟩
      have a6 : (gSuc (gOpen g1 r) r ((r + 1, (gOpen g1 r).BK r) :: (gOpen g1 r).BS r) ((gOpen g1 r).BK r)).ES r = (r + 1, g1.BK r) :: g1.BS r := up_s
      rw [a6]
      simp only [List.length_cons] at hV ⊢
      omega
    rcases hkd with hh | hh | hh | ⟨hh, -⟩
    · -- ARB
      have hkc' : F (22 + 3 * g1.k r) 1 = 11 := by rw [hkc, hh]; rfl
      have hP16 := hsm.2.1.2.1.1
      by_cases hen : e < c.n
      · refine ch (e + 1) (hcK (fun sc d S P T Q => ?_)) (m1 h28 h29 h27 (fun sc d S F A G X Q => ?_)) (by omega) (by omega) (Or.inr (Or.inl hh))
        · rw [hkc']
          exact c49_11 hsm1.1.2.1 (by omega) (hto1 hh) hen f3 (by omega)
        · have := c77_11 (sc := sc) (d := d + 3) (B := B) (S := S) (F := F) (A := A) (G := G) (X := X) (Q := Q) h26 (by omega) l1 hk64 (by rw [hkm, hh]; rfl)
          rw [hP16, j2, if_neg (nI_ge hen (by omega)), nI_1] at this
          exact this
      · have hen : e = c.n := by omega
        subst hen
        refine no (m1 h28 h29 h27 (fun sc d S F A G X Q => ?_)) (hcK (fun sc d S P T Q => ?_))
        · have := c77_11 (sc := sc) (d := d + 3) (B := B) (S := S) (F := F) (A := A) (G := G) (X := X) (Q := Q) h26 (by omega) l1 hk64 (by rw [hkm, hh]; rfl)
          rw [hP16, j2, if_pos (Int32.le_refl _)] at this
          exact this
        · rw [hkc']
          exact c49_11n hsm1.1.2.1 (by omega) (hto1 hh)
    · -- BALANCED
      have hkc' : F (22 + 3 * g1.k r) 1 = 12 := by rw [hkc, hh]; rfl
      obtain ⟨hto, hbal⟩ := hto2 hh
      have r2 : MRun B rt P1 T1 (rsP P1 (oi (lf_bal c.s e (c.n - e) e 0))) (rsT T1 r (oi (lf_bal c.s e (c.n - e) e 0))) := m1 h28 h29 h27 (fun sc d S F A G X Q => by
        refine c77_12 h26 (by omega) l1 hk64 (by rw [hkm, hh]; rfl) (fun Q => ?_)
        rw [l3, j2, ← hbal e (Nat.le_refl _)]
        exact c75 hsm.2.1.2.1 l4 (by omega))
      cases hy : lf_bal c.s e (c.n - e) e 0 with
      | none =>
        rw [hy] at r2
        refine no r2 (hcK (fun sc d S P T Q => ?_))
        rw [hkc']
        exact c49_12n hsm1.1.2.1 (by omega) hto j4 hy
      | some e2 =>
        rw [hy] at r2
        have hle := lf_bal_le hy
        refine ch e2 (hcK (fun sc d S P T Q => ?_)) r2 (by omega) (by omega) (Or.inr (Or.inr (Or.inl ⟨hh, hbal.nxt j4 hy⟩)))
        rw [hkc']
        exact c49_12 hsm1.1.2.1 (by omega) hto j4 hy (by omega) f3 (by omega)
    · -- FENCE
      have hkc' : F (22 + 3 * g1.k r) 1 = 14 := by rw [hkc, hh]; rfl
      refine ⟨_, _, _, _, p1 P1 28 1, T1, hcK (F' := f2 (cgF F (g1.BS r).length (A 222 (r + 1)) (A 221 (r + 1))) 214 7 2) (A' := A) (G' := G) (X' := X) (fun sc d S P T Q => ?_), m1 h28 h29 h27 (fun sc d S F A G X Q => c77_14 h26 (by omega) l1 hk64 (by rw [hkm, hh]; rfl)), Or.inr ⟨hsm1.kp hok kpC.f214 ⟨by simp [p1], by simp [p1], fun _ _ _ => rfl⟩, q, hq, by simp [cgF, f2, h5], by rw [p1_n (by decide)]; exact h14, Or.inr (Or.inr (Or.inl ⟨f2_s, p1_s⟩))⟩⟩
      rw [hkc']
      exact c49_14
    · -- MANY: once more
      have hkc' : F (22 + 3 * g1.k r) 1 = 16 := by rw [hkc, hh]; rfl
      have hkr : T1 231 (g1.k r) = 16 := by rw [hkm, hh]; rfl
      have haN := (hok.2.2 _ l2).2.2.1 hh
      have m2' := (hsm.2.1.2.2 _ l2).2.1
      have hch : ∀ x, (gOpen g1 r).On x → x ≠ r → x < r := by
        intro x hx hne
        rcases hx with hx | hx
        · have := (hR.1 x hx).2.2.1
          omega
        · omega
      obtain ⟨P', T', s1, s2⟩ := begT (g := gOpen g1 r) (X' := some (B + (22 + 3 * c.a (g1.k r)))) (F' := cbF (cgF F (g1.BS r).length (A 222 (r + 1)) (A 221 (r + 1))) (nI (g1.s r)) (nI (r + 1)) 0) (A' := A) (w := r + 1) (s := g1.s r) (k := c.a (g1.k r)) (o := g1.o r) (bs := g1.BS r) (bk := g1.BK r) (V := V - 1) (K := K) (P0 := P1) (T0 := T1) (T2 := a2 T1 241 (upd (T1 241) r (nI r))) (o1 := 241) hok (hsm1.kp hok kpC.cb kpR.rf) hRo (Or.inr rfl) hrq hq hch (fun _ _ => rfl) (fun _ _ _ => rfl) (fun hq3 => m1 h28 h29 h27 (fun sc d S F A G X Q => by
          rw [bT, ← l3, ← m2']
          exact c77_16b h26 (by omega) l1 hk64 hkr ht1 h14 hq3)) (fun hq3 => m1 h28 h29 h27 (fun sc d S F A G X Q => c77_16o h26 (by omega) l1 hk64 hkr ht1 (by rw [h14, hq3]; rfl))) (fun o o1 o2 => a2_n (by omega)) h28 h29 h25 h14 (by simp [cbF, cgF, f2, h7]) (by simp [cbF, f2]) rfl (by simp [cbF, f2]) (by simp [cbF, f2]) (by simp [cbF, cgF, f2, h5]) ⟨hpL.1.2, by simp [cbF, cgF, f2]⟩ ⟨hpk.1.suf hKO.1, by simp [cbF, cgF, f2, k4]⟩ (fun x hx => h244 x (hKO.1.subset hx)) haN l4 (Nat.le_refl _) (l5.mono (by omega)) l6 (by omega) (fun x hx => by have := l8 x hx; omega) l9 (by omega) (Or.inl ⟨Or.inl hh, rfl, ht2, rfl, rfl, rfl, rfl⟩) (by simp only [List.length_cons] at hV; omega) (by omega)
      refine ⟨_, _, _, _, P', T', hcK (fun sc d S P T Q => ?_), s1, Or.inl s2⟩
      rw [hkc', ← k2]
      exact c49_16 hk64 (by omega) n2' hsm1.1.1 hN64 haN
  · -- an OR: its second part
    have hL : L = g1.BS r := by
      rcases hmode with ⟨z, -⟩ | ⟨-, -, z⟩
      · rw [h27] at z
        exact absurd z (by decide)
      · exact z
    obtain ⟨hpd, hrp, -, hlv, htk, hpp, -⟩ := hR.1 p hp
    obtain ⟨hpq, hpp, -⟩ := hpp hpc
    rw [hn] at hpp
    have htk := htk hpq
    obtain ⟨l1, l2, l3, l4, l5, l6, l7, l8, l9, l10⟩ := id hlv
    obtain ⟨k1, k2, k3, k4⟩ := id htk
    obtain ⟨hpr, hup, -, hp4⟩ := id hpp
    have hBS : g1.BS r = (p + 1, g1.BK p) :: g1.BS p ∧ T1 242 p = -1 := by
      rcases hp4 with a | ⟨a, -⟩ | a | a | a | a
      · omega
      · omega
      · refine ⟨?_, a.2.1.2⟩
        rcases a.2.2.2.2.2 with b | b
        · exact b.2
        · rw [h243] at b
          exact absurd b.1 (by decide)
      · omega
      · omega
      · omega
    obtain ⟨hBS, ht2⟩ := hBS
    rw [hBS] at hL
    subst hL
    have hL3 := l5.len
    obtain ⟨hRf, hch⟩ := hR.fup hq ho hp hpc hn
    have hk64 : g1.k p < 64 := by omega
    have hkc := (hsm.1.2.2 _ l2).1
    have hkm := hsm.2.1.kd l2
    have hkc' : F (22 + 3 * g1.k p) 1 = 18 := by rw [hkc, hk18]; rfl
    have hkr : T1 231 (g1.k p) = 18 := by rw [hkm, hk18]; rfl
    have hsm1 : Sm c (cgF F (g1.BS p).length (A 222 (p + 1)) (A 221 (p + 1))) A P1 T1 := hsm.kp hok kpC.cg kpR.rf
    have haN := ((hok.2.2 _ l2).2.2.2.1 (Or.inr hk18)).2
    have n3' := (hsm1.1.2.2 _ l2).2.2.1
    have m3' := (hsm.2.1.2.2 _ l2).2.2.1
    have hrt := (hR.1 r ho).2.1
    have hne : ¬ nI r = nI rt := fun z => hcr (nI_r (by omega) (by omega) z)
    obtain ⟨P', T', s1, s2⟩ := begT (g := gFup g1 r) (X' := some (B + (22 + 3 * c.b (g1.k p)))) (F' := cbF (cgF F (g1.BS p).length (A 222 (p + 1)) (A 221 (p + 1))) (nI (g1.s p)) (nI (g1.w p)) 0) (A' := A) (w := g1.w p) (s := g1.s p) (k := c.b (g1.k p)) (o := g1.o p) (bs := g1.BS p) (bk := g1.BK p) (V := V - 1) (K := K) (P0 := p1 P1 26 (nI p)) (T0 := a2 T1 243 (upd (T1 243) p 1)) (T2 := a2 (a2 T1 243 (upd (T1 243) p 1)) 241 (upd (T1 241) p (nI p))) (o1 := 241) hok (hsm1.kp hok kpC.cb kpR.rf) hRf ⟨hp, hpc⟩ hpq hq hch (fun k hk => p1_n hk) (fun o x hx => by
      by_cases h3 : o = 243
      · subst h3
        have : x ≠ p := by omega
        simp [a2, upd, this]
      · rw [a2_n h3]) (fun hq3 => m3 h28 h29 h27 h26 (by omega) hne hup (fun sc d S F A G X Q => by
        rw [← l3, ← m3']
        exact c80_18 p1_s (by omega) l1 hk64 hkr h243 (by rw [p1_n (by decide)]; exact h14) hq3)) (fun hq3 => m3 h28 h29 h27 h26 (by omega) hne hup (fun sc d S F A G X Q => c80_18o p1_s (by omega) l1 hk64 hkr h243 (by rw [p1_n (by decide), h14, hq3]; rfl))) (fun o o1 o2 => by rw [a2_n (by omega), a2_n (by omega)]) h28 h29 h25 h14 (by simp [cbF, cgF, f2, h7]) (by simp [cbF, f2]) rfl (by simp [cbF, f2]) (by simp [cbF, f2]) (by simp [cbF, cgF, f2, h5]) ⟨hpL.1.2, by simp [cbF, cgF, f2]⟩ ⟨hpk.1.suf hKO.1, by simp [cbF, cgF, f2, k4]⟩ (fun x hx => h244 x (hKO.1.subset hx)) haN l4 (Nat.le_refl _) (l5.mono (by omega)) l6 (by omega) (fun x hx => by have := l8 x hx; omega) l9 (by omega) (Or.inr (Or.inr (Or.inl ⟨hk18, ⟨rfl, by rw [a2_n (by decide)]; exact ht2⟩, rfl, rfl, rfl, Or.inr ⟨by simp [a2, upd], rfl⟩⟩))) (by simp only [List.length_cons] at hV; omega) (by omega)
    refine ⟨_, _, _, _, P', T', cK (r := p) (X := X) (z := (g1.BS p).length) h7 hm hpL.2 (by omega) hpL.1.1 (by omega) k1 hk64 (fun sc d S P T Q => ?_), s1, Or.inl s2⟩
    rw [hkc', ← k2]
    have f10 : cgF F (g1.BS p).length (A 222 (p + 1)) (A 221 (p + 1)) 214 10 = nI (g1.w p) := by simp [cgF, f2, k3]
    rw [← f10]
    exact c49_18 hk64 (by omega) n3' hsm1.1.1 hN64 haN
  · -- nothing is left
    have hL : L = [] := by
      rcases hmode with ⟨z, -⟩ | ⟨-, -, z⟩
      · rw [h27] at z
        exact absurd z (by decide)
      · rw [z]
        exact hR.2.2.2.2.2.2.1
    subst hL
    refine ⟨f2 F 214 7 0, A, G, X, P1, T1, fun t ht sc d S P T Q l1 l2 => c27_2 ht h7 hm (fun Q => c49_f hpL.2), MRun.rf, Or.inr ⟨hsm.kp hok kpC.f214 kpR.rf, q, hq, by rw [f2_n (by omega)]; exact h5, h14, Or.inl ⟨f2_s, h28, h29, h27, h26, clk, by omega, h25⟩⟩⟩
end
