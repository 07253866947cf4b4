def topK : KL → Nat
  | [] => 0
  | x :: _ => x.2
theorem StD.le : ∀ {l : KL} {b : Nat}, StD l b → ∀ u ∈ l, 0 < u.2 ∧ u.2 ≤ b
  | [], _, _, u, hu => absurd hu (by simp)
  | x :: l, b, h, u, hu => by
    have h1 := h.1
    have h2 := h.2.1
    rcases List.mem_cons.mp hu with rfl | hu
    · exact ⟨h1, h2⟩
    · have := StD.le h.2.2 u hu
      omega
theorem StD.top {l : KL} {b : Nat} (h : StD l b) : topK l ≤ b ∧ ∀ u ∈ l, u.2 ≤ topK l := by
  cases l with
  | nil => exact ⟨Nat.zero_le _, fun u hu => absurd hu (by simp)⟩
  | cons x l =>
    refine ⟨h.2.1, fun u hu => ?_⟩
    show u.2 ≤ x.2
    rcases List.mem_cons.mp hu with rfl | hu
    · exact Nat.le_refl _
    · have := StD.le h.2.2 u hu
      omega
theorem StD.mid : ∀ {pre : KL} {y : Nat × Nat} {l0 : KL} {b : Nat}, StD (pre ++ y :: l0) b → (∀ u ∈ pre, y.2 < u.2) ∧ (∀ u ∈ l0, u.2 ≤ topK l0) ∧ topK l0 < y.2 ∧ y.2 ≤ b
  | [], y, l0, b, h => by
    have h1 := h.1
    have h2 := h.2.1
    have h3 := (StD.top h.2.2)
    exact ⟨fun u hu => absurd hu (by simp), h3.2, by omega, h2⟩
  | x :: pre, y, l0, b, h => by
    have h1 : 0 < x.2 := h.1
    have h2 : x.2 ≤ b := h.2.1
    obtain ⟨k1, k2, k3, k4⟩ := StD.mid (pre := pre) h.2.2
    refine ⟨fun u hu => ?_, k2, k3, by omega⟩
    rcases List.mem_cons.mp hu with rfl | hu
    · omega
    · exact k1 u hu
section
variable {c : CX} {g : GH} {B : Nat} {F A T T' : Nat → Nat → Int32} {G : Nat → Option Nat} {X : Option Nat} {P : Nat → Int32} {q clk rt cu r k s0 V K tm z : Nat} {l : List Nat}
theorem kset (hok : c.ok) (hsm : Sm c F A P T) (hnd : l.Nodup) (hz : l.length ≤ 3000) (hl : LF l g.k T) (hkN : ∀ x ∈ l, g.k x < c.N) (hc : P 25 = nI clk) (hclk : clk < 2 ^ 31) {kl : KL} (hst : StD kl clk) (hpk : pile (A 226) kl) (h225 : F 225 1 = nI kl.length) (hlen : kl.length ≤ 3000) (hy : ∀ y ∈ kl, 0 < y.1 ∧ y.1 - 1 ∈ l ∧ c.kd (g.k (y.1 - 1)) = 19 ∧ T 244 (y.1 - 1) = nI y.2 ∧ TkP g B A G (y.1 - 1) ∧ T 238 (y.1 - 1) = nI (g.s (y.1 - 1)) ∧ ∃ e, T 239 (y.1 - 1) = nI e ∧ A 220 y.1 = nI e ∧ g.s (y.1 - 1) ≤ e ∧ e ≤ c.n) (hx : ∀ x ∈ l, c.kd (g.k x) = 19 → ∃ t, (x + 1, t) ∈ kl) : ∀ kl' : KL, kl' <:+ kl → ∃ F' A' T', (∀ (sc : xm_Sc) (d S : Nat) (Pz : Nat → Int32) (Tz : Nat → Nat → Int32) (Q : Option Value → xm_M → Prop), rn sc (d + 3) 50 2 [some (.ref (B + 214)), some (.int (nI 0))] [] (mk B S F A G X Pz Tz) Q = rn sc (d + 3) 50 2 [some (.ref (B + 214)), some (.int (nI kl'.length))] [] (mk B S F' A' G X Pz Tz) Q) ∧ KRun B l.length P T 1 T' (topK kl' + 1) ∧ Sm c F' A' P T' ∧ (∀ o k, 214 ≤ o → F' o k = F o k) ∧ (∀ o, 217 ≤ o → A' o = A o) ∧ (∀ o, 231 ≤ o → T' o = T o) := by
  have hN := hok.1
  have hit : ∀ t x, t < 2 ^ 31 → x ∈ l → Hit g.k T t x → (x + 1, t) ∈ kl := by
    intro t x ht hxl hh
    have h1 := hsm.2.1.kd (hkN x hxl)
    have h24 := (hok.2.2 _ (hkN x hxl)).1
    have h2 : c.kd (g.k x) = 19 := (nI_eq (b := 19) (by omega) (by decide)).mp (h1.symm.trans hh.1)
    obtain ⟨t', ht'⟩ := hx x hxl h2
    have h3 := (hy _ ht').2.2.2.1
    have h4 : T 244 x = nI t' := h3
    have h5 := (StD.le hst _ ht').2
    have h6 : t' < 2 ^ 31 := by
      have : t' ≤ clk := h5
      omega
    have := nI_r h6 ht (h4.symm.trans hh.2)
    rw [← this]
    exact ht'
  intro kl'
  induction kl' with
  | nil => intro _; exact ⟨F, A, T, fun _ _ _ _ _ _ => rfl, KRun.rf, hsm, fun _ _ _ => rfl, fun _ _ => rfl, fun _ _ => rfl⟩
  | cons y l0 ih =>
    intro hsuf
    obtain ⟨F1, A1, T1, c1, m1, s1, f1, a1, t1⟩ := ih ((List.suffix_cons y l0).trans hsuf)
    obtain ⟨pre, hpre⟩ := hsuf
    obtain ⟨i1, i2, i3, i4⟩ := StD.mid (hpre ▸ hst)
    have hykl : y ∈ kl := by rw [← hpre]; simp
    obtain ⟨y1, y2, y3, y4, ⟨y5, y6, y7, y8⟩, y9, e, y10, y11, y12, y13⟩ := hy y hykl
    have hkx := hkN _ y2
    have hk64 : g.k (y.1 - 1) < 64 := by omega
    have hv8 := ((hok.2.2 _ hkx).2.2.2.2.1 (Or.inl y3)).2
    have hl1 : LF l g.k T1 := fun i x hi => by
      rw [t1 245 (by omega), t1 237 (by omega)]
      exact hl i x hi
    have hH1 : ∀ t x, Hit g.k T1 t x → Hit g.k T t x := fun t x hh => by
      unfold Hit at hh ⊢
      rw [t1 231 (by omega), t1 244 (by omega)] at hh
      exact hh
    have hno : ∀ t, topK l0 + 1 ≤ t → t < y.2 → ∀ x ∈ l, ¬ Hit g.k T1 t x := by
      intro t h1 h2 x hxl hh
      have := hit t x (by omega) hxl (hH1 t x hh)
      rw [← hpre] at this
      rcases List.mem_append.mp this with h | h
      · have := i1 _ h
        simp only at this
        omega
      · rcases List.mem_cons.mp h with h | h
        · rw [← h] at h2
          simp only at h2
          omega
        · have := i2 _ h
          simp only at this
          omega
    have hskip := knos (B := B) hl1 hz hc hclk (y.2 - (topK l0 + 1)) (topK l0 + 1) (by omega) (fun t h1 h2 => hno t h1 (by omega))
    rw [show topK l0 + 1 + (y.2 - (topK l0 + 1)) = y.2 by omega] at hskip
    have hone : KRun B l.length P T1 y.2 (mvT T1 (c.b (g.k (y.1 - 1))) (g.s (y.1 - 1)) (e - g.s (y.1 - 1))) (y.2 + 1) := by
      refine kone (x := y.1 - 1) hl1 hz hnd hc i4 hclk s1.2.1.2.1 y2 ⟨?_, ?_⟩ (fun x hxl hne hh => ?_) ((s1.2.1.2.2 _ hkx).2.2.1) hv8 (by rw [t1 238 (by omega)]; exact y9) (by rw [t1 239 (by omega)]; exact y10) y12 y13
      · rw [s1.2.1.kd hkx, y3]; rfl
      · rw [t1 244 (by omega)]; exact y4
      · have := hit y.2 x (by omega) hxl (hH1 _ x hh)
        rw [← hpre] at this
        rcases List.mem_append.mp this with h | h
        · have := i1 _ h
          simp only at this
          omega
        · rcases List.mem_cons.mp h with h | h
          · have : x + 1 = y.1 := by rw [← h]
            omega
          · have := i2 _ h
            simp only at this
            omega
    have hpl : A 226 l0.length = nI y.1 := (hpk.suf ⟨pre, hpre⟩).1
    have hlt : l0.length < kl.length := by rw [← hpre]; simp; omega
    have hy3 : y.1 - 1 < 3000 := by
      obtain ⟨i, hi, hi2⟩ := List.mem_iff_getElem.mp y2
      have hix : l[i]? = some (y.1 - 1) := by rw [List.getElem?_eq_getElem hi, hi2]
      exact (hl i _ hix).2.1
    have e1 : y.1 - 1 + 1 = y.1 := by omega
    rw [e1] at y5 y6
    refine ⟨cvF F1 (c.b (g.k (y.1 - 1))) (e - g.s (y.1 - 1)), cvA A1 (c.b (g.k (y.1 - 1))) (g.s (y.1 - 1)) (e - g.s (y.1 - 1)), mvT T1 (c.b (g.k (y.1 - 1))) (g.s (y.1 - 1)) (e - g.s (y.1 - 1)), fun sc d S Pz Tz Q => ?_, (m1.tr hskip).tr hone, s1.set hok hv8 y12 y13, fun o k ho => ?_, fun o ho => ?_, fun o ho => ?_⟩
    · rw [c1 sc d S Pz Tz Q]
      exact c50_s s1.1.2.1 (by rw [f1 _ _ (by omega)]; exact h225) hlen hlt (by rw [a1 226 (by omega)]; exact hpl) (by omega) (by rw [a1 220 (by omega)]; exact y11) y5 hk64 (s1.1.2.2 _ hkx).2.2.1 hv8 (by rw [a1 219 (by omega)]; exact y6) y12 y13
    · rw [cvF, f2_n (by omega)]; exact f1 o k ho
    · rw [cvA, a2_n (by omega)]; exact a1 o ho
    · rw [mvT, a2_n (by omega), a2_n (by omega)]; exact t1 o ho
/-- keep and setKept -/
theorem keepOK (hok : c.ok) (hsm : Sm c F A P T) (hq : q ≤ 3000) (hR : Rows c g B A T G q clk rt rt) (hd : g.Dn rt) (hc : P 25 = nI clk) (hclk1 : clk + 1 < 2 ^ 31) (hpk : pile (A 226) (g.EK rt)) (h225 : F 225 1 = nI (g.EK rt).length) (h244 : ∀ x ∈ g.EK rt, 0 < x.1 ∧ T 244 (x.1 - 1) = nI x.2) : ∃ F' A' T', (∀ (sc : xm_Sc) (d S : Nat) (Pz : Nat → Int32) (Tz : Nat → Nat → Int32) (Q : Option Value → xm_M → Prop), rn sc (d + 3) 50 0 [some (.ref (B + 214)), none] [] (mk B S F A G X Pz Tz) Q = Q none (mk B S F' A' G X Pz Tz)) ∧ (∀ (sc : xm_Sc) (d S : Nat) (Fz Az : Nat → Nat → Int32) (Gz : Nat → Option Nat) (Xz : Option Nat) (Q : Option Value → xm_M → Prop), rn sc (d + 1) 81 0 [some (.ref (B + 227)), some (.int (nI rt)), none, none, none, none] [] (mk B S Fz Az Gz Xz P T) Q = Q none (mk B S Fz Az Gz Xz P T')) ∧ Sm c F' A' P T' ∧ (∀ o k, 214 ≤ o → F' o k = F o k) := by
  have hN := hok.1
  have hclk : clk < 2 ^ 31 := by omega
  have hn := hok.2.1
  have hrb : ∀ x, g.Dn x → x < 3000 := fun x hx => by have := (hR.2.1 x hx).2.1; omega
  have hb0 : BF g T rt [rt] 0 0 := ⟨by simp, fun x hx => by simp at hx; rw [hx]; exact hd, fun x hx => by simp at hx; exact Or.inl hx, fun i y z hi => absurd hi (by omega), by simp, fun x hx => by simp at hx; rw [hx]; exact fun y hy => hy, Nat.zero_le _⟩
  have hp0 : PL (upd (T 245) 0 (nI rt)) [rt] := by
    intro j x hj
    by_cases h : j = 0
    · subst h
      simp at hj
      subst hj
      simp [upd]
    · rw [List.getElem?_eq_none (by simp; omega)] at hj
      exact absurd hj (by simp)
  obtain ⟨l, f, r1, hb, hp, hz⟩ := bfs (P := P) hR hq 3001 [rt] 0 _ (by omega) hb0 hp0
  have ht : ∀ o, o ≠ 245 → a2 T 245 f o = T o := fun o ho => a2_n ho
  have hsm1 : Sm c F A P (a2 T 245 f) := hsm.kp hok kpC.rf ⟨rfl, ⟨rfl, rfl, rfl, rfl, rfl⟩, fun o _ h2 => a2_n (by omega)⟩
  have hlf : LF l g.k (a2 T 245 f) := fun i x hi => by
    have hx := hb.2.1 x (List.mem_of_getElem? hi)
    obtain ⟨-, h1, ⟨h2, h3, -⟩, -⟩ := hR.2.1 x hx
    exact ⟨by rw [a2_s]; exact hp i x hi, by omega, by rw [ht 237 (by decide)]; exact h2, by omega⟩
  obtain ⟨-, -, -, -, e0, -, -, -, -, -, -, k7, -, k9, -, -⟩ := hR.2.1 rt hd
  have hBK : g.BK rt = [] := hR.2.2.2.2.2.2.2.1
  obtain ⟨F', A', T', c1, m1, s1, f1, a1, t1⟩ := kset (X := X) (kl := g.EK rt) hok hsm1 hb.1 hz hlf (fun x hx => (hR.2.1 x (hb.2.1 x hx)).2.2.1.2.1) hc hclk k9 hpk h225 (by omega) (fun y hy => by
    rcases hb.cl hR hq 3000 rt (by omega) hb.2.2.2.2.1 y hy with h | ⟨h1, h2, h3⟩
    · rw [hBK] at h
      exact absurd h (by simp)
    · have hdr := hb.2.1 _ h2
      obtain ⟨-, -, ⟨u1, u2, u3, -⟩, u4, e, v1, v2, v3, v4, -, -, -, -, -, -, v5⟩ := hR.2.1 _ hdr
      refine ⟨h1, h2, h3, by rw [ht 244 (by decide)]; exact (h244 y hy).2, u4, by rw [ht 238 (by decide)]; exact u3, e, by rw [ht 239 (by decide)]; exact v2, ?_, v3, v4⟩
      have e1 : y.1 - 1 + 1 = y.1 := by omega
      rcases v5 with z | ⟨z, -⟩ | ⟨z, -⟩ | ⟨z, a, t, -, -, -, -, -, -, w⟩ | ⟨z, -⟩ | ⟨z, -⟩ | ⟨z, -⟩
      · omega
      · omega
      · omega
      · rw [e1] at w; exact w
      · omega
      · omega
      · omega) (fun x hx h19 => by
    rcases hR.ch hq (hb.2.1 x hx) with ⟨-, -, -, h⟩ | ⟨a, -, -, -, -, -, -, ⟨h, -⟩ | ⟨-, t, h⟩⟩ | ⟨a, b, -, -, -, -, -, -, -, -, -, -, -, h⟩
    · exact absurd h19 h
    · exact absurd h19 h
    · exact ⟨t, hb.2.2.2.2.2.1 x hx _ (by rw [h]; simp)⟩
    · exact absurd h19 h) (g.EK rt) (List.suffix_refl _)
  have htop := k9.top
  have hl1 : LF l g.k T' := fun i x hi => by
    rw [t1 245 (by omega), t1 237 (by omega)]
    exact hlf i x hi
  have hend := knos (B := B) hl1 hz hc hclk (clk - topK (g.EK rt)) (topK (g.EK rt) + 1) (by omega) (fun t h1 h2 x hxl hh => by
    have hd' := hb.2.1 x hxl
    obtain ⟨-, -, ⟨u1, u2, u3, -⟩, -⟩ := hR.2.1 _ hd'
    have h24 := (hok.2.2 _ u2).1
    have hk19 : c.kd (g.k x) = 19 := (nI_eq (b := 19) (by omega) (by decide)).mp ((s1.2.1.kd u2).symm.trans hh.1)
    have hmem : ∃ t, (x + 1, t) ∈ g.EK rt := by
      rcases hR.ch hq hd' with ⟨-, -, -, h⟩ | ⟨a, -, -, -, -, -, -, ⟨h, -⟩ | ⟨-, t, h⟩⟩ | ⟨a, b, -, -, -, -, -, -, -, -, -, -, -, h⟩
      · exact absurd hk19 h
      · exact absurd hk19 h
      · exact ⟨t, hb.2.2.2.2.2.1 x hxl _ (by rw [h]; simp)⟩
      · exact absurd hk19 h
    obtain ⟨t', ht'⟩ := hmem
    have h3 := htop.2 _ ht'
    have h4 := (k9.le _ ht').2
    have h5 : T 244 x = nI t' := (h244 _ ht').2
    have h6 := hh.2
    rw [t1 244 (by omega), ht 244 (by decide), h5] at h6
    simp only at h3 h4
    have := nI_r (by omega) (by omega) h6
    omega)
  refine ⟨F', A', T', fun sc d S Pz Tz Q => ?_, fun sc d S Fz Az Gz Xz Q => ?_, s1, f1⟩
  · rw [c50, c1 sc d S Pz Tz Q]
    exact c50_e (by rw [f1 _ _ (by omega)]; exact h225) (by omega)
  · obtain ⟨l4, e1⟩ := r1 sc (d + 1) S Fz Az Gz Xz Q (some (.int (nI rt))) none none
    obtain ⟨l5, l6, e2⟩ := (m1.tr hend) sc d S Fz Az Gz Xz Q (some (.int (nI rt))) l4 none
    rw [c81]
    refine e1.trans (e2.trans ?_)
    rw [show topK (g.EK rt) + 1 + (clk - topK (g.EK rt)) = clk + 1 by omega]
    exact c81_r hc (Nat.lt_succ_self _) hclk1
end
