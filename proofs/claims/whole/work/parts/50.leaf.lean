/-! where leaves end; brackets -/
theorem lf_run_le (f : Nat → Bool) : ∀ m i, i ≤ lf_run f m i ∧ lf_run f m i ≤ i + m := by
  intro m
  induction m with
  | zero => intro i; simp [lf_run]
  | succ m ih =>
    intro i
    simp only [lf_run]
    split
    · have := ih (i + 1)
      omega
    · omega
theorem lf_bal_le {s : Nat → Nat} {af : Nat} : ∀ {m p dp e : Nat}, lf_bal s af m p dp = some e → p < e ∧ e ≤ p + m := by
  intro m
  induction m with
  | zero => intro p dp e h; simp [lf_bal] at h
  | succ m ih =>
    intro p dp e h
    simp only [lf_bal] at h
    generalize (if s p = 40 then dp + 1 else if s p = 41 then dp - 1 else dp) = dq at h
    split at h
    · exact absurd h (by simp)
    · split at h
      · injection h with h
        omega
      · have := ih h
        omega
theorem lf_bal_on {s : Nat → Nat} {af af' : Nat} : ∀ {m p dp e : Nat}, lf_bal s af m p dp = some e → e ≤ af' → lf_bal s af' m p dp = lf_bal s af' (p + m - e) e 0 := by
  intro m
  induction m with
  | zero => intro p dp e h; simp [lf_bal] at h
  | succ m ih =>
    intro p dp e h hf
    have hle := lf_bal_le h
    simp only [lf_bal] at h ⊢
    generalize (if s p = 40 then dp + 1 else if s p = 41 then dp - 1 else dp) = dq at h ⊢
    split at h
    · exact absurd h (by simp)
    · rename_i h1
      rw [if_neg h1, if_neg (by omega)]
      split at h
      · rename_i h2
        injection h with h
        subst h
        rw [h2.1, show p + (m + 1) - (p + 1) = m by omega]
      · rw [ih h hf, show p + 1 + m - e = p + (m + 1) - e by omega]
theorem BalOK.ini {c : CX} {p e : Nat} (hp : p ≤ c.n) (h : lf_bal c.s p (c.n - p) p 0 = some e) : BalOK c p e := fun af hf => by
  rw [lf_bal_on h hf, show p + (c.n - p) - e = c.n - e by omega]
theorem BalOK.nxt {c : CX} {p e e' : Nat} (hb : BalOK c p e) (hp : e ≤ c.n) (h : lf_bal c.s e (c.n - e) e 0 = some e') : BalOK c p e' := fun af hf => by
  have := lf_bal_le h
  rw [hb af (by omega), lf_bal_on h hf, show e + (c.n - e) - e' = c.n - e' by omega]
theorem lf_le {kd a n c tn vn e : Nat} {s tf vf : Nat → Nat} (hc : c ≤ n) (hk : kd < 11 ∨ kd = 13 ∨ kd = 22) (h : lf kd a n c s tn tf vn vf = some e) : c ≤ e ∧ e ≤ n := by
  have r1 := lf_run_le (fun i => lf_in tf (s i) tn 0) (n - c) c
  have r2 := lf_run_le (fun i => !lf_in tf (s i) tn 0) (n - c) c
  have hk : kd = 0 ∨ kd = 1 ∨ kd = 2 ∨ kd = 3 ∨ kd = 4 ∨ kd = 5 ∨ kd = 6 ∨ kd = 7 ∨ kd = 8 ∨ kd = 9 ∨ kd = 10 ∨ kd = 13 ∨ kd = 22 := by omega
  rcases hk with rfl | rfl | rfl | rfl | rfl | rfl | rfl | rfl | rfl | rfl | rfl | rfl | rfl
  all_goals try simp [lf] at h
  all_goals omega
section
variable {c : CX} {g g' : GH} {B : Nat} {F A F' A' T T' T0 T2 : Nat → Nat → Int32} {G G' : Nat → Option Nat} {X X' : Option Nat} {P P' P0 : Nat → Int32} {L : SL} {kl : KL} {q q' clk clk' rt cu cu' r p e k s w o o1 V K l : Nat} {es : SL} {ek : KL}
/-- a node without parts succeeds at e: with a choice, or without -/
theorem lfOK (hb : Bs c g B rt q clk r (g.BS r) (g.BK r) F A G P T) (hrq : r < q) (ho : g.On r) (h1 : T 241 r = -1) (h2 : T 242 r = -1) (hsm : Sm c F' A' P' T') (hse : g.s r ≤ e) (hen : e ≤ c.n) (hes : (es = g.BS r ∧ A' 224 = A 224 ∧ F' 223 1 = F 223 1 ∧ (c.kd (g.k r) < 11 ∨ c.kd (g.k r) = 13 ∨ c.kd (g.k r) = 21 ∨ c.kd (g.k r) = 22)) ∨ (es = (r + 1, g.BK r) :: g.BS r ∧ pile (A' 224) es ∧ F' 223 1 = nI es.length ∧ A' 220 (r + 1) = nI e ∧ (c.kd (g.k r) = 16 ∨ c.kd (g.k r) = 11 ∨ (c.kd (g.k r) = 12 ∧ BalOK c (g.s r) e) ∨ c.kd (g.k r) = 14))) (hA : ∀ o j, (o ≠ 220 ∨ j ≠ r + 1) → 219 ≤ o → o ≤ 222 → A' o j = A o j) (h226 : A' 226 = A 226) (h225 : F' 225 1 = F 225 1) (h217 : F' 217 5 = F 217 5) (f7 : F' 214 7 = F 214 7) (f6 : F' 214 6 = nI e) (f8 : F' 214 8 = 1) (f10 : F' 214 10 = nI (g.w r)) (hT : ∀ x, x ≠ r → agT T T' x) (hTc : ∀ o, 237 ≤ o → o ≤ 243 → o ≠ 239 → T' o r = T o r) (h239 : T' 239 r = nI e) (h244 : T' 244 = T 244) (p28 : P' 28 = P 28) (p29 : P' 29 = P 29) (p25 : P' 25 = P 25) (p26 : P' 26 = P 26) (p14 : P' 14 = nI q) (p27 : P' 27 = 2) : SG c (gSuc g r es (g.BK r)) B rt q clk r e F' A' G P' T' := by
  obtain ⟨hok, hsm0, hR, hq, h7, h28, h29, h25, h26, h5, hpL, hpk, h244', hKO, hDec⟩ := id hb
  obtain ⟨hnd, -, -, ⟨l1, l2, l3, l4, l5, l6, l7, l8, l9, l10⟩, -⟩ := hR.1 r ho
  have a6 : (gSuc g r es (g.BK r)).ES r = es := up_s
  have a8 : (gSuc g r es (g.BK r)).EK r = g.BK r := up_s
  have hT1 : T' 241 r = -1 := (hTc 241 (by omega) (by omega) (by omega)).trans h1
  have hT2 : T' 242 r = -1 := (hTc 242 (by omega) (by omega) (by omega)).trans h2
  have hde : Dec es q ∧ KOK es (g.BK r) ∧ pile (A' 224) es ∧ F' 223 1 = nI es.length := by
    rcases hes with ⟨rfl, e1, e2, -⟩ | ⟨rfl, e1, e2, -⟩
    · exact ⟨l5.mono (by omega), l6, by rw [e1]; exact hpL.1, by rw [e2]; exact hpL.2⟩
    · exact ⟨⟨Nat.succ_pos _, hrq, l5⟩, ⟨List.suffix_refl _, l6⟩, e1, e2⟩
  have hR' : Rows c (gSuc g r es (g.BK r)) B A' T' G q clk rt r := by
    refine hR.suc ho hrq (Nat.le_refl _) hT hTc hA (e := e) ?_
    refine ⟨hrq, h239, hse, hen, by rw [a6]; exact hde.1, by rw [a6, a8]; exact hde.2.1, by rw [a8]; show (g.BK r).length + g.o r ≤ q; omega, by rw [a8]; exact fun x hx => Or.inl hx, by rw [a8]; exact l9, by rw [a8]; exact List.suffix_refl _, ?_⟩
    rw [a6, a8]
    rcases hes with ⟨e0, -, -, e3⟩ | ⟨e0, -, -, e3, e4⟩
    · exact Or.inr (Or.inr (Or.inr (Or.inr (Or.inr (Or.inr ⟨e3, e0, rfl, hT1, hT2⟩)))))
    · rcases e4 with e4 | e4 | e4 | e4
      · exact Or.inl ⟨e4, hT1, hT2, e0, rfl⟩
      · exact Or.inr (Or.inr (Or.inr (Or.inr (Or.inl ⟨Or.inl e4, e0, rfl, e3, hT1, hT2⟩))))
      · exact Or.inr (Or.inr (Or.inr (Or.inr (Or.inl ⟨Or.inr e4, e0, rfl, e3, hT1, hT2⟩))))
      · exact Or.inr (Or.inr (Or.inr (Or.inr (Or.inr (Or.inl ⟨e4, e0, rfl, hT1, hT2⟩)))))
  refine ⟨⟨hok, hsm, hR', hq, f7.trans h7, p28.trans h28, p29.trans h29, p25.trans h25, p26.trans h26, h217.trans h5, ⟨by rw [a6]; exact hde.2.2.1, by rw [a6]; exact hde.2.2.2⟩, ⟨by rw [a8, h226]; exact hpk.1, by rw [a8, h225]; exact hpk.2⟩, by rw [a8, h244]; exact h244', by rw [a6, a8]; exact hde.2.1, by rw [a6]; exact hde.1⟩, Or.inr rfl, f8, f6, h239, f10, p14, p27⟩
/-- a row fails: both go back from it -/
theorem lfNo (hb : Bs c g B rt q clk r (g.BS r) (g.BK r) F A G P T) (hrq : r < q) (ho : g.On r) (hk : kpC F A F' A) (h225 : F' 225 1 = F 225 1) (h223 : F' 223 1 = F 223 1) (h217 : F' 217 5 = F 217 5) (f7 : F' 214 7 = F 214 7) (f8 : F' 214 8 = 2) (p14 : P 14 = nI q) : SK c g B rt q clk r (g.BS r) (g.BK r) F' A G (rsP P (-1)) (rsT T r (-1)) := by
  obtain ⟨hok, hsm0, hR, hq, h7, h28, h29, h25, h26, h5, hpL, hpk, h244', hKO, hDec⟩ := id hb
  have hR' : Rows c g B A (rsT T r (-1)) G q clk rt r := hR.t239 (x := r) (hR.1 r ho).1 (fun x hx => t239_a x hx) t239_b
  exact ⟨⟨hok, hsm0.kp hok hk kpR.rs, hR', hq, f7.trans h7, by simp [rsP, p1, h28], by simp [rsP, p1, h29], by simp [rsP, p1, h25], by simp [rsP, p1, h26], h217.trans h5, ⟨hpL.1, h223.trans hpL.2⟩, ⟨hpk.1, h225.trans hpk.2⟩, by simpa [rsT, a2] using h244', hKO, hDec⟩, f8, by simp [rsP, p1, p14], hrq, Or.inr ⟨by simp [rsP, p1], ho, rfl⟩⟩
end
