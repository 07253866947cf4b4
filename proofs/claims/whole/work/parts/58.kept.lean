/-! the kept parts are set on both sides -/
section
variable {c : CX} {g : GH} {B : Nat} {F A T T' : Nat → Nat → Int32} {G : Nat → Option Nat} {X : Option Nat} {P : Nat → Int32} {q clk rt cu r k s0 V K tm z : Nat} {l : List Nat} {kk : Nat → Nat}
theorem BF.cl (hb : BF g T rt l l.length l.length) (hR : Rows c g B A T G q clk rt rt) (hq : q ≤ 3000) (m : Nat) : ∀ x, 3000 ≤ x + m → x ∈ l → ∀ y ∈ g.EK x, y ∈ g.BK x ∨ (0 < y.1 ∧ y.1 - 1 ∈ l ∧ c.kd (g.k (y.1 - 1)) = 19) := by
  have hrb : ∀ x, g.Dn x → x < 3000 := fun x hx => by have := (hR.2.1 x hx).2.1; omega
  induction m with
  | zero =>
    intro x hx hm
    have := hrb x (hb.2.1 x hm)
    omega
  | succ m ih =>
    intro x hx hm y hy
    have hd := hb.2.1 x hm
    obtain ⟨i, hi, hi2⟩ := List.mem_iff_getElem.mp hm
    have hix : l[i]? = some x := by rw [List.getElem?_eq_getElem hi, hi2]
    have hcl : ∀ z, z < 3000 → (T 241 x = nI z ∨ T 242 x = nI z) → z ∈ l := fun z hz hh => hb.2.2.2.1 i x z hi hix hz hh
    rcases hR.ch hq hd with ⟨h1, h2, h3, h4⟩ | ⟨a, h1, h2, h3, h4, h5, h6, h7⟩ | ⟨a, b, h1, h2, h3, h4, h5, h6, h7, h8, h9, h10, h11, h12⟩
    · rw [h3] at hy
      exact Or.inl hy
    · have hal := hcl a (hrb a h3) (Or.inl h1)
      have hia := ih a (by omega) hal
      rw [h6] at hia
      rcases h7 with ⟨-, h7⟩ | ⟨h19, t, h7⟩
      · rw [h7] at hy
        exact hia y hy
      · rw [h7] at hy
        rcases List.mem_cons.mp hy with rfl | hy
        · exact Or.inr ⟨by simp, by simpa using hm, by simpa using h19⟩
        · exact hia y hy
    · have hal := hcl a (hrb a h3) (Or.inl h1)
      have hbl := hcl b (hrb b h4) (Or.inr h2)
      rw [h11] at hy
      rcases ih b (by omega) hbl y hy with h | h
      · rw [h10] at h
        rcases ih a (by omega) hal y h with h | h
        · rw [h9] at h
          exact Or.inl h
        · exact Or.inr h
      · exact Or.inr h
/-- what the model's second loops look at: the rows of l -/
def LF (l : List Nat) (kk : Nat → Nat) (T : Nat → Nat → Int32) : Prop := ∀ i x, l[i]? = some x → T 245 i = nI x ∧ x < 3000 ∧ T 237 x = nI (kk x) ∧ kk x < 64
def Hit (kk : Nat → Nat) (T : Nat → Nat → Int32) (tm x : Nat) : Prop := T 231 (kk x) = 19 ∧ T 244 x = nI tm
theorem isk (hl : LF l kk T) (hz : l.length ≤ 3000) {j : Nat} (hj : j ≤ l.length) (m : Nat) : ∀ i, i + m = j → (∀ i' x, i ≤ i' → i' < j → l[i']? = some x → ¬ Hit kk T tm x) → ∀ (sc : xm_Sc) (d S : Nat) (F A : Nat → Nat → Int32) (G : Nat → Option Nat) (X : Option Nat) (Q : Option Value → xm_M → Prop) (l1 l5 : Option Value), ∃ l5', rn sc (d + 1) 81 97 [some (.ref (B + 227)), l1, some (.int (nI l.length)), some (.int (nI tm)), some (.int (nI i)), l5] [] (mk B S F A G X P T) Q = rn sc (d + 1) 81 97 [some (.ref (B + 227)), l1, some (.int (nI l.length)), some (.int (nI tm)), some (.int (nI j)), l5'] [] (mk B S F A G X P T) Q := by
  induction m with
  | zero =>
    intro i hi _ sc d S F A G X Q l1 l5
    have : i = j := by omega
    subst this
    exact ⟨l5, rfl⟩
  | succ m ih =>
    intro i hi hh sc d S F A G X Q l1 l5
    have hil : i < l.length := by omega
    have hx : l[i]? = some l[i] := List.getElem?_eq_getElem hil
    generalize l[i] = x at hx
    obtain ⟨a1, a2, a3, a4⟩ := hl i x hx
    obtain ⟨l5', e⟩ := ih (i + 1) (by omega) (fun i' x h1 h2 => hh i' x (by omega) h2) sc d S F A G X Q l1 (some (.int (nI x)))
    exact ⟨l5', (c81_n hz hil a1 a2 a3 a4 (hh i x (Nat.le_refl _) (by omega) hx)).trans e⟩
/-- the model's times from tm on -/
def KRun (B z : Nat) (P : Nat → Int32) (T : Nat → Nat → Int32) (tm : Nat) (T' : Nat → Nat → Int32) (tm' : Nat) : Prop :=
  ∀ (sc : xm_Sc) (d S : Nat) (F A : Nat → Nat → Int32) (G : Nat → Option Nat) (X : Option Nat) (Q : Option Value → xm_M → Prop) (l1 l4 l5 : Option Value), ∃ l4' l5', rn sc (d + 1) 81 86 [some (.ref (B + 227)), l1, some (.int (nI z)), some (.int (nI tm)), l4, l5] [] (mk B S F A G X P T) Q = rn sc (d + 1) 81 86 [some (.ref (B + 227)), l1, some (.int (nI z)), some (.int (nI tm')), l4', l5'] [] (mk B S F A G X P T') Q
theorem KRun.rf : KRun B z P T tm T tm := fun _ _ _ _ _ _ _ _ _ l4 l5 => ⟨l4, l5, rfl⟩
theorem KRun.tr {T'' : Nat → Nat → Int32} {tm' tm'' : Nat} (h : KRun B z P T tm T' tm') (h' : KRun B z P T' tm' T'' tm'') : KRun B z P T tm T'' tm'' := fun sc d S F A G X Q l1 l4 l5 => by
  obtain ⟨a, b, e⟩ := h sc d S F A G X Q l1 l4 l5
  obtain ⟨a', b', e'⟩ := h' sc d S F A G X Q l1 a b
  exact ⟨a', b', e.trans e'⟩
/-- a time at which nothing was kept -/
theorem kno (hl : LF l kk T) (hz : l.length ≤ 3000) (hc : P 25 = nI clk) (ht : tm ≤ clk) (hk : clk < 2 ^ 31) (hh : ∀ x ∈ l, ¬ Hit kk T tm x) : KRun B l.length P T tm T (tm + 1) := fun sc d S F A G X Q l1 l4 l5 => by
  obtain ⟨l5', e⟩ := isk (B := B) (P := P) (tm := tm) hl hz (Nat.le_refl _) l.length 0 (by omega) (fun i' x _ _ hx => hh x (List.mem_of_getElem? hx)) sc d S F A G X Q l1 l5
  exact ⟨_, _, (c81_t hc ht hk).trans (e.trans (c81_x (by omega)))⟩
theorem knos (hl : LF l kk T) (hz : l.length ≤ 3000) (hc : P 25 = nI clk) (hk : clk < 2 ^ 31) (m : Nat) : ∀ tm, tm + m ≤ clk + 1 → (∀ t, tm ≤ t → t < tm + m → ∀ x ∈ l, ¬ Hit kk T t x) → KRun B l.length P T tm T (tm + m) := by
  induction m with
  | zero => intro tm _ _; exact KRun.rf
  | succ m ih =>
    intro tm h1 h2
    have := (kno (B := B) hl hz hc (show tm ≤ clk by omega) hk (h2 tm (Nat.le_refl _) (by omega))).tr (ih (tm + 1) (by omega) (fun t a b => h2 t (by omega) (by omega)))
    rwa [show tm + 1 + m = tm + (m + 1) by omega] at this
/-- a time at which one part was kept -/
theorem kone {n s0 e0 v x : Nat} {s : Nat → Nat} (hl : LF l kk T) (hz : l.length ≤ 3000) (hnd : l.Nodup) (hc : P 25 = nI clk) (ht : tm ≤ clk) (hk : clk < 2 ^ 31) (hs : mSub P T n s) (hx : x ∈ l) (hh : Hit kk T tm x) (ho : ∀ y ∈ l, y ≠ x → ¬ Hit kk T tm y) (hv : T 233 (kk x) = nI v) (hv2 : v < 8) (h4 : T 238 x = nI s0) (h5 : T 239 x = nI e0) (h6 : s0 ≤ e0) (h7 : e0 ≤ n) : KRun B l.length P T tm (mvT T v s0 (e0 - s0)) (tm + 1) := fun sc d S F A G X Q l1 l4 l5 => by
  obtain ⟨i, hi, hi2⟩ := List.mem_iff_getElem.mp hx
  have hix : l[i]? = some x := by rw [List.getElem?_eq_getElem hi, hi2]
  obtain ⟨a1, a2, a3, a4⟩ := hl i x hix
  have hne : ∀ i' y, i' ≠ i → l[i']? = some y → y ≠ x := by
    intro i' y h1 h2 h3
    subst h3
    have hil : i' < l.length := by
      by_cases z : i' < l.length
      · exact z
      · rw [List.getElem?_eq_none (by omega)] at h2
        exact absurd h2 (by simp)
    exact h1 ((List.getElem?_inj hil hnd).mp (h2.trans hix.symm))
  have hmv : ∀ o, 231 ≤ o → mvT T v s0 (e0 - s0) o = T o := fun o ho => by rw [mvT, a2_n (by omega), a2_n (by omega)]
  have hl' : LF l kk (mvT T v s0 (e0 - s0)) := fun j y hy => by
    rw [hmv 245 (by omega), hmv 237 (by omega)]
    exact hl j y hy
  have hH : ∀ y, Hit kk (mvT T v s0 (e0 - s0)) tm y → Hit kk T tm y := fun y hy => by
    unfold Hit at hy ⊢
    rw [hmv 231 (by omega), hmv 244 (by omega)] at hy
    exact hy
  obtain ⟨l5', e1⟩ := isk (B := B) (P := P) (tm := tm) hl hz (Nat.le_of_lt hi) i 0 (by omega) (fun i' y _ h2 h3 => ho y (List.mem_of_getElem? h3) (hne i' y (by omega) h3)) sc d S F A G X Q l1 l5
  obtain ⟨l6', e2⟩ := isk (B := B) (P := P) (tm := tm) hl' hz (Nat.le_refl _) (l.length - (i + 1)) (i + 1) (by omega) (fun i' y h1 h2 h3 h4 => ho y (List.mem_of_getElem? h3) (hne i' y (by omega) h3) (hH y h4)) sc d S F A G X Q l1 (some (.int (nI x)))
  exact ⟨_, _, (c81_t hc ht hk).trans (e1.trans ((c81_h hs hz hi a1 a2 a3 a4 hh.1 hh.2 hv hv2 h4 h5 h6 h7).trans (e2.trans (c81_x (by omega)))))⟩
end
