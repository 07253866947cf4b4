/-! keep: which rows it gathers -/
theorem nodup_le : ∀ (q : Nat) (l : List Nat), l.Nodup → (∀ x ∈ l, x < q) → l.length ≤ q := by
  intro q
  induction q with
  | zero =>
    intro l _ h
    cases l with
    | nil => simp
    | cons x l => exact absurd (h x (by simp)) (by omega)
  | succ q ih =>
    intro l hn h
    by_cases hq : q ∈ l
    · have h1 := ih (l.erase q) (hn.erase q) (fun x hx => by
        have h2 := (hn.mem_erase_iff).mp hx
        have h3 := h x h2.2
        have h4 := h2.1
        omega)
      have h2 := List.length_erase_of_mem hq
      have h3 := List.length_pos_of_mem hq
      omega
    · have := ih l hn (fun x hx => by
        have h1 := h x hx
        have h2 : x ≠ q := fun z => hq (z ▸ hx)
        omega)
      omega
section
variable {c : CX} {g : GH} {B : Nat} {F A T T' : Nat → Nat → Int32} {G : Nat → Option Nat} {X : Option Nat} {P : Nat → Int32} {q clk rt cu r k s0 V K : Nat}
/-- a succeeded row's parts -/
theorem Rows.ch (hR : Rows c g B A T G q clk rt cu) (hq : q ≤ 3000) (hd : g.Dn r) :
    (T 241 r = -1 ∧ T 242 r = -1 ∧ g.EK r = g.BK r ∧ c.kd (g.k r) ≠ 19) ∨
    (∃ a, T 241 r = nI a ∧ T 242 r = -1 ∧ g.Dn a ∧ r < a ∧ T 240 a = nI r ∧ g.BK a = g.BK r ∧ ((c.kd (g.k r) ≠ 19 ∧ g.EK r = g.EK a) ∨ (c.kd (g.k r) = 19 ∧ ∃ t, g.EK r = (r + 1, t) :: g.EK a))) ∨
    (∃ a b, T 241 r = nI a ∧ T 242 r = nI b ∧ g.Dn a ∧ g.Dn b ∧ r < a ∧ a < b ∧ T 240 a = nI r ∧ T 240 b = nI r ∧ g.BK a = g.BK r ∧ g.BK b = g.EK a ∧ g.EK r = g.EK b ∧ c.kd (g.k r) ≠ 19) := by
  obtain ⟨-, hrq, -, -, e, -, -, -, -, -, -, -, -, -, -, h⟩ := hR.2.1 r hd
  rcases h with h | ⟨k1, b, k2, k3, k4, k5, k6, k7, k8, k9⟩ | ⟨k1, b, k2, k3, k6, k7, k8, k9⟩ | ⟨k1, b, t, k2, k3, k6, k7, k8, k9, k10⟩ | h | h | h
  · exact Or.inl ⟨h.2.1, h.2.2.1, h.2.2.2.2, by omega⟩
  · have hbq := (hR.2.1 b k6).2.1
    obtain ⟨p1, p2, -, p3⟩ := k3
    rcases p3 with p3 | ⟨u1, u2, u3, u4, a, d1, d2, d3, d4, d5, d6, d7, d8, d9, d10, d11, d12⟩ | p3 | p3 | p3 | p3
    · exact absurd p3.2.1 k4
    · exact Or.inr (Or.inr ⟨a, b, d4, k2, d5, k6, d1, d2, d3, p2, d8, d11, k8, by omega⟩)
    · omega
    · omega
    · omega
    · omega
  · obtain ⟨p1, p2, -, p3⟩ := k3
    refine Or.inr (Or.inl ⟨b, k2, ?_, k6, p1, p2, ?_, Or.inl ⟨by omega, k8⟩⟩)
    · rcases p3 with p3 | p3 | p3 | p3 | p3 | p3
      · omega
      · omega
      · exact p3.2.1.2
      · exact p3.2.1.2
      · exact p3.2.1.2
      · exact p3.2.1.2
    · rcases p3 with p3 | p3 | p3 | p3 | p3 | p3
      · omega
      · omega
      · exact p3.2.2.2.1
      · exact p3.2.2.2.2.1
      · exact p3.2.2.2.2.1
      · exact p3.2.2.2.2.1
  · obtain ⟨p1, p2, -, p3⟩ := k3
    refine Or.inr (Or.inl ⟨b, k2, ?_, k6, p1, p2, ?_, Or.inr ⟨k1, t, k8⟩⟩)
    · rcases p3 with p3 | p3 | p3 | p3 | p3 | p3
      · omega
      · omega
      · exact p3.2.1.2
      · exact p3.2.1.2
      · exact p3.2.1.2
      · exact p3.2.1.2
    · rcases p3 with p3 | p3 | p3 | p3 | p3 | p3
      · omega
      · omega
      · exact p3.2.2.2.1
      · exact p3.2.2.2.2.1
      · exact p3.2.2.2.2.1
      · exact p3.2.2.2.2.1
  · exact Or.inl ⟨h.2.2.2.2.1, h.2.2.2.2.2, h.2.2.1, by omega⟩
  · exact Or.inl ⟨h.2.2.2.1, h.2.2.2.2, h.2.2.1, by omega⟩
  · exact Or.inl ⟨h.2.2.2.1, h.2.2.2.2, h.2.2.1, by omega⟩
/-- what stands gathered: of the first n all parts are there, the upper row of each is among the first m -/
def BF (g : GH) (T : Nat → Nat → Int32) (rt : Nat) (l : List Nat) (n m : Nat) : Prop :=
  l.Nodup ∧ (∀ x ∈ l, g.Dn x) ∧ (∀ x ∈ l, x = rt ∨ ∃ i y, i < m ∧ l[i]? = some y ∧ T 240 x = nI y) ∧ (∀ i y z, i < n → l[i]? = some y → z < 3000 → (T 241 y = nI z ∨ T 242 y = nI z) → z ∈ l) ∧ rt ∈ l ∧ (∀ x ∈ l, ∀ y ∈ g.EK x, y ∈ g.EK rt) ∧ n ≤ l.length
def PL (f : Nat → Int32) (l : List Nat) : Prop := ∀ j x, l[j]? = some x → f j = nI x
theorem PL.push {f : Nat → Int32} {l : List Nat} {a : Nat} (h : PL f l) : PL (upd f l.length (nI a)) (l ++ [a]) := by
  intro j x hj
  by_cases h1 : j < l.length
  · rw [List.getElem?_append_left h1] at hj
    have h2 : ¬ j = l.length := by omega
    simp [upd, h2]
    exact h j x hj
  · rw [List.getElem?_append_right (by omega)] at hj
    have h2 : j - l.length = 0 := by
      by_cases h3 : j - l.length = 0
      · exact h3
      · rw [List.getElem?_eq_none (by simp; omega)] at hj
        exact absurd hj (by simp)
    have h3 : j = l.length := by omega
    subst h3
    simp at hj
    subst hj
    simp [upd]
theorem BF.more {l : List Nat} {n m a : Nat} (h : BF g T rt l n m) (ha : g.Dn a) (hna : a ∉ l) (hT : ∃ i y, i < m ∧ l[i]? = some y ∧ T 240 a = nI y) (hEK : ∀ y ∈ g.EK a, y ∈ g.EK rt) : BF g T rt (l ++ [a]) n m := by
  obtain ⟨h1, h2, h3, h4, h5, h6, h7⟩ := h
  have hg : ∀ i y, l[i]? = some y → (l ++ [a])[i]? = some y := fun i y hi => by
    have : i < l.length := by
      by_cases z : i < l.length
      · exact z
      · rw [List.getElem?_eq_none (by omega)] at hi
        exact absurd hi (by simp)
    rw [List.getElem?_append_left this]
    exact hi
  refine ⟨List.nodup_append.mpr ⟨h1, by simp, fun x hx y hy => ?_⟩, fun x hx => ?_, fun x hx => ?_, fun i y z hi hy hz hh => ?_, List.mem_append_left _ h5, fun x hx => ?_, by simp; omega⟩
  · simp at hy
    subst hy
    exact fun z => hna (z ▸ hx)
  · rcases List.mem_append.mp hx with hx | hx
    · exact h2 x hx
    · simp at hx
      subst hx
      exact ha
  · rcases List.mem_append.mp hx with hx | hx
    · exact (h3 x hx).imp id (fun ⟨i, y, a1, a2, a3⟩ => ⟨i, y, a1, hg i y a2, a3⟩)
    · simp at hx
      subst hx
      obtain ⟨i, y, a1, a2, a3⟩ := hT
      exact Or.inr ⟨i, y, a1, hg i y a2, a3⟩
  · have hil : i < l.length := by omega
    rw [List.getElem?_append_left hil] at hy
    exact List.mem_append_left _ (h4 i y z hi hy hz hh)
  · rcases List.mem_append.mp hx with hx | hx
    · exact h6 x hx
    · simp at hx
      subst hx
      exact hEK
/-- the next one's parts are all there -/
theorem BF.next {l : List Nat} {n r : Nat} (h : BF g T rt l n (n + 1)) (hr : l[n]? = some r) (hc : ∀ z, z < 3000 → (T 241 r = nI z ∨ T 242 r = nI z) → z ∈ l) : BF g T rt l (n + 1) (n + 1) := by
  obtain ⟨h1, h2, h3, h4, h5, h6, h7⟩ := h
  have hn : n < l.length := by
    by_cases z : n < l.length
    · exact z
    · rw [List.getElem?_eq_none (by omega)] at hr
      exact absurd hr (by simp)
  refine ⟨h1, h2, h3, fun i y z hi hy hz hh => ?_, h5, h6, hn⟩
  by_cases hin : i < n
  · exact h4 i y z hin hy hz hh
  · have : i = n := by omega
    subst this
    rw [hr] at hy
    injection hy with hy
    subst hy
    exact hc z hz hh
/-- a part of the one that is looked into is new -/
theorem BF.up {l : List Nat} {n : Nat} (h : BF g T rt l n n) : BF g T rt l n (n + 1) := ⟨h.1, h.2.1, fun x hx => (h.2.2.1 x hx).imp id (fun ⟨i, y, a1, a2, a3⟩ => ⟨i, y, by omega, a2, a3⟩), h.2.2.2⟩
theorem BF.new {l : List Nat} {n r a : Nat} (h : BF g T rt l n n) (hr : l[n]? = some r) (hrt : T 240 rt = -1) (ha : T 240 a = nI r) (hrb : ∀ x, g.Dn x → x < 3000) : a ∉ l := by
  obtain ⟨h1, h2, h3, h4, h5, h6, h7⟩ := h
  intro hm
  have hrl : r ∈ l := List.mem_of_getElem? hr
  have hr3 := hrb r (h2 r hrl)
  rcases h3 a hm with rfl | ⟨i, y, a1, a2, a3⟩
  · rw [hrt] at ha
    exact nI_m (by omega) ha.symm
  · have hy3 := hrb y (h2 y (List.mem_of_getElem? a2))
    have hry := nI_r (by omega) (by omega) (ha.symm.trans a3)
    subst hry
    have hn : n < l.length := by
      by_cases z : n < l.length
      · exact z
      · rw [List.getElem?_eq_none (by omega)] at hr
        exact absurd hr (by simp)
    have := (List.getElem?_inj (show i < l.length by omega) h1).mp (a2.trans hr.symm)
    omega
theorem bfs (hR : Rows c g B A T G q clk rt rt) (hq : q ≤ 3000) (m : Nat) : ∀ (l : List Nat) (n : Nat) (f : Nat → Int32), n + m = 3001 → BF g T rt l n n → PL f l → ∃ l' f', (∀ (sc : xm_Sc) (d S : Nat) (F A : Nat → Nat → Int32) (G : Nat → Option Nat) (X : Option Nat) (Q : Option Value → xm_M → Prop) (l1 l4 l5 : Option Value), ∃ l4', rn sc d 81 11 [some (.ref (B + 227)), l1, some (.int (nI l.length)), some (.int (nI n)), l4, l5] [] (mk B S F A G X P (a2 T 245 f)) Q = rn sc d 81 86 [some (.ref (B + 227)), l1, some (.int (nI l'.length)), some (.int (nI 1)), l4', l5] [] (mk B S F A G X P (a2 T 245 f')) Q) ∧ BF g T rt l' l'.length l'.length ∧ PL f' l' ∧ l'.length ≤ 3000 := by
  have hrb : ∀ x, g.Dn x → x < 3000 := fun x hx => by have := (hR.2.1 x hx).2.1; omega
  have hle : ∀ {l n m}, BF g T rt l n m → l.length ≤ 3000 := fun hb => nodup_le 3000 _ hb.1 (fun x hx => hrb x (hb.2.1 x hx))
  have hrt := hR.2.2.2.2.1
  induction m with
  | zero =>
    intro l n f hm hb hp
    have := hle hb
    have := hb.2.2.2.2.2.2
    omega
  | succ m ih =>
    intro l n f hm hb hp
    have hl := hle hb
    have hnl := hb.2.2.2.2.2.2
    by_cases hn : n = l.length
    · subst hn
      exact ⟨l, f, fun sc d S F A G X Q l1 l4 l5 => ⟨l4, c81_e (by omega)⟩, hb, hp, hl⟩
    · have hn : n < l.length := by omega
      have hr : l[n]? = some l[n] := List.getElem?_eq_getElem hn
      generalize l[n] = r at hr
      have hrl : r ∈ l := List.mem_of_getElem? hr
      have hd := hb.2.1 r hrl
      have hr3 := hrb r hd
      have hfr : (a2 T 245 f) 245 n = nI r := by rw [a2_s]; exact hp n r hr
      have f1 : (a2 T 245 f) 241 r = T 241 r := by rw [a2_n (by decide)]
      have f2 : (a2 T 245 f) 242 r = T 242 r := by rw [a2_n (by decide)]
      have hsub := hb.2.2.2.2.2.1 r hrl
      rcases hR.ch hq hd with ⟨h1, h2, h3⟩ | ⟨a, h1, h2, h3, h4, h5, h6, h7⟩ | ⟨a, b, h1, h2, h3, h4, h5, h6, h7, h8, h9, h10, h11, h12⟩
      · have hb' := hb.up.next hr (fun z hz hh => by
          rw [h1, h2] at hh
          rcases hh with hh | hh <;> exact absurd hh.symm (nI_m (by omega)))
        obtain ⟨l', f', q1, q2⟩ := ih l (n + 1) f (by omega) hb' hp
        refine ⟨l', f', fun sc d S F A G X Q l1 l4 l5 => ?_, q2⟩
        obtain ⟨l4', e4⟩ := q1 sc d S F A G X Q l1 (some (.int (nI r))) l5
        exact ⟨l4', (c81_00 hl hn hfr hr3 (f1.trans h1) (f2.trans h2)).trans e4⟩
      · have ha3 := hrb a h3
        have hEa : ∀ y ∈ g.EK a, y ∈ g.EK r := by
          rcases h7 with ⟨-, h7⟩ | ⟨-, t, h7⟩
          · rw [h7]; exact fun y hy => hy
          · rw [h7]; exact fun y hy => List.mem_cons_of_mem _ hy
        have hna := hb.new hr hrt h5 hrb
        have hb1 := hb.up.more h3 hna ⟨n, r, Nat.lt_succ_self _, hr, h5⟩ (fun y hy => hsub y (hEa y hy))
        have hr' : (l ++ [a])[n]? = some r := by rw [List.getElem?_append_left hn]; exact hr
        have hb' := hb1.next hr' (fun z hz hh => by
          rw [h1, h2] at hh
          rcases hh with hh | hh
          · have := nI_r (by omega) (by omega) hh
            subst this
            simp
          · exact absurd hh.symm (nI_m (by omega)))
        have hl1 := hle hb1
        simp at hl1
        obtain ⟨l', f', q1, q2⟩ := ih (l ++ [a]) (n + 1) _ (by omega) hb' hp.push
        refine ⟨l', f', fun sc d S F A G X Q l1 l4 l5 => ?_, q2⟩
        obtain ⟨l4', e4⟩ := q1 sc d S F A G X Q l1 (some (.int (nI r))) l5
        refine ⟨l4', Eq.trans ?_ e4⟩
        rw [c81_10 (by omega) hn hfr hr3 (f1.trans h1) ha3 (f2.trans h2), a2_a2, a2_s]
        simp
      · have ha3 := hrb a h3
        have hb3 := hrb b h4
        have hEb : ∀ y ∈ g.EK b, y ∈ g.EK r := by rw [h11]; exact fun y hy => hy
        have hEa : ∀ y ∈ g.EK a, y ∈ g.EK r := fun y hy => hEb y (by
          have := (hR.2.1 b h4).2.2.2.2
          obtain ⟨e, -, -, -, -, -, -, -, -, -, z, -⟩ := this
          rw [h10] at z
          exact z.subset hy)
        have hna := hb.new hr hrt h7 hrb
        have hnb := hb.new hr hrt h8 hrb
        have hb1 := hb.up.more h3 hna ⟨n, r, Nat.lt_succ_self _, hr, h7⟩ (fun y hy => hsub y (hEa y hy))
        have hr1 : (l ++ [a])[n]? = some r := by rw [List.getElem?_append_left hn]; exact hr
        have hb2 := hb1.more h4 (by
          intro z
          rcases List.mem_append.mp z with z | z
          · exact hnb z
          · simp at z
            omega) ⟨n, r, Nat.lt_succ_self _, hr1, h8⟩ (fun y hy => hsub y (hEb y hy))
        have hr2 : (l ++ [a] ++ [b])[n]? = some r := by rw [List.getElem?_append_left (by simp; omega)]; exact hr1
        have hb' := hb2.next hr2 (fun z hz hh => by
          rw [h1, h2] at hh
          rcases hh with hh | hh
          · have := nI_r (by omega) (by omega) hh
            subst this
            simp
          · have := nI_r (by omega) (by omega) hh
            subst this
            simp)
        have hl2 := hle hb2
        simp at hl2
        obtain ⟨l', f', q1, q2⟩ := ih (l ++ [a] ++ [b]) (n + 1) _ (by omega) hb' hp.push.push
        refine ⟨l', f', fun sc d S F A G X Q l1 l4 l5 => ?_, q2⟩
        obtain ⟨l4', e4⟩ := q1 sc d S F A G X Q l1 (some (.int (nI r))) l5
        refine ⟨l4', Eq.trans ?_ e4⟩
        rw [c81_11 (by omega) hn hfr hr3 (f1.trans h1) ha3 (f2.trans h2) hb3, a2_a2, a2_s]
        simp
end
