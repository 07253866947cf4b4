/-! a variable becomes a part of the subject, on both sides -/
section
variable {c : CX} {F A F' A' T T' : Nat → Nat → Int32} {P P' : Nat → Int32} {v p0 e0 n m : Nat} {s : Nat → Nat} {vn : Nat → Nat} {vf : Nat → Nat → Nat}
theorem StC.kp2 (h : StC c F A) (hc : c.ok) (k1 : ∀ o k, (o = 3 ∨ (22 ≤ o ∧ o < 214) ∨ o = 215) → F' o k = F o k) (k2 : ∀ o, ((22 ≤ o ∧ o < 214) ∨ o = 216) → A' o = A o) : StC c F' A' := by
  refine ⟨by rw [k1 3 2 (Or.inl rfl)]; exact h.1, h.2.1.kp (k1 215 1 (by omega)) (k2 216 (by omega)), fun i hi => ?_⟩
  have hN := hc.1
  obtain ⟨h1, h2, h3, h4⟩ := h.2.2 i hi
  exact ⟨by rw [k1 _ _ (by omega)]; exact h1, by rw [k1 _ _ (by omega)]; exact h2, by rw [k1 _ _ (by omega)]; exact h3, h4.kp (k1 _ 1 (by omega)) (k2 _ (by omega))⟩
theorem StR.kp2 (h : StR c P T) (h5 : P' 5 = P 5) (h16 : P' 16 = P 16) (k : ∀ o, 231 ≤ o → o ≤ 236 → T' o = T o) : StR c P' T' := by
  refine ⟨h5.trans h.1, ⟨h16.trans h.2.1.1, h.2.1.2.1, fun j hj => by rw [k 236 (by omega) (by omega)]; exact h.2.1.2.2 j hj⟩, fun i hi => ?_⟩
  obtain ⟨h1, h2, h3, h4⟩ := h.2.2 i hi
  exact ⟨by rw [k 231 (by omega) (by omega)]; exact h1, by rw [k 232 (by omega) (by omega)]; exact h2, by rw [k 233 (by omega) (by omega)]; exact h3, by rw [k 235 (by omega) (by omega)]; exact h4.1, h4.2.1, fun j hj => by rw [k 234 (by omega) (by omega)]; exact h4.2.2 j hj⟩
/-- one variable is written -/
theorem VaC.put {f : Nat → Nat} {a : Nat → Int32} (h : VaC F A vn vf) (hv : v < 8) (hm : m ≤ 64) (ha : ∀ j, j < m → f j < 256 ∧ a j = nI (f j)) : VaC (f2 F (6 + 2 * v) 1 (nI m)) (a2 A (6 + 2 * v + 1) a) (va_up vn v m) (va_up vf v f) := by
  intro u hu
  by_cases hc : u = v
  · subst hc
    rw [up_s, up_s]
    exact ⟨f2_s, hm, fun j hj => by rw [a2_s]; exact ha j hj⟩
  · rw [up_n hc, up_n hc]
    exact (h u hu).kp (f2_n (by omega)) (a2_n (by omega))
theorem VaR.put {f : Nat → Nat} {a : Nat → Int32} (h : VaR T vn vf) (hv : v < 8) (hm : m ≤ 64) (ha : ∀ j, j < m → f j < 256 ∧ a (64 * v + j) = tb (f j)) (ho : ∀ i, (i < 64 * v ∨ 64 * v + 64 ≤ i) → a i = T 229 i) : VaR (a2 (a2 T 230 (upd (T 230) v (nI m))) 229 a) (va_up vn v m) (va_up vf v f) := by
  intro u hu
  have e1 : ∀ x, a2 (a2 T 230 (upd (T 230) v (nI m))) 229 a 230 x = upd (T 230) v (nI m) x := fun x => by rw [a2_n (by decide), a2_s]
  by_cases hc : u = v
  · subst hc
    rw [up_s, up_s]
    exact ⟨by rw [e1]; simp [upd], hm, fun j hj => by rw [a2_s]; exact ha j hj⟩
  · rw [up_n hc, up_n hc]
    obtain ⟨h1, h2, h3⟩ := h u hu
    refine ⟨by rw [e1]; simp [upd, hc]; exact h1, h2, fun j hj => ⟨(h3 j hj).1, ?_⟩⟩
    rw [a2_s, ho _ (by omega)]
    exact (h3 j hj).2
def mvT (T : Nat → Nat → Int32) (v p0 m : Nat) : Nat → Nat → Int32 := a2 (a2 T 230 (upd (T 230) v (nI m))) 229 (va_cpy (T 236) (T 229) p0 (64 * v) m)
theorem Sm.set (h : Sm c F A P T) (hc : c.ok) (hv : v < 8) (h1 : p0 ≤ e0) (h2 : e0 ≤ c.n) : Sm c (cvF F v (e0 - p0)) (cvA A v p0 (e0 - p0)) P (mvT T v p0 (e0 - p0)) := by
  obtain ⟨k1, k2, vn, vf, k3, k4, k5, k6⟩ := h
  have hn := hc.2.1
  have hs := k1.2.1
  have hm := k2.2.1
  refine ⟨k1.kp2 hc (fun o k ho => f2_n (by omega)) (fun o ho => a2_n (by omega)), k2.kp2 rfl rfl (fun o o1 o2 => by rw [mvT, a2_n (by omega), a2_n (by omega)]), va_up vn v (e0 - p0), va_up vf v (fun j => c.s (p0 + j)), ?_, ?_, ⟨fun j => (f2_n (by omega)).trans (k5.1 j), fun j => (f2_n (by omega)).trans (k5.2.1 j), (f2_n (by omega)).trans k5.2.2.1, (a2_n (by omega)).trans k5.2.2.2⟩, k6.1, k6.2.1, k6.2.2.1, k6.2.2.2.1, by rw [mvT, a2_n (by omega), a2_n (by omega)]; exact k6.2.2.2.2⟩
  · refine k3.put hv (by omega) (fun j hj => ?_)
    obtain ⟨s1, s2⟩ := hs.2.2 (p0 + j) (by omega)
    refine ⟨s1, ?_⟩
    rw [← s2]
    simp [va_cpy, hj]
  · refine k4.put hv (by omega) (fun j hj => ?_) (fun i hi => ?_)
    · obtain ⟨s1, s2⟩ := hm.2.2 (p0 + j) (by omega)
      refine ⟨s1, ?_⟩
      rw [← s2]
      simp [va_cpy, hj]
    · unfold va_cpy
      rw [if_neg (by omega)]
theorem Sm.dig (h : Sm c F A P T) (hc : c.ok) (hv : v < 8) (h1 : p0 ≤ c.n) : Sm c (f2 F (6 + 2 * v) 1 (nI (dgN p0))) (cdA A (6 + 2 * v) p0) P (tdT T v p0) := by
  obtain ⟨k1, k2, vn, vf, k3, k4, k5, k6⟩ := h
  have hn := hc.2.1
  have hd : dgN p0 ≤ 2 := by unfold dgN; split <;> omega
  refine ⟨k1.kp2 hc (fun o k ho => f2_n (by omega)) (fun o ho => a2_n (by omega)), k2.kp2 rfl rfl (fun o o1 o2 => by rw [tdT, a2_n (by omega), a2_n (by omega)]), va_up vn v (dgN p0), va_up vf v (dgF p0), ?_, ?_, ⟨fun j => (f2_n (by omega)).trans (k5.1 j), fun j => (f2_n (by omega)).trans (k5.2.1 j), (f2_n (by omega)).trans k5.2.2.1, (a2_n (by omega)).trans k5.2.2.2⟩, k6.1, k6.2.1, k6.2.2.1, k6.2.2.2.1, by rw [tdT, a2_n (by omega), a2_n (by omega)]; exact k6.2.2.2.2⟩
  · refine k3.put hv (by omega) (fun j hj => ?_)
    by_cases h9 : 9 < p0
    · have e : dgN p0 = 2 := by simp [dgN, h9]
      rw [e] at hj ⊢
      have : j = 0 ∨ j = 1 := by omega
      rcases this with rfl | rfl
      · refine ⟨by simp [dgF, h9]; omega, by simp [upd, dgF, h9]⟩
      · refine ⟨by simp [dgF]; omega, by simp [upd, dgF]⟩
    · have e : dgN p0 = 1 := by simp [dgN, h9]
      rw [e] at hj ⊢
      have : j = 0 := by omega
      subst this
      refine ⟨by simp [dgF, h9]; omega, ?_⟩
      have e2 : p0 % 10 = p0 := by omega
      simp [upd, dgF, h9, e2]
  · refine k4.put hv (by omega) (fun j hj => ?_) (fun i hi => ?_)
    · have : j = 0 ∨ j = 1 := by omega
      rcases this with rfl | rfl
      · refine ⟨?_, by simp [upd]⟩
        simp only [dgF, if_true]
        split <;> omega
      · refine ⟨?_, by simp [upd]⟩
        simp [dgF]
        omega
    · have e1 : ¬ i = 64 * v := by omega
      have e2 : ¬ i = 64 * v + 1 := by omega
      simp [upd, e1, e2]
end
