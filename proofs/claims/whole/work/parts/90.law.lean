theorem xm_law {b L : Nat} {xs : Nat → Int32} (hL : L ≤ 2048) {sz : Nat} (hsz : b < sz) : ∃ (n : Nat) (M' : xm_M), xm_ex (b, L, xs) n 10 0 0 (xm_entry 0 [.ref b]) [] (sz, 0, fun _ => none) = some (some (.int 1), M') ∧ M'.1 - sz ≤ 600000 ∧ M'.2.1 ≤ 7302250 := by
  obtain ⟨F', A', G', X', P', T', k⟩ := lp_all (S := 58278) (xs := xs) hsz hL 512 0 F00 N00 G00 none P00 N00 (by omega) (by omega) Inv.start
  have h : rn (b, L, xs) 10 0 0 [some (.ref b), none, none, none] [] (sz, 0, fun _ => none) (fun r M' => r = some (.int 1) ∧ M'.1 - sz ≤ 600000 ∧ M'.2.1 ≤ 7302250) := by
    rw [law_mk, k]
    refine ⟨rfl, ?_, ?_⟩
    · show sz + 246 - sz ≤ 600000
      omega
    · show 58278 ≤ 7302250
      decide
  obtain ⟨n, r, M', h1, rfl, h2, h3⟩ := h
  exact ⟨n, M', h1, h2, h3⟩
