theorem xm_step_mono {sc : xm_Sc} {d y pc : Nat} {i : Instr} {ls : xm_Ls} {st : List Value} {M : xm_M} {q : xm_S} (h : xm_step sc d y pc i ls st M = some q) : M.1 ≤ q.2.2.2.1 ∧ M.2.1 ≤ q.2.2.2.2.1 := by
  unfold xm_step at h
  split at h
  · cases h; simp
  · split at h
    · cases h; simp
    · split at h
      · next x hx =>
        obtain ⟨a1, a2, a3⟩ := x
        cases h
        exact xm_s3_mono hx
      · cases h
theorem xm_ex_mono (sc : xm_Sc) : ∀ (n d y pc : Nat) (ls : xm_Ls) (st : List Value) (M : xm_M) (r : Option Value) (M' : xm_M), xm_ex sc n d y pc ls st M = some (r, M') → M.1 ≤ M'.1 ∧ M.2.1 ≤ M'.2.1
  | 0, _, _, _, _, _, _, _, _, h => by simp [xm_ex] at h
  | n + 1, d, y, pc, ls, st, M, r, M', h => by
    unfold xm_ex at h
    split at h
    · cases h
    · split at h
      · split at h
        · cases h; exact ⟨Nat.le_refl _, Nat.le_refl _⟩
        · split at h
          · split at h
            · cases h
            · split at h
              · split at h
                · next r1 M1 h1 =>
                  have a1 := xm_ex_mono sc n _ _ _ _ _ _ _ _ h1
                  have a2 := xm_ex_mono sc n _ _ _ _ _ _ _ _ h
                  exact ⟨Nat.le_trans a1.1 a2.1, Nat.le_trans a1.2 a2.2⟩
                · cases h
              · cases h
          · split at h
            · next q hq =>
              have a1 := xm_step_mono hq
              have a2 := xm_ex_mono sc n _ _ _ _ _ _ _ _ h
              exact ⟨Nat.le_trans a1.1 a2.1, Nat.le_trans a1.2 a2.2⟩
            · cases h
      · cases h
theorem xm_ret_st {y : Nat} {i : Instr} {st : List Value} {r : Option Value} (h : xm_ret y i st = some r) : st = r.toList ∧ ∀ k, xm_len i k = 1 := by
  unfold xm_ret at h
  split at h
  · split at h
    · split at h
      · cases h; exact ⟨rfl, fun _ => rfl⟩
      · cases h
    · cases h
  · split at h
    · cases h; exact ⟨rfl, fun _ => rfl⟩
    · cases h; exact ⟨rfl, fun _ => rfl⟩
    · cases h
  · split at h
    · cases h; exact ⟨rfl, fun _ => rfl⟩
    · cases h
  · cases h
/-- what is said of a run: from here the machine comes to a return with this answer and this memory -/
abbrev xm_Says (l : Launch) (dC : Nat → ClassId) (dI : Nat → Nat → Nat) (dA : Nat → ClassId) (b : Nat) (sc : xm_Sc) (d y pc : Nat) (ls : xm_Ls) (st : List Value) (M : xm_M) (r : Option Value) (M' : xm_M) : Prop :=
  ∀ (p : Program) (e : Env) (R : Room) (s : State) (m : MethodId) (args : Array Value) (below : List Frame) (meth : Method) (c : Code) (H : Heap) (locs : List Loc) (cells slots : Nat) (Q : State → Prop) (arr : Array Slot),
    xm_C p m c meth s args y → xm_U dC dI dA s → xm_X sc b s H → xm_H dC dI dA b M H → (∀ q ∈ locs, b ≤ q.base) → b ≤ M.1 → xm_L arr (pg_l y) ls → d ≤ R.frames → d * xm_K ≤ R.locals → cells + (M'.1 - M.1) ≤ R.cells → slots + (M'.2.1 - M.2.1) ≤ R.slots →
    (∀ (pc' : Nat) (i : Instr) (arr' : Array Slot) (H' : Heap) (locs' : List Loc), decode (pg_b y) pc' = .ok (i, 1) → xm_ret y i r.toList = some r → xm_H dC dI dA b M' H' → (∀ q ∈ locs', b ≤ q.base) → (∀ q : Nat, q < b → H'[q]? = H[q]?) → W p l e R s m args below meth c H' locs' (cells + (M'.1 - M.1)) (slots + (M'.2.1 - M.2.1)) Q (F0 m pc' arr' r.toList)) →
    W p l e R s m args below meth c H locs cells slots Q (F0 m pc arr st)
set_option maxHeartbeats 4000000 in
/-- a run of a method from its entry is its contract -/
theorem xm_met {l : Launch} {dC : Nat → ClassId} {dI : Nat → Nat → Nat} {dA : Nat → ClassId} {b : Nat} {sc : xm_Sc} {d z : Nat} {as : List Value} {M M' : xm_M} {r : Option Value} (hz : 0 < z ∧ z < pg_n) (hb : b ≤ M.1) (hn : as.length ≤ pg_l z) (hc : (as.all fun v => v.category == 1) = true)
    (h : xm_Says l dC dI dA b sc d z 0 (xm_entry z as) [] M r M') : xm_Met l dC dI dA b sc d z as M r M' := by
  refine Met.ofW (cc := pg_b z) (maxL := pg_l z) (ret := pg_r z) (pg_m_ok hz.1 hz.2).2.1 rfl ?_
  intro p e s m args below meth c s₁ B hml hv
  obtain ⟨rfl, hU, hX, hH⟩ := hv
  have hts0 := atoms_spec (ws := xm_ws z) B.pre
  have hts : ∀ w ∈ pg_TS, w.before as.toArray s = true := fun w hw => hts0 w (List.mem_cons_of_mem _ hw)
  have hnm : (pg_y z).name = "<init>" → meth.name = "<init>" := fun h9 => (name_of_methodNamed B.named B.method).1.trans h9
  have hr := B.returns
  have hlocks := B.notSynchronized
  rw [lg_entry_eq]
  refine h _ _ _ _ _ _ _ _ _ _ _ _ _ _ _ ⟨B.exec, B.bytes, hml, findClass_of_methodNamed B.named, hts, hnm⟩ hU hX hH (fun q hq => by cases hq) hb (xm_L.entry hc hn) (Nat.le_refl _) (Nat.le_refl _) (by rw [Nat.zero_add]; exact Nat.le_refl _) (by rw [Nat.zero_add]; exact Nat.le_refl _) ?_
  intro pc' i arr' H' locs' hdec hret hH' hL' hlow
  rw [Nat.zero_add, Nat.zero_add]
  unfold xm_ret at hret
  split at hret
  · split at hret
    · next v ty hst hty =>
      split at hret
      · next hnar =>
        rw [hst]
        cases hret
        exact W.zret B.exec B.bytes (hr.trans hty) hnar (fun t ht hW => ⟨rfl, by rw [ht]; exact hH', fun q hq => by rw [ht]; exact hlow q hq⟩) hL' hdec
      · cases hret
    · cases hret
  · split at hret
    · next a C hst hty =>
      rw [hst]
      cases hret
      exact W.aret B.exec B.bytes (hr.trans hty) (Or.inl ⟨_, rfl⟩) (Or.inr ⟨_, rfl⟩) (fun t ht hW => ⟨rfl, by rw [ht]; exact hH', fun q hq => by rw [ht]; exact hlow q hq⟩) hL' hdec
    · next C hst hty =>
      rw [hst]
      cases hret
      exact W.aret B.exec B.bytes (hr.trans hty) (Or.inl ⟨_, rfl⟩) (Or.inl rfl) (fun t ht hW => ⟨rfl, by rw [ht]; exact hH', fun q hq => by rw [ht]; exact hlow q hq⟩) hL' hdec
    · cases hret
  · split at hret
    · next hst hty =>
      rw [hst]
      cases hret
      exact W.vret B.exec B.bytes (hr.trans hty) (fun t ht hW => ⟨rfl, by rw [ht]; exact hH', fun q hq => by rw [ht]; exact hlow q hq⟩) hL' hdec
    · cases hret
  · cases hret
set_option maxHeartbeats 4000000 in
/-- THE SMALL MACHINE'S RUNS ARE THE MACHINE'S -/
theorem xm_sim (l : Launch) (dC : Nat → ClassId) (dI : Nat → Nat → Nat) (dA : Nat → ClassId) (b : Nat) (sc : xm_Sc) : ∀ (n d y pc : Nat) (ls : xm_Ls) (st : List Value) (M : xm_M) (r : Option Value) (M' : xm_M), xm_ex sc n d y pc ls st M = some (r, M') → xm_Says l dC dI dA b sc d y pc ls st M r M'
  | 0, _, _, _, _, _, _, _, _, h => by simp [xm_ex] at h
  | n + 1, d, y, pc, ls, st, M, r, M', h => by
    intro p e R s m args below meth c H locs cells slots Q arr hC hU hX hH hL hbM hl hd hdl hcl hsl kk
    unfold xm_ex at h
    split at h
    · cases h
    · next i k hcode =>
      have hdec := pg_code_ok hcode
      split at h
      · next hk =>
        split at h
        · next r1 hret =>
          cases h
          obtain ⟨hst, hlen⟩ := xm_ret_st hret
          rw [hlen k] at hk
          subst hk
          subst hst
          have := kk pc i arr H locs hdec hret hH hL (fun _ _ => rfl)
          rw [Nat.sub_self, Nat.sub_self, Nat.add_zero, Nat.add_zero] at this
          exact this
        · split at h
          · next z as rest hinv =>
            split at h
            · cases h
            · next d' =>
              split at h
              · next hcnd =>
                obtain ⟨hw, hn, hc⟩ := hcnd
                split at h
                · next r1 M1 h1 =>
                  have m1 := xm_ex_mono sc n _ _ _ _ _ _ _ _ h1
                  have m2 := xm_ex_mono sc n _ _ _ _ _ _ _ _ h
                  have hz : 0 < z ∧ z < pg_n := xm_inv_ok hinv
                  have hmet : xm_Met l dC dI dA b sc d' z as M r1 M1 := xm_met hz hbM hn hc (xm_sim l dC dI dA b sc n d' z 0 _ [] M r1 M1 h1)
                  have hrest := xm_sim l dC dI dA b sc n (d' + 1) y (pc + 3) ls (r1.toList ++ rest) M1 r M' h
                  refine xm_call_ok hC hU hX hH hL hl hd hdl hk hdec hinv hw hmet (by omega) (by omega) ?_
                  intro H1 locs1 hH1 hL1 hlow1
                  refine hrest _ _ _ _ _ _ _ _ _ _ _ _ _ _ _ hC hU (hX.kept hlow1) hH1 hL1 (Nat.le_trans hbM m1.1) hl hd hdl (by omega) (by omega) ?_
                  intro pc' i' arr' H' locs' a1 a2 a3 a4 a5
                  have := kk pc' i' arr' H' locs' a1 a2 a3 a4 (fun q hq => (a5 q hq).trans (hlow1 q hq))
                  rw [show cells + (M1.1 - M.1) + (M'.1 - M1.1) = cells + (M'.1 - M.1) by omega, show slots + (M1.2.1 - M.2.1) + (M'.2.1 - M1.2.1) = slots + (M'.2.1 - M.2.1) by omega]
                  exact this
                · cases h
              · cases h
          · split at h
            · next q hstep =>
              have m1 := xm_step_mono hstep
              have m2 := xm_ex_mono sc n _ _ _ _ _ _ _ _ h
              have hrest := xm_sim l dC dI dA b sc n d y q.1 q.2.1 q.2.2.1 q.2.2.2 r M' h
              unfold xm_step at hstep
              split at hstep
              · next q1 h1 =>
                cases hstep
                refine xm_s1_ok hC hl hk hdec h1 (fun arr' hl' => ?_)
                exact hrest _ _ _ _ _ _ _ _ _ _ _ _ _ _ _ hC hU hX hH hL hbM hl' hd hdl hcl hsl kk
              · split at hstep
                · next q1 h1 =>
                  cases hstep
                  exact xm_s2_ok hC hk hdec h1 (hrest _ _ _ _ _ _ _ _ _ _ _ _ _ _ _ hC hU hX hH hL hbM hl hd hdl hcl hsl kk)
                · split at hstep
                  · next q1 h1 =>
                    obtain ⟨pc1, st1, M1⟩ := q1
                    cases hstep
                    dsimp only at m1 m2 hrest
                    refine xm_s3_ok hC hU hX hH hL hbM hl hd hdl hk hdec h1 (by omega) (by omega) ?_
                    intro H1 locs1 hH1 hL1 hlow1
                    refine hrest _ _ _ _ _ _ _ _ _ _ _ _ _ _ _ hC hU (hX.kept hlow1) hH1 hL1 (Nat.le_trans hbM m1.1) hl hd hdl (by omega) (by omega) ?_
                    intro pc' i' arr' H' locs' a1 a2 a3 a4 a5
                    have := kk pc' i' arr' H' locs' a1 a2 a3 a4 (fun q hq => (a5 q hq).trans (hlow1 q hq))
                    rw [show cells + (M1.1 - M.1) + (M'.1 - M1.1) = cells + (M'.1 - M.1) by omega, show slots + (M1.2.1 - M.2.1) + (M'.2.1 - M1.2.1) = slots + (M'.2.1 - M.2.1) by omega]
                    exact this
                  · cases hstep
            · cases h
      · cases h
