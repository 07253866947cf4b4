section XM3
variable {p : Program} {l : Launch} {e : Env} {R : Room} {s : State} {m : MethodId} {args : Array Value} {below : List Frame} {meth : Method} {c : Code} {H : Heap} {locs : List Loc} {cells slots : Nat} {Q : State → Prop}
variable {y pc pc' k d b : Nat} {i : Instr} {ls : xm_Ls} {st st' : List Value} {arr : Array Slot} {sc : xm_Sc} {M M' : xm_M} {dC : Nat → ClassId} {dI : Nat → Nat → Nat} {dA : Nat → ClassId}
/-- what a step on the heap goes on with -/
abbrev xm_KK (p : Program) (l : Launch) (e : Env) (R : Room) (s : State) (m : MethodId) (args : Array Value) (below : List Frame) (meth : Method) (c : Code) (Q : State → Prop) (dC : Nat → ClassId) (dI : Nat → Nat → Nat) (dA : Nat → ClassId) (b : Nat) (M' : xm_M) (H : Heap) (cells slots pc' : Nat) (arr : Array Slot) (st' : List Value) : Prop :=
  ∀ (H' : Heap) (locs' : List Loc), xm_H dC dI dA b M' H' → (∀ q ∈ locs', b ≤ q.base) → (∀ q : Nat, q < b → H'[q]? = H[q]?) → W p l e R s m args below meth c H' locs' cells slots Q (F0 m pc' arr st')
theorem xm_put_ok (hC : xm_C p m c meth s args y) (hU : xm_U dC dI dA s) (hH : xm_H dC dI dA b M H) (hL : ∀ q ∈ locs, b ≤ q.base) {x a ci fk : Nat} {h : Option String} {fs : List Value} {v : Value} (hf : pg_f y x = some (ci, fk, h)) (ha : M.2.2 a = some (.inr (ci, fs))) (hp : pg_pok y ci fk h = true) (hn : narrow (pg_ft ci fk) v = v) (hfit : fits (pg_ft ci fk) v = true) (hlen : fk < fs.length) (hdec : decode (pg_b y) pc = .ok (.putfield x, 3))
    (kk : xm_KK p l e R s m args below meth c Q dC dI dA b (xm_set M a (.inr (ci, fs.set fk v))) H cells slots (pc + 3) arr st) : W p l e R s m args below meth c H locs cells slots Q (F0 m pc arr (v :: .ref a :: st)) := by
  obtain ⟨hx, hb, hml, hown, hts, hnm⟩ := hC
  obtain ⟨C, T, N, hc, hfk, hlink⟩ := pg_f_ok hf
  obtain ⟨hin, hty, hnms, -, -⟩ := pg_cl_ok hc
  obtain ⟨hK, hN, -⟩ := hU
  have hba := (hH.2 a _ ha).1
  have hap := va_apart (own := (pg_y y).cls) hts hin (pg_ft ci) hty hnms hK hc
  obtain ⟨r, h1, cell, q1, q2, q3, q4⟩ := (hH.2 a _ ha).2
  have hr : r = (C, T, N) := Option.some.inj (h1.symm.trans hc)
  subst hr
  obtain ⟨hS, hfc, kC, hkC, hkind⟩ := hK.1 ci _ hc
  obtain ⟨cf, kf, fi, f, hi, hsl⟩ := hS fk hfk
  have hst := (u_facts hfc hkC (u_lays hts hin hfk) hi).1
  have fin : ∀ H' : Heap, H'[a]? = some (cell.setSlot f.slot v) → H'.size = H.size → (∀ q, q ≠ a → H'[q]? = H[q]?) → W p l e R s m args below meth c H' (locs ++ [⟨a, f.slot⟩]) cells slots Q (F0 m (pc + 3) arr st) := by
    intro H' e1 e2 e3
    rw [hsl] at e1 ⊢
    refine kk H' _ (hH.set ha ⟨_, hc, t_OB.to (V := updV (vp_V fs) fk v) ⟨_, e1, q2, q3, t_set q4 hap hfk v⟩ (fun j _ => vp_updV_set hlen v j)⟩ e2 e3) (fun q hq => ?_) (fun q hq => e3 q (by omega))
    rcases List.mem_append.mp hq with h9 | h9
    · exact hL q h9
    · rw [List.mem_singleton.mp h9]; exact hba
  unfold pg_pok at hp
  rw [hc] at hp
  dsimp only at hp
  by_cases hfl : (T fk).2.2.2 = true
  · rw [if_pos hfl, decide_eq_true_eq] at hp
    obtain ⟨hp1, hp2, hp3⟩ := hp
    rcases hlink with ⟨-, hlink⟩ | ⟨host, hh, -⟩
    · have hlay := hts _ (hin _ (u_in_lay hfk))
      unfold u_lay at hlay
      rw [if_pos hfl] at hlay
      have hcf : m.cls = cf := by
        obtain ⟨_, _, c', _, _, _, -, -, hf', -, -, -, hown2, -⟩ := Cond.laysFinal_spec hlay
        have e1 : c' = cf := by have := hi.symm.trans hf'; simp at this; exact this.1.symm
        rw [hp2] at hown2
        rw [← e1]; exact Option.some.inj (hown.symm.trans hown2)
      have h6 := u_fits hfc hkC hkind (Or.inr hlay) hi (hty fk hfk) hn hfit
      exact W.putFinK hx hb hown (hts _ hlink) hi hst hcf (hnm hp1) (by rw [q2]; exact h6) q1 q3 (by rw [hsl]; exact k2_hasslot (q4 fk hfk)) rfl rfl hdec fin
    · rw [hp3] at hh; cases hh
  · have hlay := hts _ (hin _ (u_in_lay hfk))
    unfold u_lay at hlay
    rw [if_neg hfl] at hlay
    have h6 := u_store hfc hkC hkind hlay hi (hty fk hfk) hn hfit
    rcases hlink with ⟨-, hlink⟩ | ⟨host, -, hlink⟩
    · exact W.putK hx hb (f := f) ⟨hown, hts _ hlink, ⟨_, _, _, hi⟩, hst⟩ (by rw [q2]; exact h6) q1 q3 (by rw [hsl]; exact k2_hasslot (q4 fk hfk)) rfl rfl hdec fin
    · exact va_WputK hx hb (f := f) hown (va_Nw.use rfl (hN _ hlink)) hi hst (by rw [q2]; exact h6) q1 q3 (by rw [hsl]; exact k2_hasslot (q4 fk hfk)) rfl rfl hdec fin
theorem xm_iast_ok (hC : xm_C p m c meth s args y) (hU : xm_U dC dI dA s) (hH : xm_H dC dI dA b M H) (hL : ∀ q ∈ locs, b ≤ q.base) {a n : Nat} {f : Nat → Int32} {j x : Int32} (ha : M.2.2 a = some (.inl (0, n, .inl f))) (hin : ¬ (j < 0 ∨ n ≤ j.toNatClampNeg)) (hdec : decode (pg_b y) pc = .ok (.iastore, 1))
    (kk : xm_KK p l e R s m args below meth c Q dC dI dA b (xm_set M a (.inl (0, n, .inl (upd f j.toNatClampNeg x)))) H cells slots (pc + 1) arr st) : W p l e R s m args below meth c H locs cells slots Q (F0 m pc arr (.int x :: .int j :: .ref a :: st)) := by
  obtain ⟨hx, hb, hml, hown, hts, hnm⟩ := hC
  obtain ⟨hK, -, -⟩ := hU
  have hba := (hH.2 a _ ha).1
  refine W.iast hx hb (hH.2 a _ ha).2 ((hK.2 0 _ (xm_tys_at pg_at0)).1 n (fun j => .int (f j))) (fun q => by cases q) (by show ¬ (j < 0 ∨ (arrV _ _ _).slots.size ≤ _); rw [arrV_size]; exact hin) rfl rfl hdec fun H1 e1 z oq => ?_
  refine kk H1 _ (hH.set ha ?_ z oq) (fun q hq => ?_) (fun q hq => oq q (Nat.ne_of_lt (Nat.lt_of_lt_of_le hq hba)))
  · show H1[a]? = some (vp_cell _ _)
    rw [e1]
    rw [vp_cell_i, vp_cell_i, arrV_store]
    congr 2
    funext q
    by_cases hq : q = j.toNatClampNeg
    · subst hq
      simp [updV, upd]
    · simp [updV, upd, hq]
  · rcases List.mem_append.mp hq with h9 | h9
    · exact hL q h9
    · rw [List.mem_singleton.mp h9]; exact hba
theorem xm_bast_ok (hC : xm_C p m c meth s args y) (hU : xm_U dC dI dA s) (hH : xm_H dC dI dA b M H) (hL : ∀ q ∈ locs, b ≤ q.base) {a n : Nat} {f : Nat → Int32} {j x : Int32} (ha : M.2.2 a = some (.inl (1, n, .inl f))) (hin : ¬ (j < 0 ∨ n ≤ j.toNatClampNeg)) (hdec : decode (pg_b y) pc = .ok (.bastore, 1))
    (kk : xm_KK p l e R s m args below meth c Q dC dI dA b (xm_set M a (.inl (1, n, .inl (upd f j.toNatClampNeg (vp_nar .byte x))))) H cells slots (pc + 1) arr st) : W p l e R s m args below meth c H locs cells slots Q (F0 m pc arr (.int x :: .int j :: .ref a :: st)) := by
  obtain ⟨hx, hb, hml, hown, hts, hnm⟩ := hC
  obtain ⟨hK, -, -⟩ := hU
  have hba := (hH.2 a _ ha).1
  refine W.bast hx hb (hH.2 a _ ha).2 ((hK.2 1 _ (xm_tys_at pg_at1)).1 n (fun j => .int (f j))) (fun q => by cases q) (by show ¬ (j < 0 ∨ (arrV _ _ _).slots.size ≤ _); rw [arrV_size]; exact hin) rfl rfl hdec fun H1 e1 z oq => ?_
  refine kk H1 _ (hH.set ha ?_ z oq) (fun q hq => ?_) (fun q hq => oq q (Nat.ne_of_lt (Nat.lt_of_lt_of_le hq hba)))
  · show H1[a]? = some (vp_cell _ _)
    rw [e1]
    rw [vp_cell_i, vp_cell_i, arrV_store]
    congr 2
    funext q
    by_cases hq : q = j.toNatClampNeg
    · subst hq
      simp [updV, upd, vp_nar]
      try rfl
    · simp [updV, upd, hq]
  · rcases List.mem_append.mp hq with h9 | h9
    · exact hL q h9
    · rw [List.mem_singleton.mp h9]; exact hba
theorem xm_zast_ok (hC : xm_C p m c meth s args y) (hU : xm_U dC dI dA s) (hH : xm_H dC dI dA b M H) (hL : ∀ q ∈ locs, b ≤ q.base) {a n : Nat} {f : Nat → Int32} {j x : Int32} (ha : M.2.2 a = some (.inl (2, n, .inl f))) (hin : ¬ (j < 0 ∨ n ≤ j.toNatClampNeg)) (hdec : decode (pg_b y) pc = .ok (.bastore, 1))
    (kk : xm_KK p l e R s m args below meth c Q dC dI dA b (xm_set M a (.inl (2, n, .inl (upd f j.toNatClampNeg (vp_nar .boolean x))))) H cells slots (pc + 1) arr st) : W p l e R s m args below meth c H locs cells slots Q (F0 m pc arr (.int x :: .int j :: .ref a :: st)) := by
  obtain ⟨hx, hb, hml, hown, hts, hnm⟩ := hC
  obtain ⟨hK, -, -⟩ := hU
  have hba := (hH.2 a _ ha).1
  refine W.zast hx hb (hH.2 a _ ha).2 ((hK.2 2 _ (xm_tys_at pg_at2)).1 n (fun j => .int (f j))) (fun q => by cases q) (by show ¬ (j < 0 ∨ (arrV _ _ _).slots.size ≤ _); rw [arrV_size]; exact hin) rfl rfl hdec fun H1 e1 z oq => ?_
  refine kk H1 _ (hH.set ha ?_ z oq) (fun q hq => ?_) (fun q hq => oq q (Nat.ne_of_lt (Nat.lt_of_lt_of_le hq hba)))
  · show H1[a]? = some (vp_cell _ _)
    rw [e1]
    rw [vp_cell_i, vp_cell_i, arrV_store]
    congr 2
    funext q
    by_cases hq : q = j.toNatClampNeg
    · subst hq
      simp [updV, upd, vp_nar]
      try rfl
    · simp [updV, upd, hq]
  · rcases List.mem_append.mp hq with h9 | h9
    · exact hL q h9
    · rw [List.mem_singleton.mp h9]; exact hba
theorem xm_aast_ok (hC : xm_C p m c meth s args y) (hU : xm_U dC dI dA s) (hH : xm_H dC dI dA b M H) (hL : ∀ q ∈ locs, b ≤ q.base) {a n t ci v : Nat} {f : Nat → Option Nat} {vs : List Value} {j : Int32} (ha : M.2.2 a = some (.inl (t, n, .inr (.inr (.inr (.inr f)))))) (hv : M.2.2 v = some (.inr (ci, vs))) (hok : pg_ok t ci = true) (hin : ¬ (j < 0 ∨ n ≤ j.toNatClampNeg)) (hdec : decode (pg_b y) pc = .ok (.aastore, 1))
    (kk : xm_KK p l e R s m args below meth c Q dC dI dA b (xm_set M a (.inl (t, n, .inr (.inr (.inr (.inr (va_up f j.toNatClampNeg (some v)))))))) H cells slots (pc + 1) arr st) : W p l e R s m args below meth c H locs cells slots Q (F0 m pc arr (.ref v :: .int j :: .ref a :: st)) := by
  obtain ⟨hx, hb, hml, hown, hts, hnm⟩ := hC
  obtain ⟨hK, -, -⟩ := hU
  have hba := (hH.2 a _ ha).1
  unfold pg_ok at hok
  split at hok
  · next C r ht hc =>
    rw [decide_eq_true_eq] at hok
    subst hok
    have hlt : j.toNatClampNeg < n := Nat.not_le.mp fun q => hin (Or.inr q)
    have h0 : ¬ j < 0 := fun q => hin (Or.inl q)
    obtain ⟨r', hr', cellV, g1, g2, g3, -⟩ := (hH.2 v _ hv).2
    have hcls := (hK.1 ci r hc).2
    obtain ⟨kA, comp, k1, k2, k3, -⟩ := (hK.2 t _ (xm_tys_at ht)).2
    have hcomp : comp = dC ci := Option.some.inj (k3.symm.trans hcls.1)
    subst hcomp
    obtain ⟨kC, hkC, -⟩ := hcls.2
    refine W.aast hx hb (hH.2 a _ ha).2 (fun q h => by cases h) (fun h => by cases h) k1 k2 rfl hkC ⟨h0, by show _ < (arrV _ _ _).slots.size; rw [arrV_size]; exact hlt⟩ g1 (fun q h => by rw [g3] at h; cases h) (by rw [g2]; exact hkC) (by rw [g2]; exact va_assign hcls) rfl rfl hdec fun H1 e1 z oq => ?_
    refine kk H1 _ (hH.set ha ?_ z oq) (fun q hq => ?_) (fun q hq => oq q (Nat.ne_of_lt (Nat.lt_of_lt_of_le hq hba)))
    · show H1[a]? = some (vp_cell _ _)
      rw [e1]
      rw [vp_cell_q, vp_cell_q, arrV_store]
      congr 2
      funext q
      by_cases hq : q = j.toNatClampNeg
      · subst hq
        simp [updV, va_up, va_rf]
      · simp [updV, va_up, hq]
    · rcases List.mem_append.mp hq with h9 | h9
      · exact hL q h9
      · rw [List.mem_singleton.mp h9]; exact hba
  · cases hok
theorem xm_newc_ok (hC : xm_C p m c meth s args y) (hU : xm_U dC dI dA s) (hH : xm_H dC dI dA b M H) (hL : ∀ q ∈ locs, b ≤ q.base) (hbM : b ≤ M.1) {x ci : Nat} {q : vw_C} (hx0 : pg_c y x = some ci) (hc : classes[ci]? = some q) (hdec : decode (pg_b y) pc = .ok (.new x, 3)) (hcells : cells + 1 ≤ R.cells) (hslots : slots + q.2.2 ≤ R.slots)
    (kk : xm_KK p l e R s m args below meth c Q dC dI dA b (xm_new M q.2.2 (.inr (ci, (List.range q.2.2).map (fun k => defaultValue (pg_ft ci k))))) H (cells + 1) (slots + q.2.2) (pc + 3) arr (.ref M.1 :: st)) : W p l e R s m args below meth c H locs cells slots Q (F0 m pc arr st) := by
  obtain ⟨hx, hb, hml, hown, hts, hnm⟩ := hC
  obtain ⟨hK, -, -⟩ := hU
  obtain ⟨C, T, N⟩ := q
  obtain ⟨q', hc', hcl⟩ := pg_c_ok hx0
  cases hc.symm.trans hc'
  obtain ⟨hin, hty, hnms, hinst, hini⟩ := pg_cl_ok hc
  have hKn := hK.1 ci _ hc
  refine W.newcK hx hb hown (hts _ hcl) (hts _ hinst) (hts _ hini) rfl hdec hcells hslots hKn.2.1 hH.1 fun H1 kC hkC e1 z1 o1 => ?_
  refine kk H1 _ (hH.push hbM ⟨_, hc, (u_born (pg_ft ci) hts hin hKn hkC e1 hty).to (fun j hj => ?_)⟩ z1 o1) hL (fun q hq => o1 q (by omega))
  simp [vp_V, hj]
theorem xm_newi_ok (hC : xm_C p m c meth s args y) (hU : xm_U dC dI dA s) (hH : xm_H dC dI dA b M H) (hL : ∀ q ∈ locs, b ≤ q.base) (hbM : b ≤ M.1) {j : Int32} (hj : ¬ j < 0) (hj2 : j.toNatClampNeg ≤ 100000) (hdec : decode (pg_b y) pc = .ok (.newarray .int, 2)) (hcells : cells + 1 ≤ R.cells) (hslots : slots + j.toNatClampNeg ≤ R.slots)
    (kk : xm_KK p l e R s m args below meth c Q dC dI dA b (xm_new M j.toNatClampNeg (.inl (0, j.toNatClampNeg, .inl (fun _ => 0)))) H (cells + 1) (slots + j.toNatClampNeg) (pc + 2) arr (.ref M.1 :: st)) : W p l e R s m args below meth c H locs cells slots Q (F0 m pc arr (.int j :: st)) := by
  obtain ⟨hx, hb, hml, hown, hts, hnm⟩ := hC
  obtain ⟨hK, -, -⟩ := hU
  refine va_newaK hx hb (atype := .int) (hts _ pg_ai) rfl hdec rfl hj rfl (by show _ * 4 ≤ _; omega) hcells hslots hH.1 fun H1 cA e1 z1 o1 hAr hNm => ?_
  have hcA : dA 0 = cA := by
    have h9 : s.vm.findClass ("[" ++ (FieldType.int).toString) = some (dA 0) := (hK.2 0 _ (xm_tys_at pg_at0)).2
    exact Option.some.inj (h9.symm.trans hNm)
  refine kk H1 _ (hH.push hbM ?_ z1 o1) hL (fun q hq => o1 q (by omega))
  show H1[M.1]? = some (vp_cell _ _)
  rw [e1, vp_cell_i]
  show _ = some (arrV (dA 0) _ _)
  rw [hcA]
  rfl
theorem xm_newb_ok (hC : xm_C p m c meth s args y) (hU : xm_U dC dI dA s) (hH : xm_H dC dI dA b M H) (hL : ∀ q ∈ locs, b ≤ q.base) (hbM : b ≤ M.1) {j : Int32} (hj : ¬ j < 0) (hj2 : j.toNatClampNeg ≤ 100000) (hdec : decode (pg_b y) pc = .ok (.newarray .byte, 2)) (hcells : cells + 1 ≤ R.cells) (hslots : slots + j.toNatClampNeg ≤ R.slots)
    (kk : xm_KK p l e R s m args below meth c Q dC dI dA b (xm_new M j.toNatClampNeg (.inl (1, j.toNatClampNeg, .inl (fun _ => 0)))) H (cells + 1) (slots + j.toNatClampNeg) (pc + 2) arr (.ref M.1 :: st)) : W p l e R s m args below meth c H locs cells slots Q (F0 m pc arr (.int j :: st)) := by
  obtain ⟨hx, hb, hml, hown, hts, hnm⟩ := hC
  obtain ⟨hK, -, -⟩ := hU
  refine va_newaK hx hb (atype := .byte) (hts _ pg_ab) rfl hdec rfl hj rfl (by show _ * 1 ≤ _; omega) hcells hslots hH.1 fun H1 cA e1 z1 o1 hAr hNm => ?_
  have hcA : dA 1 = cA := by
    have h9 : s.vm.findClass ("[" ++ (FieldType.byte).toString) = some (dA 1) := (hK.2 1 _ (xm_tys_at pg_at1)).2
    exact Option.some.inj (h9.symm.trans hNm)
  refine kk H1 _ (hH.push hbM ?_ z1 o1) hL (fun q hq => o1 q (by omega))
  show H1[M.1]? = some (vp_cell _ _)
  rw [e1, vp_cell_i]
  show _ = some (arrV (dA 1) _ _)
  rw [hcA]
  rfl
theorem xm_newz_ok (hC : xm_C p m c meth s args y) (hU : xm_U dC dI dA s) (hH : xm_H dC dI dA b M H) (hL : ∀ q ∈ locs, b ≤ q.base) (hbM : b ≤ M.1) {j : Int32} (hj : ¬ j < 0) (hj2 : j.toNatClampNeg ≤ 100000) (hdec : decode (pg_b y) pc = .ok (.newarray .boolean, 2)) (hcells : cells + 1 ≤ R.cells) (hslots : slots + j.toNatClampNeg ≤ R.slots)
    (kk : xm_KK p l e R s m args below meth c Q dC dI dA b (xm_new M j.toNatClampNeg (.inl (2, j.toNatClampNeg, .inl (fun _ => 0)))) H (cells + 1) (slots + j.toNatClampNeg) (pc + 2) arr (.ref M.1 :: st)) : W p l e R s m args below meth c H locs cells slots Q (F0 m pc arr (.int j :: st)) := by
  obtain ⟨hx, hb, hml, hown, hts, hnm⟩ := hC
  obtain ⟨hK, -, -⟩ := hU
  refine va_newaK hx hb (atype := .boolean) (hts _ pg_az) rfl hdec rfl hj rfl (by show _ * 1 ≤ _; omega) hcells hslots hH.1 fun H1 cA e1 z1 o1 hAr hNm => ?_
  have hcA : dA 2 = cA := by
    have h9 : s.vm.findClass ("[" ++ (FieldType.boolean).toString) = some (dA 2) := (hK.2 2 _ (xm_tys_at pg_at2)).2
    exact Option.some.inj (h9.symm.trans hNm)
  refine kk H1 _ (hH.push hbM ?_ z1 o1) hL (fun q hq => o1 q (by omega))
  show H1[M.1]? = some (vp_cell _ _)
  rw [e1, vp_cell_i]
  show _ = some (arrV (dA 2) _ _)
  rw [hcA]
  rfl
theorem xm_newq_ok (hC : xm_C p m c meth s args y) (hU : xm_U dC dI dA s) (hH : xm_H dC dI dA b M H) (hL : ∀ q ∈ locs, b ≤ q.base) (hbM : b ≤ M.1) {j : Int32} {x t : Nat} (ht : pg_a y x = some t) (hj : ¬ j < 0) (hj2 : j.toNatClampNeg ≤ 100000) (hdec : decode (pg_b y) pc = .ok (.anewarray x, 3)) (hcells : cells + 1 ≤ R.cells) (hslots : slots + j.toNatClampNeg ≤ R.slots)
    (kk : xm_KK p l e R s m args below meth c Q dC dI dA b (xm_new M j.toNatClampNeg (.inl (t, j.toNatClampNeg, .inr (.inr (.inr (.inr (fun _ => none))))))) H (cells + 1) (slots + j.toNatClampNeg) (pc + 3) arr (.ref M.1 :: st)) : W p l e R s m args below meth c H locs cells slots Q (F0 m pc arr (.int j :: st)) := by
  obtain ⟨hx, hb, hml, hown, hts, hnm⟩ := hC
  obtain ⟨hK, -, hAO⟩ := hU
  obtain ⟨C, htC, hcl, hao⟩ := pg_a_ok ht
  refine W.anew hx hb hown (hts _ hcl) (va_AO.use (hAO _ hao)) rfl hdec rfl hj (by omega) hcells hslots fun cA kA comp f1 f2 f3 f4 => ?_
  have hcA : dA t = cA := by
    obtain ⟨kA', comp', k1, k2, k3, k4⟩ := (hK.2 t _ (xm_tys_at htC)).2
    exact Option.some.inj (k4.symm.trans f1)
  rw [hH.1]
  generalize hH1 : H.push ({ cls := cA, slots := Array.replicate j.toNatClampNeg .null, vm := .none } : Cell) = H1
  have z1 : H1.size = M.1 + 1 := by rw [← hH1, Array.size_push, hH.1]
  have e1 : H1[M.1]? = some (arrV cA j.toNatClampNeg (fun _ => .null)) := by rw [← hH1, ← hH.1, Array.getElem?_push_size, ← arrV_new]
  have o1 : ∀ q : Nat, q < M.1 → H1[q]? = H[q]? := fun q hq => by rw [← hH1, Array.getElem?_push, if_neg (by rw [hH.1]; omega)]
  refine kk H1 _ (hH.push hbM ?_ z1 o1) hL (fun q hq => o1 q (by omega))
  show H1[M.1]? = some (vp_cell _ _)
  rw [e1, vp_cell_q]
  show _ = some (arrV (dA t) _ _)
  rw [hcA]
  rfl
end XM3
section XM4
variable {p : Program} {l : Launch} {e : Env} {R : Room} {s : State} {m : MethodId} {args : Array Value} {below : List Frame} {meth : Method} {c : Code} {H : Heap} {locs : List Loc} {cells slots : Nat} {Q : State → Prop}
variable {y pc pc' k d b : Nat} {i : Instr} {ls : xm_Ls} {st st' : List Value} {arr : Array Slot} {sc : xm_Sc} {M M' : xm_M} {dC : Nat → ClassId} {dI : Nat → Nat → Nat} {dA : Nat → ClassId}
theorem xm_nn {z : Int32} (hz : ¬ z < 0) : z.toInt = (z.toNatClampNeg : Int) := by
  have hz0 : (0 : Int) ≤ z.toInt := by
    have := Int32.not_lt.mp hz
    simpa using Int32.le_iff_toInt_le.mp this
  show z.toInt = ((z.toInt.toNat : Nat) : Int)
  omega
theorem xm_copy_ok (hC : xm_C p m c meth s args y) (hU : xm_U dC dI dA s) (hH : xm_H dC dI dA b M H) (hL : ∀ q ∈ locs, b ≤ q.base) {x a0 a1 n0 n1 : Nat} {f g : Nat → Int32} {sp dp n : Int32} (hac : pg_ac y x = true) (h0 : M.2.2 a0 = some (.inl (0, n0, .inl f))) (h1 : M.2.2 a1 = some (.inl (0, n1, .inl g)))
    (hsp : ¬ sp < 0) (hdp : ¬ dp < 0) (hn : ¬ n < 0) (h4 : sp.toNatClampNeg + n.toNatClampNeg ≤ n0) (h5 : dp.toNatClampNeg + n.toNatClampNeg ≤ n1) (hl : xm_L arr (pg_l y) ls) (hfr : 1 ≤ R.frames) (hlo : xm_wt st + (nativeFrameWords "java/lang/System" "arraycopy" 5 + 11) ≤ R.locals) (hdec : decode (pg_b y) pc = .ok (.invokestatic x, 3))
    (kk : xm_KK p l e R s m args below meth c Q dC dI dA b (xm_set M a1 (.inl (0, n1, .inl (va_cpy f g sp.toNatClampNeg dp.toNatClampNeg n.toNatClampNeg)))) H cells slots (pc + 3) arr st) : W p l e R s m args below meth c H locs cells slots Q (F0 m pc arr (.int n :: .int dp :: .ref a1 :: .int sp :: .ref a0 :: st)) := by
  obtain ⟨hx, hb, hml, hown, hts, hnm⟩ := hC
  obtain ⟨hK, -, -⟩ := hU
  obtain ⟨w1, w2, w3, w4⟩ := pg_ac_ok hac
  intro T hT X
  have hc0 : H[a0]? = some (vp_cell (dA 0) (n0, .inl f)) := (hH.2 a0 _ h0).2
  have hc1 : H[a1]? = some (vp_cell (dA 0) (n1, .inl g)) := (hH.2 a1 _ h1).2
  have hba := (hH.2 a1 _ h1).1
  obtain ⟨-, k0, hk0, cm0, hkk0⟩ := (hK.2 0 _ (xm_tys_at pg_at0)).1 n0 (fun j => .int (f j))
  obtain ⟨-, k1, hk1, cm1, hkk1⟩ := (hK.2 0 _ (xm_tys_at pg_at0)).1 n1 (fun j => .int (g j))
  obtain ⟨vm', X', step⟩ := X.arraycopy hx hown (hts _ w1) (hts _ w2) (hts _ w3) (hts _ w4) (src := a0) (dst := a1) (cs := vp_cell (dA 0) (n0, .inl f)) (cd := vp_cell (dA 0) (n1, .inl g)) (srcPos := sp) (destPos := dp) (n := n) (by rw [hT]; exact hc0) (by rw [hT]; exact hc1)
    (fun _ h => by cases h) (fun _ h => by cases h) (fun h => by cases h) (fun h => by cases h) hk0 hk1 hkk0 hkk1 (by simp [refKind]) hsp hdp hn
    (by rw [xm_nn hsp, xm_nn hn]; show ¬ _ > ((arrV (dA 0) n0 (fun j => .int (f j))).slots.size : Int); rw [arrV_size]; omega)
    (by rw [xm_nn hdp, xm_nn hn]; show ¬ _ > ((arrV (dA 0) n1 (fun j => .int (g j))).slots.size : Int); rw [arrV_size]; omega)
    (fun vm₁ _ i hi => by
      have e9 : (vp_cell (dA 0) (n0, .inl f)).slots.getD (sp.toNatClampNeg + i) .null = .int (f (sp.toNatClampNeg + i)) := by
        show (arrV (dA 0) n0 (fun j => .int (f j))).slots.getD _ _ = _
        rw [Array.getD_eq_getD_getElem?, arrV_read _ _ (by omega)]
        rfl
      rw [e9]
      exact ⟨rfl, trivial⟩)
    (g := F0 m pc arr (.int n :: .int dp :: .ref a1 :: .int sp :: .ref a0 :: st)) rfl (by rw [hml]; exact hl.1) (rest := st) rfl (by rw [hb]; exact hdec) hfr (by show 2 * 0 + _ + _ ≤ _; unfold xm_wt at hlo; omega)
  have e1 : copied (vp_cell (dA 0) (n0, .inl f)) (vp_cell (dA 0) (n1, .inl g)) sp dp n = vp_cell (dA 0) (n1, .inl (va_cpy f g sp.toNatClampNeg dp.toNatClampNeg n.toNatClampNeg)) := va_copied (fun z => .int z) (dA 0) (dA 0) f g h4
  rw [e1] at X' step
  have hl1 : a1 < H.size := (Array.getElem?_eq_some_iff.mp hc1).1
  have hheap : ((T.setVm vm').setCell a1 (vp_cell (dA 0) (n1, .inl (va_cpy f g sp.toNatClampNeg dp.toNatClampNeg n.toNatClampNeg)))).heap = H.setIfInBounds a1 (vp_cell (dA 0) (n1, .inl (va_cpy f g sp.toNatClampNeg dp.toNatClampNeg n.toNatClampNeg))) := by rw [← hT]; rfl
  have oq : ∀ q : Nat, q ≠ a1 → (H.setIfInBounds a1 (vp_cell (dA 0) (n1, .inl (va_cpy f g sp.toNatClampNeg dp.toNatClampNeg n.toNatClampNeg))))[q]? = H[q]? := fun q hq => by simp [Array.getElem?_setIfInBounds, Ne.symm hq]
  obtain ⟨t, b1, b2⟩ := kk _ _ (hH.set h1 (show (H.setIfInBounds a1 _)[a1]? = some _ by simp [Array.getElem?_setIfInBounds, hl1]) (by simp) oq) (fun q hq => by
      rcases List.mem_append.mp hq with h9 | h9
      · exact hL q h9
      · obtain ⟨z, -, hz⟩ := List.mem_map.mp h9
        rw [← hz]
        exact hba) (fun q hq => oq q (by omega)) _ hheap X'
  exact ⟨t, step t b1, b2⟩
end XM4
