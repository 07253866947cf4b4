/-! RUNS: a place of a method, with what is said of its end. Each instruction is an equation -/
def rn (sc : xm_Sc) (d y pc : Nat) (ls : xm_Ls) (st : List Value) (M : xm_M) (Q : Option Value → xm_M → Prop) : Prop := ∃ (n : Nat) (r : Option Value) (M' : xm_M), xm_ex sc n d y pc ls st M = some (r, M') ∧ Q r M'
theorem xm_ex_more (sc : xm_Sc) : ∀ (n d y pc : Nat) (ls : xm_Ls) (st : List Value) (M : xm_M) (x : Option Value × xm_M), xm_ex sc n d y pc ls st M = some x → xm_ex sc (n + 1) d y pc ls st M = some x
  | 0, _, _, _, _, _, _, _, h => by simp [xm_ex] at h
  | n + 1, d, y, pc, ls, st, M, x, h => by
    unfold xm_ex at h ⊢
    split at h
    · cases h
    · split at h
      · next hk =>
        rw [if_pos hk]
        split at h
        · exact h
        · split at h
          · split at h
            · cases h
            · split at h
              · next hc =>
                rw [if_pos hc]
                split at h
                · next r1 M1 h1 =>
                  rw [xm_ex_more sc n _ _ _ _ _ _ _ h1]
                  exact xm_ex_more sc n _ _ _ _ _ _ _ h
                · cases h
              · cases h
          · split at h
            · exact xm_ex_more sc n _ _ _ _ _ _ _ h
            · cases h
      · cases h
theorem xm_ex_le {sc : xm_Sc} {n k d y pc : Nat} {ls : xm_Ls} {st : List Value} {M : xm_M} {x : Option Value × xm_M} (h : xm_ex sc n d y pc ls st M = some x) (hk : n ≤ k) : xm_ex sc k d y pc ls st M = some x := by
  induction hk with
  | refl => exact h
  | step _ ih => exact xm_ex_more _ _ _ _ _ _ _ _ _ ih
section RN
variable {sc : xm_Sc} {d y pc k : Nat} {ls : xm_Ls} {st : List Value} {M : xm_M} {Q : Option Value → xm_M → Prop} {i : Instr}
theorem rn_step {q : xm_S} (hc : pg_code y pc = some (i, k)) (hk : k = xm_len i k) (hr : xm_ret y i st = none) (hi : xm_inv y i st M = none) (hs : xm_step sc d y pc i ls st M = some q) : rn sc d y pc ls st M Q = rn sc d y q.1 q.2.1 q.2.2.1 q.2.2.2 Q := by
  have e : ∀ n, xm_ex sc (n + 1) d y pc ls st M = xm_ex sc n d y q.1 q.2.1 q.2.2.1 q.2.2.2 := by
    intro n
    rw [xm_ex, hc]
    simp only [hr, hi, hs]
    rw [if_pos hk]
  refine propext ⟨?_, ?_⟩
  · rintro ⟨n, r, M', h, hq⟩
    cases n with
    | zero => simp [xm_ex] at h
    | succ n => exact ⟨n, r, M', (e n).symm.trans h, hq⟩
  · rintro ⟨n, r, M', h, hq⟩
    exact ⟨n + 1, r, M', (e n).trans h, hq⟩
theorem rn_none (hc : pg_code y pc = some (i, k)) (hr : xm_ret y i st = none) (hi : xm_inv y i st M = none) (hs : xm_step sc d y pc i ls st M = none) : rn sc d y pc ls st M Q = False := by
  refine propext ⟨?_, fun h => h.elim⟩
  rintro ⟨n, r, M', h, hq⟩
  cases n with
  | zero => simp [xm_ex] at h
  | succ n =>
    rw [xm_ex, hc] at h
    simp only [hr, hi, hs] at h
    split at h <;> cases h
theorem rn_ret {r : Option Value} (hc : pg_code y pc = some (i, k)) (hk : k = xm_len i k) (hr : xm_ret y i st = some r) : rn sc d y pc ls st M Q = Q r M := by
  have e : ∀ n, xm_ex sc (n + 1) d y pc ls st M = some (r, M) := by
    intro n
    rw [xm_ex, hc]
    simp only [hr]
    rw [if_pos hk]
  refine propext ⟨?_, ?_⟩
  · rintro ⟨n, r', M', h, hq⟩
    cases n with
    | zero => simp [xm_ex] at h
    | succ n =>
      have := (e n).symm.trans h
      cases this
      exact hq
  · intro hq
    exact ⟨1, r, M, e 0, hq⟩
theorem rn_call {z : Nat} {as rest : List Value} (hc : pg_code y pc = some (i, k)) (hk : k = xm_len i k) (hr : xm_ret y i st = none) (hi : xm_inv y i st M = some (z, as, rest)) (hw : xm_wt rest ≤ 8) (hl : as.length ≤ pg_l z) (ha : (as.all fun v => v.category == 1) = true) : rn sc d y pc ls st M Q = (0 < d ∧ rn sc (d - 1) z 0 (xm_entry z as) [] M (fun r M' => rn sc d y (pc + 3) ls (r.toList ++ rest) M' Q)) := by
  refine propext ⟨?_, ?_⟩
  · rintro ⟨n, r, M', h, hq⟩
    cases n with
    | zero => simp [xm_ex] at h
    | succ n =>
      rw [xm_ex, hc] at h
      simp only [hr, hi] at h
      rw [if_pos hk] at h
      cases d with
      | zero => cases h
      | succ d =>
        dsimp only at h
        rw [if_pos ⟨hw, hl, ha⟩] at h
        split at h
        · next r1 M1 h1 => exact ⟨Nat.succ_pos d, n, r1, M1, h1, n, r, M', h, hq⟩
        · cases h
  · rintro ⟨hd, n, r1, M1, h1, n2, r, M', h, hq⟩
    cases d with
    | zero => cases hd
    | succ d =>
      rw [Nat.add_sub_cancel] at h1
      refine ⟨max n n2 + 1, r, M', ?_, hq⟩
      rw [xm_ex, hc]
      simp only [hr, hi]
      rw [if_pos hk, if_pos ⟨hw, hl, ha⟩, xm_ex_le h1 (Nat.le_max_left n n2)]
      exact xm_ex_le h (Nat.le_max_right n n2)
theorem rn_mono {Q' : Option Value → xm_M → Prop} (h : rn sc d y pc ls st M Q) (hq : ∀ r M', Q r M' → Q' r M') : rn sc d y pc ls st M Q' := by
  obtain ⟨n, r, M', h1, h2⟩ := h
  exact ⟨n, r, M', h1, hq r M' h2⟩
/-- a method's contract as an equation: it ends so -/
theorem rn_eq {r : Option Value} {M' : xm_M} (h : rn sc d y pc ls st M (fun r' M'' => r' = r ∧ M'' = M')) : rn sc d y pc ls st M Q = Q r M' := by
  obtain ⟨n, r1, M1, h1, rfl, rfl⟩ := h
  refine propext ⟨?_, fun hq => ⟨n, r1, M1, h1, hq⟩⟩
  rintro ⟨n2, r2, M2, h2, hq⟩
  have e1 := xm_ex_le h1 (Nat.le_max_left n n2)
  have e2 := xm_ex_le h2 (Nat.le_max_right n n2)
  rw [e1] at e2
  cases e2
  exact hq
end RN
/-! what the heap's instructions look at, as functions -/
def hp_f (M : xm_M) (a ci k : Nat) : Option Value := match M.2.2 a with
  | some (.inr (cj, fs)) => if cj = ci then fs[k]? else none
  | _ => none
def hp_is (M : xm_M) (a ci : Nat) : Prop := ∃ fs, M.2.2 a = some (.inr (ci, fs))
def hp_pf (M : xm_M) (a ci k : Nat) (v : Value) : Option xm_M := match M.2.2 a with
  | some (.inr (cj, fs)) => if cj = ci ∧ narrow (pg_ft ci k) v = v ∧ fits (pg_ft ci k) v = true ∧ k < fs.length then some (xm_set M a (.inr (ci, fs.set k v))) else none
  | _ => none
/-- an element of an array of ints, or of the script -/
def hp_i (sc : xm_Sc) (M : xm_M) (a : Nat) (j : Int32) : Option Int32 := match M.2.2 a with
  | some (.inl (t, n, .inl f)) => if t = 0 then (if j < 0 ∨ n ≤ j.toNatClampNeg then none else some (f j.toNatClampNeg)) else none
  | none => if a = sc.1 then (if j < 0 ∨ sc.2.1 ≤ j.toNatClampNeg then none else some (sc.2.2 j.toNatClampNeg)) else none
  | _ => none
def hp_pi (M : xm_M) (a : Nat) (j x : Int32) : Option xm_M := match M.2.2 a with
  | some (.inl (t, n, .inl f)) => if t = 0 then (if j < 0 ∨ n ≤ j.toNatClampNeg then none else some (xm_set M a (.inl (0, n, .inl (upd f j.toNatClampNeg x))))) else none
  | _ => none
def hp_b (M : xm_M) (a : Nat) (j : Int32) : Option Int32 := match M.2.2 a with
  | some (.inl (t, n, .inl f)) => if t = 1 ∨ t = 2 then (if j < 0 ∨ n ≤ j.toNatClampNeg then none else some (f j.toNatClampNeg)) else none
  | _ => none
def hp_pb (M : xm_M) (a : Nat) (j x : Int32) : Option xm_M := match M.2.2 a with
  | some (.inl (t, n, .inl f)) => if j < 0 ∨ n ≤ j.toNatClampNeg then none else if t = 1 then some (xm_set M a (.inl (1, n, .inl (upd f j.toNatClampNeg (vp_nar .byte x))))) else if t = 2 then some (xm_set M a (.inl (2, n, .inl (upd f j.toNatClampNeg (vp_nar .boolean x))))) else none
  | _ => none
def hp_q (M : xm_M) (a : Nat) (j : Int32) : Option Value := match M.2.2 a with
  | some (.inl (t, n, .inr (.inr (.inr (.inr f))))) => if 3 ≤ t ∧ t < pg_at.length then (if j < 0 ∨ n ≤ j.toNatClampNeg then none else some (va_rf (f j.toNatClampNeg))) else none
  | _ => none
def hp_pq (M : xm_M) (a : Nat) (j : Int32) (v : Nat) : Option xm_M := match M.2.2 a with
  | some (.inl (t, n, .inr (.inr (.inr (.inr f))))) => match M.2.2 v with
    | some (.inr (ci, _)) => if pg_ok t ci = true then (if j < 0 ∨ n ≤ j.toNatClampNeg then none else some (xm_set M a (.inl (t, n, .inr (.inr (.inr (.inr (va_up f j.toNatClampNeg (some v))))))))) else none
    | _ => none
  | _ => none
def hp_len (sc : xm_Sc) (M : xm_M) (a : Nat) : Option Nat := match M.2.2 a with
  | some (.inl (t, n, _)) => if t < pg_at.length then some n else none
  | none => if a = sc.1 then some sc.2.1 else none
  | _ => none
def hp_cp (M : xm_M) (a0 : Nat) (sp : Int32) (a1 : Nat) (dp n : Int32) : Option xm_M := if ¬ sp < 0 ∧ ¬ dp < 0 ∧ ¬ n < 0 then match M.2.2 a0, M.2.2 a1 with
  | some (.inl (t0, n0, .inl f)), some (.inl (t1, n1, .inl g)) => if t0 = 0 ∧ t1 = 0 ∧ sp.toNatClampNeg + n.toNatClampNeg ≤ n0 ∧ dp.toNatClampNeg + n.toNatClampNeg ≤ n1 then some (xm_set M a1 (.inl (0, n1, .inl (va_cpy f g sp.toNatClampNeg dp.toNatClampNeg n.toNatClampNeg)))) else none
  | _, _ => none else none
def rn_o {α : Type} (o : Option α) (f : α → Prop) : Prop := match o with
  | some v => f v
  | none => False
theorem rn_os {α : Type} (v : α) (f : α → Prop) : rn_o (some v) f = f v := rfl
theorem rn_on {α : Type} (f : α → Prop) : rn_o none f = False := rfl
section RU
variable {sc : xm_Sc} {d y pc k : Nat} {ls : xm_Ls} {st : List Value} {M : xm_M} {Q : Option Value → xm_M → Prop} {i : Instr}
theorem ru_1 {pc' : Nat} {ls' : xm_Ls} {st' : List Value} (hc : pg_code y pc = some (i, k)) (hk : k = xm_len i k) (hr : xm_ret y i st = none) (hi : xm_inv y i st M = none) (h1 : xm_s1 y pc i ls st = some (pc', ls', st')) : rn sc d y pc ls st M Q = rn sc d y pc' ls' st' M Q :=
  rn_step hc hk hr hi (q := (pc', ls', st', M)) (by simp only [xm_step, h1])
theorem ru_k {pc' : Nat} {w v : Int32} (hc : pg_code y pc = some (i, k)) (hk : k = xm_len i k) (hr : xm_ret y i st = none) (hi : xm_inv y i st M = none) (h1 : xm_s1 y pc i ls st = some (pc', ls, .int w :: st)) (hv : w = v) : rn sc d y pc ls st M Q = rn sc d y pc' ls (.int v :: st) M Q := by
  subst hv
  exact ru_1 hc hk hr hi h1
theorem ru_2 {pc' : Nat} {st' : List Value} (hc : pg_code y pc = some (i, k)) (hk : k = xm_len i k) (hr : xm_ret y i st = none) (hi : xm_inv y i st M = none) (h0 : xm_s1 y pc i ls st = none) (h1 : xm_s2 pc i st = some (pc', st')) : rn sc d y pc ls st M Q = rn sc d y pc' ls st' M Q :=
  rn_step hc hk hr hi (q := (pc', ls, st', M)) (by simp only [xm_step, h0, h1])
theorem ru_div {u v : Int32} (hc : pg_code y pc = some (.idiv, 1)) : rn sc d y pc ls (.int v :: .int u :: st) M Q = (¬ v = 0 ∧ rn sc d y (pc + 1) ls (.int (u / v) :: st) M Q) := by
  by_cases h : v = 0
  · rw [rn_none hc rfl rfl (by simp [xm_step, xm_s1, xm_s2, xm_s3, h])]
    simp [h]
  · rw [ru_1 hc rfl rfl rfl (pc' := pc + 1) (ls' := ls) (st' := .int (u / v) :: st) (by simp [xm_s1, h])]
    simp [h]
theorem ru_rem {u v : Int32} (hc : pg_code y pc = some (.irem, 1)) : rn sc d y pc ls (.int v :: .int u :: st) M Q = (¬ v = 0 ∧ rn sc d y (pc + 1) ls (.int (u - u / v * v) :: st) M Q) := by
  by_cases h : v = 0
  · rw [rn_none hc rfl rfl (by simp [xm_step, xm_s1, xm_s2, xm_s3, h])]
    simp [h]
  · rw [ru_1 hc rfl rfl rfl (pc' := pc + 1) (ls' := ls) (st' := .int (u - u / v * v) :: st) (by simp [xm_s1, h])]
    simp [h]
theorem ru_go {off : Int} {t : Nat} (hc : pg_code y pc = some (.goto off, 3)) (hj : xm_jmp pc off = some t) : rn sc d y pc ls st M Q = rn sc d y t ls st M Q := ru_2 hc rfl rfl rfl rfl (by simp [xm_s2, hj])
theorem ru_if {c : ClassFile.Cond} {off : Int} {t : Nat} {x : Int32} {P : Prop} [Decidable P] (hP : (xm_icb c x 0 = true) = P) (hc : pg_code y pc = some (.ifCond c off, 3)) (hj : xm_jmp pc off = some t) : rn sc d y pc ls (.int x :: st) M Q = if P then rn sc d y t ls st M Q else rn sc d y (pc + 3) ls st M Q := by
  rw [ru_2 hc rfl rfl rfl rfl (pc' := if xm_icb c x 0 = true then t else pc + 3) (st' := st) (by simp [xm_s2, hj])]
  by_cases h : P
  · rw [if_pos h, if_pos (hP.mpr h)]
  · rw [if_neg h, if_neg (fun q => h (hP.mp q))]
theorem ru_ic {c : ClassFile.Cond} {off : Int} {t : Nat} {u v : Int32} {P : Prop} [Decidable P] (hP : (xm_icb c u v = true) = P) (hc : pg_code y pc = some (.if_icmp c off, 3)) (hj : xm_jmp pc off = some t) : rn sc d y pc ls (.int v :: .int u :: st) M Q = if P then rn sc d y t ls st M Q else rn sc d y (pc + 3) ls st M Q := by
  rw [ru_2 hc rfl rfl rfl rfl (pc' := if xm_icb c u v = true then t else pc + 3) (st' := st) (by simp [xm_s2, hj])]
  by_cases h : P
  · rw [if_pos h, if_pos (hP.mpr h)]
  · rw [if_neg h, if_neg (fun q => h (hP.mp q))]
theorem pc_eq {u v : Int32} : (xm_icb .eq u v = true) = (u = v) := by simp [xm_icb]
theorem pc_ne {u v : Int32} : (xm_icb .ne u v = true) = (¬ u = v) := by simp [xm_icb]
theorem pc_lt {u v : Int32} : (xm_icb .lt u v = true) = (u < v) := by simp only [xm_icb, decide_eq_true_eq]
theorem pc_ge {u v : Int32} : (xm_icb .ge u v = true) = (v ≤ u) := by simp only [xm_icb, decide_eq_true_eq]
theorem pc_gt {u v : Int32} : (xm_icb .gt u v = true) = (v < u) := by simp only [xm_icb, decide_eq_true_eq]
theorem pc_le {u v : Int32} : (xm_icb .le u v = true) = (u ≤ v) := by simp only [xm_icb, decide_eq_true_eq]
theorem ru_nn {off : Int} {t a : Nat} (hc : pg_code y pc = some (.ifnonnull off, 3)) (hj : xm_jmp pc off = some t) : rn sc d y pc ls (.ref a :: st) M Q = rn sc d y t ls st M Q := ru_2 hc rfl rfl rfl rfl (by simp [xm_s2, hj])
theorem ru_nnN {off : Int} (hc : pg_code y pc = some (.ifnonnull off, 3)) : rn sc d y pc ls (.null :: st) M Q = rn sc d y (pc + 3) ls st M Q := ru_2 hc rfl rfl rfl rfl rfl
theorem ru_nu {off : Int} {a : Nat} (hc : pg_code y pc = some (.ifnull off, 3)) : rn sc d y pc ls (.ref a :: st) M Q = rn sc d y (pc + 3) ls st M Q := ru_2 hc rfl rfl rfl rfl rfl
theorem ru_nuN {off : Int} {t : Nat} (hc : pg_code y pc = some (.ifnull off, 3)) (hj : xm_jmp pc off = some t) : rn sc d y pc ls (.null :: st) M Q = rn sc d y t ls st M Q := ru_2 hc rfl rfl rfl rfl (by simp [xm_s2, hj])
/-- a switch at a value: its place by the machine's own choice -/
theorem ru_sw {x : Int32} {pc' : Nat} (hc : pg_code y pc = some (i, k)) (hk : k = xm_len i k) (hr : xm_ret y i (.int x :: st) = none) (hi : xm_inv y i (.int x :: st) M = none) (h0 : xm_s1 y pc i ls (.int x :: st) = none) (h1 : (xm_s2 pc i [.int x]).map (fun q => q.1) = some pc') (h2 : ∀ r : List Value, xm_s2 pc i (.int x :: r) = (xm_s2 pc i [.int x]).map (fun q => (q.1, r))) : rn sc d y pc ls (.int x :: st) M Q = rn sc d y pc' ls st M Q := by
  obtain ⟨q, h3, h4⟩ := Option.map_eq_some_iff.mp h1
  refine ru_2 hc hk hr hi h0 ?_
  rw [h2, h3, ← h4]
  rfl
theorem sw_t {pc : Nat} {dflt lo hi : Int} {offs : Array Int} {x : Int32} (r : List Value) : xm_s2 pc (.tableswitch dflt lo hi offs) (.int x :: r) = (xm_s2 pc (.tableswitch dflt lo hi offs) [.int x]).map (fun q => (q.1, r)) := by
  simp only [xm_s2]
  split
  · cases xm_jmp pc dflt <;> rfl
  · split
    · next off _ => cases xm_jmp pc off <;> rfl
    · rfl
theorem sw_l {pc : Nat} {dflt : Int} {ps : Array (Int × Int)} {x : Int32} (r : List Value) : xm_s2 pc (.lookupswitch dflt ps) (.int x :: r) = (xm_s2 pc (.lookupswitch dflt ps) [.int x]).map (fun q => (q.1, r)) := by
  simp only [xm_s2]
  split
  · cases xm_jmp pc (Op.lookupswitch.offset ps.toList dflt x.toInt) <;> rfl
  · rfl
theorem sw_td {pc t : Nat} {dflt lo hi : Int} {offs : Array Int} {x : Int32} (h : x.toInt < lo ∨ hi < x.toInt) (hj : xm_jmp pc dflt = some t) : (xm_s2 pc (.tableswitch dflt lo hi offs) [.int x]).map (fun q => q.1) = some t := by
  simp only [xm_s2, if_pos h, hj]
  rfl
theorem ru_3 {pc' : Nat} {st' : List Value} {M' : xm_M} (hc : pg_code y pc = some (i, k)) (hk : k = xm_len i k) (hr : xm_ret y i st = none) (hi : xm_inv y i st M = none) (h0 : xm_s1 y pc i ls st = none) (h1 : xm_s2 pc i st = none) (h2 : xm_s3 sc d y pc i st M = some (pc', st', M')) : rn sc d y pc ls st M Q = rn sc d y pc' ls st' M' Q :=
  rn_step hc hk hr hi (q := (pc', ls, st', M')) (by simp only [xm_step, h0, h1, h2])
theorem ru_3n (hc : pg_code y pc = some (i, k)) (hr : xm_ret y i st = none) (hi : xm_inv y i st M = none) (h0 : xm_s1 y pc i ls st = none) (h1 : xm_s2 pc i st = none) (h2 : xm_s3 sc d y pc i st M = none) : rn sc d y pc ls st M Q = False :=
  rn_none hc hr hi (by simp only [xm_step, h0, h1, h2])
theorem ru_get {x a ci fk : Nat} {h : Option String} (hc : pg_code y pc = some (.getfield x, 3)) (hf : pg_f y x = some (ci, fk, h)) : rn sc d y pc ls (.ref a :: st) M Q = rn_o (hp_f M a ci fk) (fun v => rn sc d y (pc + 3) ls (v :: st) M Q) := by
  cases e : hp_f M a ci fk with
  | none =>
    refine ru_3n hc rfl rfl rfl rfl ?_
    unfold hp_f at e
    simp only [xm_s3, hf]
    rcases hM : M.2.2 a with _ | (o | ⟨cj, fs⟩)
    · rfl
    · rfl
    · rw [hM] at e
      dsimp only at e ⊢
      by_cases q : cj = ci
      · rw [if_pos q] at e ⊢
        rw [e]
      · rw [if_neg q]
  | some v =>
    refine ru_3 hc rfl rfl rfl rfl rfl ?_
    unfold hp_f at e
    simp only [xm_s3, hf]
    rcases hM : M.2.2 a with _ | (o | ⟨cj, fs⟩)
    · rw [hM] at e; cases e
    · rw [hM] at e; cases e
    · rw [hM] at e
      dsimp only at e ⊢
      by_cases q : cj = ci
      · rw [if_pos q] at e ⊢
        rw [e]
      · rw [if_neg q] at e; cases e
theorem ru_put {x a ci fk : Nat} {h : Option String} {v : Value} (hc : pg_code y pc = some (.putfield x, 3)) (hf : pg_f y x = some (ci, fk, h)) (hp : pg_pok y ci fk h = true) : rn sc d y pc ls (v :: .ref a :: st) M Q = rn_o (hp_pf M a ci fk v) (fun M' => rn sc d y (pc + 3) ls st M' Q) := by
  cases e : hp_pf M a ci fk v with
  | none =>
    refine ru_3n hc rfl rfl rfl rfl ?_
    unfold hp_pf at e
    simp only [xm_s3, hf]
    rcases hM : M.2.2 a with _ | (o | ⟨cj, fs⟩)
    · rfl
    · rfl
    · rw [hM] at e
      dsimp only at e ⊢
      rw [if_neg]
      intro z
      rw [if_pos ⟨z.1, z.2.2.1, z.2.2.2.1, z.2.2.2.2⟩] at e
      cases e
  | some M' =>
    refine ru_3 hc rfl rfl rfl rfl rfl ?_
    unfold hp_pf at e
    simp only [xm_s3, hf]
    rcases hM : M.2.2 a with _ | (o | ⟨cj, fs⟩)
    · rw [hM] at e; cases e
    · rw [hM] at e; cases e
    · rw [hM] at e
      dsimp only at e ⊢
      by_cases q : cj = ci ∧ narrow (pg_ft ci fk) v = v ∧ fits (pg_ft ci fk) v = true ∧ fk < fs.length
      · rw [if_pos q] at e
        rw [if_pos ⟨q.1, hp, q.2⟩]
        cases e
        rfl
      · rw [if_neg q] at e; cases e
theorem ru_iald {a : Nat} {j : Int32} (hc : pg_code y pc = some (.iaload, 1)) : rn sc d y pc ls (.int j :: .ref a :: st) M Q = rn_o (hp_i sc M a j) (fun v => rn sc d y (pc + 1) ls (.int v :: st) M Q) := by
  cases e : hp_i sc M a j with
  | none =>
    refine ru_3n hc rfl rfl rfl rfl ?_
    unfold hp_i at e
    simp only [xm_s3]
    split at e <;> (try split at e) <;> (try split at e) <;> simp_all
  | some v =>
    refine ru_3 hc rfl rfl rfl rfl rfl ?_
    unfold hp_i at e
    simp only [xm_s3]
    split at e <;> (try split at e) <;> (try split at e) <;> simp_all
theorem ru_iast {a : Nat} {j x : Int32} (hc : pg_code y pc = some (.iastore, 1)) : rn sc d y pc ls (.int x :: .int j :: .ref a :: st) M Q = rn_o (hp_pi M a j x) (fun M' => rn sc d y (pc + 1) ls st M' Q) := by
  cases e : hp_pi M a j x with
  | none =>
    refine ru_3n hc rfl rfl rfl rfl ?_
    unfold hp_pi at e
    simp only [xm_s3]
    split at e <;> (try split at e) <;> (try split at e) <;> simp_all
  | some v =>
    refine ru_3 hc rfl rfl rfl rfl rfl ?_
    unfold hp_pi at e
    simp only [xm_s3]
    split at e <;> (try split at e) <;> (try split at e) <;> simp_all
theorem ru_bald {a : Nat} {j : Int32} (hc : pg_code y pc = some (.baload, 1)) : rn sc d y pc ls (.int j :: .ref a :: st) M Q = rn_o (hp_b M a j) (fun v => rn sc d y (pc + 1) ls (.int v :: st) M Q) := by
  cases e : hp_b M a j with
  | none =>
    refine ru_3n hc rfl rfl rfl rfl ?_
    unfold hp_b at e
    simp only [xm_s3]
    split at e <;> (try split at e) <;> (try split at e) <;> simp_all
  | some v =>
    refine ru_3 hc rfl rfl rfl rfl rfl ?_
    unfold hp_b at e
    simp only [xm_s3]
    split at e <;> (try split at e) <;> (try split at e) <;> simp_all
theorem ru_bast {a : Nat} {j x : Int32} (hc : pg_code y pc = some (.bastore, 1)) : rn sc d y pc ls (.int x :: .int j :: .ref a :: st) M Q = rn_o (hp_pb M a j x) (fun M' => rn sc d y (pc + 1) ls st M' Q) := by
  cases e : hp_pb M a j x with
  | none =>
    refine ru_3n hc rfl rfl rfl rfl ?_
    unfold hp_pb at e
    simp only [xm_s3]
    split at e
    · next t n f q =>
      rw [q]
      dsimp only
      by_cases h1 : j < 0 ∨ n ≤ j.toNatClampNeg
      · rw [if_pos h1]
      · rw [if_neg h1] at e ⊢
        by_cases h2 : t = 1
        · rw [if_pos h2] at e; cases e
        · rw [if_neg h2] at e ⊢
          by_cases h3 : t = 2
          · rw [if_pos h3] at e; cases e
          · rw [if_neg h3]
    · next hno =>
      split
      · next t n f q => exact absurd q (hno t n f)
      · rfl
  | some M' =>
    refine ru_3 hc rfl rfl rfl rfl rfl ?_
    unfold hp_pb at e
    simp only [xm_s3]
    split at e
    · next t n f q =>
      rw [q]
      dsimp only
      by_cases h1 : j < 0 ∨ n ≤ j.toNatClampNeg
      · rw [if_pos h1] at e; cases e
      · rw [if_neg h1] at e ⊢
        by_cases h2 : t = 1
        · rw [if_pos h2] at e ⊢; cases e; rfl
        · rw [if_neg h2] at e ⊢
          by_cases h3 : t = 2
          · rw [if_pos h3] at e ⊢; cases e; rfl
          · rw [if_neg h3] at e; cases e
    · cases e
theorem ru_aald {a : Nat} {j : Int32} (hc : pg_code y pc = some (.aaload, 1)) : rn sc d y pc ls (.int j :: .ref a :: st) M Q = rn_o (hp_q M a j) (fun v => rn sc d y (pc + 1) ls (v :: st) M Q) := by
  cases e : hp_q M a j with
  | none =>
    refine ru_3n hc rfl rfl rfl rfl ?_
    unfold hp_q at e
    simp only [xm_s3]
    split at e
    · next t n f q =>
      rw [q]
      dsimp only
      by_cases h2 : 3 ≤ t ∧ t < pg_at.length
      · rw [if_pos h2] at e ⊢
        by_cases h1 : j < 0 ∨ n ≤ j.toNatClampNeg
        · rw [if_pos h1]
        · rw [if_neg h1] at e; cases e
      · rw [if_neg h2]
    · next hno =>
      split
      · next t n f q => exact absurd q (hno t n f)
      · rfl
  | some v =>
    refine ru_3 hc rfl rfl rfl rfl rfl ?_
    unfold hp_q at e
    simp only [xm_s3]
    split at e
    · next t n f q =>
      rw [q]
      dsimp only
      by_cases h2 : 3 ≤ t ∧ t < pg_at.length
      · rw [if_pos h2] at e ⊢
        by_cases h1 : j < 0 ∨ n ≤ j.toNatClampNeg
        · rw [if_pos h1] at e; cases e
        · rw [if_neg h1] at e ⊢; cases e; rfl
      · rw [if_neg h2] at e; cases e
    · cases e
theorem ru_aast {a v : Nat} {j : Int32} (hc : pg_code y pc = some (.aastore, 1)) : rn sc d y pc ls (.ref v :: .int j :: .ref a :: st) M Q = rn_o (hp_pq M a j v) (fun M' => rn sc d y (pc + 1) ls st M' Q) := by
  cases e : hp_pq M a j v with
  | none =>
    refine ru_3n hc rfl rfl rfl rfl ?_
    unfold hp_pq at e
    simp only [xm_s3]
    split at e <;> (try split at e) <;> (try split at e) <;> (try split at e) <;> simp_all
  | some M' =>
    refine ru_3 hc rfl rfl rfl rfl rfl ?_
    unfold hp_pq at e
    simp only [xm_s3]
    split at e <;> (try split at e) <;> (try split at e) <;> (try split at e) <;> simp_all
theorem ru_alen {a : Nat} (hc : pg_code y pc = some (.arraylength, 1)) : rn sc d y pc ls (.ref a :: st) M Q = rn_o (hp_len sc M a) (fun n => rn sc d y (pc + 1) ls (.int (Int32.ofNat n) :: st) M Q) := by
  cases e : hp_len sc M a with
  | none =>
    refine ru_3n hc rfl rfl rfl rfl ?_
    unfold hp_len at e
    simp only [xm_s3]
    split at e <;> (try split at e) <;> simp_all
  | some v =>
    refine ru_3 hc rfl rfl rfl rfl rfl ?_
    unfold hp_len at e
    simp only [xm_s3]
    split at e <;> (try split at e) <;> simp_all
theorem ru_new {x ci : Nat} {q : vw_C} (hc : pg_code y pc = some (.new x, 3)) (h1 : pg_c y x = some ci) (h2 : classes[ci]? = some q) : rn sc d y pc ls st M Q = rn sc d y (pc + 3) ls (.ref M.1 :: st) (xm_new M q.2.2 (.inr (ci, (List.range q.2.2).map (fun k => defaultValue (pg_ft ci k))))) Q :=
  ru_3 hc rfl rfl rfl rfl rfl (by simp only [xm_s3, h1, h2])
theorem ru_newi {j : Int32} (hc : pg_code y pc = some (.newarray .int, 2)) (h1 : ¬ j < 0 ∧ j.toNatClampNeg ≤ 100000) : rn sc d y pc ls (.int j :: st) M Q = rn sc d y (pc + 2) ls (.ref M.1 :: st) (xm_new M j.toNatClampNeg (.inl (0, j.toNatClampNeg, .inl (fun _ => 0)))) Q :=
  ru_3 hc rfl rfl rfl rfl rfl (by simp only [xm_s3, if_pos h1])
theorem ru_newb {j : Int32} (hc : pg_code y pc = some (.newarray .byte, 2)) (h1 : ¬ j < 0 ∧ j.toNatClampNeg ≤ 100000) : rn sc d y pc ls (.int j :: st) M Q = rn sc d y (pc + 2) ls (.ref M.1 :: st) (xm_new M j.toNatClampNeg (.inl (1, j.toNatClampNeg, .inl (fun _ => 0)))) Q :=
  ru_3 hc rfl rfl rfl rfl rfl (by simp only [xm_s3, if_pos h1])
theorem ru_newz {j : Int32} (hc : pg_code y pc = some (.newarray .boolean, 2)) (h1 : ¬ j < 0 ∧ j.toNatClampNeg ≤ 100000) : rn sc d y pc ls (.int j :: st) M Q = rn sc d y (pc + 2) ls (.ref M.1 :: st) (xm_new M j.toNatClampNeg (.inl (2, j.toNatClampNeg, .inl (fun _ => 0)))) Q :=
  ru_3 hc rfl rfl rfl rfl rfl (by simp only [xm_s3, if_pos h1])
theorem ru_newq {j : Int32} {x t : Nat} (hc : pg_code y pc = some (.anewarray x, 3)) (h2 : pg_a y x = some t) (h1 : ¬ j < 0 ∧ j.toNatClampNeg ≤ 100000) : rn sc d y pc ls (.int j :: st) M Q = rn sc d y (pc + 3) ls (.ref M.1 :: st) (xm_new M j.toNatClampNeg (.inl (t, j.toNatClampNeg, .inr (.inr (.inr (.inr (fun _ => none))))))) Q :=
  ru_3 hc rfl rfl rfl rfl rfl (by simp only [xm_s3, h2, if_pos h1])
theorem ru_oi {x a : Nat} (hc : pg_code y pc = some (.invokespecial x, 3)) (h0 : pg_i y x = none) (h1 : pg_o y x = true) : rn sc d y pc ls (.ref a :: st) M Q = ((0 < d ∧ xm_wt st ≤ 8) ∧ rn sc d y (pc + 3) ls st M Q) := by
  by_cases h : 0 < d ∧ xm_wt st ≤ 8
  · rw [ru_3 hc rfl rfl (by simp [xm_inv, h0]) rfl rfl (pc' := pc + 3) (st' := st) (M' := M) (by simp [xm_s3, h1, h])]
    simp [h]
  · rw [ru_3n hc rfl (by simp [xm_inv, h0]) rfl rfl (by simp only [xm_s3, h1, true_and]; rw [if_neg h])]
    simp [h]
theorem ru_cp {x a0 a1 : Nat} {sp dp n : Int32} (hc : pg_code y pc = some (.invokestatic x, 3)) (h0 : pg_i y x = none) (h1 : pg_ac y x = true) (hd : 0 < d) (hw : xm_wt st ≤ 8) {M' : xm_M} (e : hp_cp M a0 sp a1 dp n = some M') : rn sc d y pc ls (.int n :: .int dp :: .ref a1 :: .int sp :: .ref a0 :: st) M Q = rn sc d y (pc + 3) ls st M' Q := by
  refine ru_3 hc rfl rfl (by simp [xm_inv, h0]) rfl rfl ?_
  unfold hp_cp at e
  by_cases h : ¬ sp < 0 ∧ ¬ dp < 0 ∧ ¬ n < 0
  · rw [if_pos h] at e
    simp only [xm_s3]
    rw [if_pos ⟨h1, hd, hw, h⟩]
    split at e
    · next t0 n0 f t1 n1 g q0 q1 =>
      rw [q0, q1]
      dsimp only
      split at e
      · next q => rw [if_pos q]; cases e; rfl
      · cases e
    · cases e
  · rw [if_neg h] at e; cases e
theorem xm_allr {a : Nat} {as : List Value} (ha : (as.all fun v => v.category == 1) = true) : ((Value.ref a :: as.reverse).all fun v => v.category == 1) = true := by
  rw [List.all_cons, List.all_reverse, ha]
  rfl
theorem ru_iv {x z n ci a : Nat} {h : Option String} {as : List Value} (hc : pg_code y pc = some (.invokevirtual x, 3)) (hi : pg_i y x = some (z, n, h, ci, 0)) (hn : as.length = n) (hl : as.length + 1 ≤ pg_l z) (hw : xm_wt st ≤ 8) (ha : (as.all fun v => v.category == 1) = true) (hq : hp_is M a ci) : rn sc d y pc ls (as ++ .ref a :: st) M Q = (0 < d ∧ rn sc (d - 1) z 0 (xm_entry z (.ref a :: as.reverse)) [] M (fun r M' => rn sc d y (pc + 3) ls (r.toList ++ st) M' Q)) := by
  have e1 : (as ++ Value.ref a :: st).drop n = .ref a :: st := by rw [← hn]; simp
  have e2 : (as ++ Value.ref a :: st).take n = as := by rw [← hn]; simp
  obtain ⟨fs, hfs⟩ := id hq
  have hinv : xm_inv y (.invokevirtual x) (as ++ .ref a :: st) M = some (z, .ref a :: as.reverse, st) := by
    simp only [xm_inv, hi, e1, e2, hfs, hn, and_self, if_true]
  exact rn_call hc rfl rfl hinv hw (by simp; omega) (xm_allr ha)
theorem ru_is {x z n ci a : Nat} {h : Option String} {as : List Value} (hc : pg_code y pc = some (.invokespecial x, 3)) (hi : pg_i y x = some (z, n, h, ci, 1)) (hn : as.length = n) (hl : as.length + 1 ≤ pg_l z) (hw : xm_wt st ≤ 8) (ha : (as.all fun v => v.category == 1) = true) : rn sc d y pc ls (as ++ .ref a :: st) M Q = (0 < d ∧ rn sc (d - 1) z 0 (xm_entry z (.ref a :: as.reverse)) [] M (fun r M' => rn sc d y (pc + 3) ls (r.toList ++ st) M' Q)) := by
  have e1 : (as ++ Value.ref a :: st).drop n = .ref a :: st := by rw [← hn]; simp
  have e2 : (as ++ Value.ref a :: st).take n = as := by rw [← hn]; simp
  have hinv : xm_inv y (.invokespecial x) (as ++ .ref a :: st) M = some (z, .ref a :: as.reverse, st) := by
    simp only [xm_inv, hi, e1, e2, hn, and_self, if_true]
  exact rn_call hc rfl rfl hinv hw (by simp; omega) (xm_allr ha)
theorem ru_st {x z n ci : Nat} {h : Option String} {as : List Value} (hc : pg_code y pc = some (.invokestatic x, 3)) (hi : pg_i y x = some (z, n, h, ci, 2)) (hn : as.length = n) (hl : as.length ≤ pg_l z) (hw : xm_wt st ≤ 8) (ha : (as.all fun v => v.category == 1) = true) : rn sc d y pc ls (as ++ st) M Q = (0 < d ∧ rn sc (d - 1) z 0 (xm_entry z as.reverse) [] M (fun r M' => rn sc d y (pc + 3) ls (r.toList ++ st) M' Q)) := by
  have e1 : (as ++ st).drop n = st := by rw [← hn]; simp
  have e2 : (as ++ st).take n = as := by rw [← hn]; simp
  have hinv : xm_inv y (.invokestatic x) (as ++ st) M = some (z, as.reverse, st) := by
    simp only [xm_inv, hi, e1, e2, hn, and_self, if_true]
  exact rn_call hc rfl rfl hinv hw (by simp; omega) (by rw [List.all_reverse]; exact ha)
end RU
