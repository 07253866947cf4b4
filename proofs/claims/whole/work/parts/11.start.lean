/-! THE CLAIM OUT OF ONE WALK OF THE LAW'S BODY. Your part is whole_start (and what it stands on); all else here is the same for every law, but numbers. -/
def R_law : String := "PatternMillLaw"
def lw_P (b : Addr) (xs : List Int32) (args : Array Value) (s : State) : Prop := args = #[.ref b] ∧ s.IntsAt b xs ∧ xs.length ≤ 2048 ∧ (Jvm.Cond.and given_1 narrow_1).before args s = true
def lw_Q (_ : Array Value) (s : State) (o : Outcome) (t : State) : Prop := o = .returned (some (.int 1)) ∧ Framed s o t [] 600000 7302250
def lw_Z (below : List Frame) (a : Array Value) (s : State) : State → Prop := fun t => ∃ o, t.status = .running ∧ Ended t below o ∧ lw_Q a s o t
/-- the law's own end, with 1 on the stack, nothing written that was there before, its room as the claim has it -/
theorem lw_ret {p : Program} {l : Launch} {e : Env} {s : State} {m : MethodId} {below : List Frame} {meth : Method} {c : Code} {b : Nat} (hx : p.tables.exec = Jvm.exec) (hb : c.code = code) (hr : meth.sig.returnType = ret) (hlocks : meth.locks = false) {pc : Nat} {H : Heap} {ls : Array Slot} (hdg : decode code pc = .ok (.ireturn, 1)) : W p l e room_1 s m #[Value.ref b] below meth c H [] 600000 7302250 (lw_Z below #[Value.ref b] s) (F0 m pc ls [.int 1]) := by
  intro T hT X
  obtain ⟨fs, hret, hrun, hended, hW, hframe⟩ := X.leave (v := some (.int 1)) (hlocks := hlocks) (fun h => by rw [hr] at h; cases h)
  have hmeth' : T.vm.method? m = some meth := X.method'
  refine ⟨T.setFrames fs, ?_, .returned (some (.int 1)), hrun, hended, rfl, ⟨_, rfl⟩, hW, hframe⟩
  jvm_step X.here [X.here.top, hx, hb, hdg, hmeth', hr, ret, narrow_b1]
  (try refine ⟨rfl, ?_⟩); (try refine ⟨rfl, ?_⟩)
  first | (intro acts; rw [hret _ acts rfl rfl rfl]) | rw [hret _ _ rfl rfl rfl]
  exact Steps.refl _
/-- what holds at the law's entry: the machine, the code, the tables' words (any of lw_tbl by 'hts w (by decide +kernel)'), the script of L ints xs at the cell b, what the Statement gives of the start (any of its parts by flat_of_before) -/
def lw_At (p : Program) (s : State) (m : MethodId) (meth : Method) (c : Code) (b L : Nat) (xs : Nat → Int32) : Prop :=
  p.tables.exec = Jvm.exec ∧ c.code = code ∧ meth.sig.returnType = ret ∧ c.maxLocals = 4 ∧ s.vm.findClass R_law = some m.cls ∧ (∀ w ∈ lw_tbl, w.before #[Value.ref b] s = true) ∧ va_X b L xs s s.heap ∧ b < s.heap.size ∧ meth.locks = false ∧ (Jvm.Cond.and given_1 narrow_1).before #[Value.ref b] s = true

theorem pg_AO_in : ∀ C ∈ pg_AO, Cond.arrayOver (.object C) ∈ lw_tbl := by decide +kernel
theorem pg_at_AO0 : (List.range pg_at.length).all (fun t => match pg_at[t]? with | some (.object C) => decide (C ∈ pg_AO) | some ty => decide (Cond.arrayClass ty ∈ lw_tbl ∧ (ty = .int ∨ ty = .byte ∨ ty = .boolean)) | none => true) = true := by decide +kernel
theorem pg_nk_tab {w : Cond} (h : pg_nk w = true) : w.onTables = true := by
  unfold pg_nk at h
  split at h
  · rfl
  · rfl
  · cases h
set_option maxHeartbeats 4000000 in
/-- the law's walk out of a run of the small machine -/
theorem xm_start {p : Program} {e : Env} {s : State} {m : MethodId} {below : List Frame} {meth : Method} {c : Code} (l : Launch) {b L : Nat} {xs : Nat → Int32} (C0 : lw_At p s m meth c b L xs)
    (hlaw : ∀ sz : Nat, b < sz → ∃ (n : Nat) (M' : xm_M), xm_ex (b, L, xs) n 10 0 0 (xm_entry 0 [.ref b]) [] (sz, 0, fun _ => none) = some (some (.int 1), M') ∧ M'.1 - sz ≤ 600000 ∧ M'.2.1 ≤ 7302250) : W p l e room_1 s m #[Value.ref b] below meth c s.heap [] 0 0 (lw_Z below #[Value.ref b] s) (entryFrame m ([Value.ref b] : List Value).toArray 4) := by
  obtain ⟨hx, hb, hr, hml, hown, hts, hX, hbl, hlocks, hgv⟩ := id C0
  have hts2 : ∀ w ∈ pg_TS, w.before #[Value.ref b] s = true := fun w hw => hts w (List.mem_filter.mp hw).1
  have kn : ∀ k : Nat, ∃ d : ClassId × (Nat → Nat), ∀ q : vw_C, classes[k]? = some q → u_Kn s q.1 q.2.1 q.2.2 d.1 d.2 := by
    intro k
    cases hq : classes[k]? with
    | none => exact ⟨(0, fun _ => 0), fun q h => by cases h⟩
    | some q =>
      obtain ⟨C, T, N⟩ := q
      obtain ⟨h1, -, -, h4, -⟩ := pg_cl_ok hq
      obtain ⟨cC, iS, h5⟩ := u_known (C := C) (T := T) (N := N) (n := N) hts2 h1 (hts2 _ h4)
      exact ⟨(cC, iS), fun q h => by cases h; exact h5⟩
  obtain ⟨dd, hdd⟩ := Classical.axiomOfChoice kn
  have ka : ∀ t : Nat, ∃ cA : ClassId, ∀ ty : FieldType, pg_at[t]? = some ty → ArrOfT s cA ty ∧ va_RA s cA ty := by
    intro t
    cases hq : pg_at[t]? with
    | none => exact ⟨0, fun q h => by cases h⟩
    | some ty =>
      have h0 := List.all_eq_true.mp pg_at_AO0 t (List.mem_range.mpr (List.getElem?_eq_some_iff.mp hq).1)
      rw [hq] at h0
      have prim : Cond.arrayClass ty ∈ lw_tbl → (ty = .int ∨ ty = .byte ∨ ty = .boolean) → ∃ cA : ClassId, ∀ ty' : FieldType, some ty = some ty' → ArrOfT s cA ty' ∧ va_RA s cA ty' := by
        intro h1 h2
        obtain ⟨cA, kA, comp, g1, g2, g3⟩ := Cond.arrayClass_spec (hts _ h1)
        refine ⟨cA, fun ty' h => ?_⟩
        cases h
        refine ⟨fun N z => ⟨(fun k h => by cases h), kA, g2, comp, g3⟩, ?_⟩
        rcases h2 with rfl | rfl | rfl <;> exact g1
      cases ty with
      | object C =>
        simp only [decide_eq_true_eq] at h0
        obtain ⟨comp, cA, kA, g1, g2, g3, g4, g5⟩ := Cond.arrayOver_spec (hts _ (pg_AO_in C h0))
        refine ⟨cA, fun ty' h => ?_⟩
        cases h
        exact ⟨fun N z => ⟨(fun k h => by cases h), kA, g3, comp, g4⟩, kA, comp, g3, g4, g1, g5⟩
      | _ =>
        have h0 := of_decide_eq_true h0
        exact prim h0.1 h0.2
  obtain ⟨dA, hdA⟩ := Classical.axiomOfChoice ka
  have hU : xm_U (fun k => (dd k).1) (fun k => (dd k).2) dA s := by
    refine ⟨⟨fun k q h => hdd k q h, fun k q h => ?_⟩, fun w hw => va_Nw.of (pg_nk_tab (List.mem_filter.mp hw).2) (hts w (List.mem_filter.mp hw).1), fun C hC => va_AO.of (hts _ (pg_AO_in C hC))⟩
    unfold xm_tys at h
    rw [List.getElem?_mapIdx] at h
    obtain ⟨ty, h1, rfl⟩ := Option.map_eq_some_iff.mp h
    exact hdA k ty h1
  obtain ⟨n, M', hrun, hM1, hM2⟩ := hlaw s.heap.size hbl
  rw [lg_entry_eq]
  have hml2 : c.maxLocals = pg_l 0 := hml
  refine xm_sim l (fun k => (dd k).1) (fun k => (dd k).2) dA s.heap.size (b, L, xs) n 10 0 0 (xm_entry 0 [.ref b]) [] _ _ _ hrun p e room_1 s m #[Value.ref b] below meth c s.heap [] 0 0 _ _ ⟨hx, hb, hml2, hown, hts2, fun h => absurd h (by decide)⟩ hU ⟨hbl, hX⟩ ⟨rfl, fun a e9 h => by cases h⟩ (fun q hq => by cases hq) (Nat.le_refl _) (xm_L.entry (as := [.ref b]) (z := 0) rfl (Nat.le_of_ble_eq_true rfl)) (by decide) (by decide) (by show 0 + (M'.1 - s.heap.size) ≤ 600000; omega) (by show 0 + (M'.2.1 - 0) ≤ 7302250; omega) ?_
  intro pc' i arr' H' locs' hdec hret hH' hL' hlow
  have hi : i = .ireturn := by
    cases i <;> first | rfl | (simp [xm_ret] at hret; done) | (unfold xm_ret at hret; split at hret <;> first | (cases hret; done) | simp_all)
  subst hi
  refine va_forget hL' ?_
  refine W.widen (k := 600000) (n := 7302250) (by show 0 + (M'.1 - s.heap.size) ≤ 600000; omega) (by show 0 + (M'.2.1 - 0) ≤ 7302250; omega) ?_
  exact lw_ret hx hb hr hlocks hdec
