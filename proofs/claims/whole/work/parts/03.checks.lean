/-! what the tables say is what the Statement's words say -/
def xm_K : Nat := 37
def pg_nk : Cond → Bool
  | .fieldLinkNest _ _ _ _ _ _ => true
  | .methodLinkNest _ _ _ _ => true
  | _ => false
def pg_TS : List Cond := lw_tbl.filter goodWord
def pg_NS : List Cond := lw_tbl.filter pg_nk
theorem pg_NS_kind (w : Cond) (h : w ∈ pg_NS) : pg_nk w = true := (List.mem_filter.mp h).2
theorem pg_TS_good (w : Cond) (h : w ∈ pg_TS) : (w.onTables && w.keeps) = true ∨ ∃ ty, w = .arrayClass ty := good_of_word (List.mem_filter.mp h).2
theorem pg_in {p : Nat} {w : Cond} (h : lw_tbl[p]? = some w) (hg : goodWord w = true) : w ∈ pg_TS := List.mem_filter.mpr ⟨List.mem_of_getElem? h, hg⟩
theorem pg_inN {p : Nat} {w : Cond} (h : lw_tbl[p]? = some w) (hg : pg_nk w = true) : w ∈ pg_NS := List.mem_filter.mpr ⟨List.mem_of_getElem? h, hg⟩
theorem pg_lk {α : Type} {x : Nat} {e : α} : ∀ {l : List (Nat × α)}, l.lookup x = some e → (x, e) ∈ l
  | [], h => by simp at h
  | (a, b) :: l, h => by
    rw [List.lookup_cons] at h
    by_cases q : x = a
    · subst q
      simp at h
      subst h
      exact List.mem_cons_self
    · have : (x == a) = false := by simpa using q
      rw [this] at h
      exact List.mem_cons_of_mem _ (pg_lk h)
theorem pg_getD {α : Type} (l : List α) (d : α) {n : Nat} (h : l.length ≤ n) : l.getD n d = d := by
  rw [List.getD_eq_getElem?_getD, List.getElem?_eq_none h]
  rfl
theorem pg_all {α : Type} {t : List (List α)} {f : Nat → α → Bool} (h : (List.range t.length).all (fun o => (t.getD o []).all (f o)) = true) {o : Nat} {e : α} (he : e ∈ t.getD o []) : f o e = true := by
  by_cases ho : o < t.length
  · exact List.all_eq_true.mp (List.all_eq_true.mp h o (List.mem_range.mpr ho)) e he
  · rw [pg_getD _ _ (by omega)] at he
    cases he
def pg_own (o : Nat) : String := pg_on.getD o ""
theorem pg_own_ok0 : (List.range pg_n).all (fun y => decide (pg_own (pg_o1 y) = (pg_y y).cls)) = true := by decide +kernel
theorem pg_len : pg_ms.length = pg_n := by decide +kernel
theorem pg_big {y : Nat} (h : ¬ y < pg_n) : pg_o1 y = 99 := by
  unfold pg_o1 pg_m
  rw [pg_getD _ _ (by rw [pg_len]; omega)]
theorem pg_own_ok {y : Nat} (h : pg_o1 y ≠ 99) : pg_own (pg_o1 y) = (pg_y y).cls := by
  by_cases hy : y < pg_n
  · exact of_decide_eq_true (List.all_eq_true.mp pg_own_ok0 y (List.mem_range.mpr hy))
  · exact absurd (pg_big hy) h
theorem pg_no {α : Type} {t : List (List α)} {y : Nat} {e : α} (hl : t.length ≤ 99) (h : e ∈ t.getD (pg_o1 y) []) : pg_o1 y ≠ 99 := by
  intro q
  rw [q, pg_getD _ _ hl] at h
  cases h
def pg_fchk (o : Nat) (e : Nat × Nat × Nat × Option String × Nat) : Bool := match classes[e.2.1]? with
  | some q => decide (e.2.2.1 < q.2.2) && (match e.2.2.2.1 with
    | none => decide (lw_tbl[e.2.2.2.2]? = some (Cond.fieldLink (pg_own o) e.1 (q.2.1 e.2.2.1).1 (q.2.1 e.2.2.1).2.1 (q.2.1 e.2.2.1).2.2.1))
    | some h => decide (lw_tbl[e.2.2.2.2]? = some (Cond.fieldLinkNest (pg_own o) e.1 (q.2.1 e.2.2.1).1 (q.2.1 e.2.2.1).2.1 (q.2.1 e.2.2.1).2.2.1 h)))
  | none => false
theorem pg_fall : (List.range pg_ftab.length).all (fun o => (pg_ftab.getD o []).all (pg_fchk o)) = true := by decide +kernel
theorem pg_f_ok {y x ci k : Nat} {h : Option String} (hf : pg_f y x = some (ci, k, h)) : ∃ (C : String) (T : u_T) (N : Nat), classes[ci]? = some (C, T, N) ∧ k < N ∧ ((h = none ∧ Cond.fieldLink (pg_y y).cls x (T k).1 (T k).2.1 (T k).2.2.1 ∈ pg_TS) ∨ ∃ host, h = some host ∧ Cond.fieldLinkNest (pg_y y).cls x (T k).1 (T k).2.1 (T k).2.2.1 host ∈ pg_NS) := by
  unfold pg_f at hf
  obtain ⟨e, h1, h2⟩ := Option.map_eq_some_iff.mp hf
  obtain ⟨ci', k', h', ps⟩ := e
  simp only [Prod.mk.injEq] at h2
  obtain ⟨rfl, rfl, rfl⟩ := h2
  have hm := pg_lk h1
  have ho := pg_own_ok (pg_no (by decide) hm)
  have hc := pg_all pg_fall hm
  unfold pg_fchk at hc
  split at hc
  · next q hq =>
    rw [Bool.and_eq_true, decide_eq_true_eq] at hc
    obtain ⟨h3, h4⟩ := hc
    obtain ⟨C, T, N⟩ := q
    refine ⟨C, T, N, hq, h3, ?_⟩
    split at h4
    · next q9 =>
      rw [decide_eq_true_eq, ho] at h4
      exact Or.inl ⟨q9, pg_in h4 rfl⟩
    · next hh q9 =>
      rw [decide_eq_true_eq, ho] at h4
      exact Or.inr ⟨hh, q9, pg_inN h4 rfl⟩
  · cases hc
def pg_clchk (ci : Nat) (e : Nat × Nat × List Nat) : Bool := match classes[ci]? with
  | some q => decide (lw_tbl[e.1]? = some (Cond.instantiable q.1 q.2.2)) && decide (lw_tbl[e.2.1]? = some (Cond.initialized q.1)) && (List.range q.2.2).all (fun k => decide (lw_tbl[e.2.2.getD k 0]? = some (u_lay q.1 q.2.1 k)) && decide (parseFieldDescriptor (q.2.1 k).2.2.1 = some (pg_ft ci k)) && (List.range q.2.2).all (fun j => decide (k = j ∨ (q.2.1 k).2.1 ≠ (q.2.1 j).2.1)))
  | none => true
theorem pg_clall : (List.range classes.length).all (fun ci => pg_clchk ci (pg_clp.getD ci (0, 0, []))) = true := by decide +kernel
theorem pg_lay_good (C : String) (T : u_T) (k : Nat) : goodWord (u_lay C T k) = true := by
  unfold u_lay
  split <;> rfl
theorem pg_cl_ok {ci N : Nat} {C : String} {T : u_T} (h : classes[ci]? = some (C, T, N)) : (∀ w ∈ u_ws C T N, w ∈ pg_TS) ∧ (∀ k, k < N → parseFieldDescriptor (T k).2.2.1 = some (pg_ft ci k)) ∧ (∀ a, a < N → ∀ b, b < N → a ≠ b → (T a).2.1 ≠ (T b).2.1) ∧ Cond.instantiable C N ∈ pg_TS ∧ Cond.initialized C ∈ pg_TS := by
  have hl : ci < classes.length := (List.getElem?_eq_some_iff.mp h).1
  have hc := List.all_eq_true.mp pg_clall ci (List.mem_range.mpr hl)
  unfold pg_clchk at hc
  rw [h] at hc
  simp only [Bool.and_eq_true, decide_eq_true_eq, List.all_eq_true, List.mem_range] at hc
  obtain ⟨⟨h1, h2⟩, h3⟩ := hc
  refine ⟨fun w hw => ?_, fun k hk => (h3 k hk).1.2, fun a ha b hb hab => ((h3 a ha).2 b hb).resolve_left hab, pg_in h1 rfl, pg_in h2 rfl⟩
  obtain ⟨k, hk, rfl⟩ := List.mem_map.mp hw
  exact pg_in (h3 k (List.mem_range.mp hk)).1.1 (pg_lay_good C T k)
def pg_cchk (o : Nat) (e : Nat × Nat × Nat) : Bool := match classes[e.2.1]? with
  | some q => decide (lw_tbl[e.2.2]? = some (Cond.classLink (pg_own o) e.1 q.1))
  | none => false
theorem pg_call : (List.range pg_ctab.length).all (fun o => (pg_ctab.getD o []).all (pg_cchk o)) = true := by decide +kernel
theorem pg_c_ok {y x ci : Nat} (h : pg_c y x = some ci) : ∃ q, classes[ci]? = some q ∧ Cond.classLink (pg_y y).cls x q.1 ∈ pg_TS := by
  unfold pg_c at h
  obtain ⟨e, h1, rfl⟩ := Option.map_eq_some_iff.mp h
  have hm := pg_lk h1
  have ho := pg_own_ok (pg_no (by decide) hm)
  have hc := pg_all pg_call hm
  unfold pg_cchk at hc
  split at hc
  · next q hq =>
    rw [decide_eq_true_eq, ho] at hc
    exact ⟨q, hq, pg_in hc rfl⟩
  · cases hc
def pg_achk (o : Nat) (e : Nat × Nat × Nat) : Bool := match pg_at[e.2.1]? with
  | some (.object C) => decide (lw_tbl[e.2.2]? = some (Cond.classLink (pg_own o) e.1 C)) && decide (C ∈ pg_AO)
  | _ => false
theorem pg_aall : (List.range pg_atab.length).all (fun o => (pg_atab.getD o []).all (pg_achk o)) = true := by decide +kernel
theorem pg_a_ok {y x t : Nat} (h : pg_a y x = some t) : ∃ C, pg_at[t]? = some (.object C) ∧ Cond.classLink (pg_y y).cls x C ∈ pg_TS ∧ C ∈ pg_AO := by
  unfold pg_a at h
  obtain ⟨e, h1, rfl⟩ := Option.map_eq_some_iff.mp h
  have hm := pg_lk h1
  have ho := pg_own_ok (pg_no (by decide) hm)
  have hc := pg_all pg_aall hm
  unfold pg_achk at hc
  split at hc
  · next C hq =>
    rw [Bool.and_eq_true, decide_eq_true_eq, decide_eq_true_eq, ho] at hc
    exact ⟨C, hq, pg_in hc.1 rfl, hc.2⟩
  · cases hc
def pg_kchk (o : Nat) (e : Nat × Int32 × Nat) : Bool := decide (lw_tbl[e.2.2]? = some (Cond.constant (pg_own o) e.1 e.2.1))
theorem pg_kall : (List.range pg_ktab.length).all (fun o => (pg_ktab.getD o []).all (pg_kchk o)) = true := by decide +kernel
theorem pg_k_ok {y x : Nat} {v : Int32} (h : pg_k y x = some v) : Cond.constant (pg_y y).cls x v ∈ pg_TS := by
  unfold pg_k at h
  obtain ⟨e, h1, rfl⟩ := Option.map_eq_some_iff.mp h
  have hm := pg_lk h1
  have ho := pg_own_ok (pg_no (by decide) hm)
  have hc := pg_all pg_kall hm
  unfold pg_kchk at hc
  rw [decide_eq_true_eq, ho] at hc
  exact pg_in hc rfl
theorem pg_oall : (List.range pg_otab.length).all (fun o => (pg_otab.getD o []).all (fun e => decide (lw_tbl[e.2]? = some (Cond.methodLink (pg_own o) e.1 objectInit)))) = true := by decide +kernel
theorem pg_oi : Cond.instanceMethod objectInit ∈ pg_TS ∧ Cond.code objectInit ⟨#[0xb1]⟩ 1 none ∈ pg_TS := ⟨pg_in (p := pg_oip.1) (by decide +kernel) rfl, pg_in (p := pg_oip.2) (by decide +kernel) rfl⟩
theorem pg_o_ok {y x : Nat} (h : pg_o y x = true) : Cond.methodLink (pg_y y).cls x objectInit ∈ pg_TS ∧ Cond.instanceMethod objectInit ∈ pg_TS ∧ Cond.code objectInit ⟨#[0xb1]⟩ 1 none ∈ pg_TS := by
  unfold pg_o at h
  obtain ⟨e, h1⟩ := Option.isSome_iff_exists.mp h
  have hm := pg_lk h1
  have ho := pg_own_ok (pg_no (by decide) hm)
  have hc := pg_all pg_oall hm
  rw [decide_eq_true_eq, ho] at hc
  exact ⟨pg_in hc rfl, pg_oi⟩
theorem pg_acall : (List.range pg_actab.length).all (fun o => (pg_actab.getD o []).all (fun e => decide (lw_tbl[e.2]? = some (Cond.methodLink (pg_own o) e.1 arraycopyName)))) = true := by decide +kernel
theorem pg_aci : Cond.native arraycopyName ∈ pg_TS ∧ Cond.static arraycopyName ∈ pg_TS ∧ Cond.initialized "java/lang/System" ∈ pg_TS := ⟨pg_in (p := pg_acp.1) (by decide +kernel) rfl, pg_in (p := pg_acp.2.1) (by decide +kernel) rfl, pg_in (p := pg_acp.2.2) (by decide +kernel) rfl⟩
theorem pg_ac_ok {y x : Nat} (h : pg_ac y x = true) : Cond.methodLink (pg_y y).cls x arraycopyName ∈ pg_TS ∧ Cond.native arraycopyName ∈ pg_TS ∧ Cond.static arraycopyName ∈ pg_TS ∧ Cond.initialized "java/lang/System" ∈ pg_TS := by
  unfold pg_ac at h
  obtain ⟨e, h1⟩ := Option.isSome_iff_exists.mp h
  have hm := pg_lk h1
  have ho := pg_own_ok (pg_no (by decide) hm)
  have hc := pg_all pg_acall hm
  rw [decide_eq_true_eq, ho] at hc
  exact ⟨pg_in hc rfl, pg_aci⟩
theorem pg_at0 : pg_at[0]? = some .int := rfl
theorem pg_at1 : pg_at[1]? = some .byte := rfl
theorem pg_at2 : pg_at[2]? = some .boolean := rfl
theorem pg_at_obj0 : (List.range pg_at.length).all (fun t => decide (t < 3) || match pg_at[t]? with | some (.object _) => true | _ => false) = true := by decide +kernel
theorem pg_at_obj {t : Nat} (h : 3 ≤ t) (h2 : t < pg_at.length) : ∃ C, pg_at[t]? = some (.object C) := by
  have h3 := List.all_eq_true.mp pg_at_obj0 t (List.mem_range.mpr h2)
  rw [Bool.or_eq_true, decide_eq_true_eq] at h3
  rcases h3 with h3 | h3
  · omega
  · split at h3
    · next C hC => exact ⟨C, hC⟩
    · cases h3
theorem pg_ai : Cond.arrayClass .int ∈ pg_TS := pg_in (p := pg_arp.getD 0 0) (by decide +kernel) rfl
theorem pg_ab : Cond.arrayClass .byte ∈ pg_TS := pg_in (p := pg_arp.getD 1 0) (by decide +kernel) rfl
theorem pg_az : Cond.arrayClass .boolean ∈ pg_TS := pg_in (p := pg_arp.getD 2 0) (by decide +kernel) rfl
/-- z, n, host, ci, kind, then the places: link, initialized, instanceMethod or static, selects -/
def pg_ichk (o : Nat) (e : Nat × Nat × Nat × Option String × Nat × Nat × Nat × Nat × Nat × Nat) : Bool := match e with
  | (x, z, n, host, ci, kd, ps, pi, p1, p2) => decide (0 < z ∧ z < pg_n) && decide ((parseMethodDescriptor (pg_y z).desc).map (fun d => d.parameters.length) = some n) && decide (lw_tbl[pi]? = some (Cond.initialized (pg_y z).cls)) && decide ((pg_y z).cls ≠ "java/lang/invoke/MethodHandle" ∧ (pg_y z).cls ≠ "java/lang/invoke/VarHandle") && (match host with
    | none => decide (lw_tbl[ps]? = some (Cond.methodLink (pg_own o) x (pg_y z)))
    | some h => decide (lw_tbl[ps]? = some (Cond.methodLinkNest (pg_own o) x (pg_y z) h))) && (if kd = 0 then decide (lw_tbl[p1]? = some (Cond.instanceMethod (pg_y z))) && decide (lw_tbl[p2]? = some (Cond.selects (pg_y z).cls (pg_y z) (pg_y z))) && decide (classes[ci]?.map (fun q => q.1) = some (pg_y z).cls) else if kd = 1 then decide (lw_tbl[p1]? = some (Cond.instanceMethod (pg_y z))) && decide ((pg_y z).name = "<init>" ∧ pg_r z = none) else decide (kd = 2) && decide (lw_tbl[p1]? = some (Cond.static (pg_y z))))
theorem pg_iall : (List.range pg_itab.length).all (fun o => (pg_itab.getD o []).all (pg_ichk o)) = true := by decide +kernel
theorem pg_i_ok {y x z n ci kd : Nat} {h : Option String} (hi : pg_i y x = some (z, n, h, ci, kd)) : (0 < z ∧ z < pg_n) ∧ (parseMethodDescriptor (pg_y z).desc).map (fun d => d.parameters.length) = some n ∧ Cond.initialized (pg_y z).cls ∈ pg_TS ∧ ((pg_y z).cls ≠ "java/lang/invoke/MethodHandle" ∧ (pg_y z).cls ≠ "java/lang/invoke/VarHandle") ∧ ((h = none ∧ Cond.methodLink (pg_y y).cls x (pg_y z) ∈ pg_TS) ∨ ∃ host, h = some host ∧ Cond.methodLinkNest (pg_y y).cls x (pg_y z) host ∈ pg_NS) ∧
    (kd = 0 → Cond.instanceMethod (pg_y z) ∈ pg_TS ∧ Cond.selects (pg_y z).cls (pg_y z) (pg_y z) ∈ pg_TS ∧ ∃ q, classes[ci]? = some q ∧ q.1 = (pg_y z).cls) ∧ (kd = 1 → Cond.instanceMethod (pg_y z) ∈ pg_TS ∧ (pg_y z).name = "<init>" ∧ pg_r z = none) ∧ (kd = 2 → Cond.static (pg_y z) ∈ pg_TS) := by
  unfold pg_i at hi
  obtain ⟨e, h1, h2⟩ := Option.map_eq_some_iff.mp hi
  obtain ⟨z', n', h', ci', kd', ps, pi, p1, p2⟩ := e
  simp only [Prod.mk.injEq] at h2
  obtain ⟨rfl, rfl, rfl, rfl, rfl⟩ := h2
  have hm := pg_lk h1
  have ho := pg_own_ok (pg_no (by decide) hm)
  have hc := pg_all pg_iall hm
  simp only [pg_ichk, Bool.and_eq_true, decide_eq_true_eq, ho] at hc
  obtain ⟨⟨⟨⟨⟨c1, c2⟩, c3⟩, c4⟩, c5⟩, c6⟩ := hc
  refine ⟨c1, c2, pg_in c3 rfl, c4, ?_, ?_, ?_, ?_⟩
  · split at c5
    · rw [decide_eq_true_eq] at c5
      exact Or.inl ⟨rfl, pg_in c5 rfl⟩
    · next hh =>
      rw [decide_eq_true_eq] at c5
      exact Or.inr ⟨hh, rfl, pg_inN c5 rfl⟩
  · intro q
    subst q
    rw [if_pos rfl, Bool.and_eq_true, Bool.and_eq_true, decide_eq_true_eq, decide_eq_true_eq, decide_eq_true_eq] at c6
    obtain ⟨q, h3, h4⟩ := Option.map_eq_some_iff.mp c6.2
    exact ⟨pg_in c6.1.1 rfl, pg_in c6.1.2 rfl, q, h3, h4⟩
  · intro q
    subst q
    rw [if_neg (by decide), if_pos rfl, Bool.and_eq_true, decide_eq_true_eq, decide_eq_true_eq] at c6
    exact ⟨pg_in c6.1 rfl, c6.2⟩
  · intro q
    subst q
    rw [if_neg (by decide), if_neg (by decide), Bool.and_eq_true, decide_eq_true_eq, decide_eq_true_eq] at c6
    exact pg_in c6.2 rfl
