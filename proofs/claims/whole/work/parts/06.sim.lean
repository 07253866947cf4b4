/-! the small machine's steps are the machine's -/
def xm_L (arr : Array Slot) (nL : Nat) (ls : xm_Ls) : Prop := arr.size = nL ∧ ls.length = nL ∧ lv_wf arr ∧ ∀ (i : Nat) (v : Value), ls[i]? = some (some v) → v.category = 1 ∧ arr[i]? = some (.val v)
def xm_lv (ls : xm_Ls) : List (Nat × Value) := (List.range ls.length).filterMap (fun i => (xm_ld ls i).map (fun v => (i, v)))
theorem xm_ld_iff {ls : xm_Ls} {i : Nat} {v : Value} : xm_ld ls i = some v ↔ ls[i]? = some (some v) := by
  unfold xm_ld
  split
  · next w h => rw [h]; simp
  · next h =>
    constructor
    · intro q; cases q
    · intro q; exact absurd q (h v)
theorem xm_lv_mem {ls : xm_Ls} {q : Nat × Value} : q ∈ xm_lv ls ↔ ls[q.1]? = some (some q.2) := by
  obtain ⟨i, v⟩ := q
  simp only [xm_lv, List.mem_filterMap, List.mem_range, Option.map_eq_some_iff, Prod.mk.injEq]
  constructor
  · rintro ⟨j, hj, w, hw, rfl, rfl⟩
    exact xm_ld_iff.mp hw
  · intro h
    exact ⟨i, (List.getElem?_eq_some_iff.mp h).1, v, xm_ld_iff.mpr h, rfl, rfl⟩
theorem xm_L.has {arr : Array Slot} {nL : Nat} {ls : xm_Ls} (h : xm_L arr nL ls) : lv_has arr nL (xm_lv ls) := ⟨h.1, h.2.2.1, fun q hq => (h.2.2.2 q.1 q.2 (xm_lv_mem.mp hq)).2⟩
theorem xm_L.get {arr : Array Slot} {nL i : Nat} {ls : xm_Ls} {v : Value} (h : xm_L arr nL ls) (hv : xm_ld ls i = some v) : arr[i]? = some (.val v) := (h.2.2.2 i v (xm_ld_iff.mp hv)).2
theorem xm_L.put {arr arr' : Array Slot} {nL i : Nat} {ls : xm_Ls} {v : Value} (h : xm_L arr nL ls) (hi : i < ls.length) (hc : v.category = 1) (h' : lv_has arr' nL ((i, v) :: (xm_lv ls).filter (fun q => !(q.1 == i) && !(q.1 + 1 == i && q.2.category == 2)))) : xm_L arr' nL (ls.set i (some v)) := by
  refine ⟨h'.1, by simp [h.2.1], h'.2.1, fun j w hj => ?_⟩
  rw [List.getElem?_set] at hj
  by_cases hij : i = j
  · subst hij
    rw [if_pos rfl, if_pos hi] at hj
    cases hj
    exact ⟨hc, h'.2.2 _ List.mem_cons_self⟩
  · rw [if_neg hij] at hj
    obtain ⟨h1, h2⟩ := h.2.2.2 j w hj
    refine ⟨h1, h'.2.2 (j, w) (List.mem_cons_of_mem _ (List.mem_filter.mpr ⟨xm_lv_mem.mpr hj, ?_⟩))⟩
    simp [h1, Ne.symm hij]
theorem xm_L.inc {arr : Array Slot} {nL i : Nat} {ls : xm_Ls} {v : Value} (h : xm_L arr nL ls) (hv : xm_ld ls i = some v) : i < nL ∧ ∃ k : Nat, (xm_lv ls)[k]? = some (i, v) := by
  have h1 := xm_ld_iff.mp hv
  refine ⟨by rw [← h.2.1]; exact (List.getElem?_eq_some_iff.mp h1).1, ?_⟩
  obtain ⟨k, hk⟩ := List.getElem?_of_mem (xm_lv_mem.mpr (show ls[((i, v) : Nat × Value).1]? = some (some ((i, v) : Nat × Value).2) from h1))
  exact ⟨k, hk⟩
theorem xm_args_mem : ∀ (as : List Value) (j i : Nat) (v : Value), (as.all fun v => v.category == 1) = true → as[i]? = some v → (j + i, v) ∈ lv_args j as
  | [], _, _, _, _, h => by simp at h
  | a :: as, j, i, v, hc, h => by
    simp only [List.all_cons, Bool.and_eq_true, beq_iff_eq] at hc
    cases i with
    | zero =>
      simp only [List.getElem?_cons_zero, Option.some.injEq] at h
      subst h
      simp [lv_args]
    | succ i =>
      simp only [List.getElem?_cons_succ] at h
      have := xm_args_mem as (j + 1) i v hc.2 h
      simp only [lv_args, hc.1]
      refine List.mem_cons_of_mem _ ?_
      rw [show j + (i + 1) = j + 1 + i by omega]
      simpa using this
theorem xm_sl_len : ∀ (as : List Value), (as.all fun v => v.category == 1) = true → (lg_sl as).length = as.length
  | [], _ => rfl
  | a :: as, hc => by
    simp only [List.all_cons, Bool.and_eq_true, beq_iff_eq] at hc
    have := xm_sl_len as hc.2
    simp only [lg_sl, List.flatMap_cons] at this ⊢
    simp [hc.1, this]
theorem xm_L.entry {as : List Value} {z : Nat} (hc : (as.all fun v => v.category == 1) = true) (hn : as.length ≤ pg_l z) : xm_L ((lg_sl as ++ List.replicate (pg_l z - (lg_sl as).length) Slot.unset).toArray) (pg_l z) (xm_entry z as) := by
  have h := lv_entry as (n := pg_l z) (by rw [xm_sl_len as hc]; exact hn)
  refine ⟨h.1, by simp [xm_entry]; omega, h.2.1, fun i v hv => ?_⟩
  have hi : as[i]? = some v := by
    unfold xm_entry at hv
    by_cases hl : i < as.length
    · rw [List.getElem?_append_left (by simpa using hl)] at hv
      simpa using hv
    · rw [List.getElem?_append_right (by simpa using hl)] at hv
      have h2 := List.mem_of_getElem? hv
      simp at h2
  have hcv : v.category = 1 := by
    have := List.all_eq_true.mp hc v (List.mem_of_getElem? hi)
    simpa using this
  have hm := xm_args_mem as 0 i v hc hi
  rw [Nat.zero_add] at hm
  exact ⟨hcv, h.2.2 _ hm⟩
/-- the machine's method is method y of the tables -/
def xm_C (p : Program) (m : MethodId) (c : Code) (meth : Method) (s : State) (args : Array Value) (y : Nat) : Prop :=
  p.tables.exec = Jvm.exec ∧ c.code = pg_b y ∧ c.maxLocals = pg_l y ∧ s.vm.findClass (pg_y y).cls = some m.cls ∧ (∀ w ∈ pg_TS, w.before args s = true) ∧ ((pg_y y).name = "<init>" → meth.name = "<init>")
def xm_tys (dA : Nat → ClassId) : List (ClassId × FieldType) := pg_at.mapIdx (fun t ty => (dA t, ty))
theorem xm_tys_at {dA : Nat → ClassId} {t : Nat} {ty : FieldType} (h : pg_at[t]? = some ty) : (xm_tys dA)[t]? = some (dA t, ty) := by
  simp [xm_tys, h]
/-- what the tables say at a state: the classes and array classes, the nest mates' links -/
def xm_U (dC : Nat → ClassId) (dI : Nat → Nat → Nat) (dA : Nat → ClassId) (U : State) : Prop :=
  va_K (dC, dI) classes (xm_tys dA) U ∧ (∀ w ∈ pg_NS, va_Nw w U) ∧ ∀ C ∈ pg_AO, va_AO C U
/-- the heap is the memory's: every cell of it, from b on -/
def xm_H (dC : Nat → ClassId) (dI : Nat → Nat → Nat) (dA : Nat → ClassId) (b : Nat) (M : xm_M) (H : Heap) : Prop :=
  H.size = M.1 ∧ ∀ (a : Nat) (e : xm_E), M.2.2 a = some e → b ≤ a ∧ va_at (dC, dI) classes (a, xm_e dA e) H
def xm_X (sc : xm_Sc) (b : Nat) (U : State) (H : Heap) : Prop := sc.1 < b ∧ va_X sc.1 sc.2.1 sc.2.2 U H
theorem xm_H.set {dC : Nat → ClassId} {dI : Nat → Nat → Nat} {dA : Nat → ClassId} {b a : Nat} {M : xm_M} {e0 e : xm_E} {H H1 : Heap} (h : xm_H dC dI dA b M H) (ha : M.2.2 a = some e0) (hat : va_at (dC, dI) classes (a, xm_e dA e) H1) (z : H1.size = H.size) (oq : ∀ q : Nat, q ≠ a → H1[q]? = H[q]?) : xm_H dC dI dA b (xm_set M a e) H1 := by
  refine ⟨z.trans h.1, fun q e' hq => ?_⟩
  simp only [xm_set, va_up] at hq
  split at hq
  · next hqa =>
    subst hqa
    cases hq
    exact ⟨(h.2 _ _ ha).1, hat⟩
  · next hqa => exact ⟨(h.2 q e' hq).1, (h.2 q e' hq).2.kept (oq q hqa)⟩
theorem xm_H.push {dC : Nat → ClassId} {dI : Nat → Nat → Nat} {dA : Nat → ClassId} {b k : Nat} {M : xm_M} {e : xm_E} {H H1 : Heap} (h : xm_H dC dI dA b M H) (hb : b ≤ M.1) (hat : va_at (dC, dI) classes (M.1, xm_e dA e) H1) (z : H1.size = M.1 + 1) (oq : ∀ q : Nat, q < M.1 → H1[q]? = H[q]?) : xm_H dC dI dA b (xm_new M k e) H1 := by
  refine ⟨z, fun q e' hq => ?_⟩
  simp only [xm_new, va_up] at hq
  split at hq
  · next hqa =>
    subst hqa
    cases hq
    exact ⟨hb, hat⟩
  · next hqa =>
    have h1 := h.2 q e' hq
    exact ⟨h1.1, h1.2.kept (oq q (by have := h1.2.lt; rw [h.1] at this; exact this))⟩
theorem xm_P1 {D : va_G} {cl : List vw_C} {q : Nat × va_E} {H : Heap} (h : va_at D cl q H) : va_P D cl [q] H := by
  intro k x hk
  have hz : k < 1 := (List.getElem?_eq_some_iff.mp hk).1
  rw [show k = 0 by omega] at hk
  cases hk
  exact h
section XM1
variable {p : Program} {l : Launch} {e : Env} {R : Room} {s : State} {m : MethodId} {args : Array Value} {below : List Frame} {meth : Method} {c : Code} {H : Heap} {locs : List Loc} {cells slots : Nat} {Q : State → Prop}
variable {y pc pc' k : Nat} {i : Instr} {ls ls' : xm_Ls} {st st' : List Value} {arr : Array Slot}
set_option maxHeartbeats 4000000 in
theorem xm_s1_ok (hC : xm_C p m c meth s args y) (hl : xm_L arr (pg_l y) ls) (hk : k = xm_len i k) (hdec : decode (pg_b y) pc = .ok (i, k)) (h : xm_s1 y pc i ls st = some (pc', ls', st'))
    (kk : ∀ arr' : Array Slot, xm_L arr' (pg_l y) ls' → W p l e R s m args below meth c H locs cells slots Q (F0 m pc' arr' st')) : W p l e R s m args below meth c H locs cells slots Q (F0 m pc arr st) := by
  obtain ⟨hx, hb, hml, hown, hts, hnm⟩ := hC
  unfold xm_s1 at h
  split at h
  · -- iconst
    cases h; dsimp only [xm_len] at hk; subst hk; exact lv_iconst hx hb hdec rfl (kk _ hl)
  · cases h; dsimp only [xm_len] at hk; subst hk; exact lv_bipush hx hb hdec rfl (kk _ hl)
  · cases h; dsimp only [xm_len] at hk; subst hk; exact lv_sipush hx hb hdec rfl (kk _ hl)
  · cases h; dsimp only [xm_len] at hk; subst hk; exact lv_null hx hb hdec (kk _ hl)
  · -- ldc
    dsimp only [xm_len] at hk; subst hk
    split at h
    · next v hv => cases h; exact lv_ldc hx hb hown (hts _ (pg_k_ok hv)) hdec (kk _ hl)
    · cases h
  · -- iload
    dsimp only [xm_len] at hk; subst hk
    split at h
    · next v hv => cases h; exact lv_iload hx hb hdec (hl.get hv) (kk _ hl)
    · cases h
  · dsimp only [xm_len] at hk; subst hk
    split at h
    · next v hv => cases h; exact lv_iload_n hx hb hdec rfl (hl.get hv) (kk _ hl)
    · cases h
  · -- aload
    dsimp only [xm_len] at hk; subst hk
    split at h
    · next v hv => cases h; exact lv_aload hx hb hdec (hl.get hv) (kk _ hl)
    · next hv => cases h; exact lv_aloadN hx hb hdec (hl.get hv) (kk _ hl)
    · cases h
  · dsimp only [xm_len] at hk; subst hk
    split at h
    · next v hv => cases h; exact lv_aload_n hx hb hdec rfl (hl.get hv) (kk _ hl)
    · next hv => cases h; exact lv_aload_nN hx hb hdec rfl (hl.get hv) (kk _ hl)
    · cases h
  · -- istore
    dsimp only [xm_len] at hk; subst hk
    split at h
    · split at h
      · next hlt => cases h; exact lv_istore hx hb hdec hl.has (by rw [← hl.2.1]; exact hlt) rfl (fun arr' h' => kk arr' (hl.put hlt rfl h'))
      · cases h
    · cases h
  · dsimp only [xm_len] at hk; subst hk
    split at h
    · split at h
      · next hlt => cases h; exact lv_istore_n hx hb hdec rfl hl.has (by rw [← hl.2.1]; exact hlt) rfl (fun arr' h' => kk arr' (hl.put hlt rfl h'))
      · cases h
    · cases h
  · -- astore
    dsimp only [xm_len] at hk; subst hk
    split at h
    · split at h
      · next hlt => cases h; exact lv_astore hx hb hdec hl.has (by rw [← hl.2.1]; exact hlt) rfl (fun arr' h' => kk arr' (hl.put hlt rfl h'))
      · cases h
    · split at h
      · next hlt => cases h; exact lv_astoreN hx hb hdec hl.has (by rw [← hl.2.1]; exact hlt) rfl (fun arr' h' => kk arr' (hl.put hlt rfl h'))
      · cases h
    · cases h
  · dsimp only [xm_len] at hk; subst hk
    split at h
    · split at h
      · next hlt => cases h; exact lv_astore_n hx hb hdec rfl hl.has (by rw [← hl.2.1]; exact hlt) rfl (fun arr' h' => kk arr' (hl.put hlt rfl h'))
      · cases h
    · split at h
      · next hlt => cases h; exact lv_astore_nN hx hb hdec rfl hl.has (by rw [← hl.2.1]; exact hlt) rfl (fun arr' h' => kk arr' (hl.put hlt rfl h'))
      · cases h
    · cases h
  · -- iinc
    dsimp only [xm_len] at hk; subst hk
    split at h
    · next v hv =>
      cases h
      obtain ⟨hlt, k0, hk0⟩ := hl.inc hv
      exact lv_iinc hx hb hdec hl.has hk0 rfl hlt rfl (fun arr' h' => kk arr' (hl.put (by rw [hl.2.1]; exact hlt) rfl h'))
    · cases h
  · dsimp only [xm_len] at hk; subst hk
    split at h
    · cases h; exact lv_iadd hx hb hdec (kk _ hl)
    · cases h
  · dsimp only [xm_len] at hk; subst hk
    split at h
    · cases h; exact lv_isub hx hb hdec (kk _ hl)
    · cases h
  · dsimp only [xm_len] at hk; subst hk
    split at h
    · cases h; exact lv_imul hx hb hdec (kk _ hl)
    · cases h
  · dsimp only [xm_len] at hk; subst hk
    split at h
    · split at h
      · cases h
      · next hne => cases h; exact lv_idiv hx hb hdec hne (kk _ hl)
    · cases h
  · dsimp only [xm_len] at hk; subst hk
    split at h
    · split at h
      · cases h
      · next hne => cases h; exact lv_irem hx hb hdec hne (kk _ hl)
    · cases h
  · dsimp only [xm_len] at hk; subst hk
    split at h
    · cases h; exact lv_iand hx hb hdec (kk _ hl)
    · cases h
  · dsimp only [xm_len] at hk; subst hk
    split at h
    · cases h; exact lv_ior hx hb hdec (kk _ hl)
    · cases h
  · dsimp only [xm_len] at hk; subst hk
    split at h
    · cases h; exact lv_ixor hx hb hdec (kk _ hl)
    · cases h
  · dsimp only [xm_len] at hk; subst hk
    split at h
    · cases h; exact lv_ineg hx hb hdec (kk _ hl)
    · cases h
  · dsimp only [xm_len] at hk; subst hk
    split at h
    · cases h; exact lv_i2b hx hb hdec rfl (kk _ hl)
    · cases h
  · -- dup
    dsimp only [xm_len] at hk; subst hk
    split at h
    · split at h
      · next hc => cases h; exact lv_dup hx hb hdec hc (kk _ hl)
      · cases h
    · cases h
  · dsimp only [xm_len] at hk; subst hk
    split at h
    · split at h
      · next hc => cases h; exact lv_pop hx hb hdec hc (kk _ hl)
      · cases h
    · cases h
  · dsimp only [xm_len] at hk; subst hk
    split at h
    · split at h
      · next hc => cases h; exact lv_dup_x1 hx hb hdec hc.1 hc.2 (kk _ hl)
      · cases h
    · cases h
  · dsimp only [xm_len] at hk; subst hk
    split at h
    · split at h
      · next hc => cases h; exact lv_dup2_11 hx hb hdec hc.1 hc.2 (kk _ hl)
      · cases h
    · cases h
  · cases h
theorem xm_jmp_ok {pc t : Nat} {off : Int} (h : xm_jmp pc off = some t) : (pc : Int) + off = (t : Int) := by
  unfold xm_jmp at h
  split at h
  · cases h; omega
  · cases h
set_option maxHeartbeats 4000000 in
theorem xm_s2_ok (hC : xm_C p m c meth s args y) (hk : k = xm_len i k) (hdec : decode (pg_b y) pc = .ok (i, k)) (h : xm_s2 pc i st = some (pc', st'))
    (kk : W p l e R s m args below meth c H locs cells slots Q (F0 m pc' arr st')) : W p l e R s m args below meth c H locs cells slots Q (F0 m pc arr st) := by
  obtain ⟨hx, hb, hml, hown, hts, hnm⟩ := hC
  have jm : ∀ {off : Int} {r : List Value}, (xm_jmp pc off).map (fun t => (t, r)) = some (pc', st') → (pc : Int) + off = (pc' : Int) ∧ r = st' := by
    intro off r q
    obtain ⟨t, h1, h2⟩ := Option.map_eq_some_iff.mp q
    cases h2
    exact ⟨xm_jmp_ok h1, rfl⟩
  unfold xm_s2 at h
  split at h
  · dsimp only [xm_len] at hk; subst hk
    obtain ⟨h1, rfl⟩ := jm h
    exact lv_goto hx hb hdec h1 kk
  · -- ifCond
    next cnd off =>
    dsimp only [xm_len] at hk; subst hk
    split at h
    · next x r =>
      obtain ⟨t, h1, h2⟩ := Option.map_eq_some_iff.mp h
      have h1 := xm_jmp_ok h1
      cases h2
      cases cnd
      · refine lv_if_eq hx hb hdec h1 (fun q => ?_) (fun q => ?_) <;> simpa [xm_icb, q] using kk
      · refine lv_if_ne hx hb hdec h1 (fun q => ?_) (fun q => ?_) <;> simpa [xm_icb, q] using kk
      · refine lv_if_lt hx hb hdec h1 (fun q => ?_) (fun q => ?_) <;> simpa only [xm_icb, q, decide_true, decide_false, if_true, if_false, Bool.false_eq_true] using kk
      · refine lv_if_ge hx hb hdec h1 (fun q => ?_) (fun q => ?_) <;> simpa only [xm_icb, q, decide_true, decide_false, if_true, if_false, Bool.false_eq_true] using kk
      · refine lv_if_gt hx hb hdec h1 (fun q => ?_) (fun q => ?_) <;> simpa only [xm_icb, q, decide_true, decide_false, if_true, if_false, Bool.false_eq_true] using kk
      · refine lv_if_le hx hb hdec h1 (fun q => ?_) (fun q => ?_) <;> simpa only [xm_icb, q, decide_true, decide_false, if_true, if_false, Bool.false_eq_true] using kk
    · cases h
  · -- if_icmp
    next cnd off =>
    dsimp only [xm_len] at hk; subst hk
    split at h
    · next v u r =>
      obtain ⟨t, h1, h2⟩ := Option.map_eq_some_iff.mp h
      have h1 := xm_jmp_ok h1
      cases h2
      cases cnd
      · refine lv_icmp_eq hx hb hdec h1 (fun q => ?_) (fun q => ?_) <;> simpa only [xm_icb, q, decide_true, decide_false, if_true, if_false, Bool.false_eq_true] using kk
      · refine lv_icmp_ne hx hb hdec h1 (fun q => ?_) (fun q => ?_) <;> simpa [xm_icb, q] using kk
      · refine lv_icmp_lt hx hb hdec h1 (fun q => ?_) (fun q => ?_) <;> simpa only [xm_icb, q, decide_true, decide_false, if_true, if_false, Bool.false_eq_true] using kk
      · refine lv_icmp_ge hx hb hdec h1 (fun q => ?_) (fun q => ?_) <;> simpa only [xm_icb, q, decide_true, decide_false, if_true, if_false, Bool.false_eq_true] using kk
      · refine lv_icmp_gt hx hb hdec h1 (fun q => ?_) (fun q => ?_) <;> simpa only [xm_icb, q, decide_true, decide_false, if_true, if_false, Bool.false_eq_true] using kk
      · refine lv_icmp_le hx hb hdec h1 (fun q => ?_) (fun q => ?_) <;> simpa only [xm_icb, q, decide_true, decide_false, if_true, if_false, Bool.false_eq_true] using kk
    · cases h
  · -- ifnull
    dsimp only [xm_len] at hk; subst hk
    split at h
    · cases h; exact lv_ifnull hx hb hdec kk
    · obtain ⟨h1, rfl⟩ := jm h; exact lv_ifnullN hx hb hdec h1 kk
    · cases h
  · dsimp only [xm_len] at hk; subst hk
    split at h
    · obtain ⟨h1, rfl⟩ := jm h; exact lv_ifnonnull hx hb hdec h1 kk
    · cases h; exact lv_ifnonnullN hx hb hdec kk
    · cases h
  · -- tableswitch
    split at h
    · next x r =>
      split at h
      · next ho => obtain ⟨h1, rfl⟩ := jm h; exact lv_tableOut hx hb hdec ho h1 kk
      · next ho =>
        split at h
        · next off hoff => obtain ⟨h1, rfl⟩ := jm h; exact lv_tableIn hx hb hdec (fun q => ho (Or.inl q)) (fun q => ho (Or.inr q)) hoff h1 kk
        · cases h
    · cases h
  · split at h
    · split at h
      · next hp => obtain ⟨h1, rfl⟩ := jm h; exact lv_lookup hx hb hdec hp rfl h1 kk
      · cases h
    · cases h
  · cases h
end XM1
