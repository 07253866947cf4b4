def xm_ws (z : Nat) : List Cond := Cond.code (pg_y z) (pg_b z) (pg_l z) (pg_r z) :: pg_TS
def xm_rm (d n k : Nat) : Room := { frames := d, cells := n, slots := k, locals := d * xm_K }
def xm_Q (dC : Nat → ClassId) (dI : Nat → Nat → Nat) (dA : Nat → ClassId) (b : Nat) (r : Option Value) (M' : xm_M) : Array Value → State → Outcome → State → Prop := fun _ st oc t => oc = .returned r ∧ xm_H dC dI dA b M' t.heap ∧ ∀ q : Nat, q < b → t.heap[q]? = st.heap[q]?
def xm_Pr (dC : Nat → ClassId) (dI : Nat → Nat → Nat) (dA : Nat → ClassId) (b : Nat) (sc : xm_Sc) (as : List Value) (M : xm_M) : Array Value → State → Prop := fun v U => v = as.toArray ∧ xm_U dC dI dA U ∧ xm_X sc b U U.heap ∧ xm_H dC dI dA b M U.heap
abbrev xm_Met (l : Launch) (dC : Nat → ClassId) (dI : Nat → Nat → Nat) (dA : Nat → ClassId) (b : Nat) (sc : xm_Sc) (d z : Nat) (as : List Value) (M : xm_M) (r : Option Value) (M' : xm_M) : Prop :=
  Met l (pg_y z) (xm_ws z) (xm_rm d (M'.1 - M.1) (M'.2.1 - M.2.1)) (xm_Pr dC dI dA b sc as M) (xm_Q dC dI dA b r M') (M'.1 - M.1) (M'.2.1 - M.2.1) (fun q => b ≤ q)
theorem xm_U.moved {dC : Nat → ClassId} {dI : Nat → Nat → Nat} {dA : Nat → ClassId} {s U : State} (hW : s.WarmedH U.vm) (h : xm_U dC dI dA s) : xm_U dC dI dA U := by
  refine ⟨va_K.moved hW.alike h.1, fun w hw => ?_, fun C hC => va_AO.moved hW.alike (h.2.2 C hC)⟩
  have h1 := pg_NS_kind w hw
  have h2 := h.2.1 w hw
  unfold pg_nk at h1
  split at h1
  · exact va_Nw.warmF hW h2
  · exact va_Nw.warmM hW h2
  · cases h1
theorem xm_X.moved {sc : xm_Sc} {b : Nat} {s U : State} {H : Heap} (hW : s.WarmedH U.vm) (h : xm_X sc b s H) : xm_X sc b U H := ⟨h.1, va_X.moved hW.alike h.2⟩
theorem xm_X.kept {sc : xm_Sc} {b : Nat} {s : State} {H H' : Heap} (h : xm_X sc b s H) (hq : ∀ q : Nat, q < b → H'[q]? = H[q]?) : xm_X sc b s H' := ⟨h.1, va_X.kept h.2 (hq _ h.1)⟩
theorem xm_blind {dC : Nat → ClassId} {dI : Nat → Nat → Nat} {dA : Nat → ClassId} {b : Nat} {sc : xm_Sc} {as : List Value} {M : xm_M} : FrameBlind (xm_Pr dC dI dA b sc as M) := by
  intro a U g mk q
  obtain ⟨q1, q2, q3, q4⟩ := q
  have hW : U.WarmedH (U.calling g mk a).vm := State.WarmedH.refl U
  exact ⟨q1, q2.moved hW, q3.moved hW, q4⟩
theorem xm_pre {dC : Nat → ClassId} {dI : Nat → Nat → Nat} {dA : Nat → ClassId} {b : Nat} {sc : xm_Sc} {as : List Value} {M : xm_M} {s : State} {H : Heap} (hU : xm_U dC dI dA s) (hX : xm_X sc b s H) (hH : xm_H dC dI dA b M H) : ∀ U : State, U.heap = H → s.WarmedH U.vm → xm_Pr dC dI dA b sc as M as.toArray U := by
  intro U hU1 hW
  exact ⟨rfl, hU.moved hW, by rw [hU1]; exact hX.moved hW, by rw [hU1]; exact hH⟩
theorem xm_good (z : Nat) (hz : 0 < z ∧ z < pg_n) : GoodIn pg_TS (xm_ws z) := by
  intro w hw
  rcases List.mem_cons.mp hw with rfl | h
  · exact ⟨(pg_m_ok hz.1 hz.2).1, Or.inl (by first | rfl | simp [Cond.onTables, Cond.keeps, Cond.steady])⟩
  · exact ⟨h, pg_TS_good w h⟩
section XM6
variable {p : Program} {l : Launch} {e : Env} {R : Room} {s : State} {m : MethodId} {args : Array Value} {below : List Frame} {meth : Method} {c : Code} {H : Heap} {locs : List Loc} {cells slots : Nat} {Q : State → Prop}
variable {y pc pc' k d b z : Nat} {i : Instr} {ls : xm_Ls} {st st' rest as : List Value} {arr : Array Slot} {sc : xm_Sc} {M M' : xm_M} {dC : Nat → ClassId} {dI : Nat → Nat → Nat} {dA : Nat → ClassId} {r : Option Value}
theorem xm_go {mc ms : Nat} {st0 : List Value} {Qa : State → Outcome → State → Prop} {free : Addr → Prop} (hr : va_Run p l e R s m args below meth c H locs cells slots mc ms (F0 m pc arr st0) rest Qa free)
    (kk : ∀ (v : Option Value) (st₀ t : State) (L : List Loc), st₀.heap = H → (∀ q ∈ L, free q.base) → Qa st₀ (.returned v) t → W p l e R s m args below meth c t.heap (locs ++ L) (cells + mc) (slots + ms) Q (F0 m (pc + 3) arr (v.toList ++ rest))) : W p l e R s m args below meth c H locs cells slots Q (F0 m pc arr st0) := by
  intro T hT X
  obtain ⟨v, st₀, t, T', L, h0, X', hL, e1, e2, hq, st⟩ := hr T hT X
  obtain ⟨t2, a1, b1⟩ := kk v st₀ t L h0 hL hq T' e1 X'
  exact ⟨t2, st t2 a1, b1⟩
set_option maxHeartbeats 4000000 in
theorem xm_call_ok (hC : xm_C p m c meth s args y) (hU : xm_U dC dI dA s) (hX : xm_X sc b s H) (hH : xm_H dC dI dA b M H) (hL : ∀ q ∈ locs, b ≤ q.base) (hl : xm_L arr (pg_l y) ls) (hd : d + 1 ≤ R.frames) (hdl : (d + 1) * xm_K ≤ R.locals) (hk : k = xm_len i k) (hdec : decode (pg_b y) pc = .ok (i, k)) (h : xm_inv y i st M = some (z, as, rest)) (hw : xm_wt rest ≤ 8)
    (hM : xm_Met l dC dI dA b sc d z as M r M') (hc : cells + (M'.1 - M.1) ≤ R.cells) (hs : slots + (M'.2.1 - M.2.1) ≤ R.slots)
    (kk : xm_KK p l e R s m args below meth c Q dC dI dA b M' H (cells + (M'.1 - M.1)) (slots + (M'.2.1 - M.2.1)) (pc + 3) arr (r.toList ++ rest)) : W p l e R s m args below meth c H locs cells slots Q (F0 m pc arr st) := by
  obtain ⟨hx, hb, hml, hown, hts, hnm⟩ := id hC
  obtain ⟨hK, hN, hAO⟩ := id hU
  have go : ∀ {st0 : List Value}, va_Run p l e R s m args below meth c H locs cells slots (M'.1 - M.1) (M'.2.1 - M.2.1) (F0 m pc arr st0) rest (xm_Q dC dI dA b r M' as.toArray) (fun q => b ≤ q) → W p l e R s m args below meth c H locs cells slots Q (F0 m pc arr st0) := by
    intro st0 hr
    refine xm_go hr (fun v st₀ t L h0 hLL hq => ?_)
    obtain ⟨hv, hH', hlow⟩ := hq
    cases hv
    refine kk t.heap _ hH' (fun q hq => ?_) (fun q hq => by rw [hlow q hq, h0])
    rcases List.mem_append.mp hq with h9 | h9
    · exact hL q h9
    · exact hLL q h9
  have hrt : 2 * (F0 m pc arr st).monitorRoom + (rest.map fun v => v.category).sum ≤ 8 := lv_room hw
  have rooms : 0 < z ∧ z < pg_n → (xm_rm d (M'.1 - M.1) (M'.2.1 - M.2.1)).frames + 1 ≤ R.frames ∧ 8 + (pg_l z + 11) + (xm_rm d (M'.1 - M.1) (M'.2.1 - M.2.1)).locals ≤ R.locals := by
    intro hz
    have h9 := (pg_m_ok hz.1 hz.2).2.2
    refine ⟨hd, ?_⟩
    show 8 + (pg_l z + 11) + d * xm_K ≤ R.locals
    rw [Nat.succ_mul] at hdl
    omega
  unfold xm_inv at h
  split at h
  · -- virtual
    next x =>
    dsimp only [xm_len] at hk; subst hk
    split at h
    · next z' n host ci kd hi =>
      split at h
      · next a r' hdrop =>
        split at h
        · next cj fs ha =>
          split at h
          · next hcj =>
            obtain ⟨rfl, rfl, hlen⟩ := hcj
            cases h
            obtain ⟨hz, hde, hini, hne, hlink, hkind⟩ := pg_i_ok hi
            obtain ⟨hinst, hsel, q, hcl, hqc⟩ := hkind.1 rfl
            have hp : PreV s H (pg_y z).cls a (xm_Pr dC dI dA b sc (.ref a :: (st.take n).reverse) M) (st.take n).reverse := ⟨xm_blind, by rw [← hqc]; exact va_recv hK (xm_P1 (hH.2 a _ ha).2) hcl (q0 := 0) rfl, xm_pre hU hX hH⟩
            have hst : st = (st.take n).reverse.reverse ++ .ref a :: rest := by rw [List.reverse_reverse, ← hdrop, List.take_append_drop]
            have hlen' : (st.take n).reverse.length = n := by rw [List.length_reverse]; exact hlen
            rcases hlink with ⟨-, hlink⟩ | ⟨hst1, -, hlink⟩
            · exact go (va_runV (C := (pg_y z).cls) (bytes := pg_b z) (maxL := pg_l z) (ret := pg_r z) (Ts := pg_TS) (own := (pg_y y).cls) (cc := pg_b y) (nL := pg_l y) ⟨hx, hb, hml, hown, hts⟩ hM ⟨callB_of n hts (xm_good z hz) rfl rfl rfl (hts _ hini) (hts _ hlink) ⟨hne.1, hne.2, hde⟩ (rooms hz), hts _ hinst, hts _ hsel⟩ hp rfl hlen' hl.1 hst hrt hdec ⟨hc, hs⟩)
            · exact go (va_runVN (C := (pg_y z).cls) (bytes := pg_b z) (maxL := pg_l z) (ret := pg_r z) (Ts := pg_TS) (own := (pg_y y).cls) (cc := pg_b y) (nL := pg_l y) ⟨hx, hb, hml, hown, hts⟩ hM ⟨va_cnB n hts (xm_good z hz) rfl rfl rfl (hN _ hlink) (hts _ hini) ⟨hne.1, hne.2, hde⟩ (rooms hz), hts _ hinst, hts _ hsel⟩ hp rfl hlen' hl.1 hst hrt hdec ⟨hc, hs⟩)
          · cases h
        · cases h
      · cases h
    · cases h
  · -- special
    next x =>
    dsimp only [xm_len] at hk; subst hk
    split at h
    · next z' n host ci kd hi =>
      split at h
      · next a r' hdrop =>
        split at h
        · next hlen =>
          obtain ⟨rfl, hlen⟩ := hlen
          cases h
          obtain ⟨hz, hde, hini, hne, hlink, hkind⟩ := pg_i_ok hi
          obtain ⟨hinst, hnam, hret⟩ := hkind.2.1 rfl
          have hp : PreS s H (xm_Pr dC dI dA b sc (.ref a :: (st.take n).reverse) M) (.ref a :: (st.take n).reverse) := ⟨xm_blind, xm_pre hU hX hH⟩
          have hst : st = (st.take n).reverse.reverse ++ .ref a :: rest := by rw [List.reverse_reverse, ← hdrop, List.take_append_drop]
          have hlen' : (st.take n).reverse.length = n := by rw [List.length_reverse]; exact hlen
          have hcode : xm_ws z = Cond.code (pg_y z) (pg_b z) (pg_l z) none :: pg_TS := by unfold xm_ws; rw [hret]
          rcases hlink with ⟨-, hlink⟩ | ⟨hst1, -, hlink⟩
          · exact go (va_runI (bytes := pg_b z) (maxL := pg_l z) (Ts := pg_TS) (own := (pg_y y).cls) (cc := pg_b y) (nL := pg_l y) ⟨hx, hb, hml, hown, hts⟩ hM (cwI n hts (xm_good z hz) hcode rfl rfl (hts _ hini) (hts _ hlink) (hts _ hinst) hnam ⟨hne.1, hne.2, hde⟩ (rooms hz)) hp rfl hlen' hl.1 hst hrt hdec ⟨hc, hs⟩)
          · exact go (va_runIN (bytes := pg_b z) (maxL := pg_l z) (Ts := pg_TS) (own := (pg_y y).cls) (cc := pg_b y) (nL := pg_l y) ⟨hx, hb, hml, hown, hts⟩ hM ⟨va_cnB n hts (xm_good z hz) hcode rfl rfl (hN _ hlink) (hts _ hini) ⟨hne.1, hne.2, hde⟩ (rooms hz), hnam, hts _ hinst⟩ hp rfl hlen' hl.1 hst hrt hdec ⟨hc, hs⟩)
        · cases h
      · cases h
    · cases h
  · -- static
    next x =>
    dsimp only [xm_len] at hk; subst hk
    split at h
    · next z' n host ci kd hi =>
      split at h
      · next hlen =>
        obtain ⟨rfl, hlen⟩ := hlen
        cases h
        obtain ⟨hz, hde, hini, hne, hlink, hkind⟩ := pg_i_ok hi
        have hsta := hkind.2.2 rfl
        have hp : PreS s H (xm_Pr dC dI dA b sc (st.take n).reverse M) (st.take n).reverse := ⟨xm_blind, xm_pre hU hX hH⟩
        have hst : st = (st.take n).reverse.reverse ++ st.drop n := by rw [List.reverse_reverse, List.take_append_drop]
        have hlen' : (st.take n).reverse.length = n := by rw [List.length_reverse]; exact hlen
        rcases hlink with ⟨-, hlink⟩ | ⟨hst1, -, hlink⟩
        · exact go (va_runS (bytes := pg_b z) (maxL := pg_l z) (ret := pg_r z) (Ts := pg_TS) (own := (pg_y y).cls) (cc := pg_b y) (nL := pg_l y) ⟨hx, hb, hml, hown, hts⟩ hM ⟨callB_of n hts (xm_good z hz) rfl rfl rfl (hts _ hini) (hts _ hlink) ⟨hne.1, hne.2, hde⟩ (rooms hz), hts _ hsta⟩ hp rfl hlen' hl.1 hst hrt hdec ⟨hc, hs⟩)
        · exact go (va_runSN (bytes := pg_b z) (maxL := pg_l z) (ret := pg_r z) (Ts := pg_TS) (own := (pg_y y).cls) (cc := pg_b y) (nL := pg_l y) ⟨hx, hb, hml, hown, hts⟩ hM ⟨va_cnB n hts (xm_good z hz) rfl rfl rfl (hN _ hlink) (hts _ hini) ⟨hne.1, hne.2, hde⟩ (rooms hz), hts _ hsta, trivial⟩ hp rfl hlen' hl.1 hst hrt hdec ⟨hc, hs⟩)
      · cases h
    · cases h
  · cases h
end XM6
theorem xm_inv_ok {y z : Nat} {i : Instr} {st as rest : List Value} {M : xm_M} (h : xm_inv y i st M = some (z, as, rest)) : 0 < z ∧ z < pg_n := by
  unfold xm_inv at h
  split at h
  · split at h
    · next hi =>
      have := (pg_i_ok hi).1
      split at h
      · split at h
        · split at h
          · cases h; exact this
          · cases h
        · cases h
      · cases h
    · cases h
  · split at h
    · next hi =>
      have := (pg_i_ok hi).1
      split at h
      · split at h
        · cases h; exact this
        · cases h
      · cases h
    · cases h
  · split at h
    · next hi =>
      have := (pg_i_ok hi).1
      split at h
      · cases h; exact this
      · cases h
    · cases h
  · cases h
