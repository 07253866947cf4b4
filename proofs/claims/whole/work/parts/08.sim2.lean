section XM5
variable {p : Program} {l : Launch} {e : Env} {R : Room} {s : State} {m : MethodId} {args : Array Value} {below : List Frame} {meth : Method} {c : Code} {H : Heap} {locs : List Loc} {cells slots : Nat} {Q : State → Prop}
variable {y pc pc' k d b : Nat} {i : Instr} {ls : xm_Ls} {st st' : List Value} {arr : Array Slot} {sc : xm_Sc} {M M' : xm_M} {dC : Nat → ClassId} {dI : Nat → Nat → Nat} {dA : Nat → ClassId}
theorem xm_s3_mono (h : xm_s3 sc d y pc i st M = some (pc', st', M')) : M.1 ≤ M'.1 ∧ M.2.1 ≤ M'.2.1 := by
  unfold xm_s3 at h
  split at h
  all_goals (repeat' split at h)
  all_goals first | (cases h; done) | (cases h; simp [xm_set, xm_new])
set_option maxHeartbeats 4000000 in
theorem xm_s3_ok (hC : xm_C p m c meth s args y) (hU : xm_U dC dI dA s) (hX : xm_X sc b s H) (hH : xm_H dC dI dA b M H) (hL : ∀ q ∈ locs, b ≤ q.base) (hbM : b ≤ M.1) (hl : xm_L arr (pg_l y) ls) (hd : d ≤ R.frames) (hdl : d * xm_K ≤ R.locals) (hk : k = xm_len i k) (hdec : decode (pg_b y) pc = .ok (i, k)) (h : xm_s3 sc d y pc i st M = some (pc', st', M')) (hc : cells + (M'.1 - M.1) ≤ R.cells) (hs : slots + (M'.2.1 - M.2.1) ≤ R.slots)
    (kk : xm_KK p l e R s m args below meth c Q dC dI dA b M' H (cells + (M'.1 - M.1)) (slots + (M'.2.1 - M.2.1)) pc' arr st') : W p l e R s m args below meth c H locs cells slots Q (F0 m pc arr st) := by
  obtain ⟨hx, hb, hml, hown, hts, hnm⟩ := id hC
  obtain ⟨hK, hN, hAO⟩ := id hU
  have same : M' = M → W p l e R s m args below meth c H locs cells slots Q (F0 m pc' arr st') := by
    intro e9
    subst e9
    have h9 := kk H locs hH hL (fun _ _ => rfl)
    simpa using h9
  have sett : ∀ {a : Nat} {x : xm_E}, M' = xm_set M a x → xm_KK p l e R s m args below meth c Q dC dI dA b M' H cells slots pc' arr st' := by
    intro a x e9
    subst e9
    have e1 : cells + ((xm_set M a x).1 - M.1) = cells := by simp [xm_set]
    have e2 : slots + ((xm_set M a x).2.1 - M.2.1) = slots := by simp [xm_set]
    rw [e1, e2] at kk
    exact kk
  have neww : ∀ {n : Nat} {x : xm_E}, M' = xm_new M n x → cells + 1 ≤ R.cells ∧ slots + n ≤ R.slots ∧ xm_KK p l e R s m args below meth c Q dC dI dA b M' H (cells + 1) (slots + n) pc' arr st' := by
    intro n x e9
    subst e9
    have e1 : (xm_new M n x).1 - M.1 = 1 := by simp [xm_new]
    have e2 : (xm_new M n x).2.1 - M.2.1 = n := by simp [xm_new]
    rw [e1] at hc kk
    rw [e2] at hs kk
    exact ⟨hc, hs, kk⟩
  have K0 : 37 = xm_K := rfl
  unfold xm_s3 at h
  split at h
  · -- getfield
    dsimp only [xm_len] at hk; subst hk
    split at h
    · next a r =>
      split at h
      · next ci fk hh hf =>
        split at h
        · next cj fs ha =>
          split at h
          · next hcj =>
            subst hcj
            split at h
            · next v hv =>
              cases h
              obtain ⟨C, T, N, hcl, hfk, hlink⟩ := pg_f_ok hf
              obtain ⟨hin, -, -, -, -⟩ := pg_cl_ok hcl
              rcases hlink with ⟨-, hlink⟩ | ⟨host, -, hlink⟩
              · exact va_get (ws := [(a, .inr (cj, fs))]) hx hb hts hin hown hK (xm_P1 (hH.2 a _ ha).2) 0 rfl hcl fk hfk (hts _ hlink) (fun _ h9 => h9) hv hdec (same rfl)
              · exact va_getN (ws := [(a, .inr (cj, fs))]) hx hb hts hin hown hK (xm_P1 (hH.2 a _ ha).2) 0 rfl hcl fk hfk (va_Nw.use rfl (hN _ hlink)) (fun _ h9 => h9) hv hdec (same rfl)
            · cases h
          · cases h
        · cases h
      · cases h
    · cases h
  · -- putfield
    dsimp only [xm_len] at hk; subst hk
    split at h
    · next v a r =>
      split at h
      · next ci fk hh hf =>
        split at h
        · next cj fs ha =>
          split at h
          · next hcj =>
            obtain ⟨rfl, h2, h3, h4, h5⟩ := hcj
            cases h
            exact xm_put_ok hC hU hH hL hf ha h2 h3 h4 h5 hdec (sett rfl)
          · cases h
        · cases h
      · cases h
    · cases h
  · -- iaload
    dsimp only [xm_len] at hk; subst hk
    split at h
    · next j a r =>
      split at h
      · next t n f ha =>
        split at h
        · next ht =>
          subst ht
          split at h
          · cases h
          · next hin =>
            cases h
            exact va_iald (ws := [(a, .inl (dA 0, n, .inl f))]) hx hb hK (xm_P1 (hH.2 a _ ha).2) 0 0 rfl (xm_tys_at pg_at0) hin hdec (same rfl)
        · cases h
      · split at h
        · next hsc =>
          split at h
          · cases h
          · next hin =>
            cases h
            subst hsc
            exact va_sld (A := fun q => b ≤ q) (H0 := H) hx hb hX.2 (Nat.lt_of_lt_of_le hX.1 (by rw [hH.1]; exact hbM)) (Nat.not_le.mpr hX.1) ⟨Nat.le_refl _, fun _ _ _ => rfl, hL⟩ hin hdec (same rfl)
        · cases h
      · cases h
    · cases h
  · -- iastore
    dsimp only [xm_len] at hk; subst hk
    split at h
    · next x j a r =>
      split at h
      · next t n f ha =>
        split at h
        · next ht =>
          subst ht
          split at h
          · cases h
          · next hin =>
            cases h
            exact xm_iast_ok hC hU hH hL ha hin hdec (sett rfl)
        · cases h
      · cases h
    · cases h
  · -- baload
    dsimp only [xm_len] at hk; subst hk
    split at h
    · next j a r =>
      split at h
      · next t n f ha =>
        split at h
        · next ht =>
          split at h
          · cases h
          · next hin =>
            cases h
            rcases ht with rfl | rfl
            · exact va_bald (ws := [(a, .inl (dA 1, n, .inl f))]) hx hb hK (xm_P1 (hH.2 a _ ha).2) 0 1 rfl (xm_tys_at pg_at1) hin hdec (same rfl)
            · exact va_zald (ws := [(a, .inl (dA 2, n, .inl f))]) hx hb hK (xm_P1 (hH.2 a _ ha).2) 0 2 rfl (xm_tys_at pg_at2) hin hdec (same rfl)
        · cases h
      · cases h
    · cases h
  · -- bastore
    dsimp only [xm_len] at hk; subst hk
    split at h
    · next x j a r =>
      split at h
      · next t n f ha =>
        split at h
        · cases h
        · next hin =>
          split at h
          · next ht =>
            subst ht
            cases h
            exact xm_bast_ok hC hU hH hL ha hin hdec (sett rfl)
          · split at h
            · next ht =>
              subst ht
              cases h
              exact xm_zast_ok hC hU hH hL ha hin hdec (sett rfl)
            · cases h
      · cases h
    · cases h
  · -- aaload
    dsimp only [xm_len] at hk; subst hk
    split at h
    · next j a r =>
      split at h
      · next t n f ha =>
        split at h
        · next ht =>
          split at h
          · cases h
          · next hin =>
            cases h
            obtain ⟨C, htC⟩ := pg_at_obj ht.1 ht.2
            exact va_aldq (ws := [(a, .inl (dA t, n, .inr (.inr (.inr (.inr f)))))]) hx hb hK (xm_P1 (hH.2 a _ ha).2) 0 t rfl (xm_tys_at htC) hin hdec (same rfl)
        · cases h
      · cases h
    · cases h
  · -- aastore
    dsimp only [xm_len] at hk; subst hk
    split at h
    · next v j a r =>
      split at h
      · next t n f ha =>
        split at h
        · next ci vs hv =>
          split at h
          · next hok =>
            split at h
            · cases h
            · next hin =>
              cases h
              exact xm_aast_ok hC hU hH hL ha hv hok hin hdec (sett rfl)
          · cases h
        · cases h
      · cases h
    · cases h
  · -- arraylength
    dsimp only [xm_len] at hk; subst hk
    split at h
    · next a r =>
      split at h
      · next t n ct ha =>
        split at h
        · next ht =>
          cases h
          exact va_alen (ws := [(a, .inl (dA t, n, ct))]) hx hb hK (xm_P1 (hH.2 a _ ha).2) 0 t rfl (xm_tys_at (List.getElem?_eq_getElem ht)) rfl hdec (same rfl)
        · cases h
      · split at h
        · next hsc =>
          cases h
          subst hsc
          exact va_slen (A := fun q => b ≤ q) (H0 := H) hx hb hX.2 (Nat.lt_of_lt_of_le hX.1 (by rw [hH.1]; exact hbM)) (Nat.not_le.mpr hX.1) ⟨Nat.le_refl _, fun _ _ _ => rfl, hL⟩ hdec (same rfl)
        · cases h
      · cases h
    · cases h
  · -- new
    dsimp only [xm_len] at hk; subst hk
    split at h
    · next ci hx0 =>
      split at h
      · next q hcl =>
        cases h
        obtain ⟨n1, n2, n3⟩ := neww rfl
        exact xm_newc_ok hC hU hH hL hbM hx0 hcl hdec n1 n2 n3
      · cases h
    · cases h
  · -- newarray
    dsimp only [xm_len] at hk; subst hk
    split at h
    · next j r =>
      split at h
      · next hj =>
        split at h
        · cases h
          obtain ⟨n1, n2, n3⟩ := neww rfl
          exact xm_newi_ok hC hU hH hL hbM hj.1 hj.2 hdec n1 n2 n3
        · cases h
          obtain ⟨n1, n2, n3⟩ := neww rfl
          exact xm_newb_ok hC hU hH hL hbM hj.1 hj.2 hdec n1 n2 n3
        · cases h
          obtain ⟨n1, n2, n3⟩ := neww rfl
          exact xm_newz_ok hC hU hH hL hbM hj.1 hj.2 hdec n1 n2 n3
        · cases h
      · cases h
    · cases h
  · -- anewarray
    dsimp only [xm_len] at hk; subst hk
    split at h
    · next j r =>
      split at h
      · next t ht =>
        split at h
        · next hj =>
          cases h
          obtain ⟨n1, n2, n3⟩ := neww rfl
          exact xm_newq_ok hC hU hH hL hbM ht hj.1 hj.2 hdec n1 n2 n3
        · cases h
      · cases h
    · cases h
  · -- invokespecial Object.<init>
    dsimp only [xm_len] at hk; subst hk
    split at h
    · next a r =>
      split at h
      · next hj =>
        obtain ⟨j1, j2, j3⟩ := hj
        cases h
        obtain ⟨w1, w2, w3⟩ := pg_o_ok j1
        unfold xm_wt at j3
        have hK1 : xm_K ≤ R.locals := Nat.le_trans (Nat.le_mul_of_pos_left _ j2) hdl
        refine W.objInit hx hb hown (hts _ w1) (hts _ w2) (hts _ w3) (g := F0 m pc arr (.ref a :: st')) rfl (by rw [hml]; exact hl.1) rfl hdec (Nat.le_trans j2 hd) (by show 2 * 0 + _ + 12 ≤ _; rw [← K0] at hK1; omega) (same rfl)
      · cases h
    · cases h
  · -- arraycopy
    dsimp only [xm_len] at hk; subst hk
    split at h
    · next n dp a1 sp a0 r =>
      split at h
      · next hj =>
        obtain ⟨j1, j2, j3, j4, j5, j6⟩ := hj
        split at h
        · next t0 n0 f t1 n1 g h0 h1 =>
          split at h
          · next hj2 =>
            obtain ⟨rfl, rfl, i4, i5⟩ := hj2
            cases h
            have hK1 : xm_K ≤ R.locals := Nat.le_trans (Nat.le_mul_of_pos_left _ j2) hdl
            have hnw : nativeFrameWords "java/lang/System" "arraycopy" 5 = 7 := by decide
            exact xm_copy_ok hC hU hH hL j1 h0 h1 j4 j5 j6 i4 i5 hl (Nat.le_trans j2 hd) (by rw [hnw]; rw [← K0] at hK1; omega) hdec (sett rfl)
          · cases h
        · cases h
      · cases h
    · cases h
  · cases h
end XM5
