theorem ru_d {d : Nat} {P R : Prop} (h : P = (0 < d + 1 ∧ R)) : P = R := h.trans (propext ⟨And.right, fun h => ⟨Nat.succ_pos d, h⟩⟩)
theorem ru_oi1 {sc : xm_Sc} {d y pc x a : Nat} {ls : xm_Ls} {st : List Value} {M : xm_M} {Q : Option Value → xm_M → Prop} (hc : pg_code y pc = some (.invokespecial x, 3)) (h0 : pg_i y x = none) (h1 : pg_o y x = true) (hw : xm_wt st ≤ 8) : rn sc (d + 1) y pc ls (.ref a :: st) M Q = rn sc (d + 1) y (pc + 3) ls st M Q := (ru_oi hc h0 h1).trans (propext ⟨And.right, fun h => ⟨⟨Nat.succ_pos d, hw⟩, h⟩⟩)
theorem ru_cp1 {sc : xm_Sc} {d y pc x a0 a1 : Nat} {ls : xm_Ls} {st : List Value} {M : xm_M} {Q : Option Value → xm_M → Prop} {sp dp n : Int32} (hc : pg_code y pc = some (.invokestatic x, 3)) (h0 : pg_i y x = none) (h1 : pg_ac y x = true) (hw : xm_wt st ≤ 8) (he : (hp_cp M a0 sp a1 dp n).isSome = true) : rn sc (d + 1) y pc ls (.int n :: .int dp :: .ref a1 :: .int sp :: .ref a0 :: st) M Q = rn_o (hp_cp M a0 sp a1 dp n) (fun M' => rn sc (d + 1) y (pc + 3) ls st M' Q) := by
  obtain ⟨M', e⟩ := Option.isSome_iff_exists.mp he
  rw [e]
  exact ru_cp hc h0 h1 (Nat.succ_pos d) hw e
theorem ru_nw {sc : xm_Sc} {d y pc x ci N : Nat} {ls : xm_Ls} {st : List Value} {M : xm_M} {Q : Option Value → xm_M → Prop} {q : vw_C} {fs : List Value} (hc : pg_code y pc = some (.new x, 3)) (h1 : pg_c y x = some ci) (h2 : classes[ci]? = some q) (hN : q.2.2 = N) (hf : (List.range N).map (fun k => defaultValue (pg_ft ci k)) = fs) : rn sc d y pc ls st M Q = rn sc d y (pc + 3) ls (.ref M.1 :: st) (xm_new M N (.inr (ci, fs))) Q := by
  subst hN
  subst hf
  exact ru_new hc h1 h2
theorem ru_ri {sc : xm_Sc} {d y pc : Nat} {ls : xm_Ls} {M : xm_M} {Q : Option Value → xm_M → Prop} {v : Int32} (hc : pg_code y pc = some (.ireturn, 1)) (hr : pg_r y = some .int) : rn sc d y pc ls [.int v] M Q = Q (some (.int v)) M := rn_ret hc rfl (by simp [xm_ret, hr, narrow])
theorem ru_rz {sc : xm_Sc} {d y pc : Nat} {ls : xm_Ls} {M : xm_M} {Q : Option Value → xm_M → Prop} {v : Int32} (hc : pg_code y pc = some (.ireturn, 1)) (hr : pg_r y = some .boolean) (h : narrow .boolean (.int v) = .int v) : rn sc d y pc ls [.int v] M Q = Q (some (.int v)) M := rn_ret hc rfl (by simp [xm_ret, hr, h])
section
variable {sc : xm_Sc} {d : Nat} {st : List Value} {M : xm_M} {Q : Option Value → xm_M → Prop} {l0 l1 l2 l3 l4 l5 l6 l7 l8 : Option Value}
set_option maxRecDepth 100000 in
theorem s0_0 : rn sc d 0 0 [l0, l1, l2, l3] st M Q = rn sc d 0 3 [l0, l1, l2, l3] (.ref M.1 :: st) (xm_new M 6 (.inr (6, [.null, .null, .null, .int 0, .int 0, .int 0]))) Q := ru_nw (ci := 6) (N := 6) rfl rfl rfl rfl rfl
set_option maxRecDepth 100000 in
theorem s0_3 {a : Nat} : rn sc d 0 3 [l0, l1, l2, l3] (.ref a :: st) M Q = rn sc d 0 4 [l0, l1, l2, l3] (.ref a :: .ref a :: st) M Q := ru_1 rfl rfl rfl rfl rfl
set_option maxRecDepth 100000 in
theorem s0_3I {x : Int32} : rn sc d 0 3 [l0, l1, l2, l3] (.int x :: st) M Q = rn sc d 0 4 [l0, l1, l2, l3] (.int x :: .int x :: st) M Q := ru_1 rfl rfl rfl rfl rfl
set_option maxRecDepth 100000 in
theorem s0_4 {a : Nat}  (hw : xm_wt st ≤ 8) : rn sc (d + 1) 0 4 [l0, l1, l2, l3] (.ref a :: st) M Q = rn sc d 1 0 [some (.ref a)] [] M (fun r M' => rn sc (d + 1) 0 7 [l0, l1, l2, l3] (r.toList ++ st) M' Q) := ru_d (ru_is (as := []) rfl rfl rfl (Nat.le_of_ble_eq_true rfl) hw rfl)
set_option maxRecDepth 100000 in
theorem s0_7 {a : Nat} : rn sc d 0 7 [l0, l1, l2, l3] (.ref a :: st) M Q = rn sc d 0 8 [l0, some (.ref a), l2, l3] st M Q := ru_1 rfl rfl rfl rfl rfl
set_option maxRecDepth 100000 in
theorem s0_7N : rn sc d 0 7 [l0, l1, l2, l3] (.null :: st) M Q = rn sc d 0 8 [l0, some .null, l2, l3] st M Q := ru_1 rfl rfl rfl rfl rfl
set_option maxRecDepth 100000 in
theorem s0_8 : rn sc d 0 8 [l0, l1, l2, l3] st M Q = rn sc d 0 11 [l0, l1, l2, l3] (.ref M.1 :: st) (xm_new M 31 (.inr (7, [.int 0, .null, .int 0, .null, .null, .int 0, .null, .null, .null, .null, .null, .int 0, .int 0, .int 0, .int 0, .null, .int 0, .null, .null, .null, .null, .null, .null, .null, .null, .int 0, .int 0, .int 0, .int 0, .int 0, .null]))) Q := ru_nw (ci := 7) (N := 31) rfl rfl rfl rfl rfl
set_option maxRecDepth 100000 in
theorem s0_11 {a : Nat} : rn sc d 0 11 [l0, l1, l2, l3] (.ref a :: st) M Q = rn sc d 0 12 [l0, l1, l2, l3] (.ref a :: .ref a :: st) M Q := ru_1 rfl rfl rfl rfl rfl
set_option maxRecDepth 100000 in
theorem s0_11I {x : Int32} : rn sc d 0 11 [l0, l1, l2, l3] (.int x :: st) M Q = rn sc d 0 12 [l0, l1, l2, l3] (.int x :: .int x :: st) M Q := ru_1 rfl rfl rfl rfl rfl
set_option maxRecDepth 100000 in
theorem s0_12 {a : Nat}  (hw : xm_wt st ≤ 8) : rn sc (d + 1) 0 12 [l0, l1, l2, l3] (.ref a :: st) M Q = rn sc d 54 0 [some (.ref a)] [] M (fun r M' => rn sc (d + 1) 0 15 [l0, l1, l2, l3] (r.toList ++ st) M' Q) := ru_d (ru_is (as := []) rfl rfl rfl (Nat.le_of_ble_eq_true rfl) hw rfl)
set_option maxRecDepth 100000 in
theorem s0_15 {a : Nat} : rn sc d 0 15 [l0, l1, l2, l3] (.ref a :: st) M Q = rn sc d 0 16 [l0, l1, some (.ref a), l3] st M Q := ru_1 rfl rfl rfl rfl rfl
set_option maxRecDepth 100000 in
theorem s0_15N : rn sc d 0 15 [l0, l1, l2, l3] (.null :: st) M Q = rn sc d 0 16 [l0, l1, some .null, l3] st M Q := ru_1 rfl rfl rfl rfl rfl
set_option maxRecDepth 100000 in
theorem s0_16 : rn sc d 0 16 [l0, l1, l2, l3] st M Q = rn sc d 0 17 [l0, l1, l2, l3] (.int 0 :: st) M Q := ru_k rfl rfl rfl rfl rfl (by decide)
set_option maxRecDepth 100000 in
theorem s0_17 {x : Int32} : rn sc d 0 17 [l0, l1, l2, l3] (.int x :: st) M Q = rn sc d 0 18 [l0, l1, l2, some (.int x)] st M Q := ru_1 rfl rfl rfl rfl rfl
set_option maxRecDepth 100000 in
theorem s0_18 {x : Int32} : rn sc d 0 18 [l0, l1, l2, some (.int x)] st M Q = rn sc d 0 19 [l0, l1, l2, some (.int x)] (.int x :: st) M Q := ru_1 rfl rfl rfl rfl rfl
set_option maxRecDepth 100000 in
theorem s0_19 {a : Nat} : rn sc d 0 19 [some (.ref a), l1, l2, l3] st M Q = rn sc d 0 20 [some (.ref a), l1, l2, l3] (.ref a :: st) M Q := ru_1 rfl rfl rfl rfl rfl
set_option maxRecDepth 100000 in
theorem s0_20 {a : Nat} : rn sc d 0 20 [l0, l1, l2, l3] (.ref a :: st) M Q = rn_o (hp_len sc M a) (fun n => rn sc d 0 21 [l0, l1, l2, l3] (.int (Int32.ofNat n) :: st) M Q) := ru_alen rfl
set_option maxRecDepth 100000 in
theorem s0_21 : rn sc d 0 21 [l0, l1, l2, l3] st M Q = rn sc d 0 22 [l0, l1, l2, l3] (.int 4 :: st) M Q := ru_k rfl rfl rfl rfl rfl (by decide)
set_option maxRecDepth 100000 in
theorem s0_22 {u v : Int32} : rn sc d 0 22 [l0, l1, l2, l3] (.int v :: .int u :: st) M Q = rn sc d 0 23 [l0, l1, l2, l3] (.int (u - v) :: st) M Q := ru_1 rfl rfl rfl rfl rfl
set_option maxRecDepth 100000 in
theorem s0_23 {u v : Int32} : rn sc d 0 23 [l0, l1, l2, l3] (.int v :: .int u :: st) M Q = if v < u then rn sc d 0 388 [l0, l1, l2, l3] st M Q else rn sc d 0 26 [l0, l1, l2, l3] st M Q := ru_ic pc_gt rfl (by decide)
set_option maxRecDepth 100000 in
theorem s0_26 {a : Nat} : rn sc d 0 26 [some (.ref a), l1, l2, l3] st M Q = rn sc d 0 27 [some (.ref a), l1, l2, l3] (.ref a :: st) M Q := ru_1 rfl rfl rfl rfl rfl
set_option maxRecDepth 100000 in
theorem s0_27 {x : Int32} : rn sc d 0 27 [l0, l1, l2, some (.int x)] st M Q = rn sc d 0 28 [l0, l1, l2, some (.int x)] (.int x :: st) M Q := ru_1 rfl rfl rfl rfl rfl
set_option maxRecDepth 100000 in
theorem s0_28 {a : Nat} {j : Int32} : rn sc d 0 28 [l0, l1, l2, l3] (.int j :: .ref a :: st) M Q = rn_o (hp_i sc M a j) (fun v => rn sc d 0 29 [l0, l1, l2, l3] (.int v :: st) M Q) := ru_iald rfl
set_option maxRecDepth 100000 in
theorem s0_29 : rn sc d 0 29 [l0, l1, l2, l3] st M Q = rn sc d 0 31 [l0, l1, l2, l3] (.int 15 :: st) M Q := ru_k rfl rfl rfl rfl rfl (by decide)
set_option maxRecDepth 100000 in
theorem s0_31 {u v : Int32} : rn sc d 0 31 [l0, l1, l2, l3] (.int v :: .int u :: st) M Q = rn sc d 0 32 [l0, l1, l2, l3] (.int (u &&& v) :: st) M Q := ru_1 rfl rfl rfl rfl rfl
set_option maxRecDepth 100000 in
theorem s0_32_0 : rn sc d 0 32 [l0, l1, l2, l3] (.int 0 :: st) M Q = rn sc d 0 88 [l0, l1, l2, l3] st M Q := ru_sw rfl rfl rfl rfl rfl (by decide) sw_t
set_option maxRecDepth 100000 in
theorem s0_32_1 : rn sc d 0 32 [l0, l1, l2, l3] (.int 1 :: st) M Q = rn sc d 0 111 [l0, l1, l2, l3] st M Q := ru_sw rfl rfl rfl rfl rfl (by decide) sw_t
set_option maxRecDepth 100000 in
theorem s0_32_2 : rn sc d 0 32 [l0, l1, l2, l3] (.int 2 :: st) M Q = rn sc d 0 134 [l0, l1, l2, l3] st M Q := ru_sw rfl rfl rfl rfl rfl (by decide) sw_t
set_option maxRecDepth 100000 in
theorem s0_32_3 : rn sc d 0 32 [l0, l1, l2, l3] (.int 3 :: st) M Q = rn sc d 0 167 [l0, l1, l2, l3] st M Q := ru_sw rfl rfl rfl rfl rfl (by decide) sw_t
set_option maxRecDepth 100000 in
theorem s0_32_4 : rn sc d 0 32 [l0, l1, l2, l3] (.int 4 :: st) M Q = rn sc d 0 190 [l0, l1, l2, l3] st M Q := ru_sw rfl rfl rfl rfl rfl (by decide) sw_t
set_option maxRecDepth 100000 in
theorem s0_32_5 : rn sc d 0 32 [l0, l1, l2, l3] (.int 5 :: st) M Q = rn sc d 0 233 [l0, l1, l2, l3] st M Q := ru_sw rfl rfl rfl rfl rfl (by decide) sw_t
set_option maxRecDepth 100000 in
theorem s0_32_6 : rn sc d 0 32 [l0, l1, l2, l3] (.int 6 :: st) M Q = rn sc d 0 244 [l0, l1, l2, l3] st M Q := ru_sw rfl rfl rfl rfl rfl (by decide) sw_t
set_option maxRecDepth 100000 in
theorem s0_32_7 : rn sc d 0 32 [l0, l1, l2, l3] (.int 7 :: st) M Q = rn sc d 0 277 [l0, l1, l2, l3] st M Q := ru_sw rfl rfl rfl rfl rfl (by decide) sw_t
set_option maxRecDepth 100000 in
theorem s0_32_8 : rn sc d 0 32 [l0, l1, l2, l3] (.int 8 :: st) M Q = rn sc d 0 336 [l0, l1, l2, l3] st M Q := ru_sw rfl rfl rfl rfl rfl (by decide) sw_t
set_option maxRecDepth 100000 in
theorem s0_32_9 : rn sc d 0 32 [l0, l1, l2, l3] (.int 9 :: st) M Q = rn sc d 0 359 [l0, l1, l2, l3] st M Q := ru_sw rfl rfl rfl rfl rfl (by decide) sw_t
set_option maxRecDepth 100000 in
theorem s0_32_d {x : Int32} (h : x.toInt < 0 ∨ 9 < x.toInt) : rn sc d 0 32 [l0, l1, l2, l3] (.int x :: st) M Q = rn sc d 0 382 [l0, l1, l2, l3] st M Q := ru_sw rfl rfl rfl rfl rfl (sw_td h (by decide)) sw_t
set_option maxRecDepth 100000 in
theorem s0_88 {a : Nat} : rn sc d 0 88 [l0, some (.ref a), l2, l3] st M Q = rn sc d 0 89 [l0, some (.ref a), l2, l3] (.ref a :: st) M Q := ru_1 rfl rfl rfl rfl rfl
set_option maxRecDepth 100000 in
theorem s0_88N : rn sc d 0 88 [l0, some .null, l2, l3] st M Q = rn sc d 0 89 [l0, some .null, l2, l3] (.null :: st) M Q := ru_1 rfl rfl rfl rfl rfl
set_option maxRecDepth 100000 in
theorem s0_89 {a : Nat} : rn sc d 0 89 [some (.ref a), l1, l2, l3] st M Q = rn sc d 0 90 [some (.ref a), l1, l2, l3] (.ref a :: st) M Q := ru_1 rfl rfl rfl rfl rfl
set_option maxRecDepth 100000 in
theorem s0_90 {x : Int32} : rn sc d 0 90 [l0, l1, l2, some (.int x)] st M Q = rn sc d 0 91 [l0, l1, l2, some (.int x)] (.int x :: st) M Q := ru_1 rfl rfl rfl rfl rfl
set_option maxRecDepth 100000 in
theorem s0_91 : rn sc d 0 91 [l0, l1, l2, l3] st M Q = rn sc d 0 92 [l0, l1, l2, l3] (.int 1 :: st) M Q := ru_k rfl rfl rfl rfl rfl (by decide)
set_option maxRecDepth 100000 in
theorem s0_92 {u v : Int32} : rn sc d 0 92 [l0, l1, l2, l3] (.int v :: .int u :: st) M Q = rn sc d 0 93 [l0, l1, l2, l3] (.int (u + v) :: st) M Q := ru_1 rfl rfl rfl rfl rfl
set_option maxRecDepth 100000 in
theorem s0_93 {a : Nat} {j : Int32} : rn sc d 0 93 [l0, l1, l2, l3] (.int j :: .ref a :: st) M Q = rn_o (hp_i sc M a j) (fun v => rn sc d 0 94 [l0, l1, l2, l3] (.int v :: st) M Q) := ru_iald rfl
set_option maxRecDepth 100000 in
theorem s0_94 {a : Nat} {x0 : Int32} (hw : xm_wt st ≤ 8) (hq : hp_is M a 6) : rn sc (d + 1) 0 94 [l0, l1, l2, l3] (.int x0 :: .ref a :: st) M Q = rn sc d 8 0 [some (.ref a), some (.int x0)] [] M (fun r M' => rn sc (d + 1) 0 97 [l0, l1, l2, l3] (r.toList ++ st) M' Q) := ru_d (ru_iv (as := [.int x0]) rfl rfl rfl (Nat.le_of_ble_eq_true rfl) hw rfl hq)
set_option maxRecDepth 100000 in
theorem s0_97 {a : Nat} : rn sc d 0 97 [l0, l1, some (.ref a), l3] st M Q = rn sc d 0 98 [l0, l1, some (.ref a), l3] (.ref a :: st) M Q := ru_1 rfl rfl rfl rfl rfl
set_option maxRecDepth 100000 in
theorem s0_97N : rn sc d 0 97 [l0, l1, some .null, l3] st M Q = rn sc d 0 98 [l0, l1, some .null, l3] (.null :: st) M Q := ru_1 rfl rfl rfl rfl rfl
set_option maxRecDepth 100000 in
theorem s0_98 {a : Nat} : rn sc d 0 98 [some (.ref a), l1, l2, l3] st M Q = rn sc d 0 99 [some (.ref a), l1, l2, l3] (.ref a :: st) M Q := ru_1 rfl rfl rfl rfl rfl
set_option maxRecDepth 100000 in
theorem s0_99 {x : Int32} : rn sc d 0 99 [l0, l1, l2, some (.int x)] st M Q = rn sc d 0 100 [l0, l1, l2, some (.int x)] (.int x :: st) M Q := ru_1 rfl rfl rfl rfl rfl
set_option maxRecDepth 100000 in
theorem s0_100 : rn sc d 0 100 [l0, l1, l2, l3] st M Q = rn sc d 0 101 [l0, l1, l2, l3] (.int 1 :: st) M Q := ru_k rfl rfl rfl rfl rfl (by decide)
set_option maxRecDepth 100000 in
theorem s0_101 {u v : Int32} : rn sc d 0 101 [l0, l1, l2, l3] (.int v :: .int u :: st) M Q = rn sc d 0 102 [l0, l1, l2, l3] (.int (u + v) :: st) M Q := ru_1 rfl rfl rfl rfl rfl
set_option maxRecDepth 100000 in
theorem s0_102 {a : Nat} {j : Int32} : rn sc d 0 102 [l0, l1, l2, l3] (.int j :: .ref a :: st) M Q = rn_o (hp_i sc M a j) (fun v => rn sc d 0 103 [l0, l1, l2, l3] (.int v :: st) M Q) := ru_iald rfl
set_option maxRecDepth 100000 in
theorem s0_103 {a : Nat} {x0 : Int32} (hw : xm_wt st ≤ 8) (hq : hp_is M a 7) : rn sc (d + 1) 0 103 [l0, l1, l2, l3] (.int x0 :: .ref a :: st) M Q = rn sc d 55 0 [some (.ref a), some (.int x0)] [] M (fun r M' => rn sc (d + 1) 0 106 [l0, l1, l2, l3] (r.toList ++ st) M' Q) := ru_d (ru_iv (as := [.int x0]) rfl rfl rfl (Nat.le_of_ble_eq_true rfl) hw rfl hq)
set_option maxRecDepth 100000 in
theorem s0_106 {u v : Int32} : rn sc d 0 106 [l0, l1, l2, l3] (.int v :: .int u :: st) M Q = if u = v then rn sc d 0 382 [l0, l1, l2, l3] st M Q else rn sc d 0 109 [l0, l1, l2, l3] st M Q := ru_ic pc_eq rfl (by decide)
set_option maxRecDepth 100000 in
theorem s0_109 : rn sc d 0 109 [l0, l1, l2, l3] st M Q = rn sc d 0 110 [l0, l1, l2, l3] (.int 0 :: st) M Q := ru_k rfl rfl rfl rfl rfl (by decide)
set_option maxRecDepth 100000 in
theorem s0_110 {v : Int32} (h : narrow .boolean (.int v) = .int v) : rn sc d 0 110 [l0, l1, l2, l3] [.int v] M Q = Q (some (.int v)) M := ru_rz rfl rfl h
set_option maxRecDepth 100000 in
theorem s0_111 {a : Nat} : rn sc d 0 111 [l0, some (.ref a), l2, l3] st M Q = rn sc d 0 112 [l0, some (.ref a), l2, l3] (.ref a :: st) M Q := ru_1 rfl rfl rfl rfl rfl
set_option maxRecDepth 100000 in
theorem s0_111N : rn sc d 0 111 [l0, some .null, l2, l3] st M Q = rn sc d 0 112 [l0, some .null, l2, l3] (.null :: st) M Q := ru_1 rfl rfl rfl rfl rfl
set_option maxRecDepth 100000 in
theorem s0_112 {a : Nat} : rn sc d 0 112 [some (.ref a), l1, l2, l3] st M Q = rn sc d 0 113 [some (.ref a), l1, l2, l3] (.ref a :: st) M Q := ru_1 rfl rfl rfl rfl rfl
set_option maxRecDepth 100000 in
theorem s0_113 {x : Int32} : rn sc d 0 113 [l0, l1, l2, some (.int x)] st M Q = rn sc d 0 114 [l0, l1, l2, some (.int x)] (.int x :: st) M Q := ru_1 rfl rfl rfl rfl rfl
set_option maxRecDepth 100000 in
theorem s0_114 : rn sc d 0 114 [l0, l1, l2, l3] st M Q = rn sc d 0 115 [l0, l1, l2, l3] (.int 1 :: st) M Q := ru_k rfl rfl rfl rfl rfl (by decide)
set_option maxRecDepth 100000 in
theorem s0_115 {u v : Int32} : rn sc d 0 115 [l0, l1, l2, l3] (.int v :: .int u :: st) M Q = rn sc d 0 116 [l0, l1, l2, l3] (.int (u + v) :: st) M Q := ru_1 rfl rfl rfl rfl rfl
set_option maxRecDepth 100000 in
theorem s0_116 {a : Nat} {j : Int32} : rn sc d 0 116 [l0, l1, l2, l3] (.int j :: .ref a :: st) M Q = rn_o (hp_i sc M a j) (fun v => rn sc d 0 117 [l0, l1, l2, l3] (.int v :: st) M Q) := ru_iald rfl
set_option maxRecDepth 100000 in
theorem s0_117 {a : Nat} {x0 : Int32} (hw : xm_wt st ≤ 8) (hq : hp_is M a 6) : rn sc (d + 1) 0 117 [l0, l1, l2, l3] (.int x0 :: .ref a :: st) M Q = rn sc d 10 0 [some (.ref a), some (.int x0), none] [] M (fun r M' => rn sc (d + 1) 0 120 [l0, l1, l2, l3] (r.toList ++ st) M' Q) := ru_d (ru_iv (as := [.int x0]) rfl rfl rfl (Nat.le_of_ble_eq_true rfl) hw rfl hq)
set_option maxRecDepth 100000 in
theorem s0_120 {a : Nat} : rn sc d 0 120 [l0, l1, some (.ref a), l3] st M Q = rn sc d 0 121 [l0, l1, some (.ref a), l3] (.ref a :: st) M Q := ru_1 rfl rfl rfl rfl rfl
set_option maxRecDepth 100000 in
theorem s0_120N : rn sc d 0 120 [l0, l1, some .null, l3] st M Q = rn sc d 0 121 [l0, l1, some .null, l3] (.null :: st) M Q := ru_1 rfl rfl rfl rfl rfl
set_option maxRecDepth 100000 in
theorem s0_121 {a : Nat} : rn sc d 0 121 [some (.ref a), l1, l2, l3] st M Q = rn sc d 0 122 [some (.ref a), l1, l2, l3] (.ref a :: st) M Q := ru_1 rfl rfl rfl rfl rfl
set_option maxRecDepth 100000 in
theorem s0_122 {x : Int32} : rn sc d 0 122 [l0, l1, l2, some (.int x)] st M Q = rn sc d 0 123 [l0, l1, l2, some (.int x)] (.int x :: st) M Q := ru_1 rfl rfl rfl rfl rfl
set_option maxRecDepth 100000 in
theorem s0_123 : rn sc d 0 123 [l0, l1, l2, l3] st M Q = rn sc d 0 124 [l0, l1, l2, l3] (.int 1 :: st) M Q := ru_k rfl rfl rfl rfl rfl (by decide)
set_option maxRecDepth 100000 in
theorem s0_124 {u v : Int32} : rn sc d 0 124 [l0, l1, l2, l3] (.int v :: .int u :: st) M Q = rn sc d 0 125 [l0, l1, l2, l3] (.int (u + v) :: st) M Q := ru_1 rfl rfl rfl rfl rfl
set_option maxRecDepth 100000 in
theorem s0_125 {a : Nat} {j : Int32} : rn sc d 0 125 [l0, l1, l2, l3] (.int j :: .ref a :: st) M Q = rn_o (hp_i sc M a j) (fun v => rn sc d 0 126 [l0, l1, l2, l3] (.int v :: st) M Q) := ru_iald rfl
set_option maxRecDepth 100000 in
theorem s0_126 {a : Nat} {x0 : Int32} (hw : xm_wt st ≤ 8) (hq : hp_is M a 7) : rn sc (d + 1) 0 126 [l0, l1, l2, l3] (.int x0 :: .ref a :: st) M Q = rn sc d 56 0 [some (.ref a), some (.int x0), none] [] M (fun r M' => rn sc (d + 1) 0 129 [l0, l1, l2, l3] (r.toList ++ st) M' Q) := ru_d (ru_iv (as := [.int x0]) rfl rfl rfl (Nat.le_of_ble_eq_true rfl) hw rfl hq)
set_option maxRecDepth 100000 in
theorem s0_129 {u v : Int32} : rn sc d 0 129 [l0, l1, l2, l3] (.int v :: .int u :: st) M Q = if u = v then rn sc d 0 382 [l0, l1, l2, l3] st M Q else rn sc d 0 132 [l0, l1, l2, l3] st M Q := ru_ic pc_eq rfl (by decide)
set_option maxRecDepth 100000 in
theorem s0_132 : rn sc d 0 132 [l0, l1, l2, l3] st M Q = rn sc d 0 133 [l0, l1, l2, l3] (.int 0 :: st) M Q := ru_k rfl rfl rfl rfl rfl (by decide)
set_option maxRecDepth 100000 in
theorem s0_133 {v : Int32} (h : narrow .boolean (.int v) = .int v) : rn sc d 0 133 [l0, l1, l2, l3] [.int v] M Q = Q (some (.int v)) M := ru_rz rfl rfl h
set_option maxRecDepth 100000 in
theorem s0_134 {a : Nat} : rn sc d 0 134 [l0, some (.ref a), l2, l3] st M Q = rn sc d 0 135 [l0, some (.ref a), l2, l3] (.ref a :: st) M Q := ru_1 rfl rfl rfl rfl rfl
set_option maxRecDepth 100000 in
theorem s0_134N : rn sc d 0 134 [l0, some .null, l2, l3] st M Q = rn sc d 0 135 [l0, some .null, l2, l3] (.null :: st) M Q := ru_1 rfl rfl rfl rfl rfl
set_option maxRecDepth 100000 in
theorem s0_135 {a : Nat} : rn sc d 0 135 [some (.ref a), l1, l2, l3] st M Q = rn sc d 0 136 [some (.ref a), l1, l2, l3] (.ref a :: st) M Q := ru_1 rfl rfl rfl rfl rfl
set_option maxRecDepth 100000 in
theorem s0_136 {x : Int32} : rn sc d 0 136 [l0, l1, l2, some (.int x)] st M Q = rn sc d 0 137 [l0, l1, l2, some (.int x)] (.int x :: st) M Q := ru_1 rfl rfl rfl rfl rfl
set_option maxRecDepth 100000 in
theorem s0_137 : rn sc d 0 137 [l0, l1, l2, l3] st M Q = rn sc d 0 138 [l0, l1, l2, l3] (.int 1 :: st) M Q := ru_k rfl rfl rfl rfl rfl (by decide)
set_option maxRecDepth 100000 in
theorem s0_138 {u v : Int32} : rn sc d 0 138 [l0, l1, l2, l3] (.int v :: .int u :: st) M Q = rn sc d 0 139 [l0, l1, l2, l3] (.int (u + v) :: st) M Q := ru_1 rfl rfl rfl rfl rfl
set_option maxRecDepth 100000 in
theorem s0_139 {a : Nat} {j : Int32} : rn sc d 0 139 [l0, l1, l2, l3] (.int j :: .ref a :: st) M Q = rn_o (hp_i sc M a j) (fun v => rn sc d 0 140 [l0, l1, l2, l3] (.int v :: st) M Q) := ru_iald rfl
set_option maxRecDepth 100000 in
theorem s0_140 {a : Nat} : rn sc d 0 140 [some (.ref a), l1, l2, l3] st M Q = rn sc d 0 141 [some (.ref a), l1, l2, l3] (.ref a :: st) M Q := ru_1 rfl rfl rfl rfl rfl
set_option maxRecDepth 100000 in
theorem s0_141 {x : Int32} : rn sc d 0 141 [l0, l1, l2, some (.int x)] st M Q = rn sc d 0 142 [l0, l1, l2, some (.int x)] (.int x :: st) M Q := ru_1 rfl rfl rfl rfl rfl
set_option maxRecDepth 100000 in
theorem s0_142 : rn sc d 0 142 [l0, l1, l2, l3] st M Q = rn sc d 0 143 [l0, l1, l2, l3] (.int 2 :: st) M Q := ru_k rfl rfl rfl rfl rfl (by decide)
set_option maxRecDepth 100000 in
theorem s0_143 {u v : Int32} : rn sc d 0 143 [l0, l1, l2, l3] (.int v :: .int u :: st) M Q = rn sc d 0 144 [l0, l1, l2, l3] (.int (u + v) :: st) M Q := ru_1 rfl rfl rfl rfl rfl
set_option maxRecDepth 100000 in
theorem s0_144 {a : Nat} {j : Int32} : rn sc d 0 144 [l0, l1, l2, l3] (.int j :: .ref a :: st) M Q = rn_o (hp_i sc M a j) (fun v => rn sc d 0 145 [l0, l1, l2, l3] (.int v :: st) M Q) := ru_iald rfl
set_option maxRecDepth 100000 in
theorem s0_145 {a : Nat} {x0 : Int32} {x1 : Int32} (hw : xm_wt st ≤ 8) (hq : hp_is M a 6) : rn sc (d + 1) 0 145 [l0, l1, l2, l3] (.int x1 :: .int x0 :: .ref a :: st) M Q = rn sc d 14 0 [some (.ref a), some (.int x0), some (.int x1), none] [] M (fun r M' => rn sc (d + 1) 0 148 [l0, l1, l2, l3] (r.toList ++ st) M' Q) := ru_d (ru_iv (as := [.int x1, .int x0]) rfl rfl rfl (Nat.le_of_ble_eq_true rfl) hw rfl hq)
set_option maxRecDepth 100000 in
theorem s0_148 {a : Nat} : rn sc d 0 148 [l0, l1, some (.ref a), l3] st M Q = rn sc d 0 149 [l0, l1, some (.ref a), l3] (.ref a :: st) M Q := ru_1 rfl rfl rfl rfl rfl
set_option maxRecDepth 100000 in
theorem s0_148N : rn sc d 0 148 [l0, l1, some .null, l3] st M Q = rn sc d 0 149 [l0, l1, some .null, l3] (.null :: st) M Q := ru_1 rfl rfl rfl rfl rfl
set_option maxRecDepth 100000 in
theorem s0_149 {a : Nat} : rn sc d 0 149 [some (.ref a), l1, l2, l3] st M Q = rn sc d 0 150 [some (.ref a), l1, l2, l3] (.ref a :: st) M Q := ru_1 rfl rfl rfl rfl rfl
set_option maxRecDepth 100000 in
theorem s0_150 {x : Int32} : rn sc d 0 150 [l0, l1, l2, some (.int x)] st M Q = rn sc d 0 151 [l0, l1, l2, some (.int x)] (.int x :: st) M Q := ru_1 rfl rfl rfl rfl rfl
set_option maxRecDepth 100000 in
theorem s0_151 : rn sc d 0 151 [l0, l1, l2, l3] st M Q = rn sc d 0 152 [l0, l1, l2, l3] (.int 1 :: st) M Q := ru_k rfl rfl rfl rfl rfl (by decide)
set_option maxRecDepth 100000 in
theorem s0_152 {u v : Int32} : rn sc d 0 152 [l0, l1, l2, l3] (.int v :: .int u :: st) M Q = rn sc d 0 153 [l0, l1, l2, l3] (.int (u + v) :: st) M Q := ru_1 rfl rfl rfl rfl rfl
set_option maxRecDepth 100000 in
theorem s0_153 {a : Nat} {j : Int32} : rn sc d 0 153 [l0, l1, l2, l3] (.int j :: .ref a :: st) M Q = rn_o (hp_i sc M a j) (fun v => rn sc d 0 154 [l0, l1, l2, l3] (.int v :: st) M Q) := ru_iald rfl
set_option maxRecDepth 100000 in
theorem s0_154 {a : Nat} : rn sc d 0 154 [some (.ref a), l1, l2, l3] st M Q = rn sc d 0 155 [some (.ref a), l1, l2, l3] (.ref a :: st) M Q := ru_1 rfl rfl rfl rfl rfl
set_option maxRecDepth 100000 in
theorem s0_155 {x : Int32} : rn sc d 0 155 [l0, l1, l2, some (.int x)] st M Q = rn sc d 0 156 [l0, l1, l2, some (.int x)] (.int x :: st) M Q := ru_1 rfl rfl rfl rfl rfl
set_option maxRecDepth 100000 in
theorem s0_156 : rn sc d 0 156 [l0, l1, l2, l3] st M Q = rn sc d 0 157 [l0, l1, l2, l3] (.int 2 :: st) M Q := ru_k rfl rfl rfl rfl rfl (by decide)
set_option maxRecDepth 100000 in
theorem s0_157 {u v : Int32} : rn sc d 0 157 [l0, l1, l2, l3] (.int v :: .int u :: st) M Q = rn sc d 0 158 [l0, l1, l2, l3] (.int (u + v) :: st) M Q := ru_1 rfl rfl rfl rfl rfl
set_option maxRecDepth 100000 in
theorem s0_158 {a : Nat} {j : Int32} : rn sc d 0 158 [l0, l1, l2, l3] (.int j :: .ref a :: st) M Q = rn_o (hp_i sc M a j) (fun v => rn sc d 0 159 [l0, l1, l2, l3] (.int v :: st) M Q) := ru_iald rfl
set_option maxRecDepth 100000 in
theorem s0_159 {a : Nat} {x0 : Int32} {x1 : Int32} (hw : xm_wt st ≤ 8) (hq : hp_is M a 7) : rn sc (d + 1) 0 159 [l0, l1, l2, l3] (.int x1 :: .int x0 :: .ref a :: st) M Q = rn sc d 58 0 [some (.ref a), some (.int x0), some (.int x1)] [] M (fun r M' => rn sc (d + 1) 0 162 [l0, l1, l2, l3] (r.toList ++ st) M' Q) := ru_d (ru_iv (as := [.int x1, .int x0]) rfl rfl rfl (Nat.le_of_ble_eq_true rfl) hw rfl hq)
set_option maxRecDepth 100000 in
theorem s0_162 {u v : Int32} : rn sc d 0 162 [l0, l1, l2, l3] (.int v :: .int u :: st) M Q = if u = v then rn sc d 0 382 [l0, l1, l2, l3] st M Q else rn sc d 0 165 [l0, l1, l2, l3] st M Q := ru_ic pc_eq rfl (by decide)
set_option maxRecDepth 100000 in
theorem s0_165 : rn sc d 0 165 [l0, l1, l2, l3] st M Q = rn sc d 0 166 [l0, l1, l2, l3] (.int 0 :: st) M Q := ru_k rfl rfl rfl rfl rfl (by decide)
set_option maxRecDepth 100000 in
theorem s0_166 {v : Int32} (h : narrow .boolean (.int v) = .int v) : rn sc d 0 166 [l0, l1, l2, l3] [.int v] M Q = Q (some (.int v)) M := ru_rz rfl rfl h
set_option maxRecDepth 100000 in
theorem s0_167 {a : Nat} : rn sc d 0 167 [l0, some (.ref a), l2, l3] st M Q = rn sc d 0 168 [l0, some (.ref a), l2, l3] (.ref a :: st) M Q := ru_1 rfl rfl rfl rfl rfl
set_option maxRecDepth 100000 in
theorem s0_167N : rn sc d 0 167 [l0, some .null, l2, l3] st M Q = rn sc d 0 168 [l0, some .null, l2, l3] (.null :: st) M Q := ru_1 rfl rfl rfl rfl rfl
set_option maxRecDepth 100000 in
theorem s0_168 {a : Nat} : rn sc d 0 168 [some (.ref a), l1, l2, l3] st M Q = rn sc d 0 169 [some (.ref a), l1, l2, l3] (.ref a :: st) M Q := ru_1 rfl rfl rfl rfl rfl
set_option maxRecDepth 100000 in
theorem s0_169 {x : Int32} : rn sc d 0 169 [l0, l1, l2, some (.int x)] st M Q = rn sc d 0 170 [l0, l1, l2, some (.int x)] (.int x :: st) M Q := ru_1 rfl rfl rfl rfl rfl
set_option maxRecDepth 100000 in
theorem s0_170 : rn sc d 0 170 [l0, l1, l2, l3] st M Q = rn sc d 0 171 [l0, l1, l2, l3] (.int 1 :: st) M Q := ru_k rfl rfl rfl rfl rfl (by decide)
set_option maxRecDepth 100000 in
theorem s0_171 {u v : Int32} : rn sc d 0 171 [l0, l1, l2, l3] (.int v :: .int u :: st) M Q = rn sc d 0 172 [l0, l1, l2, l3] (.int (u + v) :: st) M Q := ru_1 rfl rfl rfl rfl rfl
set_option maxRecDepth 100000 in
theorem s0_172 {a : Nat} {j : Int32} : rn sc d 0 172 [l0, l1, l2, l3] (.int j :: .ref a :: st) M Q = rn_o (hp_i sc M a j) (fun v => rn sc d 0 173 [l0, l1, l2, l3] (.int v :: st) M Q) := ru_iald rfl
set_option maxRecDepth 100000 in
theorem s0_173 {a : Nat} {x0 : Int32} (hw : xm_wt st ≤ 8) (hq : hp_is M a 6) : rn sc (d + 1) 0 173 [l0, l1, l2, l3] (.int x0 :: .ref a :: st) M Q = rn sc d 16 0 [some (.ref a), some (.int x0), none] [] M (fun r M' => rn sc (d + 1) 0 176 [l0, l1, l2, l3] (r.toList ++ st) M' Q) := ru_d (ru_iv (as := [.int x0]) rfl rfl rfl (Nat.le_of_ble_eq_true rfl) hw rfl hq)
set_option maxRecDepth 100000 in
theorem s0_176 {a : Nat} : rn sc d 0 176 [l0, l1, some (.ref a), l3] st M Q = rn sc d 0 177 [l0, l1, some (.ref a), l3] (.ref a :: st) M Q := ru_1 rfl rfl rfl rfl rfl
set_option maxRecDepth 100000 in
theorem s0_176N : rn sc d 0 176 [l0, l1, some .null, l3] st M Q = rn sc d 0 177 [l0, l1, some .null, l3] (.null :: st) M Q := ru_1 rfl rfl rfl rfl rfl
set_option maxRecDepth 100000 in
theorem s0_177 {a : Nat} : rn sc d 0 177 [some (.ref a), l1, l2, l3] st M Q = rn sc d 0 178 [some (.ref a), l1, l2, l3] (.ref a :: st) M Q := ru_1 rfl rfl rfl rfl rfl
set_option maxRecDepth 100000 in
theorem s0_178 {x : Int32} : rn sc d 0 178 [l0, l1, l2, some (.int x)] st M Q = rn sc d 0 179 [l0, l1, l2, some (.int x)] (.int x :: st) M Q := ru_1 rfl rfl rfl rfl rfl
set_option maxRecDepth 100000 in
theorem s0_179 : rn sc d 0 179 [l0, l1, l2, l3] st M Q = rn sc d 0 180 [l0, l1, l2, l3] (.int 1 :: st) M Q := ru_k rfl rfl rfl rfl rfl (by decide)
set_option maxRecDepth 100000 in
theorem s0_180 {u v : Int32} : rn sc d 0 180 [l0, l1, l2, l3] (.int v :: .int u :: st) M Q = rn sc d 0 181 [l0, l1, l2, l3] (.int (u + v) :: st) M Q := ru_1 rfl rfl rfl rfl rfl
set_option maxRecDepth 100000 in
theorem s0_181 {a : Nat} {j : Int32} : rn sc d 0 181 [l0, l1, l2, l3] (.int j :: .ref a :: st) M Q = rn_o (hp_i sc M a j) (fun v => rn sc d 0 182 [l0, l1, l2, l3] (.int v :: st) M Q) := ru_iald rfl
set_option maxRecDepth 100000 in
theorem s0_182 {a : Nat} {x0 : Int32} (hw : xm_wt st ≤ 8) (hq : hp_is M a 7) : rn sc (d + 1) 0 182 [l0, l1, l2, l3] (.int x0 :: .ref a :: st) M Q = rn sc d 59 0 [some (.ref a), some (.int x0)] [] M (fun r M' => rn sc (d + 1) 0 185 [l0, l1, l2, l3] (r.toList ++ st) M' Q) := ru_d (ru_iv (as := [.int x0]) rfl rfl rfl (Nat.le_of_ble_eq_true rfl) hw rfl hq)
set_option maxRecDepth 100000 in
theorem s0_185 {u v : Int32} : rn sc d 0 185 [l0, l1, l2, l3] (.int v :: .int u :: st) M Q = if u = v then rn sc d 0 382 [l0, l1, l2, l3] st M Q else rn sc d 0 188 [l0, l1, l2, l3] st M Q := ru_ic pc_eq rfl (by decide)
set_option maxRecDepth 100000 in
theorem s0_188 : rn sc d 0 188 [l0, l1, l2, l3] st M Q = rn sc d 0 189 [l0, l1, l2, l3] (.int 0 :: st) M Q := ru_k rfl rfl rfl rfl rfl (by decide)
set_option maxRecDepth 100000 in
theorem s0_189 {v : Int32} (h : narrow .boolean (.int v) = .int v) : rn sc d 0 189 [l0, l1, l2, l3] [.int v] M Q = Q (some (.int v)) M := ru_rz rfl rfl h
set_option maxRecDepth 100000 in
theorem s0_190 {a : Nat} : rn sc d 0 190 [l0, some (.ref a), l2, l3] st M Q = rn sc d 0 191 [l0, some (.ref a), l2, l3] (.ref a :: st) M Q := ru_1 rfl rfl rfl rfl rfl
set_option maxRecDepth 100000 in
theorem s0_190N : rn sc d 0 190 [l0, some .null, l2, l3] st M Q = rn sc d 0 191 [l0, some .null, l2, l3] (.null :: st) M Q := ru_1 rfl rfl rfl rfl rfl
set_option maxRecDepth 100000 in
theorem s0_191 {a : Nat} : rn sc d 0 191 [some (.ref a), l1, l2, l3] st M Q = rn sc d 0 192 [some (.ref a), l1, l2, l3] (.ref a :: st) M Q := ru_1 rfl rfl rfl rfl rfl
set_option maxRecDepth 100000 in
theorem s0_192 {x : Int32} : rn sc d 0 192 [l0, l1, l2, some (.int x)] st M Q = rn sc d 0 193 [l0, l1, l2, some (.int x)] (.int x :: st) M Q := ru_1 rfl rfl rfl rfl rfl
set_option maxRecDepth 100000 in
theorem s0_193 : rn sc d 0 193 [l0, l1, l2, l3] st M Q = rn sc d 0 194 [l0, l1, l2, l3] (.int 1 :: st) M Q := ru_k rfl rfl rfl rfl rfl (by decide)
set_option maxRecDepth 100000 in
theorem s0_194 {u v : Int32} : rn sc d 0 194 [l0, l1, l2, l3] (.int v :: .int u :: st) M Q = rn sc d 0 195 [l0, l1, l2, l3] (.int (u + v) :: st) M Q := ru_1 rfl rfl rfl rfl rfl
set_option maxRecDepth 100000 in
theorem s0_195 {a : Nat} {j : Int32} : rn sc d 0 195 [l0, l1, l2, l3] (.int j :: .ref a :: st) M Q = rn_o (hp_i sc M a j) (fun v => rn sc d 0 196 [l0, l1, l2, l3] (.int v :: st) M Q) := ru_iald rfl
set_option maxRecDepth 100000 in
theorem s0_196 {a : Nat} : rn sc d 0 196 [some (.ref a), l1, l2, l3] st M Q = rn sc d 0 197 [some (.ref a), l1, l2, l3] (.ref a :: st) M Q := ru_1 rfl rfl rfl rfl rfl
set_option maxRecDepth 100000 in
theorem s0_197 {x : Int32} : rn sc d 0 197 [l0, l1, l2, some (.int x)] st M Q = rn sc d 0 198 [l0, l1, l2, some (.int x)] (.int x :: st) M Q := ru_1 rfl rfl rfl rfl rfl
set_option maxRecDepth 100000 in
theorem s0_198 : rn sc d 0 198 [l0, l1, l2, l3] st M Q = rn sc d 0 199 [l0, l1, l2, l3] (.int 2 :: st) M Q := ru_k rfl rfl rfl rfl rfl (by decide)
set_option maxRecDepth 100000 in
theorem s0_199 {u v : Int32} : rn sc d 0 199 [l0, l1, l2, l3] (.int v :: .int u :: st) M Q = rn sc d 0 200 [l0, l1, l2, l3] (.int (u + v) :: st) M Q := ru_1 rfl rfl rfl rfl rfl
set_option maxRecDepth 100000 in
theorem s0_200 {a : Nat} {j : Int32} : rn sc d 0 200 [l0, l1, l2, l3] (.int j :: .ref a :: st) M Q = rn_o (hp_i sc M a j) (fun v => rn sc d 0 201 [l0, l1, l2, l3] (.int v :: st) M Q) := ru_iald rfl
set_option maxRecDepth 100000 in
theorem s0_201 {a : Nat} : rn sc d 0 201 [some (.ref a), l1, l2, l3] st M Q = rn sc d 0 202 [some (.ref a), l1, l2, l3] (.ref a :: st) M Q := ru_1 rfl rfl rfl rfl rfl
set_option maxRecDepth 100000 in
theorem s0_202 {x : Int32} : rn sc d 0 202 [l0, l1, l2, some (.int x)] st M Q = rn sc d 0 203 [l0, l1, l2, some (.int x)] (.int x :: st) M Q := ru_1 rfl rfl rfl rfl rfl
set_option maxRecDepth 100000 in
theorem s0_203 : rn sc d 0 203 [l0, l1, l2, l3] st M Q = rn sc d 0 204 [l0, l1, l2, l3] (.int 3 :: st) M Q := ru_k rfl rfl rfl rfl rfl (by decide)
set_option maxRecDepth 100000 in
theorem s0_204 {u v : Int32} : rn sc d 0 204 [l0, l1, l2, l3] (.int v :: .int u :: st) M Q = rn sc d 0 205 [l0, l1, l2, l3] (.int (u + v) :: st) M Q := ru_1 rfl rfl rfl rfl rfl
set_option maxRecDepth 100000 in
theorem s0_205 {a : Nat} {j : Int32} : rn sc d 0 205 [l0, l1, l2, l3] (.int j :: .ref a :: st) M Q = rn_o (hp_i sc M a j) (fun v => rn sc d 0 206 [l0, l1, l2, l3] (.int v :: st) M Q) := ru_iald rfl
set_option maxRecDepth 100000 in
theorem s0_206 {a : Nat} {x0 : Int32} {x1 : Int32} {x2 : Int32} (hw : xm_wt st ≤ 8) (hq : hp_is M a 6) : rn sc (d + 1) 0 206 [l0, l1, l2, l3] (.int x2 :: .int x1 :: .int x0 :: .ref a :: st) M Q = rn sc d 17 0 [some (.ref a), some (.int x0), some (.int x1), some (.int x2)] [] M (fun r M' => rn sc (d + 1) 0 209 [l0, l1, l2, l3] (r.toList ++ st) M' Q) := ru_d (ru_iv (as := [.int x2, .int x1, .int x0]) rfl rfl rfl (Nat.le_of_ble_eq_true rfl) hw rfl hq)
set_option maxRecDepth 100000 in
theorem s0_209 {a : Nat} : rn sc d 0 209 [l0, l1, some (.ref a), l3] st M Q = rn sc d 0 210 [l0, l1, some (.ref a), l3] (.ref a :: st) M Q := ru_1 rfl rfl rfl rfl rfl
set_option maxRecDepth 100000 in
theorem s0_209N : rn sc d 0 209 [l0, l1, some .null, l3] st M Q = rn sc d 0 210 [l0, l1, some .null, l3] (.null :: st) M Q := ru_1 rfl rfl rfl rfl rfl
set_option maxRecDepth 100000 in
theorem s0_210 {a : Nat} : rn sc d 0 210 [some (.ref a), l1, l2, l3] st M Q = rn sc d 0 211 [some (.ref a), l1, l2, l3] (.ref a :: st) M Q := ru_1 rfl rfl rfl rfl rfl
set_option maxRecDepth 100000 in
theorem s0_211 {x : Int32} : rn sc d 0 211 [l0, l1, l2, some (.int x)] st M Q = rn sc d 0 212 [l0, l1, l2, some (.int x)] (.int x :: st) M Q := ru_1 rfl rfl rfl rfl rfl
set_option maxRecDepth 100000 in
theorem s0_212 : rn sc d 0 212 [l0, l1, l2, l3] st M Q = rn sc d 0 213 [l0, l1, l2, l3] (.int 1 :: st) M Q := ru_k rfl rfl rfl rfl rfl (by decide)
set_option maxRecDepth 100000 in
theorem s0_213 {u v : Int32} : rn sc d 0 213 [l0, l1, l2, l3] (.int v :: .int u :: st) M Q = rn sc d 0 214 [l0, l1, l2, l3] (.int (u + v) :: st) M Q := ru_1 rfl rfl rfl rfl rfl
set_option maxRecDepth 100000 in
theorem s0_214 {a : Nat} {j : Int32} : rn sc d 0 214 [l0, l1, l2, l3] (.int j :: .ref a :: st) M Q = rn_o (hp_i sc M a j) (fun v => rn sc d 0 215 [l0, l1, l2, l3] (.int v :: st) M Q) := ru_iald rfl
set_option maxRecDepth 100000 in
theorem s0_215 {a : Nat} : rn sc d 0 215 [some (.ref a), l1, l2, l3] st M Q = rn sc d 0 216 [some (.ref a), l1, l2, l3] (.ref a :: st) M Q := ru_1 rfl rfl rfl rfl rfl
set_option maxRecDepth 100000 in
theorem s0_216 {x : Int32} : rn sc d 0 216 [l0, l1, l2, some (.int x)] st M Q = rn sc d 0 217 [l0, l1, l2, some (.int x)] (.int x :: st) M Q := ru_1 rfl rfl rfl rfl rfl
set_option maxRecDepth 100000 in
theorem s0_217 : rn sc d 0 217 [l0, l1, l2, l3] st M Q = rn sc d 0 218 [l0, l1, l2, l3] (.int 2 :: st) M Q := ru_k rfl rfl rfl rfl rfl (by decide)
set_option maxRecDepth 100000 in
theorem s0_218 {u v : Int32} : rn sc d 0 218 [l0, l1, l2, l3] (.int v :: .int u :: st) M Q = rn sc d 0 219 [l0, l1, l2, l3] (.int (u + v) :: st) M Q := ru_1 rfl rfl rfl rfl rfl
set_option maxRecDepth 100000 in
theorem s0_219 {a : Nat} {j : Int32} : rn sc d 0 219 [l0, l1, l2, l3] (.int j :: .ref a :: st) M Q = rn_o (hp_i sc M a j) (fun v => rn sc d 0 220 [l0, l1, l2, l3] (.int v :: st) M Q) := ru_iald rfl
set_option maxRecDepth 100000 in
theorem s0_220 {a : Nat} : rn sc d 0 220 [some (.ref a), l1, l2, l3] st M Q = rn sc d 0 221 [some (.ref a), l1, l2, l3] (.ref a :: st) M Q := ru_1 rfl rfl rfl rfl rfl
set_option maxRecDepth 100000 in
theorem s0_221 {x : Int32} : rn sc d 0 221 [l0, l1, l2, some (.int x)] st M Q = rn sc d 0 222 [l0, l1, l2, some (.int x)] (.int x :: st) M Q := ru_1 rfl rfl rfl rfl rfl
set_option maxRecDepth 100000 in
theorem s0_222 : rn sc d 0 222 [l0, l1, l2, l3] st M Q = rn sc d 0 223 [l0, l1, l2, l3] (.int 3 :: st) M Q := ru_k rfl rfl rfl rfl rfl (by decide)
set_option maxRecDepth 100000 in
theorem s0_223 {u v : Int32} : rn sc d 0 223 [l0, l1, l2, l3] (.int v :: .int u :: st) M Q = rn sc d 0 224 [l0, l1, l2, l3] (.int (u + v) :: st) M Q := ru_1 rfl rfl rfl rfl rfl
set_option maxRecDepth 100000 in
theorem s0_224 {a : Nat} {j : Int32} : rn sc d 0 224 [l0, l1, l2, l3] (.int j :: .ref a :: st) M Q = rn_o (hp_i sc M a j) (fun v => rn sc d 0 225 [l0, l1, l2, l3] (.int v :: st) M Q) := ru_iald rfl
set_option maxRecDepth 100000 in
theorem s0_225 {a : Nat} {x0 : Int32} {x1 : Int32} {x2 : Int32} (hw : xm_wt st ≤ 8) (hq : hp_is M a 7) : rn sc (d + 1) 0 225 [l0, l1, l2, l3] (.int x2 :: .int x1 :: .int x0 :: .ref a :: st) M Q = rn sc d 60 0 [some (.ref a), some (.int x0), some (.int x1), some (.int x2), none, none, none] [] M (fun r M' => rn sc (d + 1) 0 228 [l0, l1, l2, l3] (r.toList ++ st) M' Q) := ru_d (ru_iv (as := [.int x2, .int x1, .int x0]) rfl rfl rfl (Nat.le_of_ble_eq_true rfl) hw rfl hq)
set_option maxRecDepth 100000 in
theorem s0_228 {u v : Int32} : rn sc d 0 228 [l0, l1, l2, l3] (.int v :: .int u :: st) M Q = if u = v then rn sc d 0 382 [l0, l1, l2, l3] st M Q else rn sc d 0 231 [l0, l1, l2, l3] st M Q := ru_ic pc_eq rfl (by decide)
set_option maxRecDepth 100000 in
theorem s0_231 : rn sc d 0 231 [l0, l1, l2, l3] st M Q = rn sc d 0 232 [l0, l1, l2, l3] (.int 0 :: st) M Q := ru_k rfl rfl rfl rfl rfl (by decide)
set_option maxRecDepth 100000 in
theorem s0_232 {v : Int32} (h : narrow .boolean (.int v) = .int v) : rn sc d 0 232 [l0, l1, l2, l3] [.int v] M Q = Q (some (.int v)) M := ru_rz rfl rfl h
set_option maxRecDepth 100000 in
theorem s0_233 {a : Nat} : rn sc d 0 233 [l0, some (.ref a), l2, l3] st M Q = rn sc d 0 234 [l0, some (.ref a), l2, l3] (.ref a :: st) M Q := ru_1 rfl rfl rfl rfl rfl
set_option maxRecDepth 100000 in
theorem s0_233N : rn sc d 0 233 [l0, some .null, l2, l3] st M Q = rn sc d 0 234 [l0, some .null, l2, l3] (.null :: st) M Q := ru_1 rfl rfl rfl rfl rfl
set_option maxRecDepth 100000 in
theorem s0_234 {a : Nat}  (hw : xm_wt st ≤ 8) (hq : hp_is M a 6) : rn sc (d + 1) 0 234 [l0, l1, l2, l3] (.ref a :: st) M Q = rn sc d 23 0 [some (.ref a)] [] M (fun r M' => rn sc (d + 1) 0 237 [l0, l1, l2, l3] (r.toList ++ st) M' Q) := ru_d (ru_iv (as := []) rfl rfl rfl (Nat.le_of_ble_eq_true rfl) hw rfl hq)
set_option maxRecDepth 100000 in
theorem s0_237 {a : Nat} : rn sc d 0 237 [l0, l1, some (.ref a), l3] st M Q = rn sc d 0 238 [l0, l1, some (.ref a), l3] (.ref a :: st) M Q := ru_1 rfl rfl rfl rfl rfl
set_option maxRecDepth 100000 in
theorem s0_237N : rn sc d 0 237 [l0, l1, some .null, l3] st M Q = rn sc d 0 238 [l0, l1, some .null, l3] (.null :: st) M Q := ru_1 rfl rfl rfl rfl rfl
set_option maxRecDepth 100000 in
theorem s0_238 {a : Nat}  (hw : xm_wt st ≤ 8) (hq : hp_is M a 7) : rn sc (d + 1) 0 238 [l0, l1, l2, l3] (.ref a :: st) M Q = rn sc d 63 0 [some (.ref a)] [] M (fun r M' => rn sc (d + 1) 0 241 [l0, l1, l2, l3] (r.toList ++ st) M' Q) := ru_d (ru_iv (as := []) rfl rfl rfl (Nat.le_of_ble_eq_true rfl) hw rfl hq)
set_option maxRecDepth 100000 in
theorem s0_241 : rn sc d 0 241 [l0, l1, l2, l3] st M Q = rn sc d 0 382 [l0, l1, l2, l3] st M Q := ru_go rfl (by decide)
set_option maxRecDepth 100000 in
theorem s0_244 {a : Nat} : rn sc d 0 244 [l0, some (.ref a), l2, l3] st M Q = rn sc d 0 245 [l0, some (.ref a), l2, l3] (.ref a :: st) M Q := ru_1 rfl rfl rfl rfl rfl
set_option maxRecDepth 100000 in
theorem s0_244N : rn sc d 0 244 [l0, some .null, l2, l3] st M Q = rn sc d 0 245 [l0, some .null, l2, l3] (.null :: st) M Q := ru_1 rfl rfl rfl rfl rfl
set_option maxRecDepth 100000 in
theorem s0_245 {a : Nat} : rn sc d 0 245 [some (.ref a), l1, l2, l3] st M Q = rn sc d 0 246 [some (.ref a), l1, l2, l3] (.ref a :: st) M Q := ru_1 rfl rfl rfl rfl rfl
set_option maxRecDepth 100000 in
theorem s0_246 {x : Int32} : rn sc d 0 246 [l0, l1, l2, some (.int x)] st M Q = rn sc d 0 247 [l0, l1, l2, some (.int x)] (.int x :: st) M Q := ru_1 rfl rfl rfl rfl rfl
set_option maxRecDepth 100000 in
theorem s0_247 : rn sc d 0 247 [l0, l1, l2, l3] st M Q = rn sc d 0 248 [l0, l1, l2, l3] (.int 1 :: st) M Q := ru_k rfl rfl rfl rfl rfl (by decide)
set_option maxRecDepth 100000 in
theorem s0_248 {u v : Int32} : rn sc d 0 248 [l0, l1, l2, l3] (.int v :: .int u :: st) M Q = rn sc d 0 249 [l0, l1, l2, l3] (.int (u + v) :: st) M Q := ru_1 rfl rfl rfl rfl rfl
set_option maxRecDepth 100000 in
theorem s0_249 {a : Nat} {j : Int32} : rn sc d 0 249 [l0, l1, l2, l3] (.int j :: .ref a :: st) M Q = rn_o (hp_i sc M a j) (fun v => rn sc d 0 250 [l0, l1, l2, l3] (.int v :: st) M Q) := ru_iald rfl
set_option maxRecDepth 100000 in
theorem s0_250 {a : Nat} : rn sc d 0 250 [some (.ref a), l1, l2, l3] st M Q = rn sc d 0 251 [some (.ref a), l1, l2, l3] (.ref a :: st) M Q := ru_1 rfl rfl rfl rfl rfl
set_option maxRecDepth 100000 in
theorem s0_251 {x : Int32} : rn sc d 0 251 [l0, l1, l2, some (.int x)] st M Q = rn sc d 0 252 [l0, l1, l2, some (.int x)] (.int x :: st) M Q := ru_1 rfl rfl rfl rfl rfl
set_option maxRecDepth 100000 in
theorem s0_252 : rn sc d 0 252 [l0, l1, l2, l3] st M Q = rn sc d 0 253 [l0, l1, l2, l3] (.int 2 :: st) M Q := ru_k rfl rfl rfl rfl rfl (by decide)
set_option maxRecDepth 100000 in
theorem s0_253 {u v : Int32} : rn sc d 0 253 [l0, l1, l2, l3] (.int v :: .int u :: st) M Q = rn sc d 0 254 [l0, l1, l2, l3] (.int (u + v) :: st) M Q := ru_1 rfl rfl rfl rfl rfl
set_option maxRecDepth 100000 in
theorem s0_254 {a : Nat} {j : Int32} : rn sc d 0 254 [l0, l1, l2, l3] (.int j :: .ref a :: st) M Q = rn_o (hp_i sc M a j) (fun v => rn sc d 0 255 [l0, l1, l2, l3] (.int v :: st) M Q) := ru_iald rfl
set_option maxRecDepth 100000 in
theorem s0_255 {a : Nat} {x0 : Int32} {x1 : Int32} (hw : xm_wt st ≤ 8) (hq : hp_is M a 6) : rn sc (d + 1) 0 255 [l0, l1, l2, l3] (.int x1 :: .int x0 :: .ref a :: st) M Q = rn sc d 24 0 [some (.ref a), some (.int x0), some (.int x1), none] [] M (fun r M' => rn sc (d + 1) 0 258 [l0, l1, l2, l3] (r.toList ++ st) M' Q) := ru_d (ru_iv (as := [.int x1, .int x0]) rfl rfl rfl (Nat.le_of_ble_eq_true rfl) hw rfl hq)
set_option maxRecDepth 100000 in
theorem s0_258 {a : Nat} : rn sc d 0 258 [l0, l1, some (.ref a), l3] st M Q = rn sc d 0 259 [l0, l1, some (.ref a), l3] (.ref a :: st) M Q := ru_1 rfl rfl rfl rfl rfl
set_option maxRecDepth 100000 in
theorem s0_258N : rn sc d 0 258 [l0, l1, some .null, l3] st M Q = rn sc d 0 259 [l0, l1, some .null, l3] (.null :: st) M Q := ru_1 rfl rfl rfl rfl rfl
set_option maxRecDepth 100000 in
theorem s0_259 {a : Nat} : rn sc d 0 259 [some (.ref a), l1, l2, l3] st M Q = rn sc d 0 260 [some (.ref a), l1, l2, l3] (.ref a :: st) M Q := ru_1 rfl rfl rfl rfl rfl
set_option maxRecDepth 100000 in
theorem s0_260 {x : Int32} : rn sc d 0 260 [l0, l1, l2, some (.int x)] st M Q = rn sc d 0 261 [l0, l1, l2, some (.int x)] (.int x :: st) M Q := ru_1 rfl rfl rfl rfl rfl
set_option maxRecDepth 100000 in
theorem s0_261 : rn sc d 0 261 [l0, l1, l2, l3] st M Q = rn sc d 0 262 [l0, l1, l2, l3] (.int 1 :: st) M Q := ru_k rfl rfl rfl rfl rfl (by decide)
set_option maxRecDepth 100000 in
theorem s0_262 {u v : Int32} : rn sc d 0 262 [l0, l1, l2, l3] (.int v :: .int u :: st) M Q = rn sc d 0 263 [l0, l1, l2, l3] (.int (u + v) :: st) M Q := ru_1 rfl rfl rfl rfl rfl
set_option maxRecDepth 100000 in
theorem s0_263 {a : Nat} {j : Int32} : rn sc d 0 263 [l0, l1, l2, l3] (.int j :: .ref a :: st) M Q = rn_o (hp_i sc M a j) (fun v => rn sc d 0 264 [l0, l1, l2, l3] (.int v :: st) M Q) := ru_iald rfl
set_option maxRecDepth 100000 in
theorem s0_264 {a : Nat} : rn sc d 0 264 [some (.ref a), l1, l2, l3] st M Q = rn sc d 0 265 [some (.ref a), l1, l2, l3] (.ref a :: st) M Q := ru_1 rfl rfl rfl rfl rfl
set_option maxRecDepth 100000 in
theorem s0_265 {x : Int32} : rn sc d 0 265 [l0, l1, l2, some (.int x)] st M Q = rn sc d 0 266 [l0, l1, l2, some (.int x)] (.int x :: st) M Q := ru_1 rfl rfl rfl rfl rfl
set_option maxRecDepth 100000 in
theorem s0_266 : rn sc d 0 266 [l0, l1, l2, l3] st M Q = rn sc d 0 267 [l0, l1, l2, l3] (.int 2 :: st) M Q := ru_k rfl rfl rfl rfl rfl (by decide)
set_option maxRecDepth 100000 in
theorem s0_267 {u v : Int32} : rn sc d 0 267 [l0, l1, l2, l3] (.int v :: .int u :: st) M Q = rn sc d 0 268 [l0, l1, l2, l3] (.int (u + v) :: st) M Q := ru_1 rfl rfl rfl rfl rfl
set_option maxRecDepth 100000 in
theorem s0_268 {a : Nat} {j : Int32} : rn sc d 0 268 [l0, l1, l2, l3] (.int j :: .ref a :: st) M Q = rn_o (hp_i sc M a j) (fun v => rn sc d 0 269 [l0, l1, l2, l3] (.int v :: st) M Q) := ru_iald rfl
set_option maxRecDepth 100000 in
theorem s0_269 {a : Nat} {x0 : Int32} {x1 : Int32} (hw : xm_wt st ≤ 8) (hq : hp_is M a 7) : rn sc (d + 1) 0 269 [l0, l1, l2, l3] (.int x1 :: .int x0 :: .ref a :: st) M Q = rn sc d 64 0 [some (.ref a), some (.int x0), some (.int x1)] [] M (fun r M' => rn sc (d + 1) 0 272 [l0, l1, l2, l3] (r.toList ++ st) M' Q) := ru_d (ru_iv (as := [.int x1, .int x0]) rfl rfl rfl (Nat.le_of_ble_eq_true rfl) hw rfl hq)
set_option maxRecDepth 100000 in
theorem s0_272 {u v : Int32} : rn sc d 0 272 [l0, l1, l2, l3] (.int v :: .int u :: st) M Q = if u = v then rn sc d 0 382 [l0, l1, l2, l3] st M Q else rn sc d 0 275 [l0, l1, l2, l3] st M Q := ru_ic pc_eq rfl (by decide)
set_option maxRecDepth 100000 in
theorem s0_275 : rn sc d 0 275 [l0, l1, l2, l3] st M Q = rn sc d 0 276 [l0, l1, l2, l3] (.int 0 :: st) M Q := ru_k rfl rfl rfl rfl rfl (by decide)
set_option maxRecDepth 100000 in
theorem s0_276 {v : Int32} (h : narrow .boolean (.int v) = .int v) : rn sc d 0 276 [l0, l1, l2, l3] [.int v] M Q = Q (some (.int v)) M := ru_rz rfl rfl h
set_option maxRecDepth 100000 in
theorem s0_277 {a : Nat} : rn sc d 0 277 [l0, some (.ref a), l2, l3] st M Q = rn sc d 0 278 [l0, some (.ref a), l2, l3] (.ref a :: st) M Q := ru_1 rfl rfl rfl rfl rfl
set_option maxRecDepth 100000 in
theorem s0_277N : rn sc d 0 277 [l0, some .null, l2, l3] st M Q = rn sc d 0 278 [l0, some .null, l2, l3] (.null :: st) M Q := ru_1 rfl rfl rfl rfl rfl
set_option maxRecDepth 100000 in
theorem s0_278 {a : Nat} : rn sc d 0 278 [some (.ref a), l1, l2, l3] st M Q = rn sc d 0 279 [some (.ref a), l1, l2, l3] (.ref a :: st) M Q := ru_1 rfl rfl rfl rfl rfl
set_option maxRecDepth 100000 in
theorem s0_279 {x : Int32} : rn sc d 0 279 [l0, l1, l2, some (.int x)] st M Q = rn sc d 0 280 [l0, l1, l2, some (.int x)] (.int x :: st) M Q := ru_1 rfl rfl rfl rfl rfl
set_option maxRecDepth 100000 in
theorem s0_280 : rn sc d 0 280 [l0, l1, l2, l3] st M Q = rn sc d 0 281 [l0, l1, l2, l3] (.int 1 :: st) M Q := ru_k rfl rfl rfl rfl rfl (by decide)
set_option maxRecDepth 100000 in
theorem s0_281 {u v : Int32} : rn sc d 0 281 [l0, l1, l2, l3] (.int v :: .int u :: st) M Q = rn sc d 0 282 [l0, l1, l2, l3] (.int (u + v) :: st) M Q := ru_1 rfl rfl rfl rfl rfl
set_option maxRecDepth 100000 in
theorem s0_282 {a : Nat} {j : Int32} : rn sc d 0 282 [l0, l1, l2, l3] (.int j :: .ref a :: st) M Q = rn_o (hp_i sc M a j) (fun v => rn sc d 0 283 [l0, l1, l2, l3] (.int v :: st) M Q) := ru_iald rfl
set_option maxRecDepth 100000 in
theorem s0_283 {a : Nat} : rn sc d 0 283 [some (.ref a), l1, l2, l3] st M Q = rn sc d 0 284 [some (.ref a), l1, l2, l3] (.ref a :: st) M Q := ru_1 rfl rfl rfl rfl rfl
set_option maxRecDepth 100000 in
theorem s0_284 {x : Int32} : rn sc d 0 284 [l0, l1, l2, some (.int x)] st M Q = rn sc d 0 285 [l0, l1, l2, some (.int x)] (.int x :: st) M Q := ru_1 rfl rfl rfl rfl rfl
set_option maxRecDepth 100000 in
theorem s0_285 : rn sc d 0 285 [l0, l1, l2, l3] st M Q = rn sc d 0 286 [l0, l1, l2, l3] (.int 2 :: st) M Q := ru_k rfl rfl rfl rfl rfl (by decide)
set_option maxRecDepth 100000 in
theorem s0_286 {u v : Int32} : rn sc d 0 286 [l0, l1, l2, l3] (.int v :: .int u :: st) M Q = rn sc d 0 287 [l0, l1, l2, l3] (.int (u + v) :: st) M Q := ru_1 rfl rfl rfl rfl rfl
set_option maxRecDepth 100000 in
theorem s0_287 {a : Nat} {j : Int32} : rn sc d 0 287 [l0, l1, l2, l3] (.int j :: .ref a :: st) M Q = rn_o (hp_i sc M a j) (fun v => rn sc d 0 288 [l0, l1, l2, l3] (.int v :: st) M Q) := ru_iald rfl
set_option maxRecDepth 100000 in
theorem s0_288 {a : Nat} : rn sc d 0 288 [some (.ref a), l1, l2, l3] st M Q = rn sc d 0 289 [some (.ref a), l1, l2, l3] (.ref a :: st) M Q := ru_1 rfl rfl rfl rfl rfl
set_option maxRecDepth 100000 in
theorem s0_289 {x : Int32} : rn sc d 0 289 [l0, l1, l2, some (.int x)] st M Q = rn sc d 0 290 [l0, l1, l2, some (.int x)] (.int x :: st) M Q := ru_1 rfl rfl rfl rfl rfl
set_option maxRecDepth 100000 in
theorem s0_290 : rn sc d 0 290 [l0, l1, l2, l3] st M Q = rn sc d 0 291 [l0, l1, l2, l3] (.int 3 :: st) M Q := ru_k rfl rfl rfl rfl rfl (by decide)
set_option maxRecDepth 100000 in
theorem s0_291 {u v : Int32} : rn sc d 0 291 [l0, l1, l2, l3] (.int v :: .int u :: st) M Q = rn sc d 0 292 [l0, l1, l2, l3] (.int (u + v) :: st) M Q := ru_1 rfl rfl rfl rfl rfl
set_option maxRecDepth 100000 in
theorem s0_292 {a : Nat} {j : Int32} : rn sc d 0 292 [l0, l1, l2, l3] (.int j :: .ref a :: st) M Q = rn_o (hp_i sc M a j) (fun v => rn sc d 0 293 [l0, l1, l2, l3] (.int v :: st) M Q) := ru_iald rfl
set_option maxRecDepth 100000 in
theorem s0_293 {x : Int32} : rn sc d 0 293 [l0, l1, l2, l3] (.int x :: st) M Q = if x = 0 then rn sc d 0 300 [l0, l1, l2, l3] st M Q else rn sc d 0 296 [l0, l1, l2, l3] st M Q := ru_if pc_eq rfl (by decide)
set_option maxRecDepth 100000 in
theorem s0_296 : rn sc d 0 296 [l0, l1, l2, l3] st M Q = rn sc d 0 297 [l0, l1, l2, l3] (.int 1 :: st) M Q := ru_k rfl rfl rfl rfl rfl (by decide)
set_option maxRecDepth 100000 in
theorem s0_297 : rn sc d 0 297 [l0, l1, l2, l3] st M Q = rn sc d 0 301 [l0, l1, l2, l3] st M Q := ru_go rfl (by decide)
set_option maxRecDepth 100000 in
theorem s0_300 : rn sc d 0 300 [l0, l1, l2, l3] st M Q = rn sc d 0 301 [l0, l1, l2, l3] (.int 0 :: st) M Q := ru_k rfl rfl rfl rfl rfl (by decide)
set_option maxRecDepth 100000 in
theorem s0_301 {a : Nat} {x0 : Int32} {x1 : Int32} {x2 : Int32} (hw : xm_wt st ≤ 8) (hq : hp_is M a 6) : rn sc (d + 1) 0 301 [l0, l1, l2, l3] (.int x2 :: .int x1 :: .int x0 :: .ref a :: st) M Q = rn sc d 25 0 [some (.ref a), some (.int x0), some (.int x1), some (.int x2), none, none, none] [] M (fun r M' => rn sc (d + 1) 0 304 [l0, l1, l2, l3] (r.toList ++ st) M' Q) := ru_d (ru_iv (as := [.int x2, .int x1, .int x0]) rfl rfl rfl (Nat.le_of_ble_eq_true rfl) hw rfl hq)
set_option maxRecDepth 100000 in
theorem s0_304 {a : Nat} : rn sc d 0 304 [l0, l1, some (.ref a), l3] st M Q = rn sc d 0 305 [l0, l1, some (.ref a), l3] (.ref a :: st) M Q := ru_1 rfl rfl rfl rfl rfl
set_option maxRecDepth 100000 in
theorem s0_304N : rn sc d 0 304 [l0, l1, some .null, l3] st M Q = rn sc d 0 305 [l0, l1, some .null, l3] (.null :: st) M Q := ru_1 rfl rfl rfl rfl rfl
set_option maxRecDepth 100000 in
theorem s0_305 {a : Nat} : rn sc d 0 305 [some (.ref a), l1, l2, l3] st M Q = rn sc d 0 306 [some (.ref a), l1, l2, l3] (.ref a :: st) M Q := ru_1 rfl rfl rfl rfl rfl
set_option maxRecDepth 100000 in
theorem s0_306 {x : Int32} : rn sc d 0 306 [l0, l1, l2, some (.int x)] st M Q = rn sc d 0 307 [l0, l1, l2, some (.int x)] (.int x :: st) M Q := ru_1 rfl rfl rfl rfl rfl
set_option maxRecDepth 100000 in
theorem s0_307 : rn sc d 0 307 [l0, l1, l2, l3] st M Q = rn sc d 0 308 [l0, l1, l2, l3] (.int 1 :: st) M Q := ru_k rfl rfl rfl rfl rfl (by decide)
set_option maxRecDepth 100000 in
theorem s0_308 {u v : Int32} : rn sc d 0 308 [l0, l1, l2, l3] (.int v :: .int u :: st) M Q = rn sc d 0 309 [l0, l1, l2, l3] (.int (u + v) :: st) M Q := ru_1 rfl rfl rfl rfl rfl
set_option maxRecDepth 100000 in
theorem s0_309 {a : Nat} {j : Int32} : rn sc d 0 309 [l0, l1, l2, l3] (.int j :: .ref a :: st) M Q = rn_o (hp_i sc M a j) (fun v => rn sc d 0 310 [l0, l1, l2, l3] (.int v :: st) M Q) := ru_iald rfl
set_option maxRecDepth 100000 in
theorem s0_310 {a : Nat} : rn sc d 0 310 [some (.ref a), l1, l2, l3] st M Q = rn sc d 0 311 [some (.ref a), l1, l2, l3] (.ref a :: st) M Q := ru_1 rfl rfl rfl rfl rfl
set_option maxRecDepth 100000 in
theorem s0_311 {x : Int32} : rn sc d 0 311 [l0, l1, l2, some (.int x)] st M Q = rn sc d 0 312 [l0, l1, l2, some (.int x)] (.int x :: st) M Q := ru_1 rfl rfl rfl rfl rfl
set_option maxRecDepth 100000 in
theorem s0_312 : rn sc d 0 312 [l0, l1, l2, l3] st M Q = rn sc d 0 313 [l0, l1, l2, l3] (.int 2 :: st) M Q := ru_k rfl rfl rfl rfl rfl (by decide)
set_option maxRecDepth 100000 in
theorem s0_313 {u v : Int32} : rn sc d 0 313 [l0, l1, l2, l3] (.int v :: .int u :: st) M Q = rn sc d 0 314 [l0, l1, l2, l3] (.int (u + v) :: st) M Q := ru_1 rfl rfl rfl rfl rfl
set_option maxRecDepth 100000 in
theorem s0_314 {a : Nat} {j : Int32} : rn sc d 0 314 [l0, l1, l2, l3] (.int j :: .ref a :: st) M Q = rn_o (hp_i sc M a j) (fun v => rn sc d 0 315 [l0, l1, l2, l3] (.int v :: st) M Q) := ru_iald rfl
set_option maxRecDepth 100000 in
theorem s0_315 {a : Nat} : rn sc d 0 315 [some (.ref a), l1, l2, l3] st M Q = rn sc d 0 316 [some (.ref a), l1, l2, l3] (.ref a :: st) M Q := ru_1 rfl rfl rfl rfl rfl
set_option maxRecDepth 100000 in
theorem s0_316 {x : Int32} : rn sc d 0 316 [l0, l1, l2, some (.int x)] st M Q = rn sc d 0 317 [l0, l1, l2, some (.int x)] (.int x :: st) M Q := ru_1 rfl rfl rfl rfl rfl
set_option maxRecDepth 100000 in
theorem s0_317 : rn sc d 0 317 [l0, l1, l2, l3] st M Q = rn sc d 0 318 [l0, l1, l2, l3] (.int 3 :: st) M Q := ru_k rfl rfl rfl rfl rfl (by decide)
set_option maxRecDepth 100000 in
theorem s0_318 {u v : Int32} : rn sc d 0 318 [l0, l1, l2, l3] (.int v :: .int u :: st) M Q = rn sc d 0 319 [l0, l1, l2, l3] (.int (u + v) :: st) M Q := ru_1 rfl rfl rfl rfl rfl
set_option maxRecDepth 100000 in
theorem s0_319 {a : Nat} {j : Int32} : rn sc d 0 319 [l0, l1, l2, l3] (.int j :: .ref a :: st) M Q = rn_o (hp_i sc M a j) (fun v => rn sc d 0 320 [l0, l1, l2, l3] (.int v :: st) M Q) := ru_iald rfl
set_option maxRecDepth 100000 in
theorem s0_320 {x : Int32} : rn sc d 0 320 [l0, l1, l2, l3] (.int x :: st) M Q = if x = 0 then rn sc d 0 327 [l0, l1, l2, l3] st M Q else rn sc d 0 323 [l0, l1, l2, l3] st M Q := ru_if pc_eq rfl (by decide)
set_option maxRecDepth 100000 in
theorem s0_323 : rn sc d 0 323 [l0, l1, l2, l3] st M Q = rn sc d 0 324 [l0, l1, l2, l3] (.int 1 :: st) M Q := ru_k rfl rfl rfl rfl rfl (by decide)
set_option maxRecDepth 100000 in
theorem s0_324 : rn sc d 0 324 [l0, l1, l2, l3] st M Q = rn sc d 0 328 [l0, l1, l2, l3] st M Q := ru_go rfl (by decide)
set_option maxRecDepth 100000 in
theorem s0_327 : rn sc d 0 327 [l0, l1, l2, l3] st M Q = rn sc d 0 328 [l0, l1, l2, l3] (.int 0 :: st) M Q := ru_k rfl rfl rfl rfl rfl (by decide)
set_option maxRecDepth 100000 in
theorem s0_328 {a : Nat} {x0 : Int32} {x1 : Int32} {x2 : Int32} (hw : xm_wt st ≤ 8) (hq : hp_is M a 7) : rn sc (d + 1) 0 328 [l0, l1, l2, l3] (.int x2 :: .int x1 :: .int x0 :: .ref a :: st) M Q = rn sc d 65 0 [some (.ref a), some (.int x0), some (.int x1), some (.int x2), none, none, none] [] M (fun r M' => rn sc (d + 1) 0 331 [l0, l1, l2, l3] (r.toList ++ st) M' Q) := ru_d (ru_iv (as := [.int x2, .int x1, .int x0]) rfl rfl rfl (Nat.le_of_ble_eq_true rfl) hw rfl hq)
set_option maxRecDepth 100000 in
theorem s0_331 {u v : Int32} : rn sc d 0 331 [l0, l1, l2, l3] (.int v :: .int u :: st) M Q = if u = v then rn sc d 0 382 [l0, l1, l2, l3] st M Q else rn sc d 0 334 [l0, l1, l2, l3] st M Q := ru_ic pc_eq rfl (by decide)
set_option maxRecDepth 100000 in
theorem s0_334 : rn sc d 0 334 [l0, l1, l2, l3] st M Q = rn sc d 0 335 [l0, l1, l2, l3] (.int 0 :: st) M Q := ru_k rfl rfl rfl rfl rfl (by decide)
set_option maxRecDepth 100000 in
theorem s0_335 {v : Int32} (h : narrow .boolean (.int v) = .int v) : rn sc d 0 335 [l0, l1, l2, l3] [.int v] M Q = Q (some (.int v)) M := ru_rz rfl rfl h
set_option maxRecDepth 100000 in
theorem s0_336 {a : Nat} : rn sc d 0 336 [l0, some (.ref a), l2, l3] st M Q = rn sc d 0 337 [l0, some (.ref a), l2, l3] (.ref a :: st) M Q := ru_1 rfl rfl rfl rfl rfl
set_option maxRecDepth 100000 in
theorem s0_336N : rn sc d 0 336 [l0, some .null, l2, l3] st M Q = rn sc d 0 337 [l0, some .null, l2, l3] (.null :: st) M Q := ru_1 rfl rfl rfl rfl rfl
set_option maxRecDepth 100000 in
theorem s0_337 {a : Nat} : rn sc d 0 337 [some (.ref a), l1, l2, l3] st M Q = rn sc d 0 338 [some (.ref a), l1, l2, l3] (.ref a :: st) M Q := ru_1 rfl rfl rfl rfl rfl
set_option maxRecDepth 100000 in
theorem s0_338 {x : Int32} : rn sc d 0 338 [l0, l1, l2, some (.int x)] st M Q = rn sc d 0 339 [l0, l1, l2, some (.int x)] (.int x :: st) M Q := ru_1 rfl rfl rfl rfl rfl
set_option maxRecDepth 100000 in
theorem s0_339 : rn sc d 0 339 [l0, l1, l2, l3] st M Q = rn sc d 0 340 [l0, l1, l2, l3] (.int 1 :: st) M Q := ru_k rfl rfl rfl rfl rfl (by decide)
set_option maxRecDepth 100000 in
theorem s0_340 {u v : Int32} : rn sc d 0 340 [l0, l1, l2, l3] (.int v :: .int u :: st) M Q = rn sc d 0 341 [l0, l1, l2, l3] (.int (u + v) :: st) M Q := ru_1 rfl rfl rfl rfl rfl
set_option maxRecDepth 100000 in
theorem s0_341 {a : Nat} {j : Int32} : rn sc d 0 341 [l0, l1, l2, l3] (.int j :: .ref a :: st) M Q = rn_o (hp_i sc M a j) (fun v => rn sc d 0 342 [l0, l1, l2, l3] (.int v :: st) M Q) := ru_iald rfl
set_option maxRecDepth 100000 in
theorem s0_342 {a : Nat} {x0 : Int32} (hw : xm_wt st ≤ 8) (hq : hp_is M a 6) : rn sc (d + 1) 0 342 [l0, l1, l2, l3] (.int x0 :: .ref a :: st) M Q = rn sc d 51 0 [some (.ref a), some (.int x0)] [] M (fun r M' => rn sc (d + 1) 0 345 [l0, l1, l2, l3] (r.toList ++ st) M' Q) := ru_d (ru_iv (as := [.int x0]) rfl rfl rfl (Nat.le_of_ble_eq_true rfl) hw rfl hq)
set_option maxRecDepth 100000 in
theorem s0_345 {a : Nat} : rn sc d 0 345 [l0, l1, some (.ref a), l3] st M Q = rn sc d 0 346 [l0, l1, some (.ref a), l3] (.ref a :: st) M Q := ru_1 rfl rfl rfl rfl rfl
set_option maxRecDepth 100000 in
theorem s0_345N : rn sc d 0 345 [l0, l1, some .null, l3] st M Q = rn sc d 0 346 [l0, l1, some .null, l3] (.null :: st) M Q := ru_1 rfl rfl rfl rfl rfl
set_option maxRecDepth 100000 in
theorem s0_346 {a : Nat} : rn sc d 0 346 [some (.ref a), l1, l2, l3] st M Q = rn sc d 0 347 [some (.ref a), l1, l2, l3] (.ref a :: st) M Q := ru_1 rfl rfl rfl rfl rfl
set_option maxRecDepth 100000 in
theorem s0_347 {x : Int32} : rn sc d 0 347 [l0, l1, l2, some (.int x)] st M Q = rn sc d 0 348 [l0, l1, l2, some (.int x)] (.int x :: st) M Q := ru_1 rfl rfl rfl rfl rfl
set_option maxRecDepth 100000 in
theorem s0_348 : rn sc d 0 348 [l0, l1, l2, l3] st M Q = rn sc d 0 349 [l0, l1, l2, l3] (.int 1 :: st) M Q := ru_k rfl rfl rfl rfl rfl (by decide)
set_option maxRecDepth 100000 in
theorem s0_349 {u v : Int32} : rn sc d 0 349 [l0, l1, l2, l3] (.int v :: .int u :: st) M Q = rn sc d 0 350 [l0, l1, l2, l3] (.int (u + v) :: st) M Q := ru_1 rfl rfl rfl rfl rfl
set_option maxRecDepth 100000 in
theorem s0_350 {a : Nat} {j : Int32} : rn sc d 0 350 [l0, l1, l2, l3] (.int j :: .ref a :: st) M Q = rn_o (hp_i sc M a j) (fun v => rn sc d 0 351 [l0, l1, l2, l3] (.int v :: st) M Q) := ru_iald rfl
set_option maxRecDepth 100000 in
theorem s0_351 {a : Nat} {x0 : Int32} (hw : xm_wt st ≤ 8) (hq : hp_is M a 7) : rn sc (d + 1) 0 351 [l0, l1, l2, l3] (.int x0 :: .ref a :: st) M Q = rn sc d 82 0 [some (.ref a), some (.int x0)] [] M (fun r M' => rn sc (d + 1) 0 354 [l0, l1, l2, l3] (r.toList ++ st) M' Q) := ru_d (ru_iv (as := [.int x0]) rfl rfl rfl (Nat.le_of_ble_eq_true rfl) hw rfl hq)
set_option maxRecDepth 100000 in
theorem s0_354 {u v : Int32} : rn sc d 0 354 [l0, l1, l2, l3] (.int v :: .int u :: st) M Q = if u = v then rn sc d 0 382 [l0, l1, l2, l3] st M Q else rn sc d 0 357 [l0, l1, l2, l3] st M Q := ru_ic pc_eq rfl (by decide)
set_option maxRecDepth 100000 in
theorem s0_357 : rn sc d 0 357 [l0, l1, l2, l3] st M Q = rn sc d 0 358 [l0, l1, l2, l3] (.int 0 :: st) M Q := ru_k rfl rfl rfl rfl rfl (by decide)
set_option maxRecDepth 100000 in
theorem s0_358 {v : Int32} (h : narrow .boolean (.int v) = .int v) : rn sc d 0 358 [l0, l1, l2, l3] [.int v] M Q = Q (some (.int v)) M := ru_rz rfl rfl h
set_option maxRecDepth 100000 in
theorem s0_359 {a : Nat} : rn sc d 0 359 [l0, some (.ref a), l2, l3] st M Q = rn sc d 0 360 [l0, some (.ref a), l2, l3] (.ref a :: st) M Q := ru_1 rfl rfl rfl rfl rfl
set_option maxRecDepth 100000 in
theorem s0_359N : rn sc d 0 359 [l0, some .null, l2, l3] st M Q = rn sc d 0 360 [l0, some .null, l2, l3] (.null :: st) M Q := ru_1 rfl rfl rfl rfl rfl
set_option maxRecDepth 100000 in
theorem s0_360 {a : Nat} : rn sc d 0 360 [some (.ref a), l1, l2, l3] st M Q = rn sc d 0 361 [some (.ref a), l1, l2, l3] (.ref a :: st) M Q := ru_1 rfl rfl rfl rfl rfl
set_option maxRecDepth 100000 in
theorem s0_361 {x : Int32} : rn sc d 0 361 [l0, l1, l2, some (.int x)] st M Q = rn sc d 0 362 [l0, l1, l2, some (.int x)] (.int x :: st) M Q := ru_1 rfl rfl rfl rfl rfl
set_option maxRecDepth 100000 in
theorem s0_362 : rn sc d 0 362 [l0, l1, l2, l3] st M Q = rn sc d 0 363 [l0, l1, l2, l3] (.int 1 :: st) M Q := ru_k rfl rfl rfl rfl rfl (by decide)
set_option maxRecDepth 100000 in
theorem s0_363 {u v : Int32} : rn sc d 0 363 [l0, l1, l2, l3] (.int v :: .int u :: st) M Q = rn sc d 0 364 [l0, l1, l2, l3] (.int (u + v) :: st) M Q := ru_1 rfl rfl rfl rfl rfl
set_option maxRecDepth 100000 in
theorem s0_364 {a : Nat} {j : Int32} : rn sc d 0 364 [l0, l1, l2, l3] (.int j :: .ref a :: st) M Q = rn_o (hp_i sc M a j) (fun v => rn sc d 0 365 [l0, l1, l2, l3] (.int v :: st) M Q) := ru_iald rfl
set_option maxRecDepth 100000 in
theorem s0_365 {a : Nat} {x0 : Int32} (hw : xm_wt st ≤ 8) (hq : hp_is M a 6) : rn sc (d + 1) 0 365 [l0, l1, l2, l3] (.int x0 :: .ref a :: st) M Q = rn sc d 52 0 [some (.ref a), some (.int x0), none] [] M (fun r M' => rn sc (d + 1) 0 368 [l0, l1, l2, l3] (r.toList ++ st) M' Q) := ru_d (ru_iv (as := [.int x0]) rfl rfl rfl (Nat.le_of_ble_eq_true rfl) hw rfl hq)
set_option maxRecDepth 100000 in
theorem s0_368 {a : Nat} : rn sc d 0 368 [l0, l1, some (.ref a), l3] st M Q = rn sc d 0 369 [l0, l1, some (.ref a), l3] (.ref a :: st) M Q := ru_1 rfl rfl rfl rfl rfl
set_option maxRecDepth 100000 in
theorem s0_368N : rn sc d 0 368 [l0, l1, some .null, l3] st M Q = rn sc d 0 369 [l0, l1, some .null, l3] (.null :: st) M Q := ru_1 rfl rfl rfl rfl rfl
set_option maxRecDepth 100000 in
theorem s0_369 {a : Nat} : rn sc d 0 369 [some (.ref a), l1, l2, l3] st M Q = rn sc d 0 370 [some (.ref a), l1, l2, l3] (.ref a :: st) M Q := ru_1 rfl rfl rfl rfl rfl
set_option maxRecDepth 100000 in
theorem s0_370 {x : Int32} : rn sc d 0 370 [l0, l1, l2, some (.int x)] st M Q = rn sc d 0 371 [l0, l1, l2, some (.int x)] (.int x :: st) M Q := ru_1 rfl rfl rfl rfl rfl
set_option maxRecDepth 100000 in
theorem s0_371 : rn sc d 0 371 [l0, l1, l2, l3] st M Q = rn sc d 0 372 [l0, l1, l2, l3] (.int 1 :: st) M Q := ru_k rfl rfl rfl rfl rfl (by decide)
set_option maxRecDepth 100000 in
theorem s0_372 {u v : Int32} : rn sc d 0 372 [l0, l1, l2, l3] (.int v :: .int u :: st) M Q = rn sc d 0 373 [l0, l1, l2, l3] (.int (u + v) :: st) M Q := ru_1 rfl rfl rfl rfl rfl
set_option maxRecDepth 100000 in
theorem s0_373 {a : Nat} {j : Int32} : rn sc d 0 373 [l0, l1, l2, l3] (.int j :: .ref a :: st) M Q = rn_o (hp_i sc M a j) (fun v => rn sc d 0 374 [l0, l1, l2, l3] (.int v :: st) M Q) := ru_iald rfl
set_option maxRecDepth 100000 in
theorem s0_374 {a : Nat} {x0 : Int32} (hw : xm_wt st ≤ 8) (hq : hp_is M a 7) : rn sc (d + 1) 0 374 [l0, l1, l2, l3] (.int x0 :: .ref a :: st) M Q = rn sc d 83 0 [some (.ref a), some (.int x0), none, none] [] M (fun r M' => rn sc (d + 1) 0 377 [l0, l1, l2, l3] (r.toList ++ st) M' Q) := ru_d (ru_iv (as := [.int x0]) rfl rfl rfl (Nat.le_of_ble_eq_true rfl) hw rfl hq)
set_option maxRecDepth 100000 in
theorem s0_377 {u v : Int32} : rn sc d 0 377 [l0, l1, l2, l3] (.int v :: .int u :: st) M Q = if u = v then rn sc d 0 382 [l0, l1, l2, l3] st M Q else rn sc d 0 380 [l0, l1, l2, l3] st M Q := ru_ic pc_eq rfl (by decide)
set_option maxRecDepth 100000 in
theorem s0_380 : rn sc d 0 380 [l0, l1, l2, l3] st M Q = rn sc d 0 381 [l0, l1, l2, l3] (.int 0 :: st) M Q := ru_k rfl rfl rfl rfl rfl (by decide)
set_option maxRecDepth 100000 in
theorem s0_381 {v : Int32} (h : narrow .boolean (.int v) = .int v) : rn sc d 0 381 [l0, l1, l2, l3] [.int v] M Q = Q (some (.int v)) M := ru_rz rfl rfl h
set_option maxRecDepth 100000 in
theorem s0_382 {x : Int32} : rn sc d 0 382 [l0, l1, l2, some (.int x)] st M Q = rn sc d 0 385 [l0, l1, l2, some (.int (x + 4))] st M Q := ru_1 rfl rfl rfl rfl rfl
set_option maxRecDepth 100000 in
theorem s0_385 : rn sc d 0 385 [l0, l1, l2, l3] st M Q = rn sc d 0 18 [l0, l1, l2, l3] st M Q := ru_go rfl (by decide)
set_option maxRecDepth 100000 in
theorem s0_388 : rn sc d 0 388 [l0, l1, l2, l3] st M Q = rn sc d 0 389 [l0, l1, l2, l3] (.int 1 :: st) M Q := ru_k rfl rfl rfl rfl rfl (by decide)
set_option maxRecDepth 100000 in
theorem s0_389 {v : Int32} (h : narrow .boolean (.int v) = .int v) : rn sc d 0 389 [l0, l1, l2, l3] [.int v] M Q = Q (some (.int v)) M := ru_rz rfl rfl h
end
