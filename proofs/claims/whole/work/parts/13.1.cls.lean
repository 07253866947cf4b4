section
variable {sc : xm_Sc} {d : Nat} {st : List Value} {M : xm_M} {Q : Option Value → xm_M → Prop} {l0 l1 l2 l3 l4 l5 l6 l7 l8 : Option Value}
set_option maxRecDepth 100000 in
theorem s1_0 {a : Nat} : rn sc d 1 0 [some (.ref a)] st M Q = rn sc d 1 1 [some (.ref a)] (.ref a :: st) M Q := ru_1 rfl rfl rfl rfl rfl
set_option maxRecDepth 100000 in
theorem s1_1 {a : Nat} (hw : xm_wt st ≤ 8) : rn sc (d + 1) 1 1 [l0] (.ref a :: st) M Q = rn sc (d + 1) 1 4 [l0] st M Q := ru_oi1 rfl rfl rfl hw
set_option maxRecDepth 100000 in
theorem s1_4 {a : Nat} : rn sc d 1 4 [some (.ref a)] st M Q = rn sc d 1 5 [some (.ref a)] (.ref a :: st) M Q := ru_1 rfl rfl rfl rfl rfl
set_option maxRecDepth 100000 in
theorem s1_5 : rn sc d 1 5 [l0] st M Q = rn sc d 1 8 [l0] (.ref M.1 :: st) (xm_new M 2 (.inr (5, [.null, .int 0]))) Q := ru_nw (ci := 5) (N := 2) rfl rfl rfl rfl rfl
set_option maxRecDepth 100000 in
theorem s1_8 {a : Nat} : rn sc d 1 8 [l0] (.ref a :: st) M Q = rn sc d 1 9 [l0] (.ref a :: .ref a :: st) M Q := ru_1 rfl rfl rfl rfl rfl
set_option maxRecDepth 100000 in
theorem s1_8I {x : Int32} : rn sc d 1 8 [l0] (.int x :: st) M Q = rn sc d 1 9 [l0] (.int x :: .int x :: st) M Q := ru_1 rfl rfl rfl rfl rfl
set_option maxRecDepth 100000 in
theorem s1_9 {a : Nat}  (hw : xm_wt st ≤ 8) : rn sc (d + 1) 1 9 [l0] (.ref a :: st) M Q = rn sc d 2 0 [some (.ref a)] [] M (fun r M' => rn sc (d + 1) 1 12 [l0] (r.toList ++ st) M' Q) := ru_d (ru_is (as := []) rfl rfl rfl (Nat.le_of_ble_eq_true rfl) hw rfl)
set_option maxRecDepth 100000 in
theorem s1_12 {a : Nat} {v : Value} : rn sc d 1 12 [l0] (v :: .ref a :: st) M Q = rn_o (hp_pf M a 6 0 v) (fun M' => rn sc d 1 15 [l0] st M' Q) := ru_put rfl rfl rfl
set_option maxRecDepth 100000 in
theorem s1_15 {a : Nat} : rn sc d 1 15 [some (.ref a)] st M Q = rn sc d 1 16 [some (.ref a)] (.ref a :: st) M Q := ru_1 rfl rfl rfl rfl rfl
set_option maxRecDepth 100000 in
theorem s1_16 : rn sc d 1 16 [l0] st M Q = rn sc d 1 19 [l0] (.ref M.1 :: st) (xm_new M 3 (.inr (4, [.null, .null, .int 0]))) Q := ru_nw (ci := 4) (N := 3) rfl rfl rfl rfl rfl
set_option maxRecDepth 100000 in
theorem s1_19 {a : Nat} : rn sc d 1 19 [l0] (.ref a :: st) M Q = rn sc d 1 20 [l0] (.ref a :: .ref a :: st) M Q := ru_1 rfl rfl rfl rfl rfl
set_option maxRecDepth 100000 in
theorem s1_19I {x : Int32} : rn sc d 1 19 [l0] (.int x :: st) M Q = rn sc d 1 20 [l0] (.int x :: .int x :: st) M Q := ru_1 rfl rfl rfl rfl rfl
set_option maxRecDepth 100000 in
theorem s1_20 {a : Nat}  (hw : xm_wt st ≤ 8) : rn sc (d + 1) 1 20 [l0] (.ref a :: st) M Q = rn sc d 3 0 [some (.ref a), none] [] M (fun r M' => rn sc (d + 1) 1 23 [l0] (r.toList ++ st) M' Q) := ru_d (ru_is (as := []) rfl rfl rfl (Nat.le_of_ble_eq_true rfl) hw rfl)
set_option maxRecDepth 100000 in
theorem s1_23 {a : Nat} {v : Value} : rn sc d 1 23 [l0] (v :: .ref a :: st) M Q = rn_o (hp_pf M a 6 1 v) (fun M' => rn sc d 1 26 [l0] st M' Q) := ru_put rfl rfl rfl
set_option maxRecDepth 100000 in
theorem s1_26 {a : Nat} : rn sc d 1 26 [some (.ref a)] st M Q = rn sc d 1 27 [some (.ref a)] (.ref a :: st) M Q := ru_1 rfl rfl rfl rfl rfl
set_option maxRecDepth 100000 in
theorem s1_27 : rn sc d 1 27 [l0] st M Q = rn sc d 1 30 [l0] (.ref M.1 :: st) (xm_new M 11 (.inr (2, [.null, .null, .null, .null, .null, .int 0, .int 0, .int 0, .int 0, .null, .int 0]))) Q := ru_nw (ci := 2) (N := 11) rfl rfl rfl rfl rfl
set_option maxRecDepth 100000 in
theorem s1_30 {a : Nat} : rn sc d 1 30 [l0] (.ref a :: st) M Q = rn sc d 1 31 [l0] (.ref a :: .ref a :: st) M Q := ru_1 rfl rfl rfl rfl rfl
set_option maxRecDepth 100000 in
theorem s1_30I {x : Int32} : rn sc d 1 30 [l0] (.int x :: st) M Q = rn sc d 1 31 [l0] (.int x :: .int x :: st) M Q := ru_1 rfl rfl rfl rfl rfl
set_option maxRecDepth 100000 in
theorem s1_31 {a : Nat} : rn sc d 1 31 [some (.ref a)] st M Q = rn sc d 1 32 [some (.ref a)] (.ref a :: st) M Q := ru_1 rfl rfl rfl rfl rfl
set_option maxRecDepth 100000 in
theorem s1_32 {a : Nat} : rn sc d 1 32 [l0] (.ref a :: st) M Q = rn_o (hp_f M a 6 1) (fun v => rn sc d 1 35 [l0] (v :: st) M Q) := ru_get rfl rfl
set_option maxRecDepth 100000 in
theorem s1_35 {a : Nat} {b0 : Nat} (hw : xm_wt st ≤ 8) : rn sc (d + 1) 1 35 [l0] (.ref b0 :: .ref a :: st) M Q = rn sc d 5 0 [some (.ref a), some (.ref b0)] [] M (fun r M' => rn sc (d + 1) 1 38 [l0] (r.toList ++ st) M' Q) := ru_d (ru_is (as := [.ref b0]) rfl rfl rfl (Nat.le_of_ble_eq_true rfl) hw rfl)
set_option maxRecDepth 100000 in
theorem s1_38 {a : Nat} {v : Value} : rn sc d 1 38 [l0] (v :: .ref a :: st) M Q = rn_o (hp_pf M a 6 2 v) (fun M' => rn sc d 1 41 [l0] st M' Q) := ru_put rfl rfl rfl
set_option maxRecDepth 100000 in
theorem s1_41 {a : Nat} : rn sc d 1 41 [some (.ref a)] st M Q = rn sc d 1 42 [some (.ref a)] (.ref a :: st) M Q := ru_1 rfl rfl rfl rfl rfl
set_option maxRecDepth 100000 in
theorem s1_42 : rn sc d 1 42 [l0] st M Q = rn sc d 1 43 [l0] (.int (-1) :: st) M Q := ru_k rfl rfl rfl rfl rfl (by decide)
set_option maxRecDepth 100000 in
theorem s1_43 {a : Nat} {v : Value} : rn sc d 1 43 [l0] (v :: .ref a :: st) M Q = rn_o (hp_pf M a 6 3 v) (fun M' => rn sc d 1 46 [l0] st M' Q) := ru_put rfl rfl rfl
set_option maxRecDepth 100000 in
theorem s1_46 {a : Nat} : rn sc d 1 46 [some (.ref a)] st M Q = rn sc d 1 47 [some (.ref a)] (.ref a :: st) M Q := ru_1 rfl rfl rfl rfl rfl
set_option maxRecDepth 100000 in
theorem s1_47 : rn sc d 1 47 [l0] st M Q = rn sc d 1 48 [l0] (.int (-1) :: st) M Q := ru_k rfl rfl rfl rfl rfl (by decide)
set_option maxRecDepth 100000 in
theorem s1_48 {a : Nat} {v : Value} : rn sc d 1 48 [l0] (v :: .ref a :: st) M Q = rn_o (hp_pf M a 6 4 v) (fun M' => rn sc d 1 51 [l0] st M' Q) := ru_put rfl rfl rfl
set_option maxRecDepth 100000 in
theorem s1_51 {a : Nat} : rn sc d 1 51 [some (.ref a)] st M Q = rn sc d 1 52 [some (.ref a)] (.ref a :: st) M Q := ru_1 rfl rfl rfl rfl rfl
set_option maxRecDepth 100000 in
theorem s1_52 : rn sc d 1 52 [l0] st M Q = rn sc d 1 53 [l0] (.int (-1) :: st) M Q := ru_k rfl rfl rfl rfl rfl (by decide)
set_option maxRecDepth 100000 in
theorem s1_53 {a : Nat} {v : Value} : rn sc d 1 53 [l0] (v :: .ref a :: st) M Q = rn_o (hp_pf M a 6 5 v) (fun M' => rn sc d 1 56 [l0] st M' Q) := ru_put rfl rfl rfl
set_option maxRecDepth 100000 in
theorem s1_56 : rn sc d 1 56 [l0] [] M Q = Q none M := rn_ret rfl rfl rfl
set_option maxRecDepth 100000 in
theorem s2_0 {a : Nat} : rn sc d 2 0 [some (.ref a)] st M Q = rn sc d 2 1 [some (.ref a)] (.ref a :: st) M Q := ru_1 rfl rfl rfl rfl rfl
set_option maxRecDepth 100000 in
theorem s2_1 {a : Nat} (hw : xm_wt st ≤ 8) : rn sc (d + 1) 2 1 [l0] (.ref a :: st) M Q = rn sc (d + 1) 2 4 [l0] st M Q := ru_oi1 rfl rfl rfl hw
set_option maxRecDepth 100000 in
theorem s2_4 {a : Nat} : rn sc d 2 4 [some (.ref a)] st M Q = rn sc d 2 5 [some (.ref a)] (.ref a :: st) M Q := ru_1 rfl rfl rfl rfl rfl
set_option maxRecDepth 100000 in
theorem s2_5 : rn sc d 2 5 [l0] st M Q = rn sc d 2 7 [l0] (.int 64 :: st) M Q := ru_k rfl rfl rfl rfl rfl (by decide)
set_option maxRecDepth 100000 in
theorem s2_7 : rn sc d 2 7 [l0] (.int 64 :: st) M Q = rn sc d 2 9 [l0] (.ref M.1 :: st) (xm_new M 64 (.inl (0, 64, .inl (fun _ => 0)))) Q := ru_newi rfl (by decide)
set_option maxRecDepth 100000 in
theorem s2_9 {a : Nat} {v : Value} : rn sc d 2 9 [l0] (v :: .ref a :: st) M Q = rn_o (hp_pf M a 5 0 v) (fun M' => rn sc d 2 12 [l0] st M' Q) := ru_put rfl rfl rfl
set_option maxRecDepth 100000 in
theorem s2_12 {a : Nat} : rn sc d 2 12 [some (.ref a)] st M Q = rn sc d 2 13 [some (.ref a)] (.ref a :: st) M Q := ru_1 rfl rfl rfl rfl rfl
set_option maxRecDepth 100000 in
theorem s2_13 : rn sc d 2 13 [l0] st M Q = rn sc d 2 14 [l0] (.int 0 :: st) M Q := ru_k rfl rfl rfl rfl rfl (by decide)
set_option maxRecDepth 100000 in
theorem s2_14 {a : Nat} {v : Value} : rn sc d 2 14 [l0] (v :: .ref a :: st) M Q = rn_o (hp_pf M a 5 1 v) (fun M' => rn sc d 2 17 [l0] st M' Q) := ru_put rfl rfl rfl
set_option maxRecDepth 100000 in
theorem s2_17 : rn sc d 2 17 [l0] [] M Q = Q none M := rn_ret rfl rfl rfl
set_option maxRecDepth 100000 in
theorem s3_0 {a : Nat} : rn sc d 3 0 [some (.ref a), l1] st M Q = rn sc d 3 1 [some (.ref a), l1] (.ref a :: st) M Q := ru_1 rfl rfl rfl rfl rfl
set_option maxRecDepth 100000 in
theorem s3_1 {a : Nat} (hw : xm_wt st ≤ 8) : rn sc (d + 1) 3 1 [l0, l1] (.ref a :: st) M Q = rn sc (d + 1) 3 4 [l0, l1] st M Q := ru_oi1 rfl rfl rfl hw
set_option maxRecDepth 100000 in
theorem s3_4 {a : Nat} : rn sc d 3 4 [some (.ref a), l1] st M Q = rn sc d 3 5 [some (.ref a), l1] (.ref a :: st) M Q := ru_1 rfl rfl rfl rfl rfl
set_option maxRecDepth 100000 in
theorem s3_5 : rn sc d 3 5 [l0, l1] st M Q = rn sc d 3 7 [l0, l1] (.int 8 :: st) M Q := ru_k rfl rfl rfl rfl rfl (by decide)
set_option maxRecDepth 100000 in
theorem s3_7 : rn sc d 3 7 [l0, l1] (.int 8 :: st) M Q = rn sc d 3 10 [l0, l1] (.ref M.1 :: st) (xm_new M 8 (.inl (3, 8, .inr (.inr (.inr (.inr (fun _ => none))))))) Q := ru_newq rfl rfl (by decide)
set_option maxRecDepth 100000 in
theorem s3_10 {a : Nat} {v : Value} : rn sc d 3 10 [l0, l1] (v :: .ref a :: st) M Q = rn_o (hp_pf M a 4 0 v) (fun M' => rn sc d 3 13 [l0, l1] st M' Q) := ru_put rfl rfl rfl
set_option maxRecDepth 100000 in
theorem s3_13 {a : Nat} : rn sc d 3 13 [some (.ref a), l1] st M Q = rn sc d 3 14 [some (.ref a), l1] (.ref a :: st) M Q := ru_1 rfl rfl rfl rfl rfl
set_option maxRecDepth 100000 in
theorem s3_14 : rn sc d 3 14 [l0, l1] st M Q = rn sc d 3 16 [l0, l1] (.int 64 :: st) M Q := ru_k rfl rfl rfl rfl rfl (by decide)
set_option maxRecDepth 100000 in
theorem s3_16 : rn sc d 3 16 [l0, l1] (.int 64 :: st) M Q = rn sc d 3 19 [l0, l1] (.ref M.1 :: st) (xm_new M 64 (.inl (4, 64, .inr (.inr (.inr (.inr (fun _ => none))))))) Q := ru_newq rfl rfl (by decide)
set_option maxRecDepth 100000 in
theorem s3_19 {a : Nat} {v : Value} : rn sc d 3 19 [l0, l1] (v :: .ref a :: st) M Q = rn_o (hp_pf M a 4 1 v) (fun M' => rn sc d 3 22 [l0, l1] st M' Q) := ru_put rfl rfl rfl
set_option maxRecDepth 100000 in
theorem s3_22 {a : Nat} : rn sc d 3 22 [some (.ref a), l1] st M Q = rn sc d 3 23 [some (.ref a), l1] (.ref a :: st) M Q := ru_1 rfl rfl rfl rfl rfl
set_option maxRecDepth 100000 in
theorem s3_23 : rn sc d 3 23 [l0, l1] st M Q = rn sc d 3 24 [l0, l1] (.int 0 :: st) M Q := ru_k rfl rfl rfl rfl rfl (by decide)
set_option maxRecDepth 100000 in
theorem s3_24 {a : Nat} {v : Value} : rn sc d 3 24 [l0, l1] (v :: .ref a :: st) M Q = rn_o (hp_pf M a 4 2 v) (fun M' => rn sc d 3 27 [l0, l1] st M' Q) := ru_put rfl rfl rfl
set_option maxRecDepth 100000 in
theorem s3_27 : rn sc d 3 27 [l0, l1] st M Q = rn sc d 3 28 [l0, l1] (.int 0 :: st) M Q := ru_k rfl rfl rfl rfl rfl (by decide)
set_option maxRecDepth 100000 in
theorem s3_28 {x : Int32} : rn sc d 3 28 [l0, l1] (.int x :: st) M Q = rn sc d 3 29 [l0, some (.int x)] st M Q := ru_1 rfl rfl rfl rfl rfl
set_option maxRecDepth 100000 in
theorem s3_29 {x : Int32} : rn sc d 3 29 [l0, some (.int x)] st M Q = rn sc d 3 30 [l0, some (.int x)] (.int x :: st) M Q := ru_1 rfl rfl rfl rfl rfl
set_option maxRecDepth 100000 in
theorem s3_30 : rn sc d 3 30 [l0, l1] st M Q = rn sc d 3 32 [l0, l1] (.int 8 :: st) M Q := ru_k rfl rfl rfl rfl rfl (by decide)
set_option maxRecDepth 100000 in
theorem s3_32 {u v : Int32} : rn sc d 3 32 [l0, l1] (.int v :: .int u :: st) M Q = if v ≤ u then rn sc d 3 54 [l0, l1] st M Q else rn sc d 3 35 [l0, l1] st M Q := ru_ic pc_ge rfl (by decide)
set_option maxRecDepth 100000 in
theorem s3_35 {a : Nat} : rn sc d 3 35 [some (.ref a), l1] st M Q = rn sc d 3 36 [some (.ref a), l1] (.ref a :: st) M Q := ru_1 rfl rfl rfl rfl rfl
set_option maxRecDepth 100000 in
theorem s3_36 {a : Nat} : rn sc d 3 36 [l0, l1] (.ref a :: st) M Q = rn_o (hp_f M a 4 0) (fun v => rn sc d 3 39 [l0, l1] (v :: st) M Q) := ru_get rfl rfl
set_option maxRecDepth 100000 in
theorem s3_39 {x : Int32} : rn sc d 3 39 [l0, some (.int x)] st M Q = rn sc d 3 40 [l0, some (.int x)] (.int x :: st) M Q := ru_1 rfl rfl rfl rfl rfl
set_option maxRecDepth 100000 in
theorem s3_40 : rn sc d 3 40 [l0, l1] st M Q = rn sc d 3 43 [l0, l1] (.ref M.1 :: st) (xm_new M 2 (.inr (5, [.null, .int 0]))) Q := ru_nw (ci := 5) (N := 2) rfl rfl rfl rfl rfl
set_option maxRecDepth 100000 in
theorem s3_43 {a : Nat} : rn sc d 3 43 [l0, l1] (.ref a :: st) M Q = rn sc d 3 44 [l0, l1] (.ref a :: .ref a :: st) M Q := ru_1 rfl rfl rfl rfl rfl
set_option maxRecDepth 100000 in
theorem s3_43I {x : Int32} : rn sc d 3 43 [l0, l1] (.int x :: st) M Q = rn sc d 3 44 [l0, l1] (.int x :: .int x :: st) M Q := ru_1 rfl rfl rfl rfl rfl
set_option maxRecDepth 100000 in
theorem s3_44 {a : Nat}  (hw : xm_wt st ≤ 8) : rn sc (d + 1) 3 44 [l0, l1] (.ref a :: st) M Q = rn sc d 2 0 [some (.ref a)] [] M (fun r M' => rn sc (d + 1) 3 47 [l0, l1] (r.toList ++ st) M' Q) := ru_d (ru_is (as := []) rfl rfl rfl (Nat.le_of_ble_eq_true rfl) hw rfl)
set_option maxRecDepth 100000 in
theorem s3_47 {a v : Nat} {j : Int32} : rn sc d 3 47 [l0, l1] (.ref v :: .int j :: .ref a :: st) M Q = rn_o (hp_pq M a j v) (fun M' => rn sc d 3 48 [l0, l1] st M' Q) := ru_aast rfl
set_option maxRecDepth 100000 in
theorem s3_48 {x : Int32} : rn sc d 3 48 [l0, some (.int x)] st M Q = rn sc d 3 51 [l0, some (.int (x + 1))] st M Q := ru_1 rfl rfl rfl rfl rfl
set_option maxRecDepth 100000 in
theorem s3_51 : rn sc d 3 51 [l0, l1] st M Q = rn sc d 3 29 [l0, l1] st M Q := ru_go rfl (by decide)
set_option maxRecDepth 100000 in
theorem s3_54 : rn sc d 3 54 [l0, l1] st M Q = rn sc d 3 55 [l0, l1] (.int 0 :: st) M Q := ru_k rfl rfl rfl rfl rfl (by decide)
set_option maxRecDepth 100000 in
theorem s3_55 {x : Int32} : rn sc d 3 55 [l0, l1] (.int x :: st) M Q = rn sc d 3 56 [l0, some (.int x)] st M Q := ru_1 rfl rfl rfl rfl rfl
set_option maxRecDepth 100000 in
theorem s3_56 {x : Int32} : rn sc d 3 56 [l0, some (.int x)] st M Q = rn sc d 3 57 [l0, some (.int x)] (.int x :: st) M Q := ru_1 rfl rfl rfl rfl rfl
set_option maxRecDepth 100000 in
theorem s3_57 : rn sc d 3 57 [l0, l1] st M Q = rn sc d 3 59 [l0, l1] (.int 64 :: st) M Q := ru_k rfl rfl rfl rfl rfl (by decide)
set_option maxRecDepth 100000 in
theorem s3_59 {u v : Int32} : rn sc d 3 59 [l0, l1] (.int v :: .int u :: st) M Q = if v ≤ u then rn sc d 3 81 [l0, l1] st M Q else rn sc d 3 62 [l0, l1] st M Q := ru_ic pc_ge rfl (by decide)
set_option maxRecDepth 100000 in
theorem s3_62 {a : Nat} : rn sc d 3 62 [some (.ref a), l1] st M Q = rn sc d 3 63 [some (.ref a), l1] (.ref a :: st) M Q := ru_1 rfl rfl rfl rfl rfl
set_option maxRecDepth 100000 in
theorem s3_63 {a : Nat} : rn sc d 3 63 [l0, l1] (.ref a :: st) M Q = rn_o (hp_f M a 4 1) (fun v => rn sc d 3 66 [l0, l1] (v :: st) M Q) := ru_get rfl rfl
set_option maxRecDepth 100000 in
theorem s3_66 {x : Int32} : rn sc d 3 66 [l0, some (.int x)] st M Q = rn sc d 3 67 [l0, some (.int x)] (.int x :: st) M Q := ru_1 rfl rfl rfl rfl rfl
set_option maxRecDepth 100000 in
theorem s3_67 : rn sc d 3 67 [l0, l1] st M Q = rn sc d 3 70 [l0, l1] (.ref M.1 :: st) (xm_new M 4 (.inr (0, [.null, .int 0, .int 0, .int 0]))) Q := ru_nw (ci := 0) (N := 4) rfl rfl rfl rfl rfl
set_option maxRecDepth 100000 in
theorem s3_70 {a : Nat} : rn sc d 3 70 [l0, l1] (.ref a :: st) M Q = rn sc d 3 71 [l0, l1] (.ref a :: .ref a :: st) M Q := ru_1 rfl rfl rfl rfl rfl
set_option maxRecDepth 100000 in
theorem s3_70I {x : Int32} : rn sc d 3 70 [l0, l1] (.int x :: st) M Q = rn sc d 3 71 [l0, l1] (.int x :: .int x :: st) M Q := ru_1 rfl rfl rfl rfl rfl
set_option maxRecDepth 100000 in
theorem s3_71 {a : Nat}  (hw : xm_wt st ≤ 8) : rn sc (d + 1) 3 71 [l0, l1] (.ref a :: st) M Q = rn sc d 4 0 [some (.ref a)] [] M (fun r M' => rn sc (d + 1) 3 74 [l0, l1] (r.toList ++ st) M' Q) := ru_d (ru_is (as := []) rfl rfl rfl (Nat.le_of_ble_eq_true rfl) hw rfl)
set_option maxRecDepth 100000 in
theorem s3_74 {a v : Nat} {j : Int32} : rn sc d 3 74 [l0, l1] (.ref v :: .int j :: .ref a :: st) M Q = rn_o (hp_pq M a j v) (fun M' => rn sc d 3 75 [l0, l1] st M' Q) := ru_aast rfl
set_option maxRecDepth 100000 in
theorem s3_75 {x : Int32} : rn sc d 3 75 [l0, some (.int x)] st M Q = rn sc d 3 78 [l0, some (.int (x + 1))] st M Q := ru_1 rfl rfl rfl rfl rfl
set_option maxRecDepth 100000 in
theorem s3_78 : rn sc d 3 78 [l0, l1] st M Q = rn sc d 3 56 [l0, l1] st M Q := ru_go rfl (by decide)
set_option maxRecDepth 100000 in
theorem s3_81 : rn sc d 3 81 [l0, l1] [] M Q = Q none M := rn_ret rfl rfl rfl
set_option maxRecDepth 100000 in
theorem s4_0 {a : Nat} : rn sc d 4 0 [some (.ref a)] st M Q = rn sc d 4 1 [some (.ref a)] (.ref a :: st) M Q := ru_1 rfl rfl rfl rfl rfl
set_option maxRecDepth 100000 in
theorem s4_1 {a : Nat} (hw : xm_wt st ≤ 8) : rn sc (d + 1) 4 1 [l0] (.ref a :: st) M Q = rn sc (d + 1) 4 4 [l0] st M Q := ru_oi1 rfl rfl rfl hw
set_option maxRecDepth 100000 in
theorem s4_4 {a : Nat} : rn sc d 4 4 [some (.ref a)] st M Q = rn sc d 4 5 [some (.ref a)] (.ref a :: st) M Q := ru_1 rfl rfl rfl rfl rfl
set_option maxRecDepth 100000 in
theorem s4_5 : rn sc d 4 5 [l0] st M Q = rn sc d 4 8 [l0] (.ref M.1 :: st) (xm_new M 2 (.inr (5, [.null, .int 0]))) Q := ru_nw (ci := 5) (N := 2) rfl rfl rfl rfl rfl
set_option maxRecDepth 100000 in
theorem s4_8 {a : Nat} : rn sc d 4 8 [l0] (.ref a :: st) M Q = rn sc d 4 9 [l0] (.ref a :: .ref a :: st) M Q := ru_1 rfl rfl rfl rfl rfl
set_option maxRecDepth 100000 in
theorem s4_8I {x : Int32} : rn sc d 4 8 [l0] (.int x :: st) M Q = rn sc d 4 9 [l0] (.int x :: .int x :: st) M Q := ru_1 rfl rfl rfl rfl rfl
set_option maxRecDepth 100000 in
theorem s4_9 {a : Nat}  (hw : xm_wt st ≤ 8) : rn sc (d + 1) 4 9 [l0] (.ref a :: st) M Q = rn sc d 2 0 [some (.ref a)] [] M (fun r M' => rn sc (d + 1) 4 12 [l0] (r.toList ++ st) M' Q) := ru_d (ru_is (as := []) rfl rfl rfl (Nat.le_of_ble_eq_true rfl) hw rfl)
set_option maxRecDepth 100000 in
theorem s4_12 {a : Nat} {v : Value} : rn sc d 4 12 [l0] (v :: .ref a :: st) M Q = rn_o (hp_pf M a 0 0 v) (fun M' => rn sc d 4 15 [l0] st M' Q) := ru_put rfl rfl rfl
set_option maxRecDepth 100000 in
theorem s4_15 {a : Nat} : rn sc d 4 15 [some (.ref a)] st M Q = rn sc d 4 16 [some (.ref a)] (.ref a :: st) M Q := ru_1 rfl rfl rfl rfl rfl
set_option maxRecDepth 100000 in
theorem s4_16 : rn sc d 4 16 [l0] st M Q = rn sc d 4 17 [l0] (.int 0 :: st) M Q := ru_k rfl rfl rfl rfl rfl (by decide)
set_option maxRecDepth 100000 in
theorem s4_17 {a : Nat} {v : Value} : rn sc d 4 17 [l0] (v :: .ref a :: st) M Q = rn_o (hp_pf M a 0 1 v) (fun M' => rn sc d 4 20 [l0] st M' Q) := ru_put rfl rfl rfl
set_option maxRecDepth 100000 in
theorem s4_20 {a : Nat} : rn sc d 4 20 [some (.ref a)] st M Q = rn sc d 4 21 [some (.ref a)] (.ref a :: st) M Q := ru_1 rfl rfl rfl rfl rfl
set_option maxRecDepth 100000 in
theorem s4_21 : rn sc d 4 21 [l0] st M Q = rn sc d 4 22 [l0] (.int 0 :: st) M Q := ru_k rfl rfl rfl rfl rfl (by decide)
set_option maxRecDepth 100000 in
theorem s4_22 {a : Nat} {v : Value} : rn sc d 4 22 [l0] (v :: .ref a :: st) M Q = rn_o (hp_pf M a 0 2 v) (fun M' => rn sc d 4 25 [l0] st M' Q) := ru_put rfl rfl rfl
set_option maxRecDepth 100000 in
theorem s4_25 {a : Nat} : rn sc d 4 25 [some (.ref a)] st M Q = rn sc d 4 26 [some (.ref a)] (.ref a :: st) M Q := ru_1 rfl rfl rfl rfl rfl
set_option maxRecDepth 100000 in
theorem s4_26 : rn sc d 4 26 [l0] st M Q = rn sc d 4 27 [l0] (.int 0 :: st) M Q := ru_k rfl rfl rfl rfl rfl (by decide)
set_option maxRecDepth 100000 in
theorem s4_27 {a : Nat} {v : Value} : rn sc d 4 27 [l0] (v :: .ref a :: st) M Q = rn_o (hp_pf M a 0 3 v) (fun M' => rn sc d 4 30 [l0] st M' Q) := ru_put rfl rfl rfl
set_option maxRecDepth 100000 in
theorem s4_30 : rn sc d 4 30 [l0] [] M Q = Q none M := rn_ret rfl rfl rfl
set_option maxRecDepth 100000 in
theorem s5_0 {a : Nat} : rn sc d 5 0 [some (.ref a), l1] st M Q = rn sc d 5 1 [some (.ref a), l1] (.ref a :: st) M Q := ru_1 rfl rfl rfl rfl rfl
set_option maxRecDepth 100000 in
theorem s5_1 {a : Nat} (hw : xm_wt st ≤ 8) : rn sc (d + 1) 5 1 [l0, l1] (.ref a :: st) M Q = rn sc (d + 1) 5 4 [l0, l1] st M Q := ru_oi1 rfl rfl rfl hw
set_option maxRecDepth 100000 in
theorem s5_4 {a : Nat} : rn sc d 5 4 [some (.ref a), l1] st M Q = rn sc d 5 5 [some (.ref a), l1] (.ref a :: st) M Q := ru_1 rfl rfl rfl rfl rfl
set_option maxRecDepth 100000 in
theorem s5_5 : rn sc d 5 5 [l0, l1] st M Q = rn sc d 5 8 [l0, l1] (.ref M.1 :: st) (xm_new M 2 (.inr (5, [.null, .int 0]))) Q := ru_nw (ci := 5) (N := 2) rfl rfl rfl rfl rfl
set_option maxRecDepth 100000 in
theorem s5_8 {a : Nat} : rn sc d 5 8 [l0, l1] (.ref a :: st) M Q = rn sc d 5 9 [l0, l1] (.ref a :: .ref a :: st) M Q := ru_1 rfl rfl rfl rfl rfl
set_option maxRecDepth 100000 in
theorem s5_8I {x : Int32} : rn sc d 5 8 [l0, l1] (.int x :: st) M Q = rn sc d 5 9 [l0, l1] (.int x :: .int x :: st) M Q := ru_1 rfl rfl rfl rfl rfl
set_option maxRecDepth 100000 in
theorem s5_9 {a : Nat}  (hw : xm_wt st ≤ 8) : rn sc (d + 1) 5 9 [l0, l1] (.ref a :: st) M Q = rn sc d 2 0 [some (.ref a)] [] M (fun r M' => rn sc (d + 1) 5 12 [l0, l1] (r.toList ++ st) M' Q) := ru_d (ru_is (as := []) rfl rfl rfl (Nat.le_of_ble_eq_true rfl) hw rfl)
set_option maxRecDepth 100000 in
theorem s5_12 {a : Nat} {v : Value} : rn sc d 5 12 [l0, l1] (v :: .ref a :: st) M Q = rn_o (hp_pf M a 2 1 v) (fun M' => rn sc d 5 15 [l0, l1] st M' Q) := ru_put rfl rfl rfl
set_option maxRecDepth 100000 in
theorem s5_15 {a : Nat} : rn sc d 5 15 [some (.ref a), l1] st M Q = rn sc d 5 16 [some (.ref a), l1] (.ref a :: st) M Q := ru_1 rfl rfl rfl rfl rfl
set_option maxRecDepth 100000 in
theorem s5_16 : rn sc d 5 16 [l0, l1] st M Q = rn sc d 5 19 [l0, l1] (.ref M.1 :: st) (xm_new M 6 (.inr (3, [.null, .null, .null, .null, .null, .int 0]))) Q := ru_nw (ci := 3) (N := 6) rfl rfl rfl rfl rfl
set_option maxRecDepth 100000 in
theorem s5_19 {a : Nat} : rn sc d 5 19 [l0, l1] (.ref a :: st) M Q = rn sc d 5 20 [l0, l1] (.ref a :: .ref a :: st) M Q := ru_1 rfl rfl rfl rfl rfl
set_option maxRecDepth 100000 in
theorem s5_19I {x : Int32} : rn sc d 5 19 [l0, l1] (.int x :: st) M Q = rn sc d 5 20 [l0, l1] (.int x :: .int x :: st) M Q := ru_1 rfl rfl rfl rfl rfl
set_option maxRecDepth 100000 in
theorem s5_20 {a : Nat}  (hw : xm_wt st ≤ 8) : rn sc (d + 1) 5 20 [l0, l1] (.ref a :: st) M Q = rn sc d 6 0 [some (.ref a)] [] M (fun r M' => rn sc (d + 1) 5 23 [l0, l1] (r.toList ++ st) M' Q) := ru_d (ru_is (as := []) rfl rfl rfl (Nat.le_of_ble_eq_true rfl) hw rfl)
set_option maxRecDepth 100000 in
theorem s5_23 {a : Nat} {v : Value} : rn sc d 5 23 [l0, l1] (v :: .ref a :: st) M Q = rn_o (hp_pf M a 2 2 v) (fun M' => rn sc d 5 26 [l0, l1] st M' Q) := ru_put rfl rfl rfl
set_option maxRecDepth 100000 in
theorem s5_26 {a : Nat} : rn sc d 5 26 [some (.ref a), l1] st M Q = rn sc d 5 27 [some (.ref a), l1] (.ref a :: st) M Q := ru_1 rfl rfl rfl rfl rfl
set_option maxRecDepth 100000 in
theorem s5_27 : rn sc d 5 27 [l0, l1] st M Q = rn sc d 5 30 [l0, l1] (.ref M.1 :: st) (xm_new M 2 (.inr (1, [.null, .int 0]))) Q := ru_nw (ci := 1) (N := 2) rfl rfl rfl rfl rfl
set_option maxRecDepth 100000 in
theorem s5_30 {a : Nat} : rn sc d 5 30 [l0, l1] (.ref a :: st) M Q = rn sc d 5 31 [l0, l1] (.ref a :: .ref a :: st) M Q := ru_1 rfl rfl rfl rfl rfl
set_option maxRecDepth 100000 in
theorem s5_30I {x : Int32} : rn sc d 5 30 [l0, l1] (.int x :: st) M Q = rn sc d 5 31 [l0, l1] (.int x :: .int x :: st) M Q := ru_1 rfl rfl rfl rfl rfl
set_option maxRecDepth 100000 in
theorem s5_31 {a : Nat}  (hw : xm_wt st ≤ 8) : rn sc (d + 1) 5 31 [l0, l1] (.ref a :: st) M Q = rn sc d 7 0 [some (.ref a)] [] M (fun r M' => rn sc (d + 1) 5 34 [l0, l1] (r.toList ++ st) M' Q) := ru_d (ru_is (as := []) rfl rfl rfl (Nat.le_of_ble_eq_true rfl) hw rfl)
set_option maxRecDepth 100000 in
theorem s5_34 {a : Nat} {v : Value} : rn sc d 5 34 [l0, l1] (v :: .ref a :: st) M Q = rn_o (hp_pf M a 2 3 v) (fun M' => rn sc d 5 37 [l0, l1] st M' Q) := ru_put rfl rfl rfl
set_option maxRecDepth 100000 in
theorem s5_37 {a : Nat} : rn sc d 5 37 [some (.ref a), l1] st M Q = rn sc d 5 38 [some (.ref a), l1] (.ref a :: st) M Q := ru_1 rfl rfl rfl rfl rfl
set_option maxRecDepth 100000 in
theorem s5_38 : rn sc d 5 38 [l0, l1] st M Q = rn sc d 5 41 [l0, l1] (.ref M.1 :: st) (xm_new M 2 (.inr (1, [.null, .int 0]))) Q := ru_nw (ci := 1) (N := 2) rfl rfl rfl rfl rfl
set_option maxRecDepth 100000 in
theorem s5_41 {a : Nat} : rn sc d 5 41 [l0, l1] (.ref a :: st) M Q = rn sc d 5 42 [l0, l1] (.ref a :: .ref a :: st) M Q := ru_1 rfl rfl rfl rfl rfl
set_option maxRecDepth 100000 in
theorem s5_41I {x : Int32} : rn sc d 5 41 [l0, l1] (.int x :: st) M Q = rn sc d 5 42 [l0, l1] (.int x :: .int x :: st) M Q := ru_1 rfl rfl rfl rfl rfl
set_option maxRecDepth 100000 in
theorem s5_42 {a : Nat}  (hw : xm_wt st ≤ 8) : rn sc (d + 1) 5 42 [l0, l1] (.ref a :: st) M Q = rn sc d 7 0 [some (.ref a)] [] M (fun r M' => rn sc (d + 1) 5 45 [l0, l1] (r.toList ++ st) M' Q) := ru_d (ru_is (as := []) rfl rfl rfl (Nat.le_of_ble_eq_true rfl) hw rfl)
set_option maxRecDepth 100000 in
theorem s5_45 {a : Nat} {v : Value} : rn sc d 5 45 [l0, l1] (v :: .ref a :: st) M Q = rn_o (hp_pf M a 2 4 v) (fun M' => rn sc d 5 48 [l0, l1] st M' Q) := ru_put rfl rfl rfl
set_option maxRecDepth 100000 in
theorem s5_48 {a : Nat} : rn sc d 5 48 [some (.ref a), l1] st M Q = rn sc d 5 49 [some (.ref a), l1] (.ref a :: st) M Q := ru_1 rfl rfl rfl rfl rfl
set_option maxRecDepth 100000 in
theorem s5_49 : rn sc d 5 49 [l0, l1] st M Q = rn sc d 5 50 [l0, l1] (.int 0 :: st) M Q := ru_k rfl rfl rfl rfl rfl (by decide)
set_option maxRecDepth 100000 in
theorem s5_50 {a : Nat} {v : Value} : rn sc d 5 50 [l0, l1] (v :: .ref a :: st) M Q = rn_o (hp_pf M a 2 5 v) (fun M' => rn sc d 5 53 [l0, l1] st M' Q) := ru_put rfl rfl rfl
set_option maxRecDepth 100000 in
theorem s5_53 {a : Nat} : rn sc d 5 53 [some (.ref a), l1] st M Q = rn sc d 5 54 [some (.ref a), l1] (.ref a :: st) M Q := ru_1 rfl rfl rfl rfl rfl
set_option maxRecDepth 100000 in
theorem s5_54 : rn sc d 5 54 [l0, l1] st M Q = rn sc d 5 55 [l0, l1] (.int 0 :: st) M Q := ru_k rfl rfl rfl rfl rfl (by decide)
set_option maxRecDepth 100000 in
theorem s5_55 {a : Nat} {v : Value} : rn sc d 5 55 [l0, l1] (v :: .ref a :: st) M Q = rn_o (hp_pf M a 2 6 v) (fun M' => rn sc d 5 58 [l0, l1] st M' Q) := ru_put rfl rfl rfl
set_option maxRecDepth 100000 in
theorem s5_58 {a : Nat} : rn sc d 5 58 [some (.ref a), l1] st M Q = rn sc d 5 59 [some (.ref a), l1] (.ref a :: st) M Q := ru_1 rfl rfl rfl rfl rfl
set_option maxRecDepth 100000 in
theorem s5_59 : rn sc d 5 59 [l0, l1] st M Q = rn sc d 5 60 [l0, l1] (.int 0 :: st) M Q := ru_k rfl rfl rfl rfl rfl (by decide)
set_option maxRecDepth 100000 in
theorem s5_60 {a : Nat} {v : Value} : rn sc d 5 60 [l0, l1] (v :: .ref a :: st) M Q = rn_o (hp_pf M a 2 7 v) (fun M' => rn sc d 5 63 [l0, l1] st M' Q) := ru_put rfl rfl rfl
set_option maxRecDepth 100000 in
theorem s5_63 {a : Nat} : rn sc d 5 63 [some (.ref a), l1] st M Q = rn sc d 5 64 [some (.ref a), l1] (.ref a :: st) M Q := ru_1 rfl rfl rfl rfl rfl
set_option maxRecDepth 100000 in
theorem s5_64 : rn sc d 5 64 [l0, l1] st M Q = rn sc d 5 65 [l0, l1] (.int 2 :: st) M Q := ru_k rfl rfl rfl rfl rfl (by decide)
set_option maxRecDepth 100000 in
theorem s5_65 {a : Nat} {v : Value} : rn sc d 5 65 [l0, l1] (v :: .ref a :: st) M Q = rn_o (hp_pf M a 2 8 v) (fun M' => rn sc d 5 68 [l0, l1] st M' Q) := ru_put rfl rfl rfl
set_option maxRecDepth 100000 in
theorem s5_68 {a : Nat} : rn sc d 5 68 [some (.ref a), l1] st M Q = rn sc d 5 69 [some (.ref a), l1] (.ref a :: st) M Q := ru_1 rfl rfl rfl rfl rfl
set_option maxRecDepth 100000 in
theorem s5_69 : rn sc d 5 69 [l0, l1] st M Q = rn sc d 5 70 [l0, l1] (.null :: st) M Q := ru_1 rfl rfl rfl rfl rfl
set_option maxRecDepth 100000 in
theorem s5_70 {a : Nat} {v : Value} : rn sc d 5 70 [l0, l1] (v :: .ref a :: st) M Q = rn_o (hp_pf M a 2 9 v) (fun M' => rn sc d 5 73 [l0, l1] st M' Q) := ru_put rfl rfl rfl
set_option maxRecDepth 100000 in
theorem s5_73 {a : Nat} : rn sc d 5 73 [some (.ref a), l1] st M Q = rn sc d 5 74 [some (.ref a), l1] (.ref a :: st) M Q := ru_1 rfl rfl rfl rfl rfl
set_option maxRecDepth 100000 in
theorem s5_74 : rn sc d 5 74 [l0, l1] st M Q = rn sc d 5 75 [l0, l1] (.int 0 :: st) M Q := ru_k rfl rfl rfl rfl rfl (by decide)
set_option maxRecDepth 100000 in
theorem s5_75 {a : Nat} {v : Value} : rn sc d 5 75 [l0, l1] (v :: .ref a :: st) M Q = rn_o (hp_pf M a 2 10 v) (fun M' => rn sc d 5 78 [l0, l1] st M' Q) := ru_put rfl rfl rfl
set_option maxRecDepth 100000 in
theorem s5_78 {a : Nat} : rn sc d 5 78 [some (.ref a), l1] st M Q = rn sc d 5 79 [some (.ref a), l1] (.ref a :: st) M Q := ru_1 rfl rfl rfl rfl rfl
set_option maxRecDepth 100000 in
theorem s5_79 {a : Nat} : rn sc d 5 79 [l0, some (.ref a)] st M Q = rn sc d 5 80 [l0, some (.ref a)] (.ref a :: st) M Q := ru_1 rfl rfl rfl rfl rfl
set_option maxRecDepth 100000 in
theorem s5_79N : rn sc d 5 79 [l0, some .null] st M Q = rn sc d 5 80 [l0, some .null] (.null :: st) M Q := ru_1 rfl rfl rfl rfl rfl
set_option maxRecDepth 100000 in
theorem s5_80 {a : Nat} {v : Value} : rn sc d 5 80 [l0, l1] (v :: .ref a :: st) M Q = rn_o (hp_pf M a 2 0 v) (fun M' => rn sc d 5 83 [l0, l1] st M' Q) := ru_put rfl rfl rfl
set_option maxRecDepth 100000 in
theorem s5_83 : rn sc d 5 83 [l0, l1] [] M Q = Q none M := rn_ret rfl rfl rfl
set_option maxRecDepth 100000 in
theorem s6_0 {a : Nat} : rn sc d 6 0 [some (.ref a)] st M Q = rn sc d 6 1 [some (.ref a)] (.ref a :: st) M Q := ru_1 rfl rfl rfl rfl rfl
set_option maxRecDepth 100000 in
theorem s6_1 {a : Nat} (hw : xm_wt st ≤ 8) : rn sc (d + 1) 6 1 [l0] (.ref a :: st) M Q = rn sc (d + 1) 6 4 [l0] st M Q := ru_oi1 rfl rfl rfl hw
set_option maxRecDepth 100000 in
theorem s6_4 {a : Nat} : rn sc d 6 4 [some (.ref a)] st M Q = rn sc d 6 5 [some (.ref a)] (.ref a :: st) M Q := ru_1 rfl rfl rfl rfl rfl
set_option maxRecDepth 100000 in
theorem s6_5 : rn sc d 6 5 [l0] st M Q = rn sc d 6 8 [l0] (.int 3001 :: st) M Q := ru_k rfl rfl rfl rfl rfl (by decide)
set_option maxRecDepth 100000 in
theorem s6_8 : rn sc d 6 8 [l0] (.int 3001 :: st) M Q = rn sc d 6 11 [l0] (.ref M.1 :: st) (xm_new M 3001 (.inl (4, 3001, .inr (.inr (.inr (.inr (fun _ => none))))))) Q := ru_newq rfl rfl (by decide)
set_option maxRecDepth 100000 in
theorem s6_11 {a : Nat} {v : Value} : rn sc d 6 11 [l0] (v :: .ref a :: st) M Q = rn_o (hp_pf M a 3 0 v) (fun M' => rn sc d 6 14 [l0] st M' Q) := ru_put rfl rfl rfl
set_option maxRecDepth 100000 in
theorem s6_14 {a : Nat} : rn sc d 6 14 [some (.ref a)] st M Q = rn sc d 6 15 [some (.ref a)] (.ref a :: st) M Q := ru_1 rfl rfl rfl rfl rfl
set_option maxRecDepth 100000 in
theorem s6_15 : rn sc d 6 15 [l0] st M Q = rn sc d 6 18 [l0] (.int 3001 :: st) M Q := ru_k rfl rfl rfl rfl rfl (by decide)
set_option maxRecDepth 100000 in
theorem s6_18 : rn sc d 6 18 [l0] (.int 3001 :: st) M Q = rn sc d 6 20 [l0] (.ref M.1 :: st) (xm_new M 3001 (.inl (0, 3001, .inl (fun _ => 0)))) Q := ru_newi rfl (by decide)
set_option maxRecDepth 100000 in
theorem s6_20 {a : Nat} {v : Value} : rn sc d 6 20 [l0] (v :: .ref a :: st) M Q = rn_o (hp_pf M a 3 1 v) (fun M' => rn sc d 6 23 [l0] st M' Q) := ru_put rfl rfl rfl
set_option maxRecDepth 100000 in
theorem s6_23 {a : Nat} : rn sc d 6 23 [some (.ref a)] st M Q = rn sc d 6 24 [some (.ref a)] (.ref a :: st) M Q := ru_1 rfl rfl rfl rfl rfl
set_option maxRecDepth 100000 in
theorem s6_24 : rn sc d 6 24 [l0] st M Q = rn sc d 6 27 [l0] (.int 3001 :: st) M Q := ru_k rfl rfl rfl rfl rfl (by decide)
set_option maxRecDepth 100000 in
theorem s6_27 : rn sc d 6 27 [l0] (.int 3001 :: st) M Q = rn sc d 6 29 [l0] (.ref M.1 :: st) (xm_new M 3001 (.inl (0, 3001, .inl (fun _ => 0)))) Q := ru_newi rfl (by decide)
set_option maxRecDepth 100000 in
theorem s6_29 {a : Nat} {v : Value} : rn sc d 6 29 [l0] (v :: .ref a :: st) M Q = rn_o (hp_pf M a 3 2 v) (fun M' => rn sc d 6 32 [l0] st M' Q) := ru_put rfl rfl rfl
set_option maxRecDepth 100000 in
theorem s6_32 {a : Nat} : rn sc d 6 32 [some (.ref a)] st M Q = rn sc d 6 33 [some (.ref a)] (.ref a :: st) M Q := ru_1 rfl rfl rfl rfl rfl
set_option maxRecDepth 100000 in
theorem s6_33 : rn sc d 6 33 [l0] st M Q = rn sc d 6 36 [l0] (.int 3001 :: st) M Q := ru_k rfl rfl rfl rfl rfl (by decide)
set_option maxRecDepth 100000 in
theorem s6_36 : rn sc d 6 36 [l0] (.int 3001 :: st) M Q = rn sc d 6 38 [l0] (.ref M.1 :: st) (xm_new M 3001 (.inl (0, 3001, .inl (fun _ => 0)))) Q := ru_newi rfl (by decide)
set_option maxRecDepth 100000 in
theorem s6_38 {a : Nat} {v : Value} : rn sc d 6 38 [l0] (v :: .ref a :: st) M Q = rn_o (hp_pf M a 3 3 v) (fun M' => rn sc d 6 41 [l0] st M' Q) := ru_put rfl rfl rfl
set_option maxRecDepth 100000 in
theorem s6_41 {a : Nat} : rn sc d 6 41 [some (.ref a)] st M Q = rn sc d 6 42 [some (.ref a)] (.ref a :: st) M Q := ru_1 rfl rfl rfl rfl rfl
set_option maxRecDepth 100000 in
theorem s6_42 : rn sc d 6 42 [l0] st M Q = rn sc d 6 45 [l0] (.int 3001 :: st) M Q := ru_k rfl rfl rfl rfl rfl (by decide)
set_option maxRecDepth 100000 in
theorem s6_45 : rn sc d 6 45 [l0] (.int 3001 :: st) M Q = rn sc d 6 47 [l0] (.ref M.1 :: st) (xm_new M 3001 (.inl (0, 3001, .inl (fun _ => 0)))) Q := ru_newi rfl (by decide)
set_option maxRecDepth 100000 in
theorem s6_47 {a : Nat} {v : Value} : rn sc d 6 47 [l0] (v :: .ref a :: st) M Q = rn_o (hp_pf M a 3 4 v) (fun M' => rn sc d 6 50 [l0] st M' Q) := ru_put rfl rfl rfl
set_option maxRecDepth 100000 in
theorem s6_50 {a : Nat} : rn sc d 6 50 [some (.ref a)] st M Q = rn sc d 6 51 [some (.ref a)] (.ref a :: st) M Q := ru_1 rfl rfl rfl rfl rfl
set_option maxRecDepth 100000 in
theorem s6_51 : rn sc d 6 51 [l0] st M Q = rn sc d 6 52 [l0] (.int 0 :: st) M Q := ru_k rfl rfl rfl rfl rfl (by decide)
set_option maxRecDepth 100000 in
theorem s6_52 {a : Nat} {v : Value} : rn sc d 6 52 [l0] (v :: .ref a :: st) M Q = rn_o (hp_pf M a 3 5 v) (fun M' => rn sc d 6 55 [l0] st M' Q) := ru_put rfl rfl rfl
set_option maxRecDepth 100000 in
theorem s6_55 : rn sc d 6 55 [l0] [] M Q = Q none M := rn_ret rfl rfl rfl
set_option maxRecDepth 100000 in
theorem s7_0 {a : Nat} : rn sc d 7 0 [some (.ref a)] st M Q = rn sc d 7 1 [some (.ref a)] (.ref a :: st) M Q := ru_1 rfl rfl rfl rfl rfl
set_option maxRecDepth 100000 in
theorem s7_1 {a : Nat} (hw : xm_wt st ≤ 8) : rn sc (d + 1) 7 1 [l0] (.ref a :: st) M Q = rn sc (d + 1) 7 4 [l0] st M Q := ru_oi1 rfl rfl rfl hw
set_option maxRecDepth 100000 in
theorem s7_4 {a : Nat} : rn sc d 7 4 [some (.ref a)] st M Q = rn sc d 7 5 [some (.ref a)] (.ref a :: st) M Q := ru_1 rfl rfl rfl rfl rfl
set_option maxRecDepth 100000 in
theorem s7_5 : rn sc d 7 5 [l0] st M Q = rn sc d 7 8 [l0] (.int 3000 :: st) M Q := ru_k rfl rfl rfl rfl rfl (by decide)
set_option maxRecDepth 100000 in
theorem s7_8 : rn sc d 7 8 [l0] (.int 3000 :: st) M Q = rn sc d 7 10 [l0] (.ref M.1 :: st) (xm_new M 3000 (.inl (0, 3000, .inl (fun _ => 0)))) Q := ru_newi rfl (by decide)
set_option maxRecDepth 100000 in
theorem s7_10 {a : Nat} {v : Value} : rn sc d 7 10 [l0] (v :: .ref a :: st) M Q = rn_o (hp_pf M a 1 0 v) (fun M' => rn sc d 7 13 [l0] st M' Q) := ru_put rfl rfl rfl
set_option maxRecDepth 100000 in
theorem s7_13 {a : Nat} : rn sc d 7 13 [some (.ref a)] st M Q = rn sc d 7 14 [some (.ref a)] (.ref a :: st) M Q := ru_1 rfl rfl rfl rfl rfl
set_option maxRecDepth 100000 in
theorem s7_14 : rn sc d 7 14 [l0] st M Q = rn sc d 7 15 [l0] (.int 0 :: st) M Q := ru_k rfl rfl rfl rfl rfl (by decide)
set_option maxRecDepth 100000 in
theorem s7_15 {a : Nat} {v : Value} : rn sc d 7 15 [l0] (v :: .ref a :: st) M Q = rn_o (hp_pf M a 1 1 v) (fun M' => rn sc d 7 18 [l0] st M' Q) := ru_put rfl rfl rfl
set_option maxRecDepth 100000 in
theorem s7_18 : rn sc d 7 18 [l0] [] M Q = Q none M := rn_ret rfl rfl rfl
set_option maxRecDepth 100000 in
theorem s8_0 {a : Nat} : rn sc d 8 0 [some (.ref a), l1] st M Q = rn sc d 8 1 [some (.ref a), l1] (.ref a :: st) M Q := ru_1 rfl rfl rfl rfl rfl
set_option maxRecDepth 100000 in
theorem s8_1 {a : Nat} : rn sc d 8 1 [l0, l1] (.ref a :: st) M Q = rn_o (hp_f M a 6 0) (fun v => rn sc d 8 4 [l0, l1] (v :: st) M Q) := ru_get rfl rfl
set_option maxRecDepth 100000 in
theorem s8_4 {x : Int32} : rn sc d 8 4 [l0, some (.int x)] st M Q = rn sc d 8 5 [l0, some (.int x)] (.int x :: st) M Q := ru_1 rfl rfl rfl rfl rfl
set_option maxRecDepth 100000 in
theorem s8_5 : rn sc d 8 5 [l0, l1] st M Q = rn sc d 8 8 [l0, l1] (.int 255 :: st) M Q := ru_k rfl rfl rfl rfl rfl (by decide)
set_option maxRecDepth 100000 in
theorem s8_8 {u v : Int32} : rn sc d 8 8 [l0, l1] (.int v :: .int u :: st) M Q = rn sc d 8 9 [l0, l1] (.int (u &&& v) :: st) M Q := ru_1 rfl rfl rfl rfl rfl
set_option maxRecDepth 100000 in
theorem s8_9 {a : Nat} {x0 : Int32} (hw : xm_wt st ≤ 8) (hq : hp_is M a 5) : rn sc (d + 1) 8 9 [l0, l1] (.int x0 :: .ref a :: st) M Q = rn sc d 9 0 [some (.ref a), some (.int x0)] [] M (fun r M' => rn sc (d + 1) 8 12 [l0, l1] (r.toList ++ st) M' Q) := ru_d (ru_iv (as := [.int x0]) rfl rfl rfl (Nat.le_of_ble_eq_true rfl) hw rfl hq)
set_option maxRecDepth 100000 in
theorem s8_12 {x : Int32} : rn sc d 8 12 [l0, l1] (.int x :: st) M Q = if x = 0 then rn sc d 8 25 [l0, l1] st M Q else rn sc d 8 15 [l0, l1] st M Q := ru_if pc_eq rfl (by decide)
set_option maxRecDepth 100000 in
theorem s8_15 {a : Nat} : rn sc d 8 15 [some (.ref a), l1] st M Q = rn sc d 8 16 [some (.ref a), l1] (.ref a :: st) M Q := ru_1 rfl rfl rfl rfl rfl
set_option maxRecDepth 100000 in
theorem s8_16 {a : Nat} : rn sc d 8 16 [l0, l1] (.ref a :: st) M Q = rn_o (hp_f M a 6 0) (fun v => rn sc d 8 19 [l0, l1] (v :: st) M Q) := ru_get rfl rfl
set_option maxRecDepth 100000 in
theorem s8_19 {a : Nat} : rn sc d 8 19 [l0, l1] (.ref a :: st) M Q = rn_o (hp_f M a 5 1) (fun v => rn sc d 8 22 [l0, l1] (v :: st) M Q) := ru_get rfl rfl
set_option maxRecDepth 100000 in
theorem s8_22 : rn sc d 8 22 [l0, l1] st M Q = rn sc d 8 26 [l0, l1] st M Q := ru_go rfl (by decide)
set_option maxRecDepth 100000 in
theorem s8_25 : rn sc d 8 25 [l0, l1] st M Q = rn sc d 8 26 [l0, l1] (.int (-1) :: st) M Q := ru_k rfl rfl rfl rfl rfl (by decide)
set_option maxRecDepth 100000 in
theorem s8_26 {v : Int32} : rn sc d 8 26 [l0, l1] [.int v] M Q = Q (some (.int v)) M := ru_ri rfl rfl
set_option maxRecDepth 100000 in
theorem s9_0 {a : Nat} : rn sc d 9 0 [some (.ref a), l1] st M Q = rn sc d 9 1 [some (.ref a), l1] (.ref a :: st) M Q := ru_1 rfl rfl rfl rfl rfl
set_option maxRecDepth 100000 in
theorem s9_1 {a : Nat} : rn sc d 9 1 [l0, l1] (.ref a :: st) M Q = rn_o (hp_f M a 5 1) (fun v => rn sc d 9 4 [l0, l1] (v :: st) M Q) := ru_get rfl rfl
set_option maxRecDepth 100000 in
theorem s9_4 : rn sc d 9 4 [l0, l1] st M Q = rn sc d 9 6 [l0, l1] (.int 64 :: st) M Q := ru_k rfl rfl rfl rfl rfl (by decide)
set_option maxRecDepth 100000 in
theorem s9_6 {u v : Int32} : rn sc d 9 6 [l0, l1] (.int v :: .int u :: st) M Q = if u < v then rn sc d 9 11 [l0, l1] st M Q else rn sc d 9 9 [l0, l1] st M Q := ru_ic pc_lt rfl (by decide)
set_option maxRecDepth 100000 in
theorem s9_9 : rn sc d 9 9 [l0, l1] st M Q = rn sc d 9 10 [l0, l1] (.int 0 :: st) M Q := ru_k rfl rfl rfl rfl rfl (by decide)
set_option maxRecDepth 100000 in
theorem s9_10 {v : Int32} (h : narrow .boolean (.int v) = .int v) : rn sc d 9 10 [l0, l1] [.int v] M Q = Q (some (.int v)) M := ru_rz rfl rfl h
set_option maxRecDepth 100000 in
theorem s9_11 {a : Nat} : rn sc d 9 11 [some (.ref a), l1] st M Q = rn sc d 9 12 [some (.ref a), l1] (.ref a :: st) M Q := ru_1 rfl rfl rfl rfl rfl
set_option maxRecDepth 100000 in
theorem s9_12 {a : Nat} : rn sc d 9 12 [l0, l1] (.ref a :: st) M Q = rn_o (hp_f M a 5 0) (fun v => rn sc d 9 15 [l0, l1] (v :: st) M Q) := ru_get rfl rfl
set_option maxRecDepth 100000 in
theorem s9_15 {a : Nat} : rn sc d 9 15 [some (.ref a), l1] st M Q = rn sc d 9 16 [some (.ref a), l1] (.ref a :: st) M Q := ru_1 rfl rfl rfl rfl rfl
set_option maxRecDepth 100000 in
theorem s9_16 {a : Nat} : rn sc d 9 16 [l0, l1] (.ref a :: st) M Q = rn_o (hp_f M a 5 1) (fun v => rn sc d 9 19 [l0, l1] (v :: st) M Q) := ru_get rfl rfl
set_option maxRecDepth 100000 in
theorem s9_19 {x : Int32} : rn sc d 9 19 [l0, some (.int x)] st M Q = rn sc d 9 20 [l0, some (.int x)] (.int x :: st) M Q := ru_1 rfl rfl rfl rfl rfl
set_option maxRecDepth 100000 in
theorem s9_20 {a : Nat} {j x : Int32} : rn sc d 9 20 [l0, l1] (.int x :: .int j :: .ref a :: st) M Q = rn_o (hp_pi M a j x) (fun M' => rn sc d 9 21 [l0, l1] st M' Q) := ru_iast rfl
set_option maxRecDepth 100000 in
theorem s9_21 {a : Nat} : rn sc d 9 21 [some (.ref a), l1] st M Q = rn sc d 9 22 [some (.ref a), l1] (.ref a :: st) M Q := ru_1 rfl rfl rfl rfl rfl
set_option maxRecDepth 100000 in
theorem s9_22 {a : Nat} : rn sc d 9 22 [l0, l1] (.ref a :: st) M Q = rn sc d 9 23 [l0, l1] (.ref a :: .ref a :: st) M Q := ru_1 rfl rfl rfl rfl rfl
set_option maxRecDepth 100000 in
theorem s9_22I {x : Int32} : rn sc d 9 22 [l0, l1] (.int x :: st) M Q = rn sc d 9 23 [l0, l1] (.int x :: .int x :: st) M Q := ru_1 rfl rfl rfl rfl rfl
set_option maxRecDepth 100000 in
theorem s9_23 {a : Nat} : rn sc d 9 23 [l0, l1] (.ref a :: st) M Q = rn_o (hp_f M a 5 1) (fun v => rn sc d 9 26 [l0, l1] (v :: st) M Q) := ru_get rfl rfl
set_option maxRecDepth 100000 in
theorem s9_26 : rn sc d 9 26 [l0, l1] st M Q = rn sc d 9 27 [l0, l1] (.int 1 :: st) M Q := ru_k rfl rfl rfl rfl rfl (by decide)
set_option maxRecDepth 100000 in
theorem s9_27 {u v : Int32} : rn sc d 9 27 [l0, l1] (.int v :: .int u :: st) M Q = rn sc d 9 28 [l0, l1] (.int (u + v) :: st) M Q := ru_1 rfl rfl rfl rfl rfl
set_option maxRecDepth 100000 in
theorem s9_28 {a : Nat} {v : Value} : rn sc d 9 28 [l0, l1] (v :: .ref a :: st) M Q = rn_o (hp_pf M a 5 1 v) (fun M' => rn sc d 9 31 [l0, l1] st M' Q) := ru_put rfl rfl rfl
set_option maxRecDepth 100000 in
theorem s9_31 : rn sc d 9 31 [l0, l1] st M Q = rn sc d 9 32 [l0, l1] (.int 1 :: st) M Q := ru_k rfl rfl rfl rfl rfl (by decide)
set_option maxRecDepth 100000 in
theorem s9_32 {v : Int32} (h : narrow .boolean (.int v) = .int v) : rn sc d 9 32 [l0, l1] [.int v] M Q = Q (some (.int v)) M := ru_rz rfl rfl h
set_option maxRecDepth 100000 in
theorem s10_0 {a : Nat} : rn sc d 10 0 [some (.ref a), l1, l2] st M Q = rn sc d 10 1 [some (.ref a), l1, l2] (.ref a :: st) M Q := ru_1 rfl rfl rfl rfl rfl
set_option maxRecDepth 100000 in
theorem s10_1 {a : Nat} : rn sc d 10 1 [l0, l1, l2] (.ref a :: st) M Q = rn_o (hp_f M a 6 1) (fun v => rn sc d 10 4 [l0, l1, l2] (v :: st) M Q) := ru_get rfl rfl
set_option maxRecDepth 100000 in
theorem s10_4 {x : Int32} : rn sc d 10 4 [l0, some (.int x), l2] st M Q = rn sc d 10 5 [l0, some (.int x), l2] (.int x :: st) M Q := ru_1 rfl rfl rfl rfl rfl
set_option maxRecDepth 100000 in
theorem s10_5 {a : Nat} {x0 : Int32} (hw : xm_wt st ≤ 8) (hq : hp_is M a 4) : rn sc (d + 1) 10 5 [l0, l1, l2] (.int x0 :: .ref a :: st) M Q = rn sc d 11 0 [some (.ref a), some (.int x0)] [] M (fun r M' => rn sc (d + 1) 10 8 [l0, l1, l2] (r.toList ++ st) M' Q) := ru_d (ru_iv (as := [.int x0]) rfl rfl rfl (Nat.le_of_ble_eq_true rfl) hw rfl hq)
set_option maxRecDepth 100000 in
theorem s10_8 {a : Nat} : rn sc d 10 8 [l0, l1, l2] (.ref a :: st) M Q = rn sc d 10 9 [l0, l1, some (.ref a)] st M Q := ru_1 rfl rfl rfl rfl rfl
set_option maxRecDepth 100000 in
theorem s10_8N : rn sc d 10 8 [l0, l1, l2] (.null :: st) M Q = rn sc d 10 9 [l0, l1, some .null] st M Q := ru_1 rfl rfl rfl rfl rfl
set_option maxRecDepth 100000 in
theorem s10_9 {a : Nat} : rn sc d 10 9 [l0, l1, some (.ref a)] st M Q = rn sc d 10 10 [l0, l1, some (.ref a)] (.ref a :: st) M Q := ru_1 rfl rfl rfl rfl rfl
set_option maxRecDepth 100000 in
theorem s10_9N : rn sc d 10 9 [l0, l1, some .null] st M Q = rn sc d 10 10 [l0, l1, some .null] (.null :: st) M Q := ru_1 rfl rfl rfl rfl rfl
set_option maxRecDepth 100000 in
theorem s10_10 {a : Nat} : rn sc d 10 10 [l0, l1, l2] (.ref a :: st) M Q = rn sc d 10 15 [l0, l1, l2] st M Q := ru_nn rfl (by decide)
set_option maxRecDepth 100000 in
theorem s10_10N : rn sc d 10 10 [l0, l1, l2] (.null :: st) M Q = rn sc d 10 13 [l0, l1, l2] st M Q := ru_nnN rfl
set_option maxRecDepth 100000 in
theorem s10_13 : rn sc d 10 13 [l0, l1, l2] st M Q = rn sc d 10 14 [l0, l1, l2] (.int 0 :: st) M Q := ru_k rfl rfl rfl rfl rfl (by decide)
set_option maxRecDepth 100000 in
theorem s10_14 {v : Int32} (h : narrow .boolean (.int v) = .int v) : rn sc d 10 14 [l0, l1, l2] [.int v] M Q = Q (some (.int v)) M := ru_rz rfl rfl h
set_option maxRecDepth 100000 in
theorem s10_15 {a : Nat} : rn sc d 10 15 [l0, l1, some (.ref a)] st M Q = rn sc d 10 16 [l0, l1, some (.ref a)] (.ref a :: st) M Q := ru_1 rfl rfl rfl rfl rfl
set_option maxRecDepth 100000 in
theorem s10_15N : rn sc d 10 15 [l0, l1, some .null] st M Q = rn sc d 10 16 [l0, l1, some .null] (.null :: st) M Q := ru_1 rfl rfl rfl rfl rfl
set_option maxRecDepth 100000 in
theorem s10_16 {a : Nat} : rn sc d 10 16 [some (.ref a), l1, l2] st M Q = rn sc d 10 17 [some (.ref a), l1, l2] (.ref a :: st) M Q := ru_1 rfl rfl rfl rfl rfl
set_option maxRecDepth 100000 in
theorem s10_17 {a : Nat} : rn sc d 10 17 [l0, l1, l2] (.ref a :: st) M Q = rn_o (hp_f M a 6 0) (fun v => rn sc d 10 20 [l0, l1, l2] (v :: st) M Q) := ru_get rfl rfl
set_option maxRecDepth 100000 in
theorem s10_20 {a : Nat} {b0 : Nat} (hw : xm_wt st ≤ 8) (hq : hp_is M a 5) : rn sc (d + 1) 10 20 [l0, l1, l2] (.ref b0 :: .ref a :: st) M Q = rn sc d 12 0 [some (.ref a), some (.ref b0)] [] M (fun r M' => rn sc (d + 1) 10 23 [l0, l1, l2] (r.toList ++ st) M' Q) := ru_d (ru_iv (as := [.ref b0]) rfl rfl rfl (Nat.le_of_ble_eq_true rfl) hw rfl hq)
set_option maxRecDepth 100000 in
theorem s10_20N {a : Nat}  (hw : xm_wt st ≤ 8) (hq : hp_is M a 5) : rn sc (d + 1) 10 20 [l0, l1, l2] (.null :: .ref a :: st) M Q = rn sc d 12 0 [some (.ref a), some (.null)] [] M (fun r M' => rn sc (d + 1) 10 23 [l0, l1, l2] (r.toList ++ st) M' Q) := ru_d (ru_iv (as := [.null]) rfl rfl rfl (Nat.le_of_ble_eq_true rfl) hw rfl hq)
set_option maxRecDepth 100000 in
theorem s10_23 {a : Nat} : rn sc d 10 23 [some (.ref a), l1, l2] st M Q = rn sc d 10 24 [some (.ref a), l1, l2] (.ref a :: st) M Q := ru_1 rfl rfl rfl rfl rfl
set_option maxRecDepth 100000 in
theorem s10_24 {a : Nat} : rn sc d 10 24 [l0, l1, l2] (.ref a :: st) M Q = rn_o (hp_f M a 6 0) (fun v => rn sc d 10 27 [l0, l1, l2] (v :: st) M Q) := ru_get rfl rfl
set_option maxRecDepth 100000 in
theorem s10_27 : rn sc d 10 27 [l0, l1, l2] st M Q = rn sc d 10 28 [l0, l1, l2] (.int 0 :: st) M Q := ru_k rfl rfl rfl rfl rfl (by decide)
set_option maxRecDepth 100000 in
theorem s10_28 {a : Nat} {v : Value} : rn sc d 10 28 [l0, l1, l2] (v :: .ref a :: st) M Q = rn_o (hp_pf M a 5 1 v) (fun M' => rn sc d 10 31 [l0, l1, l2] st M' Q) := ru_put rfl rfl rfl
set_option maxRecDepth 100000 in
theorem s10_31 : rn sc d 10 31 [l0, l1, l2] st M Q = rn sc d 10 32 [l0, l1, l2] (.int 1 :: st) M Q := ru_k rfl rfl rfl rfl rfl (by decide)
set_option maxRecDepth 100000 in
theorem s10_32 {v : Int32} (h : narrow .boolean (.int v) = .int v) : rn sc d 10 32 [l0, l1, l2] [.int v] M Q = Q (some (.int v)) M := ru_rz rfl rfl h
set_option maxRecDepth 100000 in
theorem s11_0 {x : Int32} : rn sc d 11 0 [l0, some (.int x)] st M Q = rn sc d 11 1 [l0, some (.int x)] (.int x :: st) M Q := ru_1 rfl rfl rfl rfl rfl
set_option maxRecDepth 100000 in
theorem s11_1 {x : Int32} : rn sc d 11 1 [l0, l1] (.int x :: st) M Q = if x < 0 then rn sc d 11 19 [l0, l1] st M Q else rn sc d 11 4 [l0, l1] st M Q := ru_if pc_lt rfl (by decide)
set_option maxRecDepth 100000 in
theorem s11_4 {x : Int32} : rn sc d 11 4 [l0, some (.int x)] st M Q = rn sc d 11 5 [l0, some (.int x)] (.int x :: st) M Q := ru_1 rfl rfl rfl rfl rfl
set_option maxRecDepth 100000 in
theorem s11_5 : rn sc d 11 5 [l0, l1] st M Q = rn sc d 11 7 [l0, l1] (.int 8 :: st) M Q := ru_k rfl rfl rfl rfl rfl (by decide)
set_option maxRecDepth 100000 in
theorem s11_7 {u v : Int32} : rn sc d 11 7 [l0, l1] (.int v :: .int u :: st) M Q = if v ≤ u then rn sc d 11 19 [l0, l1] st M Q else rn sc d 11 10 [l0, l1] st M Q := ru_ic pc_ge rfl (by decide)
set_option maxRecDepth 100000 in
theorem s11_10 {a : Nat} : rn sc d 11 10 [some (.ref a), l1] st M Q = rn sc d 11 11 [some (.ref a), l1] (.ref a :: st) M Q := ru_1 rfl rfl rfl rfl rfl
set_option maxRecDepth 100000 in
theorem s11_11 {a : Nat} : rn sc d 11 11 [l0, l1] (.ref a :: st) M Q = rn_o (hp_f M a 4 0) (fun v => rn sc d 11 14 [l0, l1] (v :: st) M Q) := ru_get rfl rfl
set_option maxRecDepth 100000 in
theorem s11_14 {x : Int32} : rn sc d 11 14 [l0, some (.int x)] st M Q = rn sc d 11 15 [l0, some (.int x)] (.int x :: st) M Q := ru_1 rfl rfl rfl rfl rfl
set_option maxRecDepth 100000 in
theorem s11_15 {a : Nat} {j : Int32} : rn sc d 11 15 [l0, l1] (.int j :: .ref a :: st) M Q = rn_o (hp_q M a j) (fun v => rn sc d 11 16 [l0, l1] (v :: st) M Q) := ru_aald rfl
set_option maxRecDepth 100000 in
theorem s11_16 : rn sc d 11 16 [l0, l1] st M Q = rn sc d 11 20 [l0, l1] st M Q := ru_go rfl (by decide)
set_option maxRecDepth 100000 in
theorem s11_19 : rn sc d 11 19 [l0, l1] st M Q = rn sc d 11 20 [l0, l1] (.null :: st) M Q := ru_1 rfl rfl rfl rfl rfl
set_option maxRecDepth 100000 in
theorem s11_20 {a : Nat} : rn sc d 11 20 [l0, l1] [.ref a] M Q = Q (some (.ref a)) M := rn_ret rfl rfl rfl
set_option maxRecDepth 100000 in
theorem s11_20N : rn sc d 11 20 [l0, l1] [.null] M Q = Q (some .null) M := rn_ret rfl rfl rfl
set_option maxRecDepth 100000 in
theorem s12_0 {a : Nat} : rn sc d 12 0 [some (.ref a), l1] st M Q = rn sc d 12 1 [some (.ref a), l1] (.ref a :: st) M Q := ru_1 rfl rfl rfl rfl rfl
set_option maxRecDepth 100000 in
theorem s12_1 {a : Nat} : rn sc d 12 1 [l0, some (.ref a)] st M Q = rn sc d 12 2 [l0, some (.ref a)] (.ref a :: st) M Q := ru_1 rfl rfl rfl rfl rfl
set_option maxRecDepth 100000 in
theorem s12_1N : rn sc d 12 1 [l0, some .null] st M Q = rn sc d 12 2 [l0, some .null] (.null :: st) M Q := ru_1 rfl rfl rfl rfl rfl
set_option maxRecDepth 100000 in
theorem s12_2 : rn sc d 12 2 [l0, l1] st M Q = rn sc d 12 3 [l0, l1] (.int 0 :: st) M Q := ru_k rfl rfl rfl rfl rfl (by decide)
set_option maxRecDepth 100000 in
theorem s12_3 {a : Nat} : rn sc d 12 3 [l0, some (.ref a)] st M Q = rn sc d 12 4 [l0, some (.ref a)] (.ref a :: st) M Q := ru_1 rfl rfl rfl rfl rfl
set_option maxRecDepth 100000 in
theorem s12_3N : rn sc d 12 3 [l0, some .null] st M Q = rn sc d 12 4 [l0, some .null] (.null :: st) M Q := ru_1 rfl rfl rfl rfl rfl
set_option maxRecDepth 100000 in
theorem s12_4 {a : Nat} : rn sc d 12 4 [l0, l1] (.ref a :: st) M Q = rn_o (hp_f M a 5 1) (fun v => rn sc d 12 7 [l0, l1] (v :: st) M Q) := ru_get rfl rfl
set_option maxRecDepth 100000 in
theorem s12_7 {a : Nat} {b0 : Nat} {x1 : Int32} {x2 : Int32} (hw : xm_wt st ≤ 8) (hq : hp_is M a 5) : rn sc (d + 1) 12 7 [l0, l1] (.int x2 :: .int x1 :: .ref b0 :: .ref a :: st) M Q = rn sc d 13 0 [some (.ref a), some (.ref b0), some (.int x1), some (.int x2)] [] M (fun r M' => rn sc (d + 1) 12 10 [l0, l1] (r.toList ++ st) M' Q) := ru_d (ru_iv (as := [.int x2, .int x1, .ref b0]) rfl rfl rfl (Nat.le_of_ble_eq_true rfl) hw rfl hq)
set_option maxRecDepth 100000 in
theorem s12_7N {a : Nat} {x1 : Int32} {x2 : Int32} (hw : xm_wt st ≤ 8) (hq : hp_is M a 5) : rn sc (d + 1) 12 7 [l0, l1] (.int x2 :: .int x1 :: .null :: .ref a :: st) M Q = rn sc d 13 0 [some (.ref a), some (.null), some (.int x1), some (.int x2)] [] M (fun r M' => rn sc (d + 1) 12 10 [l0, l1] (r.toList ++ st) M' Q) := ru_d (ru_iv (as := [.int x2, .int x1, .null]) rfl rfl rfl (Nat.le_of_ble_eq_true rfl) hw rfl hq)
set_option maxRecDepth 100000 in
theorem s12_10 : rn sc d 12 10 [l0, l1] [] M Q = Q none M := rn_ret rfl rfl rfl
set_option maxRecDepth 100000 in
theorem s13_0 {x : Int32} : rn sc d 13 0 [l0, l1, some (.int x), l3] st M Q = rn sc d 13 1 [l0, l1, some (.int x), l3] (.int x :: st) M Q := ru_1 rfl rfl rfl rfl rfl
set_option maxRecDepth 100000 in
theorem s13_1 {x : Int32} : rn sc d 13 1 [l0, l1, l2, l3] (.int x :: st) M Q = if x < 0 then rn sc d 13 17 [l0, l1, l2, l3] st M Q else rn sc d 13 4 [l0, l1, l2, l3] st M Q := ru_if pc_lt rfl (by decide)
set_option maxRecDepth 100000 in
theorem s13_4 {x : Int32} : rn sc d 13 4 [l0, l1, some (.int x), l3] st M Q = rn sc d 13 5 [l0, l1, some (.int x), l3] (.int x :: st) M Q := ru_1 rfl rfl rfl rfl rfl
set_option maxRecDepth 100000 in
theorem s13_5 {x : Int32} : rn sc d 13 5 [l0, l1, l2, some (.int x)] st M Q = rn sc d 13 6 [l0, l1, l2, some (.int x)] (.int x :: st) M Q := ru_1 rfl rfl rfl rfl rfl
set_option maxRecDepth 100000 in
theorem s13_6 {u v : Int32} : rn sc d 13 6 [l0, l1, l2, l3] (.int v :: .int u :: st) M Q = if v < u then rn sc d 13 17 [l0, l1, l2, l3] st M Q else rn sc d 13 9 [l0, l1, l2, l3] st M Q := ru_ic pc_gt rfl (by decide)
set_option maxRecDepth 100000 in
theorem s13_9 {x : Int32} : rn sc d 13 9 [l0, l1, l2, some (.int x)] st M Q = rn sc d 13 10 [l0, l1, l2, some (.int x)] (.int x :: st) M Q := ru_1 rfl rfl rfl rfl rfl
set_option maxRecDepth 100000 in
theorem s13_10 {a : Nat} : rn sc d 13 10 [l0, some (.ref a), l2, l3] st M Q = rn sc d 13 11 [l0, some (.ref a), l2, l3] (.ref a :: st) M Q := ru_1 rfl rfl rfl rfl rfl
set_option maxRecDepth 100000 in
theorem s13_10N : rn sc d 13 10 [l0, some .null, l2, l3] st M Q = rn sc d 13 11 [l0, some .null, l2, l3] (.null :: st) M Q := ru_1 rfl rfl rfl rfl rfl
set_option maxRecDepth 100000 in
theorem s13_11 {a : Nat} : rn sc d 13 11 [l0, l1, l2, l3] (.ref a :: st) M Q = rn_o (hp_f M a 5 1) (fun v => rn sc d 13 14 [l0, l1, l2, l3] (v :: st) M Q) := ru_get rfl rfl
set_option maxRecDepth 100000 in
theorem s13_14 {u v : Int32} : rn sc d 13 14 [l0, l1, l2, l3] (.int v :: .int u :: st) M Q = if u ≤ v then rn sc d 13 18 [l0, l1, l2, l3] st M Q else rn sc d 13 17 [l0, l1, l2, l3] st M Q := ru_ic pc_le rfl (by decide)
set_option maxRecDepth 100000 in
theorem s13_17 : rn sc d 13 17 [l0, l1, l2, l3] [] M Q = Q none M := rn_ret rfl rfl rfl
set_option maxRecDepth 100000 in
theorem s13_18 {a : Nat} : rn sc d 13 18 [l0, some (.ref a), l2, l3] st M Q = rn sc d 13 19 [l0, some (.ref a), l2, l3] (.ref a :: st) M Q := ru_1 rfl rfl rfl rfl rfl
set_option maxRecDepth 100000 in
theorem s13_18N : rn sc d 13 18 [l0, some .null, l2, l3] st M Q = rn sc d 13 19 [l0, some .null, l2, l3] (.null :: st) M Q := ru_1 rfl rfl rfl rfl rfl
set_option maxRecDepth 100000 in
theorem s13_19 {a : Nat} : rn sc d 13 19 [l0, l1, l2, l3] (.ref a :: st) M Q = rn_o (hp_f M a 5 0) (fun v => rn sc d 13 22 [l0, l1, l2, l3] (v :: st) M Q) := ru_get rfl rfl
set_option maxRecDepth 100000 in
theorem s13_22 {x : Int32} : rn sc d 13 22 [l0, l1, some (.int x), l3] st M Q = rn sc d 13 23 [l0, l1, some (.int x), l3] (.int x :: st) M Q := ru_1 rfl rfl rfl rfl rfl
set_option maxRecDepth 100000 in
theorem s13_23 {a : Nat} : rn sc d 13 23 [some (.ref a), l1, l2, l3] st M Q = rn sc d 13 24 [some (.ref a), l1, l2, l3] (.ref a :: st) M Q := ru_1 rfl rfl rfl rfl rfl
set_option maxRecDepth 100000 in
theorem s13_24 {a : Nat} : rn sc d 13 24 [l0, l1, l2, l3] (.ref a :: st) M Q = rn_o (hp_f M a 5 0) (fun v => rn sc d 13 27 [l0, l1, l2, l3] (v :: st) M Q) := ru_get rfl rfl
set_option maxRecDepth 100000 in
theorem s13_27 : rn sc d 13 27 [l0, l1, l2, l3] st M Q = rn sc d 13 28 [l0, l1, l2, l3] (.int 0 :: st) M Q := ru_k rfl rfl rfl rfl rfl (by decide)
set_option maxRecDepth 100000 in
theorem s13_28 {x : Int32} : rn sc d 13 28 [l0, l1, l2, some (.int x)] st M Q = rn sc d 13 29 [l0, l1, l2, some (.int x)] (.int x :: st) M Q := ru_1 rfl rfl rfl rfl rfl
set_option maxRecDepth 100000 in
theorem s13_29 {x : Int32} : rn sc d 13 29 [l0, l1, some (.int x), l3] st M Q = rn sc d 13 30 [l0, l1, some (.int x), l3] (.int x :: st) M Q := ru_1 rfl rfl rfl rfl rfl
set_option maxRecDepth 100000 in
theorem s13_30 {u v : Int32} : rn sc d 13 30 [l0, l1, l2, l3] (.int v :: .int u :: st) M Q = rn sc d 13 31 [l0, l1, l2, l3] (.int (u - v) :: st) M Q := ru_1 rfl rfl rfl rfl rfl
set_option maxRecDepth 100000 in
theorem s13_31 {a0 a1 : Nat} {sp dp n : Int32} (hw : xm_wt st ≤ 8) (he : (hp_cp M a0 sp a1 dp n).isSome = true) : rn sc (d + 1) 13 31 [l0, l1, l2, l3] (.int n :: .int dp :: .ref a1 :: .int sp :: .ref a0 :: st) M Q = rn_o (hp_cp M a0 sp a1 dp n) (fun M' => rn sc (d + 1) 13 34 [l0, l1, l2, l3] st M' Q) := ru_cp1 rfl rfl rfl hw he
set_option maxRecDepth 100000 in
theorem s13_34 {a : Nat} : rn sc d 13 34 [some (.ref a), l1, l2, l3] st M Q = rn sc d 13 35 [some (.ref a), l1, l2, l3] (.ref a :: st) M Q := ru_1 rfl rfl rfl rfl rfl
set_option maxRecDepth 100000 in
theorem s13_35 {x : Int32} : rn sc d 13 35 [l0, l1, l2, some (.int x)] st M Q = rn sc d 13 36 [l0, l1, l2, some (.int x)] (.int x :: st) M Q := ru_1 rfl rfl rfl rfl rfl
set_option maxRecDepth 100000 in
theorem s13_36 {x : Int32} : rn sc d 13 36 [l0, l1, some (.int x), l3] st M Q = rn sc d 13 37 [l0, l1, some (.int x), l3] (.int x :: st) M Q := ru_1 rfl rfl rfl rfl rfl
set_option maxRecDepth 100000 in
theorem s13_37 {u v : Int32} : rn sc d 13 37 [l0, l1, l2, l3] (.int v :: .int u :: st) M Q = rn sc d 13 38 [l0, l1, l2, l3] (.int (u - v) :: st) M Q := ru_1 rfl rfl rfl rfl rfl
set_option maxRecDepth 100000 in
theorem s13_38 {a : Nat} {v : Value} : rn sc d 13 38 [l0, l1, l2, l3] (v :: .ref a :: st) M Q = rn_o (hp_pf M a 5 1 v) (fun M' => rn sc d 13 41 [l0, l1, l2, l3] st M' Q) := ru_put rfl rfl rfl
set_option maxRecDepth 100000 in
theorem s13_41 : rn sc d 13 41 [l0, l1, l2, l3] [] M Q = Q none M := rn_ret rfl rfl rfl
set_option maxRecDepth 100000 in
theorem s14_0 {a : Nat} : rn sc d 14 0 [some (.ref a), l1, l2, l3] st M Q = rn sc d 14 1 [some (.ref a), l1, l2, l3] (.ref a :: st) M Q := ru_1 rfl rfl rfl rfl rfl
set_option maxRecDepth 100000 in
theorem s14_1 {a : Nat} : rn sc d 14 1 [l0, l1, l2, l3] (.ref a :: st) M Q = rn_o (hp_f M a 6 1) (fun v => rn sc d 14 4 [l0, l1, l2, l3] (v :: st) M Q) := ru_get rfl rfl
set_option maxRecDepth 100000 in
theorem s14_4 {x : Int32} : rn sc d 14 4 [l0, some (.int x), l2, l3] st M Q = rn sc d 14 5 [l0, some (.int x), l2, l3] (.int x :: st) M Q := ru_1 rfl rfl rfl rfl rfl
set_option maxRecDepth 100000 in
theorem s14_5 {a : Nat} {x0 : Int32} (hw : xm_wt st ≤ 8) (hq : hp_is M a 4) : rn sc (d + 1) 14 5 [l0, l1, l2, l3] (.int x0 :: .ref a :: st) M Q = rn sc d 11 0 [some (.ref a), some (.int x0)] [] M (fun r M' => rn sc (d + 1) 14 8 [l0, l1, l2, l3] (r.toList ++ st) M' Q) := ru_d (ru_iv (as := [.int x0]) rfl rfl rfl (Nat.le_of_ble_eq_true rfl) hw rfl hq)
set_option maxRecDepth 100000 in
theorem s14_8 {a : Nat} : rn sc d 14 8 [l0, l1, l2, l3] (.ref a :: st) M Q = rn sc d 14 9 [l0, l1, l2, some (.ref a)] st M Q := ru_1 rfl rfl rfl rfl rfl
set_option maxRecDepth 100000 in
theorem s14_8N : rn sc d 14 8 [l0, l1, l2, l3] (.null :: st) M Q = rn sc d 14 9 [l0, l1, l2, some .null] st M Q := ru_1 rfl rfl rfl rfl rfl
set_option maxRecDepth 100000 in
theorem s14_9 {a : Nat} : rn sc d 14 9 [l0, l1, l2, some (.ref a)] st M Q = rn sc d 14 10 [l0, l1, l2, some (.ref a)] (.ref a :: st) M Q := ru_1 rfl rfl rfl rfl rfl
set_option maxRecDepth 100000 in
theorem s14_9N : rn sc d 14 9 [l0, l1, l2, some .null] st M Q = rn sc d 14 10 [l0, l1, l2, some .null] (.null :: st) M Q := ru_1 rfl rfl rfl rfl rfl
set_option maxRecDepth 100000 in
theorem s14_10 {a : Nat} : rn sc d 14 10 [l0, l1, l2, l3] (.ref a :: st) M Q = rn sc d 14 17 [l0, l1, l2, l3] st M Q := ru_nn rfl (by decide)
set_option maxRecDepth 100000 in
theorem s14_10N : rn sc d 14 10 [l0, l1, l2, l3] (.null :: st) M Q = rn sc d 14 13 [l0, l1, l2, l3] st M Q := ru_nnN rfl
set_option maxRecDepth 100000 in
theorem s14_13 : rn sc d 14 13 [l0, l1, l2, l3] st M Q = rn sc d 14 14 [l0, l1, l2, l3] (.int (-1) :: st) M Q := ru_k rfl rfl rfl rfl rfl (by decide)
set_option maxRecDepth 100000 in
theorem s14_14 : rn sc d 14 14 [l0, l1, l2, l3] st M Q = rn sc d 14 22 [l0, l1, l2, l3] st M Q := ru_go rfl (by decide)
set_option maxRecDepth 100000 in
theorem s14_17 {a : Nat} : rn sc d 14 17 [l0, l1, l2, some (.ref a)] st M Q = rn sc d 14 18 [l0, l1, l2, some (.ref a)] (.ref a :: st) M Q := ru_1 rfl rfl rfl rfl rfl
set_option maxRecDepth 100000 in
theorem s14_17N : rn sc d 14 17 [l0, l1, l2, some .null] st M Q = rn sc d 14 18 [l0, l1, l2, some .null] (.null :: st) M Q := ru_1 rfl rfl rfl rfl rfl
set_option maxRecDepth 100000 in
theorem s14_18 {x : Int32} : rn sc d 14 18 [l0, l1, some (.int x), l3] st M Q = rn sc d 14 19 [l0, l1, some (.int x), l3] (.int x :: st) M Q := ru_1 rfl rfl rfl rfl rfl
set_option maxRecDepth 100000 in
theorem s14_19 {a : Nat} {x0 : Int32} (hw : xm_wt st ≤ 8) (hq : hp_is M a 5) : rn sc (d + 1) 14 19 [l0, l1, l2, l3] (.int x0 :: .ref a :: st) M Q = rn sc d 15 0 [some (.ref a), some (.int x0)] [] M (fun r M' => rn sc (d + 1) 14 22 [l0, l1, l2, l3] (r.toList ++ st) M' Q) := ru_d (ru_iv (as := [.int x0]) rfl rfl rfl (Nat.le_of_ble_eq_true rfl) hw rfl hq)
set_option maxRecDepth 100000 in
theorem s14_22 {v : Int32} : rn sc d 14 22 [l0, l1, l2, l3] [.int v] M Q = Q (some (.int v)) M := ru_ri rfl rfl
set_option maxRecDepth 100000 in
theorem s15_0 {x : Int32} : rn sc d 15 0 [l0, some (.int x)] st M Q = rn sc d 15 1 [l0, some (.int x)] (.int x :: st) M Q := ru_1 rfl rfl rfl rfl rfl
set_option maxRecDepth 100000 in
theorem s15_1 {x : Int32} : rn sc d 15 1 [l0, l1] (.int x :: st) M Q = if x < 0 then rn sc d 15 21 [l0, l1] st M Q else rn sc d 15 4 [l0, l1] st M Q := ru_if pc_lt rfl (by decide)
set_option maxRecDepth 100000 in
theorem s15_4 {x : Int32} : rn sc d 15 4 [l0, some (.int x)] st M Q = rn sc d 15 5 [l0, some (.int x)] (.int x :: st) M Q := ru_1 rfl rfl rfl rfl rfl
set_option maxRecDepth 100000 in
theorem s15_5 {a : Nat} : rn sc d 15 5 [some (.ref a), l1] st M Q = rn sc d 15 6 [some (.ref a), l1] (.ref a :: st) M Q := ru_1 rfl rfl rfl rfl rfl
set_option maxRecDepth 100000 in
theorem s15_6 {a : Nat} : rn sc d 15 6 [l0, l1] (.ref a :: st) M Q = rn_o (hp_f M a 5 1) (fun v => rn sc d 15 9 [l0, l1] (v :: st) M Q) := ru_get rfl rfl
set_option maxRecDepth 100000 in
theorem s15_9 {u v : Int32} : rn sc d 15 9 [l0, l1] (.int v :: .int u :: st) M Q = if v ≤ u then rn sc d 15 21 [l0, l1] st M Q else rn sc d 15 12 [l0, l1] st M Q := ru_ic pc_ge rfl (by decide)
set_option maxRecDepth 100000 in
theorem s15_12 {a : Nat} : rn sc d 15 12 [some (.ref a), l1] st M Q = rn sc d 15 13 [some (.ref a), l1] (.ref a :: st) M Q := ru_1 rfl rfl rfl rfl rfl
set_option maxRecDepth 100000 in
theorem s15_13 {a : Nat} : rn sc d 15 13 [l0, l1] (.ref a :: st) M Q = rn_o (hp_f M a 5 0) (fun v => rn sc d 15 16 [l0, l1] (v :: st) M Q) := ru_get rfl rfl
set_option maxRecDepth 100000 in
theorem s15_16 {x : Int32} : rn sc d 15 16 [l0, some (.int x)] st M Q = rn sc d 15 17 [l0, some (.int x)] (.int x :: st) M Q := ru_1 rfl rfl rfl rfl rfl
set_option maxRecDepth 100000 in
theorem s15_17 {a : Nat} {j : Int32} : rn sc d 15 17 [l0, l1] (.int j :: .ref a :: st) M Q = rn_o (hp_i sc M a j) (fun v => rn sc d 15 18 [l0, l1] (.int v :: st) M Q) := ru_iald rfl
set_option maxRecDepth 100000 in
theorem s15_18 : rn sc d 15 18 [l0, l1] st M Q = rn sc d 15 22 [l0, l1] st M Q := ru_go rfl (by decide)
set_option maxRecDepth 100000 in
theorem s15_21 : rn sc d 15 21 [l0, l1] st M Q = rn sc d 15 22 [l0, l1] (.int (-1) :: st) M Q := ru_k rfl rfl rfl rfl rfl (by decide)
set_option maxRecDepth 100000 in
theorem s15_22 {v : Int32} : rn sc d 15 22 [l0, l1] [.int v] M Q = Q (some (.int v)) M := ru_ri rfl rfl
set_option maxRecDepth 100000 in
theorem s16_0 {a : Nat} : rn sc d 16 0 [some (.ref a), l1, l2] st M Q = rn sc d 16 1 [some (.ref a), l1, l2] (.ref a :: st) M Q := ru_1 rfl rfl rfl rfl rfl
set_option maxRecDepth 100000 in
theorem s16_1 {a : Nat} : rn sc d 16 1 [l0, l1, l2] (.ref a :: st) M Q = rn_o (hp_f M a 6 1) (fun v => rn sc d 16 4 [l0, l1, l2] (v :: st) M Q) := ru_get rfl rfl
set_option maxRecDepth 100000 in
theorem s16_4 {x : Int32} : rn sc d 16 4 [l0, some (.int x), l2] st M Q = rn sc d 16 5 [l0, some (.int x), l2] (.int x :: st) M Q := ru_1 rfl rfl rfl rfl rfl
set_option maxRecDepth 100000 in
theorem s16_5 {a : Nat} {x0 : Int32} (hw : xm_wt st ≤ 8) (hq : hp_is M a 4) : rn sc (d + 1) 16 5 [l0, l1, l2] (.int x0 :: .ref a :: st) M Q = rn sc d 11 0 [some (.ref a), some (.int x0)] [] M (fun r M' => rn sc (d + 1) 16 8 [l0, l1, l2] (r.toList ++ st) M' Q) := ru_d (ru_iv (as := [.int x0]) rfl rfl rfl (Nat.le_of_ble_eq_true rfl) hw rfl hq)
set_option maxRecDepth 100000 in
theorem s16_8 {a : Nat} : rn sc d 16 8 [l0, l1, l2] (.ref a :: st) M Q = rn sc d 16 9 [l0, l1, some (.ref a)] st M Q := ru_1 rfl rfl rfl rfl rfl
set_option maxRecDepth 100000 in
theorem s16_8N : rn sc d 16 8 [l0, l1, l2] (.null :: st) M Q = rn sc d 16 9 [l0, l1, some .null] st M Q := ru_1 rfl rfl rfl rfl rfl
set_option maxRecDepth 100000 in
theorem s16_9 {a : Nat} : rn sc d 16 9 [l0, l1, some (.ref a)] st M Q = rn sc d 16 10 [l0, l1, some (.ref a)] (.ref a :: st) M Q := ru_1 rfl rfl rfl rfl rfl
set_option maxRecDepth 100000 in
theorem s16_9N : rn sc d 16 9 [l0, l1, some .null] st M Q = rn sc d 16 10 [l0, l1, some .null] (.null :: st) M Q := ru_1 rfl rfl rfl rfl rfl
set_option maxRecDepth 100000 in
theorem s16_10 {a : Nat} : rn sc d 16 10 [l0, l1, l2] (.ref a :: st) M Q = rn sc d 16 17 [l0, l1, l2] st M Q := ru_nn rfl (by decide)
set_option maxRecDepth 100000 in
theorem s16_10N : rn sc d 16 10 [l0, l1, l2] (.null :: st) M Q = rn sc d 16 13 [l0, l1, l2] st M Q := ru_nnN rfl
set_option maxRecDepth 100000 in
theorem s16_13 : rn sc d 16 13 [l0, l1, l2] st M Q = rn sc d 16 14 [l0, l1, l2] (.int (-1) :: st) M Q := ru_k rfl rfl rfl rfl rfl (by decide)
set_option maxRecDepth 100000 in
theorem s16_14 : rn sc d 16 14 [l0, l1, l2] st M Q = rn sc d 16 21 [l0, l1, l2] st M Q := ru_go rfl (by decide)
set_option maxRecDepth 100000 in
theorem s16_17 {a : Nat} : rn sc d 16 17 [l0, l1, some (.ref a)] st M Q = rn sc d 16 18 [l0, l1, some (.ref a)] (.ref a :: st) M Q := ru_1 rfl rfl rfl rfl rfl
set_option maxRecDepth 100000 in
theorem s16_17N : rn sc d 16 17 [l0, l1, some .null] st M Q = rn sc d 16 18 [l0, l1, some .null] (.null :: st) M Q := ru_1 rfl rfl rfl rfl rfl
set_option maxRecDepth 100000 in
theorem s16_18 {a : Nat} : rn sc d 16 18 [l0, l1, l2] (.ref a :: st) M Q = rn_o (hp_f M a 5 1) (fun v => rn sc d 16 21 [l0, l1, l2] (v :: st) M Q) := ru_get rfl rfl
set_option maxRecDepth 100000 in
theorem s16_21 {v : Int32} : rn sc d 16 21 [l0, l1, l2] [.int v] M Q = Q (some (.int v)) M := ru_ri rfl rfl
set_option maxRecDepth 100000 in
theorem s17_0 {a : Nat} : rn sc d 17 0 [some (.ref a), l1, l2, l3] st M Q = rn sc d 17 1 [some (.ref a), l1, l2, l3] (.ref a :: st) M Q := ru_1 rfl rfl rfl rfl rfl
set_option maxRecDepth 100000 in
theorem s17_1 {a : Nat} : rn sc d 17 1 [l0, l1, l2, l3] (.ref a :: st) M Q = rn_o (hp_f M a 6 1) (fun v => rn sc d 17 4 [l0, l1, l2, l3] (v :: st) M Q) := ru_get rfl rfl
set_option maxRecDepth 100000 in
theorem s17_4 {x : Int32} : rn sc d 17 4 [l0, some (.int x), l2, l3] st M Q = rn sc d 17 5 [l0, some (.int x), l2, l3] (.int x :: st) M Q := ru_1 rfl rfl rfl rfl rfl
set_option maxRecDepth 100000 in
theorem s17_5 {x : Int32} : rn sc d 17 5 [l0, l1, some (.int x), l3] st M Q = rn sc d 17 6 [l0, l1, some (.int x), l3] (.int x :: st) M Q := ru_1 rfl rfl rfl rfl rfl
set_option maxRecDepth 100000 in
theorem s17_6 {x : Int32} : rn sc d 17 6 [l0, l1, l2, some (.int x)] st M Q = rn sc d 17 7 [l0, l1, l2, some (.int x)] (.int x :: st) M Q := ru_1 rfl rfl rfl rfl rfl
set_option maxRecDepth 100000 in
theorem s17_7 {a : Nat} : rn sc d 17 7 [some (.ref a), l1, l2, l3] st M Q = rn sc d 17 8 [some (.ref a), l1, l2, l3] (.ref a :: st) M Q := ru_1 rfl rfl rfl rfl rfl
set_option maxRecDepth 100000 in
theorem s17_8 {a : Nat} : rn sc d 17 8 [l0, l1, l2, l3] (.ref a :: st) M Q = rn_o (hp_f M a 6 0) (fun v => rn sc d 17 11 [l0, l1, l2, l3] (v :: st) M Q) := ru_get rfl rfl
set_option maxRecDepth 100000 in
theorem s17_11 {a : Nat} {x0 : Int32} {x1 : Int32} {x2 : Int32} {b3 : Nat} (hw : xm_wt st ≤ 8) (hq : hp_is M a 4) : rn sc (d + 1) 17 11 [l0, l1, l2, l3] (.ref b3 :: .int x2 :: .int x1 :: .int x0 :: .ref a :: st) M Q = rn sc d 18 0 [some (.ref a), some (.int x0), some (.int x1), some (.int x2), some (.ref b3), none] [] M (fun r M' => rn sc (d + 1) 17 14 [l0, l1, l2, l3] (r.toList ++ st) M' Q) := ru_d (ru_iv (as := [.ref b3, .int x2, .int x1, .int x0]) rfl rfl rfl (Nat.le_of_ble_eq_true rfl) hw rfl hq)
set_option maxRecDepth 100000 in
theorem s17_11N {a : Nat} {x0 : Int32} {x1 : Int32} {x2 : Int32} (hw : xm_wt st ≤ 8) (hq : hp_is M a 4) : rn sc (d + 1) 17 11 [l0, l1, l2, l3] (.null :: .int x2 :: .int x1 :: .int x0 :: .ref a :: st) M Q = rn sc d 18 0 [some (.ref a), some (.int x0), some (.int x1), some (.int x2), some (.null), none] [] M (fun r M' => rn sc (d + 1) 17 14 [l0, l1, l2, l3] (r.toList ++ st) M' Q) := ru_d (ru_iv (as := [.null, .int x2, .int x1, .int x0]) rfl rfl rfl (Nat.le_of_ble_eq_true rfl) hw rfl hq)
set_option maxRecDepth 100000 in
theorem s17_14 {v : Int32} : rn sc d 17 14 [l0, l1, l2, l3] [.int v] M Q = Q (some (.int v)) M := ru_ri rfl rfl
set_option maxRecDepth 100000 in
theorem s18_0 {a : Nat} : rn sc d 18 0 [some (.ref a), l1, l2, l3, l4, l5] st M Q = rn sc d 18 1 [some (.ref a), l1, l2, l3, l4, l5] (.ref a :: st) M Q := ru_1 rfl rfl rfl rfl rfl
set_option maxRecDepth 100000 in
theorem s18_1 {a : Nat} : rn sc d 18 1 [l0, l1, l2, l3, l4, l5] (.ref a :: st) M Q = rn_o (hp_f M a 4 2) (fun v => rn sc d 18 4 [l0, l1, l2, l3, l4, l5] (v :: st) M Q) := ru_get rfl rfl
set_option maxRecDepth 100000 in
theorem s18_4 : rn sc d 18 4 [l0, l1, l2, l3, l4, l5] st M Q = rn sc d 18 6 [l0, l1, l2, l3, l4, l5] (.int 64 :: st) M Q := ru_k rfl rfl rfl rfl rfl (by decide)
set_option maxRecDepth 100000 in
theorem s18_6 {u v : Int32} : rn sc d 18 6 [l0, l1, l2, l3, l4, l5] (.int v :: .int u :: st) M Q = if v ≤ u then rn sc d 18 29 [l0, l1, l2, l3, l4, l5] st M Q else rn sc d 18 9 [l0, l1, l2, l3, l4, l5] st M Q := ru_ic pc_ge rfl (by decide)
set_option maxRecDepth 100000 in
theorem s18_9 {x : Int32} : rn sc d 18 9 [l0, some (.int x), l2, l3, l4, l5] st M Q = rn sc d 18 10 [l0, some (.int x), l2, l3, l4, l5] (.int x :: st) M Q := ru_1 rfl rfl rfl rfl rfl
set_option maxRecDepth 100000 in
theorem s18_10 {x : Int32} : rn sc d 18 10 [l0, l1, l2, l3, l4, l5] (.int x :: st) M Q = if x < 0 then rn sc d 18 29 [l0, l1, l2, l3, l4, l5] st M Q else rn sc d 18 13 [l0, l1, l2, l3, l4, l5] st M Q := ru_if pc_lt rfl (by decide)
set_option maxRecDepth 100000 in
theorem s18_13 {x : Int32} : rn sc d 18 13 [l0, some (.int x), l2, l3, l4, l5] st M Q = rn sc d 18 14 [l0, some (.int x), l2, l3, l4, l5] (.int x :: st) M Q := ru_1 rfl rfl rfl rfl rfl
set_option maxRecDepth 100000 in
theorem s18_14 : rn sc d 18 14 [l0, l1, l2, l3, l4, l5] st M Q = rn sc d 18 16 [l0, l1, l2, l3, l4, l5] (.int 23 :: st) M Q := ru_k rfl rfl rfl rfl rfl (by decide)
set_option maxRecDepth 100000 in
theorem s18_16 {u v : Int32} : rn sc d 18 16 [l0, l1, l2, l3, l4, l5] (.int v :: .int u :: st) M Q = if v < u then rn sc d 18 29 [l0, l1, l2, l3, l4, l5] st M Q else rn sc d 18 19 [l0, l1, l2, l3, l4, l5] st M Q := ru_ic pc_gt rfl (by decide)
set_option maxRecDepth 100000 in
theorem s18_19 {a : Nat} : rn sc d 18 19 [some (.ref a), l1, l2, l3, l4, l5] st M Q = rn sc d 18 20 [some (.ref a), l1, l2, l3, l4, l5] (.ref a :: st) M Q := ru_1 rfl rfl rfl rfl rfl
set_option maxRecDepth 100000 in
theorem s18_20 {x : Int32} : rn sc d 18 20 [l0, some (.int x), l2, l3, l4, l5] st M Q = rn sc d 18 21 [l0, some (.int x), l2, l3, l4, l5] (.int x :: st) M Q := ru_1 rfl rfl rfl rfl rfl
set_option maxRecDepth 100000 in
theorem s18_21 {x : Int32} : rn sc d 18 21 [l0, l1, some (.int x), l3, l4, l5] st M Q = rn sc d 18 22 [l0, l1, some (.int x), l3, l4, l5] (.int x :: st) M Q := ru_1 rfl rfl rfl rfl rfl
set_option maxRecDepth 100000 in
theorem s18_22 {x : Int32} : rn sc d 18 22 [l0, l1, l2, some (.int x), l4, l5] st M Q = rn sc d 18 23 [l0, l1, l2, some (.int x), l4, l5] (.int x :: st) M Q := ru_1 rfl rfl rfl rfl rfl
set_option maxRecDepth 100000 in
theorem s18_23 {a : Nat} {x0 : Int32} {x1 : Int32} {x2 : Int32} (hw : xm_wt st ≤ 8) (hq : hp_is M a 4) : rn sc (d + 1) 18 23 [l0, l1, l2, l3, l4, l5] (.int x2 :: .int x1 :: .int x0 :: .ref a :: st) M Q = rn sc d 19 0 [some (.ref a), some (.int x0), some (.int x1), some (.int x2)] [] M (fun r M' => rn sc (d + 1) 18 26 [l0, l1, l2, l3, l4, l5] (r.toList ++ st) M' Q) := ru_d (ru_iv (as := [.int x2, .int x1, .int x0]) rfl rfl rfl (Nat.le_of_ble_eq_true rfl) hw rfl hq)
set_option maxRecDepth 100000 in
theorem s18_26 {x : Int32} : rn sc d 18 26 [l0, l1, l2, l3, l4, l5] (.int x :: st) M Q = if ¬ x = 0 then rn sc d 18 31 [l0, l1, l2, l3, l4, l5] st M Q else rn sc d 18 29 [l0, l1, l2, l3, l4, l5] st M Q := ru_if pc_ne rfl (by decide)
set_option maxRecDepth 100000 in
theorem s18_29 : rn sc d 18 29 [l0, l1, l2, l3, l4, l5] st M Q = rn sc d 18 30 [l0, l1, l2, l3, l4, l5] (.int (-1) :: st) M Q := ru_k rfl rfl rfl rfl rfl (by decide)
set_option maxRecDepth 100000 in
theorem s18_30 {v : Int32} : rn sc d 18 30 [l0, l1, l2, l3, l4, l5] [.int v] M Q = Q (some (.int v)) M := ru_ri rfl rfl
set_option maxRecDepth 100000 in
theorem s18_31 {a : Nat} : rn sc d 18 31 [some (.ref a), l1, l2, l3, l4, l5] st M Q = rn sc d 18 32 [some (.ref a), l1, l2, l3, l4, l5] (.ref a :: st) M Q := ru_1 rfl rfl rfl rfl rfl
set_option maxRecDepth 100000 in
theorem s18_32 {a : Nat} : rn sc d 18 32 [l0, l1, l2, l3, l4, l5] (.ref a :: st) M Q = rn_o (hp_f M a 4 1) (fun v => rn sc d 18 35 [l0, l1, l2, l3, l4, l5] (v :: st) M Q) := ru_get rfl rfl
set_option maxRecDepth 100000 in
theorem s18_35 {a : Nat} : rn sc d 18 35 [some (.ref a), l1, l2, l3, l4, l5] st M Q = rn sc d 18 36 [some (.ref a), l1, l2, l3, l4, l5] (.ref a :: st) M Q := ru_1 rfl rfl rfl rfl rfl
set_option maxRecDepth 100000 in
theorem s18_36 {a : Nat} : rn sc d 18 36 [l0, l1, l2, l3, l4, l5] (.ref a :: st) M Q = rn_o (hp_f M a 4 2) (fun v => rn sc d 18 39 [l0, l1, l2, l3, l4, l5] (v :: st) M Q) := ru_get rfl rfl
set_option maxRecDepth 100000 in
theorem s18_39 {a : Nat} {j : Int32} : rn sc d 18 39 [l0, l1, l2, l3, l4, l5] (.int j :: .ref a :: st) M Q = rn_o (hp_q M a j) (fun v => rn sc d 18 40 [l0, l1, l2, l3, l4, l5] (v :: st) M Q) := ru_aald rfl
set_option maxRecDepth 100000 in
theorem s18_40 {a : Nat} : rn sc d 18 40 [l0, l1, l2, l3, l4, l5] (.ref a :: st) M Q = rn sc d 18 42 [l0, l1, l2, l3, l4, some (.ref a)] st M Q := ru_1 rfl rfl rfl rfl rfl
set_option maxRecDepth 100000 in
theorem s18_40N : rn sc d 18 40 [l0, l1, l2, l3, l4, l5] (.null :: st) M Q = rn sc d 18 42 [l0, l1, l2, l3, l4, some .null] st M Q := ru_1 rfl rfl rfl rfl rfl
set_option maxRecDepth 100000 in
theorem s18_42 {a : Nat} : rn sc d 18 42 [l0, l1, l2, l3, l4, some (.ref a)] st M Q = rn sc d 18 44 [l0, l1, l2, l3, l4, some (.ref a)] (.ref a :: st) M Q := ru_1 rfl rfl rfl rfl rfl
set_option maxRecDepth 100000 in
theorem s18_42N : rn sc d 18 42 [l0, l1, l2, l3, l4, some .null] st M Q = rn sc d 18 44 [l0, l1, l2, l3, l4, some .null] (.null :: st) M Q := ru_1 rfl rfl rfl rfl rfl
set_option maxRecDepth 100000 in
theorem s18_44 {x : Int32} : rn sc d 18 44 [l0, some (.int x), l2, l3, l4, l5] st M Q = rn sc d 18 45 [l0, some (.int x), l2, l3, l4, l5] (.int x :: st) M Q := ru_1 rfl rfl rfl rfl rfl
set_option maxRecDepth 100000 in
theorem s18_45 {a : Nat} {v : Value} : rn sc d 18 45 [l0, l1, l2, l3, l4, l5] (v :: .ref a :: st) M Q = rn_o (hp_pf M a 0 1 v) (fun M' => rn sc d 18 48 [l0, l1, l2, l3, l4, l5] st M' Q) := ru_put rfl rfl rfl
set_option maxRecDepth 100000 in
theorem s18_48 {a : Nat} : rn sc d 18 48 [l0, l1, l2, l3, l4, some (.ref a)] st M Q = rn sc d 18 50 [l0, l1, l2, l3, l4, some (.ref a)] (.ref a :: st) M Q := ru_1 rfl rfl rfl rfl rfl
set_option maxRecDepth 100000 in
theorem s18_48N : rn sc d 18 48 [l0, l1, l2, l3, l4, some .null] st M Q = rn sc d 18 50 [l0, l1, l2, l3, l4, some .null] (.null :: st) M Q := ru_1 rfl rfl rfl rfl rfl
set_option maxRecDepth 100000 in
theorem s18_50 {x : Int32} : rn sc d 18 50 [l0, some (.int x), l2, l3, l4, l5] st M Q = rn sc d 18 51 [l0, some (.int x), l2, l3, l4, l5] (.int x :: st) M Q := ru_1 rfl rfl rfl rfl rfl
set_option maxRecDepth 100000 in
theorem s18_51 {x0 : Int32} (hw : xm_wt st ≤ 8) : rn sc (d + 1) 18 51 [l0, l1, l2, l3, l4, l5] (.int x0 :: st) M Q = rn sc d 21 0 [some (.int x0)] [] M (fun r M' => rn sc (d + 1) 18 54 [l0, l1, l2, l3, l4, l5] (r.toList ++ st) M' Q) := ru_d (ru_st (as := [.int x0]) rfl rfl rfl (Nat.le_of_ble_eq_true rfl) hw rfl)
set_option maxRecDepth 100000 in
theorem s18_54 {x : Int32} : rn sc d 18 54 [l0, l1, l2, l3, l4, l5] (.int x :: st) M Q = if x = 0 then rn sc d 18 61 [l0, l1, l2, l3, l4, l5] st M Q else rn sc d 18 57 [l0, l1, l2, l3, l4, l5] st M Q := ru_if pc_eq rfl (by decide)
set_option maxRecDepth 100000 in
theorem s18_57 {x : Int32} : rn sc d 18 57 [l0, l1, some (.int x), l3, l4, l5] st M Q = rn sc d 18 58 [l0, l1, some (.int x), l3, l4, l5] (.int x :: st) M Q := ru_1 rfl rfl rfl rfl rfl
set_option maxRecDepth 100000 in
theorem s18_58 : rn sc d 18 58 [l0, l1, l2, l3, l4, l5] st M Q = rn sc d 18 62 [l0, l1, l2, l3, l4, l5] st M Q := ru_go rfl (by decide)
set_option maxRecDepth 100000 in
theorem s18_61 : rn sc d 18 61 [l0, l1, l2, l3, l4, l5] st M Q = rn sc d 18 62 [l0, l1, l2, l3, l4, l5] (.int 0 :: st) M Q := ru_k rfl rfl rfl rfl rfl (by decide)
set_option maxRecDepth 100000 in
theorem s18_62 {a : Nat} {v : Value} : rn sc d 18 62 [l0, l1, l2, l3, l4, l5] (v :: .ref a :: st) M Q = rn_o (hp_pf M a 0 2 v) (fun M' => rn sc d 18 65 [l0, l1, l2, l3, l4, l5] st M' Q) := ru_put rfl rfl rfl
set_option maxRecDepth 100000 in
theorem s18_65 {a : Nat} : rn sc d 18 65 [l0, l1, l2, l3, l4, some (.ref a)] st M Q = rn sc d 18 67 [l0, l1, l2, l3, l4, some (.ref a)] (.ref a :: st) M Q := ru_1 rfl rfl rfl rfl rfl
set_option maxRecDepth 100000 in
theorem s18_65N : rn sc d 18 65 [l0, l1, l2, l3, l4, some .null] st M Q = rn sc d 18 67 [l0, l1, l2, l3, l4, some .null] (.null :: st) M Q := ru_1 rfl rfl rfl rfl rfl
set_option maxRecDepth 100000 in
theorem s18_67 {x : Int32} : rn sc d 18 67 [l0, some (.int x), l2, l3, l4, l5] st M Q = rn sc d 18 68 [l0, some (.int x), l2, l3, l4, l5] (.int x :: st) M Q := ru_1 rfl rfl rfl rfl rfl
set_option maxRecDepth 100000 in
theorem s18_68 {x0 : Int32} (hw : xm_wt st ≤ 8) : rn sc (d + 1) 18 68 [l0, l1, l2, l3, l4, l5] (.int x0 :: st) M Q = rn sc d 22 0 [some (.int x0)] [] M (fun r M' => rn sc (d + 1) 18 71 [l0, l1, l2, l3, l4, l5] (r.toList ++ st) M' Q) := ru_d (ru_st (as := [.int x0]) rfl rfl rfl (Nat.le_of_ble_eq_true rfl) hw rfl)
set_option maxRecDepth 100000 in
theorem s18_71 {x : Int32} : rn sc d 18 71 [l0, l1, l2, l3, l4, l5] (.int x :: st) M Q = if x = 0 then rn sc d 18 78 [l0, l1, l2, l3, l4, l5] st M Q else rn sc d 18 74 [l0, l1, l2, l3, l4, l5] st M Q := ru_if pc_eq rfl (by decide)
set_option maxRecDepth 100000 in
theorem s18_74 {x : Int32} : rn sc d 18 74 [l0, l1, l2, some (.int x), l4, l5] st M Q = rn sc d 18 75 [l0, l1, l2, some (.int x), l4, l5] (.int x :: st) M Q := ru_1 rfl rfl rfl rfl rfl
set_option maxRecDepth 100000 in
theorem s18_75 : rn sc d 18 75 [l0, l1, l2, l3, l4, l5] st M Q = rn sc d 18 79 [l0, l1, l2, l3, l4, l5] st M Q := ru_go rfl (by decide)
set_option maxRecDepth 100000 in
theorem s18_78 : rn sc d 18 78 [l0, l1, l2, l3, l4, l5] st M Q = rn sc d 18 79 [l0, l1, l2, l3, l4, l5] (.int 0 :: st) M Q := ru_k rfl rfl rfl rfl rfl (by decide)
set_option maxRecDepth 100000 in
theorem s18_79 {a : Nat} {v : Value} : rn sc d 18 79 [l0, l1, l2, l3, l4, l5] (v :: .ref a :: st) M Q = rn_o (hp_pf M a 0 3 v) (fun M' => rn sc d 18 82 [l0, l1, l2, l3, l4, l5] st M' Q) := ru_put rfl rfl rfl
set_option maxRecDepth 100000 in
theorem s18_82 {a : Nat} : rn sc d 18 82 [l0, l1, l2, l3, l4, some (.ref a)] st M Q = rn sc d 18 84 [l0, l1, l2, l3, l4, some (.ref a)] (.ref a :: st) M Q := ru_1 rfl rfl rfl rfl rfl
set_option maxRecDepth 100000 in
theorem s18_82N : rn sc d 18 82 [l0, l1, l2, l3, l4, some .null] st M Q = rn sc d 18 84 [l0, l1, l2, l3, l4, some .null] (.null :: st) M Q := ru_1 rfl rfl rfl rfl rfl
set_option maxRecDepth 100000 in
theorem s18_84 {a : Nat} : rn sc d 18 84 [l0, l1, l2, l3, l4, l5] (.ref a :: st) M Q = rn_o (hp_f M a 0 0) (fun v => rn sc d 18 87 [l0, l1, l2, l3, l4, l5] (v :: st) M Q) := ru_get rfl rfl
set_option maxRecDepth 100000 in
theorem s18_87 : rn sc d 18 87 [l0, l1, l2, l3, l4, l5] st M Q = rn sc d 18 88 [l0, l1, l2, l3, l4, l5] (.int 0 :: st) M Q := ru_k rfl rfl rfl rfl rfl (by decide)
set_option maxRecDepth 100000 in
theorem s18_88 {a : Nat} {v : Value} : rn sc d 18 88 [l0, l1, l2, l3, l4, l5] (v :: .ref a :: st) M Q = rn_o (hp_pf M a 5 1 v) (fun M' => rn sc d 18 91 [l0, l1, l2, l3, l4, l5] st M' Q) := ru_put rfl rfl rfl
set_option maxRecDepth 100000 in
theorem s18_91 {x : Int32} : rn sc d 18 91 [l0, some (.int x), l2, l3, l4, l5] st M Q = rn sc d 18 92 [l0, some (.int x), l2, l3, l4, l5] (.int x :: st) M Q := ru_1 rfl rfl rfl rfl rfl
set_option maxRecDepth 100000 in
theorem s18_92 : rn sc d 18 92 [l0, l1, l2, l3, l4, l5] st M Q = rn sc d 18 93 [l0, l1, l2, l3, l4, l5] (.int 4 :: st) M Q := ru_k rfl rfl rfl rfl rfl (by decide)
set_option maxRecDepth 100000 in
theorem s18_93 {u v : Int32} : rn sc d 18 93 [l0, l1, l2, l3, l4, l5] (.int v :: .int u :: st) M Q = if v < u then rn sc d 18 112 [l0, l1, l2, l3, l4, l5] st M Q else rn sc d 18 96 [l0, l1, l2, l3, l4, l5] st M Q := ru_ic pc_gt rfl (by decide)
set_option maxRecDepth 100000 in
theorem s18_96 {a : Nat} : rn sc d 18 96 [l0, l1, l2, l3, l4, some (.ref a)] st M Q = rn sc d 18 98 [l0, l1, l2, l3, l4, some (.ref a)] (.ref a :: st) M Q := ru_1 rfl rfl rfl rfl rfl
set_option maxRecDepth 100000 in
theorem s18_96N : rn sc d 18 96 [l0, l1, l2, l3, l4, some .null] st M Q = rn sc d 18 98 [l0, l1, l2, l3, l4, some .null] (.null :: st) M Q := ru_1 rfl rfl rfl rfl rfl
set_option maxRecDepth 100000 in
theorem s18_98 {a : Nat} : rn sc d 18 98 [l0, l1, l2, l3, l4, l5] (.ref a :: st) M Q = rn_o (hp_f M a 0 0) (fun v => rn sc d 18 101 [l0, l1, l2, l3, l4, l5] (v :: st) M Q) := ru_get rfl rfl
set_option maxRecDepth 100000 in
theorem s18_101 {a : Nat} : rn sc d 18 101 [l0, l1, l2, l3, some (.ref a), l5] st M Q = rn sc d 18 103 [l0, l1, l2, l3, some (.ref a), l5] (.ref a :: st) M Q := ru_1 rfl rfl rfl rfl rfl
set_option maxRecDepth 100000 in
theorem s18_101N : rn sc d 18 101 [l0, l1, l2, l3, some .null, l5] st M Q = rn sc d 18 103 [l0, l1, l2, l3, some .null, l5] (.null :: st) M Q := ru_1 rfl rfl rfl rfl rfl
set_option maxRecDepth 100000 in
theorem s18_103 {a : Nat} {b0 : Nat} (hw : xm_wt st ≤ 8) (hq : hp_is M a 5) : rn sc (d + 1) 18 103 [l0, l1, l2, l3, l4, l5] (.ref b0 :: .ref a :: st) M Q = rn sc d 12 0 [some (.ref a), some (.ref b0)] [] M (fun r M' => rn sc (d + 1) 18 106 [l0, l1, l2, l3, l4, l5] (r.toList ++ st) M' Q) := ru_d (ru_iv (as := [.ref b0]) rfl rfl rfl (Nat.le_of_ble_eq_true rfl) hw rfl hq)
set_option maxRecDepth 100000 in
theorem s18_103N {a : Nat}  (hw : xm_wt st ≤ 8) (hq : hp_is M a 5) : rn sc (d + 1) 18 103 [l0, l1, l2, l3, l4, l5] (.null :: .ref a :: st) M Q = rn sc d 12 0 [some (.ref a), some (.null)] [] M (fun r M' => rn sc (d + 1) 18 106 [l0, l1, l2, l3, l4, l5] (r.toList ++ st) M' Q) := ru_d (ru_iv (as := [.null]) rfl rfl rfl (Nat.le_of_ble_eq_true rfl) hw rfl hq)
set_option maxRecDepth 100000 in
theorem s18_106 {a : Nat} : rn sc d 18 106 [l0, l1, l2, l3, some (.ref a), l5] st M Q = rn sc d 18 108 [l0, l1, l2, l3, some (.ref a), l5] (.ref a :: st) M Q := ru_1 rfl rfl rfl rfl rfl
set_option maxRecDepth 100000 in
theorem s18_106N : rn sc d 18 106 [l0, l1, l2, l3, some .null, l5] st M Q = rn sc d 18 108 [l0, l1, l2, l3, some .null, l5] (.null :: st) M Q := ru_1 rfl rfl rfl rfl rfl
set_option maxRecDepth 100000 in
theorem s18_108 : rn sc d 18 108 [l0, l1, l2, l3, l4, l5] st M Q = rn sc d 18 109 [l0, l1, l2, l3, l4, l5] (.int 0 :: st) M Q := ru_k rfl rfl rfl rfl rfl (by decide)
set_option maxRecDepth 100000 in
theorem s18_109 {a : Nat} {v : Value} : rn sc d 18 109 [l0, l1, l2, l3, l4, l5] (v :: .ref a :: st) M Q = rn_o (hp_pf M a 5 1 v) (fun M' => rn sc d 18 112 [l0, l1, l2, l3, l4, l5] st M' Q) := ru_put rfl rfl rfl
set_option maxRecDepth 100000 in
theorem s18_112 {a : Nat} : rn sc d 18 112 [some (.ref a), l1, l2, l3, l4, l5] st M Q = rn sc d 18 113 [some (.ref a), l1, l2, l3, l4, l5] (.ref a :: st) M Q := ru_1 rfl rfl rfl rfl rfl
set_option maxRecDepth 100000 in
theorem s18_113 {a : Nat} : rn sc d 18 113 [l0, l1, l2, l3, l4, l5] (.ref a :: st) M Q = rn sc d 18 114 [l0, l1, l2, l3, l4, l5] (.ref a :: .ref a :: st) M Q := ru_1 rfl rfl rfl rfl rfl
set_option maxRecDepth 100000 in
theorem s18_113I {x : Int32} : rn sc d 18 113 [l0, l1, l2, l3, l4, l5] (.int x :: st) M Q = rn sc d 18 114 [l0, l1, l2, l3, l4, l5] (.int x :: .int x :: st) M Q := ru_1 rfl rfl rfl rfl rfl
set_option maxRecDepth 100000 in
theorem s18_114 {a : Nat} : rn sc d 18 114 [l0, l1, l2, l3, l4, l5] (.ref a :: st) M Q = rn_o (hp_f M a 4 2) (fun v => rn sc d 18 117 [l0, l1, l2, l3, l4, l5] (v :: st) M Q) := ru_get rfl rfl
set_option maxRecDepth 100000 in
theorem s18_117 : rn sc d 18 117 [l0, l1, l2, l3, l4, l5] st M Q = rn sc d 18 118 [l0, l1, l2, l3, l4, l5] (.int 1 :: st) M Q := ru_k rfl rfl rfl rfl rfl (by decide)
set_option maxRecDepth 100000 in
theorem s18_118 {u v : Int32} : rn sc d 18 118 [l0, l1, l2, l3, l4, l5] (.int v :: .int u :: st) M Q = rn sc d 18 119 [l0, l1, l2, l3, l4, l5] (.int (u + v) :: st) M Q := ru_1 rfl rfl rfl rfl rfl
set_option maxRecDepth 100000 in
theorem s18_119 {a : Nat} {v : Value} : rn sc d 18 119 [l0, l1, l2, l3, l4, l5] (v :: .ref a :: st) M Q = rn_o (hp_pf M a 4 2 v) (fun M' => rn sc d 18 122 [l0, l1, l2, l3, l4, l5] st M' Q) := ru_put rfl rfl rfl
set_option maxRecDepth 100000 in
theorem s18_122 {a : Nat} : rn sc d 18 122 [some (.ref a), l1, l2, l3, l4, l5] st M Q = rn sc d 18 123 [some (.ref a), l1, l2, l3, l4, l5] (.ref a :: st) M Q := ru_1 rfl rfl rfl rfl rfl
set_option maxRecDepth 100000 in
theorem s18_123 {a : Nat} : rn sc d 18 123 [l0, l1, l2, l3, l4, l5] (.ref a :: st) M Q = rn_o (hp_f M a 4 2) (fun v => rn sc d 18 126 [l0, l1, l2, l3, l4, l5] (v :: st) M Q) := ru_get rfl rfl
set_option maxRecDepth 100000 in
theorem s18_126 : rn sc d 18 126 [l0, l1, l2, l3, l4, l5] st M Q = rn sc d 18 127 [l0, l1, l2, l3, l4, l5] (.int 1 :: st) M Q := ru_k rfl rfl rfl rfl rfl (by decide)
set_option maxRecDepth 100000 in
theorem s18_127 {u v : Int32} : rn sc d 18 127 [l0, l1, l2, l3, l4, l5] (.int v :: .int u :: st) M Q = rn sc d 18 128 [l0, l1, l2, l3, l4, l5] (.int (u - v) :: st) M Q := ru_1 rfl rfl rfl rfl rfl
set_option maxRecDepth 100000 in
theorem s18_128 {v : Int32} : rn sc d 18 128 [l0, l1, l2, l3, l4, l5] [.int v] M Q = Q (some (.int v)) M := ru_ri rfl rfl
set_option maxRecDepth 100000 in
theorem s19_0 {x : Int32} : rn sc d 19 0 [l0, some (.int x), l2, l3] st M Q = rn sc d 19 1 [l0, some (.int x), l2, l3] (.int x :: st) M Q := ru_1 rfl rfl rfl rfl rfl
set_option maxRecDepth 100000 in
theorem s19_1_5 : rn sc d 19 1 [l0, l1, l2, l3] (.int 5 :: st) M Q = rn sc d 19 92 [l0, l1, l2, l3] st M Q := ru_sw rfl rfl rfl rfl rfl (by decide) sw_t
set_option maxRecDepth 100000 in
theorem s19_1_6 : rn sc d 19 1 [l0, l1, l2, l3] (.int 6 :: st) M Q = rn sc d 19 92 [l0, l1, l2, l3] st M Q := ru_sw rfl rfl rfl rfl rfl (by decide) sw_t
set_option maxRecDepth 100000 in
theorem s19_1_7 : rn sc d 19 1 [l0, l1, l2, l3] (.int 7 :: st) M Q = rn sc d 19 92 [l0, l1, l2, l3] st M Q := ru_sw rfl rfl rfl rfl rfl (by decide) sw_t
set_option maxRecDepth 100000 in
theorem s19_1_8 : rn sc d 19 1 [l0, l1, l2, l3] (.int 8 :: st) M Q = rn sc d 19 92 [l0, l1, l2, l3] st M Q := ru_sw rfl rfl rfl rfl rfl (by decide) sw_t
set_option maxRecDepth 100000 in
theorem s19_1_9 : rn sc d 19 1 [l0, l1, l2, l3] (.int 9 :: st) M Q = rn sc d 19 92 [l0, l1, l2, l3] st M Q := ru_sw rfl rfl rfl rfl rfl (by decide) sw_t
set_option maxRecDepth 100000 in
theorem s19_1_10 : rn sc d 19 1 [l0, l1, l2, l3] (.int 10 :: st) M Q = rn sc d 19 190 [l0, l1, l2, l3] st M Q := ru_sw rfl rfl rfl rfl rfl (by decide) sw_t
set_option maxRecDepth 100000 in
theorem s19_1_11 : rn sc d 19 1 [l0, l1, l2, l3] (.int 11 :: st) M Q = rn sc d 19 190 [l0, l1, l2, l3] st M Q := ru_sw rfl rfl rfl rfl rfl (by decide) sw_t
set_option maxRecDepth 100000 in
theorem s19_1_12 : rn sc d 19 1 [l0, l1, l2, l3] (.int 12 :: st) M Q = rn sc d 19 190 [l0, l1, l2, l3] st M Q := ru_sw rfl rfl rfl rfl rfl (by decide) sw_t
set_option maxRecDepth 100000 in
theorem s19_1_13 : rn sc d 19 1 [l0, l1, l2, l3] (.int 13 :: st) M Q = rn sc d 19 190 [l0, l1, l2, l3] st M Q := ru_sw rfl rfl rfl rfl rfl (by decide) sw_t
set_option maxRecDepth 100000 in
theorem s19_1_14 : rn sc d 19 1 [l0, l1, l2, l3] (.int 14 :: st) M Q = rn sc d 19 190 [l0, l1, l2, l3] st M Q := ru_sw rfl rfl rfl rfl rfl (by decide) sw_t
set_option maxRecDepth 100000 in
theorem s19_1_15 : rn sc d 19 1 [l0, l1, l2, l3] (.int 15 :: st) M Q = rn sc d 19 190 [l0, l1, l2, l3] st M Q := ru_sw rfl rfl rfl rfl rfl (by decide) sw_t
set_option maxRecDepth 100000 in
theorem s19_1_16 : rn sc d 19 1 [l0, l1, l2, l3] (.int 16 :: st) M Q = rn sc d 19 102 [l0, l1, l2, l3] st M Q := ru_sw rfl rfl rfl rfl rfl (by decide) sw_t
set_option maxRecDepth 100000 in
theorem s19_1_17 : rn sc d 19 1 [l0, l1, l2, l3] (.int 17 :: st) M Q = rn sc d 19 116 [l0, l1, l2, l3] st M Q := ru_sw rfl rfl rfl rfl rfl (by decide) sw_t
set_option maxRecDepth 100000 in
theorem s19_1_18 : rn sc d 19 1 [l0, l1, l2, l3] (.int 18 :: st) M Q = rn sc d 19 116 [l0, l1, l2, l3] st M Q := ru_sw rfl rfl rfl rfl rfl (by decide) sw_t
set_option maxRecDepth 100000 in
theorem s19_1_19 : rn sc d 19 1 [l0, l1, l2, l3] (.int 19 :: st) M Q = rn sc d 19 138 [l0, l1, l2, l3] st M Q := ru_sw rfl rfl rfl rfl rfl (by decide) sw_t
set_option maxRecDepth 100000 in
theorem s19_1_20 : rn sc d 19 1 [l0, l1, l2, l3] (.int 20 :: st) M Q = rn sc d 19 138 [l0, l1, l2, l3] st M Q := ru_sw rfl rfl rfl rfl rfl (by decide) sw_t
set_option maxRecDepth 100000 in
theorem s19_1_21 : rn sc d 19 1 [l0, l1, l2, l3] (.int 21 :: st) M Q = rn sc d 19 160 [l0, l1, l2, l3] st M Q := ru_sw rfl rfl rfl rfl rfl (by decide) sw_t
set_option maxRecDepth 100000 in
theorem s19_1_22 : rn sc d 19 1 [l0, l1, l2, l3] (.int 22 :: st) M Q = rn sc d 19 160 [l0, l1, l2, l3] st M Q := ru_sw rfl rfl rfl rfl rfl (by decide) sw_t
set_option maxRecDepth 100000 in
theorem s19_1_23 : rn sc d 19 1 [l0, l1, l2, l3] (.int 23 :: st) M Q = rn sc d 19 174 [l0, l1, l2, l3] st M Q := ru_sw rfl rfl rfl rfl rfl (by decide) sw_t
set_option maxRecDepth 100000 in
theorem s19_1_d {x : Int32} (h : x.toInt < 5 ∨ 23 < x.toInt) : rn sc d 19 1 [l0, l1, l2, l3] (.int x :: st) M Q = rn sc d 19 190 [l0, l1, l2, l3] st M Q := ru_sw rfl rfl rfl rfl rfl (sw_td h (by decide)) sw_t
set_option maxRecDepth 100000 in
theorem s19_92 {x : Int32} : rn sc d 19 92 [l0, l1, some (.int x), l3] st M Q = rn sc d 19 93 [l0, l1, some (.int x), l3] (.int x :: st) M Q := ru_1 rfl rfl rfl rfl rfl
set_option maxRecDepth 100000 in
theorem s19_93 {x : Int32} : rn sc d 19 93 [l0, l1, l2, l3] (.int x :: st) M Q = if x < 0 then rn sc d 19 100 [l0, l1, l2, l3] st M Q else rn sc d 19 96 [l0, l1, l2, l3] st M Q := ru_if pc_lt rfl (by decide)
set_option maxRecDepth 100000 in
theorem s19_96 : rn sc d 19 96 [l0, l1, l2, l3] st M Q = rn sc d 19 97 [l0, l1, l2, l3] (.int 1 :: st) M Q := ru_k rfl rfl rfl rfl rfl (by decide)
set_option maxRecDepth 100000 in
theorem s19_97 : rn sc d 19 97 [l0, l1, l2, l3] st M Q = rn sc d 19 101 [l0, l1, l2, l3] st M Q := ru_go rfl (by decide)
set_option maxRecDepth 100000 in
theorem s19_100 : rn sc d 19 100 [l0, l1, l2, l3] st M Q = rn sc d 19 101 [l0, l1, l2, l3] (.int 0 :: st) M Q := ru_k rfl rfl rfl rfl rfl (by decide)
set_option maxRecDepth 100000 in
theorem s19_101 {v : Int32} (h : narrow .boolean (.int v) = .int v) : rn sc d 19 101 [l0, l1, l2, l3] [.int v] M Q = Q (some (.int v)) M := ru_rz rfl rfl h
set_option maxRecDepth 100000 in
theorem s19_102 {a : Nat} : rn sc d 19 102 [some (.ref a), l1, l2, l3] st M Q = rn sc d 19 103 [some (.ref a), l1, l2, l3] (.ref a :: st) M Q := ru_1 rfl rfl rfl rfl rfl
set_option maxRecDepth 100000 in
theorem s19_103 {x : Int32} : rn sc d 19 103 [l0, l1, some (.int x), l3] st M Q = rn sc d 19 104 [l0, l1, some (.int x), l3] (.int x :: st) M Q := ru_1 rfl rfl rfl rfl rfl
set_option maxRecDepth 100000 in
theorem s19_104 {a : Nat} {x0 : Int32} (hw : xm_wt st ≤ 8) (hq : hp_is M a 4) : rn sc (d + 1) 19 104 [l0, l1, l2, l3] (.int x0 :: .ref a :: st) M Q = rn sc d 20 0 [some (.ref a), some (.int x0)] [] M (fun r M' => rn sc (d + 1) 19 107 [l0, l1, l2, l3] (r.toList ++ st) M' Q) := ru_d (ru_iv (as := [.int x0]) rfl rfl rfl (Nat.le_of_ble_eq_true rfl) hw rfl hq)
set_option maxRecDepth 100000 in
theorem s19_107 {a : Nat} : rn sc d 19 107 [l0, l1, l2, l3] (.ref a :: st) M Q = rn sc d 19 110 [l0, l1, l2, l3] st M Q := ru_nu rfl
set_option maxRecDepth 100000 in
theorem s19_107N : rn sc d 19 107 [l0, l1, l2, l3] (.null :: st) M Q = rn sc d 19 114 [l0, l1, l2, l3] st M Q := ru_nuN rfl (by decide)
set_option maxRecDepth 100000 in
theorem s19_110 : rn sc d 19 110 [l0, l1, l2, l3] st M Q = rn sc d 19 111 [l0, l1, l2, l3] (.int 1 :: st) M Q := ru_k rfl rfl rfl rfl rfl (by decide)
set_option maxRecDepth 100000 in
theorem s19_111 : rn sc d 19 111 [l0, l1, l2, l3] st M Q = rn sc d 19 115 [l0, l1, l2, l3] st M Q := ru_go rfl (by decide)
set_option maxRecDepth 100000 in
theorem s19_114 : rn sc d 19 114 [l0, l1, l2, l3] st M Q = rn sc d 19 115 [l0, l1, l2, l3] (.int 0 :: st) M Q := ru_k rfl rfl rfl rfl rfl (by decide)
set_option maxRecDepth 100000 in
theorem s19_115 {v : Int32} (h : narrow .boolean (.int v) = .int v) : rn sc d 19 115 [l0, l1, l2, l3] [.int v] M Q = Q (some (.int v)) M := ru_rz rfl rfl h
set_option maxRecDepth 100000 in
theorem s19_116 {a : Nat} : rn sc d 19 116 [some (.ref a), l1, l2, l3] st M Q = rn sc d 19 117 [some (.ref a), l1, l2, l3] (.ref a :: st) M Q := ru_1 rfl rfl rfl rfl rfl
set_option maxRecDepth 100000 in
theorem s19_117 {x : Int32} : rn sc d 19 117 [l0, l1, some (.int x), l3] st M Q = rn sc d 19 118 [l0, l1, some (.int x), l3] (.int x :: st) M Q := ru_1 rfl rfl rfl rfl rfl
set_option maxRecDepth 100000 in
theorem s19_118 {a : Nat} {x0 : Int32} (hw : xm_wt st ≤ 8) (hq : hp_is M a 4) : rn sc (d + 1) 19 118 [l0, l1, l2, l3] (.int x0 :: .ref a :: st) M Q = rn sc d 20 0 [some (.ref a), some (.int x0)] [] M (fun r M' => rn sc (d + 1) 19 121 [l0, l1, l2, l3] (r.toList ++ st) M' Q) := ru_d (ru_iv (as := [.int x0]) rfl rfl rfl (Nat.le_of_ble_eq_true rfl) hw rfl hq)
set_option maxRecDepth 100000 in
theorem s19_121 {a : Nat} : rn sc d 19 121 [l0, l1, l2, l3] (.ref a :: st) M Q = rn sc d 19 124 [l0, l1, l2, l3] st M Q := ru_nu rfl
set_option maxRecDepth 100000 in
theorem s19_121N : rn sc d 19 121 [l0, l1, l2, l3] (.null :: st) M Q = rn sc d 19 136 [l0, l1, l2, l3] st M Q := ru_nuN rfl (by decide)
set_option maxRecDepth 100000 in
theorem s19_124 {a : Nat} : rn sc d 19 124 [some (.ref a), l1, l2, l3] st M Q = rn sc d 19 125 [some (.ref a), l1, l2, l3] (.ref a :: st) M Q := ru_1 rfl rfl rfl rfl rfl
set_option maxRecDepth 100000 in
theorem s19_125 {x : Int32} : rn sc d 19 125 [l0, l1, l2, some (.int x)] st M Q = rn sc d 19 126 [l0, l1, l2, some (.int x)] (.int x :: st) M Q := ru_1 rfl rfl rfl rfl rfl
set_option maxRecDepth 100000 in
theorem s19_126 {a : Nat} {x0 : Int32} (hw : xm_wt st ≤ 8) (hq : hp_is M a 4) : rn sc (d + 1) 19 126 [l0, l1, l2, l3] (.int x0 :: .ref a :: st) M Q = rn sc d 20 0 [some (.ref a), some (.int x0)] [] M (fun r M' => rn sc (d + 1) 19 129 [l0, l1, l2, l3] (r.toList ++ st) M' Q) := ru_d (ru_iv (as := [.int x0]) rfl rfl rfl (Nat.le_of_ble_eq_true rfl) hw rfl hq)
set_option maxRecDepth 100000 in
theorem s19_129 {a : Nat} : rn sc d 19 129 [l0, l1, l2, l3] (.ref a :: st) M Q = rn sc d 19 132 [l0, l1, l2, l3] st M Q := ru_nu rfl
set_option maxRecDepth 100000 in
theorem s19_129N : rn sc d 19 129 [l0, l1, l2, l3] (.null :: st) M Q = rn sc d 19 136 [l0, l1, l2, l3] st M Q := ru_nuN rfl (by decide)
set_option maxRecDepth 100000 in
theorem s19_132 : rn sc d 19 132 [l0, l1, l2, l3] st M Q = rn sc d 19 133 [l0, l1, l2, l3] (.int 1 :: st) M Q := ru_k rfl rfl rfl rfl rfl (by decide)
set_option maxRecDepth 100000 in
theorem s19_133 : rn sc d 19 133 [l0, l1, l2, l3] st M Q = rn sc d 19 137 [l0, l1, l2, l3] st M Q := ru_go rfl (by decide)
set_option maxRecDepth 100000 in
theorem s19_136 : rn sc d 19 136 [l0, l1, l2, l3] st M Q = rn sc d 19 137 [l0, l1, l2, l3] (.int 0 :: st) M Q := ru_k rfl rfl rfl rfl rfl (by decide)
set_option maxRecDepth 100000 in
theorem s19_137 {v : Int32} (h : narrow .boolean (.int v) = .int v) : rn sc d 19 137 [l0, l1, l2, l3] [.int v] M Q = Q (some (.int v)) M := ru_rz rfl rfl h
set_option maxRecDepth 100000 in
theorem s19_138 {a : Nat} : rn sc d 19 138 [some (.ref a), l1, l2, l3] st M Q = rn sc d 19 139 [some (.ref a), l1, l2, l3] (.ref a :: st) M Q := ru_1 rfl rfl rfl rfl rfl
set_option maxRecDepth 100000 in
theorem s19_139 {x : Int32} : rn sc d 19 139 [l0, l1, some (.int x), l3] st M Q = rn sc d 19 140 [l0, l1, some (.int x), l3] (.int x :: st) M Q := ru_1 rfl rfl rfl rfl rfl
set_option maxRecDepth 100000 in
theorem s19_140 {a : Nat} {x0 : Int32} (hw : xm_wt st ≤ 8) (hq : hp_is M a 4) : rn sc (d + 1) 19 140 [l0, l1, l2, l3] (.int x0 :: .ref a :: st) M Q = rn sc d 20 0 [some (.ref a), some (.int x0)] [] M (fun r M' => rn sc (d + 1) 19 143 [l0, l1, l2, l3] (r.toList ++ st) M' Q) := ru_d (ru_iv (as := [.int x0]) rfl rfl rfl (Nat.le_of_ble_eq_true rfl) hw rfl hq)
set_option maxRecDepth 100000 in
theorem s19_143 {a : Nat} : rn sc d 19 143 [l0, l1, l2, l3] (.ref a :: st) M Q = rn sc d 19 146 [l0, l1, l2, l3] st M Q := ru_nu rfl
set_option maxRecDepth 100000 in
theorem s19_143N : rn sc d 19 143 [l0, l1, l2, l3] (.null :: st) M Q = rn sc d 19 158 [l0, l1, l2, l3] st M Q := ru_nuN rfl (by decide)
set_option maxRecDepth 100000 in
theorem s19_146 {a : Nat} : rn sc d 19 146 [some (.ref a), l1, l2, l3] st M Q = rn sc d 19 147 [some (.ref a), l1, l2, l3] (.ref a :: st) M Q := ru_1 rfl rfl rfl rfl rfl
set_option maxRecDepth 100000 in
theorem s19_147 {x : Int32} : rn sc d 19 147 [l0, l1, l2, some (.int x)] st M Q = rn sc d 19 148 [l0, l1, l2, some (.int x)] (.int x :: st) M Q := ru_1 rfl rfl rfl rfl rfl
set_option maxRecDepth 100000 in
theorem s19_148 {a : Nat} {x0 : Int32} (hw : xm_wt st ≤ 8) (hq : hp_is M a 4) : rn sc (d + 1) 19 148 [l0, l1, l2, l3] (.int x0 :: .ref a :: st) M Q = rn sc d 11 0 [some (.ref a), some (.int x0)] [] M (fun r M' => rn sc (d + 1) 19 151 [l0, l1, l2, l3] (r.toList ++ st) M' Q) := ru_d (ru_iv (as := [.int x0]) rfl rfl rfl (Nat.le_of_ble_eq_true rfl) hw rfl hq)
set_option maxRecDepth 100000 in
theorem s19_151 {a : Nat} : rn sc d 19 151 [l0, l1, l2, l3] (.ref a :: st) M Q = rn sc d 19 154 [l0, l1, l2, l3] st M Q := ru_nu rfl
set_option maxRecDepth 100000 in
theorem s19_151N : rn sc d 19 151 [l0, l1, l2, l3] (.null :: st) M Q = rn sc d 19 158 [l0, l1, l2, l3] st M Q := ru_nuN rfl (by decide)
set_option maxRecDepth 100000 in
theorem s19_154 : rn sc d 19 154 [l0, l1, l2, l3] st M Q = rn sc d 19 155 [l0, l1, l2, l3] (.int 1 :: st) M Q := ru_k rfl rfl rfl rfl rfl (by decide)
set_option maxRecDepth 100000 in
theorem s19_155 : rn sc d 19 155 [l0, l1, l2, l3] st M Q = rn sc d 19 159 [l0, l1, l2, l3] st M Q := ru_go rfl (by decide)
set_option maxRecDepth 100000 in
theorem s19_158 : rn sc d 19 158 [l0, l1, l2, l3] st M Q = rn sc d 19 159 [l0, l1, l2, l3] (.int 0 :: st) M Q := ru_k rfl rfl rfl rfl rfl (by decide)
set_option maxRecDepth 100000 in
theorem s19_159 {v : Int32} (h : narrow .boolean (.int v) = .int v) : rn sc d 19 159 [l0, l1, l2, l3] [.int v] M Q = Q (some (.int v)) M := ru_rz rfl rfl h
set_option maxRecDepth 100000 in
theorem s19_160 {a : Nat} : rn sc d 19 160 [some (.ref a), l1, l2, l3] st M Q = rn sc d 19 161 [some (.ref a), l1, l2, l3] (.ref a :: st) M Q := ru_1 rfl rfl rfl rfl rfl
set_option maxRecDepth 100000 in
theorem s19_161 {x : Int32} : rn sc d 19 161 [l0, l1, some (.int x), l3] st M Q = rn sc d 19 162 [l0, l1, some (.int x), l3] (.int x :: st) M Q := ru_1 rfl rfl rfl rfl rfl
set_option maxRecDepth 100000 in
theorem s19_162 {a : Nat} {x0 : Int32} (hw : xm_wt st ≤ 8) (hq : hp_is M a 4) : rn sc (d + 1) 19 162 [l0, l1, l2, l3] (.int x0 :: .ref a :: st) M Q = rn sc d 11 0 [some (.ref a), some (.int x0)] [] M (fun r M' => rn sc (d + 1) 19 165 [l0, l1, l2, l3] (r.toList ++ st) M' Q) := ru_d (ru_iv (as := [.int x0]) rfl rfl rfl (Nat.le_of_ble_eq_true rfl) hw rfl hq)
set_option maxRecDepth 100000 in
theorem s19_165 {a : Nat} : rn sc d 19 165 [l0, l1, l2, l3] (.ref a :: st) M Q = rn sc d 19 168 [l0, l1, l2, l3] st M Q := ru_nu rfl
set_option maxRecDepth 100000 in
theorem s19_165N : rn sc d 19 165 [l0, l1, l2, l3] (.null :: st) M Q = rn sc d 19 172 [l0, l1, l2, l3] st M Q := ru_nuN rfl (by decide)
set_option maxRecDepth 100000 in
theorem s19_168 : rn sc d 19 168 [l0, l1, l2, l3] st M Q = rn sc d 19 169 [l0, l1, l2, l3] (.int 1 :: st) M Q := ru_k rfl rfl rfl rfl rfl (by decide)
set_option maxRecDepth 100000 in
theorem s19_169 : rn sc d 19 169 [l0, l1, l2, l3] st M Q = rn sc d 19 173 [l0, l1, l2, l3] st M Q := ru_go rfl (by decide)
set_option maxRecDepth 100000 in
theorem s19_172 : rn sc d 19 172 [l0, l1, l2, l3] st M Q = rn sc d 19 173 [l0, l1, l2, l3] (.int 0 :: st) M Q := ru_k rfl rfl rfl rfl rfl (by decide)
set_option maxRecDepth 100000 in
theorem s19_173 {v : Int32} (h : narrow .boolean (.int v) = .int v) : rn sc d 19 173 [l0, l1, l2, l3] [.int v] M Q = Q (some (.int v)) M := ru_rz rfl rfl h
set_option maxRecDepth 100000 in
theorem s19_174 {x : Int32} : rn sc d 19 174 [l0, l1, some (.int x), l3] st M Q = rn sc d 19 175 [l0, l1, some (.int x), l3] (.int x :: st) M Q := ru_1 rfl rfl rfl rfl rfl
set_option maxRecDepth 100000 in
theorem s19_175 {x : Int32} : rn sc d 19 175 [l0, l1, l2, l3] (.int x :: st) M Q = if x < 0 then rn sc d 19 188 [l0, l1, l2, l3] st M Q else rn sc d 19 178 [l0, l1, l2, l3] st M Q := ru_if pc_lt rfl (by decide)
set_option maxRecDepth 100000 in
theorem s19_178 {x : Int32} : rn sc d 19 178 [l0, l1, some (.int x), l3] st M Q = rn sc d 19 179 [l0, l1, some (.int x), l3] (.int x :: st) M Q := ru_1 rfl rfl rfl rfl rfl
set_option maxRecDepth 100000 in
theorem s19_179 : rn sc d 19 179 [l0, l1, l2, l3] st M Q = rn sc d 19 181 [l0, l1, l2, l3] (.int 64 :: st) M Q := ru_k rfl rfl rfl rfl rfl (by decide)
set_option maxRecDepth 100000 in
theorem s19_181 {u v : Int32} : rn sc d 19 181 [l0, l1, l2, l3] (.int v :: .int u :: st) M Q = if v ≤ u then rn sc d 19 188 [l0, l1, l2, l3] st M Q else rn sc d 19 184 [l0, l1, l2, l3] st M Q := ru_ic pc_ge rfl (by decide)
set_option maxRecDepth 100000 in
theorem s19_184 : rn sc d 19 184 [l0, l1, l2, l3] st M Q = rn sc d 19 185 [l0, l1, l2, l3] (.int 1 :: st) M Q := ru_k rfl rfl rfl rfl rfl (by decide)
set_option maxRecDepth 100000 in
theorem s19_185 : rn sc d 19 185 [l0, l1, l2, l3] st M Q = rn sc d 19 189 [l0, l1, l2, l3] st M Q := ru_go rfl (by decide)
set_option maxRecDepth 100000 in
theorem s19_188 : rn sc d 19 188 [l0, l1, l2, l3] st M Q = rn sc d 19 189 [l0, l1, l2, l3] (.int 0 :: st) M Q := ru_k rfl rfl rfl rfl rfl (by decide)
set_option maxRecDepth 100000 in
theorem s19_189 {v : Int32} (h : narrow .boolean (.int v) = .int v) : rn sc d 19 189 [l0, l1, l2, l3] [.int v] M Q = Q (some (.int v)) M := ru_rz rfl rfl h
set_option maxRecDepth 100000 in
theorem s19_190 : rn sc d 19 190 [l0, l1, l2, l3] st M Q = rn sc d 19 191 [l0, l1, l2, l3] (.int 1 :: st) M Q := ru_k rfl rfl rfl rfl rfl (by decide)
set_option maxRecDepth 100000 in
theorem s19_191 {v : Int32} (h : narrow .boolean (.int v) = .int v) : rn sc d 19 191 [l0, l1, l2, l3] [.int v] M Q = Q (some (.int v)) M := ru_rz rfl rfl h
set_option maxRecDepth 100000 in
theorem s20_0 {x : Int32} : rn sc d 20 0 [l0, some (.int x)] st M Q = rn sc d 20 1 [l0, some (.int x)] (.int x :: st) M Q := ru_1 rfl rfl rfl rfl rfl
set_option maxRecDepth 100000 in
theorem s20_1 {x : Int32} : rn sc d 20 1 [l0, l1] (.int x :: st) M Q = if x < 0 then rn sc d 20 21 [l0, l1] st M Q else rn sc d 20 4 [l0, l1] st M Q := ru_if pc_lt rfl (by decide)
set_option maxRecDepth 100000 in
theorem s20_4 {x : Int32} : rn sc d 20 4 [l0, some (.int x)] st M Q = rn sc d 20 5 [l0, some (.int x)] (.int x :: st) M Q := ru_1 rfl rfl rfl rfl rfl
set_option maxRecDepth 100000 in
theorem s20_5 {a : Nat} : rn sc d 20 5 [some (.ref a), l1] st M Q = rn sc d 20 6 [some (.ref a), l1] (.ref a :: st) M Q := ru_1 rfl rfl rfl rfl rfl
set_option maxRecDepth 100000 in
theorem s20_6 {a : Nat} : rn sc d 20 6 [l0, l1] (.ref a :: st) M Q = rn_o (hp_f M a 4 2) (fun v => rn sc d 20 9 [l0, l1] (v :: st) M Q) := ru_get rfl rfl
set_option maxRecDepth 100000 in
theorem s20_9 {u v : Int32} : rn sc d 20 9 [l0, l1] (.int v :: .int u :: st) M Q = if v ≤ u then rn sc d 20 21 [l0, l1] st M Q else rn sc d 20 12 [l0, l1] st M Q := ru_ic pc_ge rfl (by decide)
set_option maxRecDepth 100000 in
theorem s20_12 {a : Nat} : rn sc d 20 12 [some (.ref a), l1] st M Q = rn sc d 20 13 [some (.ref a), l1] (.ref a :: st) M Q := ru_1 rfl rfl rfl rfl rfl
set_option maxRecDepth 100000 in
theorem s20_13 {a : Nat} : rn sc d 20 13 [l0, l1] (.ref a :: st) M Q = rn_o (hp_f M a 4 1) (fun v => rn sc d 20 16 [l0, l1] (v :: st) M Q) := ru_get rfl rfl
set_option maxRecDepth 100000 in
theorem s20_16 {x : Int32} : rn sc d 20 16 [l0, some (.int x)] st M Q = rn sc d 20 17 [l0, some (.int x)] (.int x :: st) M Q := ru_1 rfl rfl rfl rfl rfl
set_option maxRecDepth 100000 in
theorem s20_17 {a : Nat} {j : Int32} : rn sc d 20 17 [l0, l1] (.int j :: .ref a :: st) M Q = rn_o (hp_q M a j) (fun v => rn sc d 20 18 [l0, l1] (v :: st) M Q) := ru_aald rfl
set_option maxRecDepth 100000 in
theorem s20_18 : rn sc d 20 18 [l0, l1] st M Q = rn sc d 20 22 [l0, l1] st M Q := ru_go rfl (by decide)
set_option maxRecDepth 100000 in
theorem s20_21 : rn sc d 20 21 [l0, l1] st M Q = rn sc d 20 22 [l0, l1] (.null :: st) M Q := ru_1 rfl rfl rfl rfl rfl
set_option maxRecDepth 100000 in
theorem s20_22 {a : Nat} : rn sc d 20 22 [l0, l1] [.ref a] M Q = Q (some (.ref a)) M := rn_ret rfl rfl rfl
set_option maxRecDepth 100000 in
theorem s20_22N : rn sc d 20 22 [l0, l1] [.null] M Q = Q (some .null) M := rn_ret rfl rfl rfl
set_option maxRecDepth 100000 in
theorem s21_0 {x : Int32} : rn sc d 21 0 [some (.int x)] st M Q = rn sc d 21 1 [some (.int x)] (.int x :: st) M Q := ru_1 rfl rfl rfl rfl rfl
set_option maxRecDepth 100000 in
theorem s21_1 : rn sc d 21 1 [l0] st M Q = rn sc d 21 2 [l0] (.int 5 :: st) M Q := ru_k rfl rfl rfl rfl rfl (by decide)
set_option maxRecDepth 100000 in
theorem s21_2 {u v : Int32} : rn sc d 21 2 [l0] (.int v :: .int u :: st) M Q = if u < v then rn sc d 21 11 [l0] st M Q else rn sc d 21 5 [l0] st M Q := ru_ic pc_lt rfl (by decide)
set_option maxRecDepth 100000 in
theorem s21_5 {x : Int32} : rn sc d 21 5 [some (.int x)] st M Q = rn sc d 21 6 [some (.int x)] (.int x :: st) M Q := ru_1 rfl rfl rfl rfl rfl
set_option maxRecDepth 100000 in
theorem s21_6 : rn sc d 21 6 [l0] st M Q = rn sc d 21 8 [l0] (.int 9 :: st) M Q := ru_k rfl rfl rfl rfl rfl (by decide)
set_option maxRecDepth 100000 in
theorem s21_8 {u v : Int32} : rn sc d 21 8 [l0] (.int v :: .int u :: st) M Q = if u ≤ v then rn sc d 21 17 [l0] st M Q else rn sc d 21 11 [l0] st M Q := ru_ic pc_le rfl (by decide)
set_option maxRecDepth 100000 in
theorem s21_11 {x : Int32} : rn sc d 21 11 [some (.int x)] st M Q = rn sc d 21 12 [some (.int x)] (.int x :: st) M Q := ru_1 rfl rfl rfl rfl rfl
set_option maxRecDepth 100000 in
theorem s21_12 : rn sc d 21 12 [l0] st M Q = rn sc d 21 14 [l0] (.int 16 :: st) M Q := ru_k rfl rfl rfl rfl rfl (by decide)
set_option maxRecDepth 100000 in
theorem s21_14 {u v : Int32} : rn sc d 21 14 [l0] (.int v :: .int u :: st) M Q = if u < v then rn sc d 21 21 [l0] st M Q else rn sc d 21 17 [l0] st M Q := ru_ic pc_lt rfl (by decide)
set_option maxRecDepth 100000 in
theorem s21_17 : rn sc d 21 17 [l0] st M Q = rn sc d 21 18 [l0] (.int 1 :: st) M Q := ru_k rfl rfl rfl rfl rfl (by decide)
set_option maxRecDepth 100000 in
theorem s21_18 : rn sc d 21 18 [l0] st M Q = rn sc d 21 22 [l0] st M Q := ru_go rfl (by decide)
set_option maxRecDepth 100000 in
theorem s21_21 : rn sc d 21 21 [l0] st M Q = rn sc d 21 22 [l0] (.int 0 :: st) M Q := ru_k rfl rfl rfl rfl rfl (by decide)
set_option maxRecDepth 100000 in
theorem s21_22 {v : Int32} (h : narrow .boolean (.int v) = .int v) : rn sc d 21 22 [l0] [.int v] M Q = Q (some (.int v)) M := ru_rz rfl rfl h
set_option maxRecDepth 100000 in
theorem s22_0 {x : Int32} : rn sc d 22 0 [some (.int x)] st M Q = rn sc d 22 1 [some (.int x)] (.int x :: st) M Q := ru_1 rfl rfl rfl rfl rfl
set_option maxRecDepth 100000 in
theorem s22_1 : rn sc d 22 1 [l0] st M Q = rn sc d 22 3 [l0] (.int 17 :: st) M Q := ru_k rfl rfl rfl rfl rfl (by decide)
set_option maxRecDepth 100000 in
theorem s22_3 {u v : Int32} : rn sc d 22 3 [l0] (.int v :: .int u :: st) M Q = if u < v then rn sc d 22 16 [l0] st M Q else rn sc d 22 6 [l0] st M Q := ru_ic pc_lt rfl (by decide)
set_option maxRecDepth 100000 in
theorem s22_6 {x : Int32} : rn sc d 22 6 [some (.int x)] st M Q = rn sc d 22 7 [some (.int x)] (.int x :: st) M Q := ru_1 rfl rfl rfl rfl rfl
set_option maxRecDepth 100000 in
theorem s22_7 : rn sc d 22 7 [l0] st M Q = rn sc d 22 9 [l0] (.int 20 :: st) M Q := ru_k rfl rfl rfl rfl rfl (by decide)
set_option maxRecDepth 100000 in
theorem s22_9 {u v : Int32} : rn sc d 22 9 [l0] (.int v :: .int u :: st) M Q = if v < u then rn sc d 22 16 [l0] st M Q else rn sc d 22 12 [l0] st M Q := ru_ic pc_gt rfl (by decide)
set_option maxRecDepth 100000 in
theorem s22_12 : rn sc d 22 12 [l0] st M Q = rn sc d 22 13 [l0] (.int 1 :: st) M Q := ru_k rfl rfl rfl rfl rfl (by decide)
set_option maxRecDepth 100000 in
theorem s22_13 : rn sc d 22 13 [l0] st M Q = rn sc d 22 17 [l0] st M Q := ru_go rfl (by decide)
set_option maxRecDepth 100000 in
theorem s22_16 : rn sc d 22 16 [l0] st M Q = rn sc d 22 17 [l0] (.int 0 :: st) M Q := ru_k rfl rfl rfl rfl rfl (by decide)
set_option maxRecDepth 100000 in
theorem s22_17 {v : Int32} (h : narrow .boolean (.int v) = .int v) : rn sc d 22 17 [l0] [.int v] M Q = Q (some (.int v)) M := ru_rz rfl rfl h
set_option maxRecDepth 100000 in
theorem s23_0 {a : Nat} : rn sc d 23 0 [some (.ref a)] st M Q = rn sc d 23 1 [some (.ref a)] (.ref a :: st) M Q := ru_1 rfl rfl rfl rfl rfl
set_option maxRecDepth 100000 in
theorem s23_1 {a : Nat} : rn sc d 23 1 [l0] (.ref a :: st) M Q = rn_o (hp_f M a 6 1) (fun v => rn sc d 23 4 [l0] (v :: st) M Q) := ru_get rfl rfl
set_option maxRecDepth 100000 in
theorem s23_4 : rn sc d 23 4 [l0] st M Q = rn sc d 23 5 [l0] (.int 0 :: st) M Q := ru_k rfl rfl rfl rfl rfl (by decide)
set_option maxRecDepth 100000 in
theorem s23_5 {a : Nat} {v : Value} : rn sc d 23 5 [l0] (v :: .ref a :: st) M Q = rn_o (hp_pf M a 4 2 v) (fun M' => rn sc d 23 8 [l0] st M' Q) := ru_put rfl rfl rfl
set_option maxRecDepth 100000 in
theorem s23_8 : rn sc d 23 8 [l0] [] M Q = Q none M := rn_ret rfl rfl rfl
set_option maxRecDepth 100000 in
theorem s24_0 {a : Nat} : rn sc d 24 0 [some (.ref a), l1, l2, l3] st M Q = rn sc d 24 1 [some (.ref a), l1, l2, l3] (.ref a :: st) M Q := ru_1 rfl rfl rfl rfl rfl
set_option maxRecDepth 100000 in
theorem s24_1 {a : Nat} : rn sc d 24 1 [l0, l1, l2, l3] (.ref a :: st) M Q = rn_o (hp_f M a 6 1) (fun v => rn sc d 24 4 [l0, l1, l2, l3] (v :: st) M Q) := ru_get rfl rfl
set_option maxRecDepth 100000 in
theorem s24_4 {x : Int32} : rn sc d 24 4 [l0, some (.int x), l2, l3] st M Q = rn sc d 24 5 [l0, some (.int x), l2, l3] (.int x :: st) M Q := ru_1 rfl rfl rfl rfl rfl
set_option maxRecDepth 100000 in
theorem s24_5 {a : Nat} {x0 : Int32} (hw : xm_wt st ≤ 8) (hq : hp_is M a 4) : rn sc (d + 1) 24 5 [l0, l1, l2, l3] (.int x0 :: .ref a :: st) M Q = rn sc d 20 0 [some (.ref a), some (.int x0)] [] M (fun r M' => rn sc (d + 1) 24 8 [l0, l1, l2, l3] (r.toList ++ st) M' Q) := ru_d (ru_iv (as := [.int x0]) rfl rfl rfl (Nat.le_of_ble_eq_true rfl) hw rfl hq)
set_option maxRecDepth 100000 in
theorem s24_8 {a : Nat} : rn sc d 24 8 [l0, l1, l2, l3] (.ref a :: st) M Q = rn sc d 24 9 [l0, l1, l2, some (.ref a)] st M Q := ru_1 rfl rfl rfl rfl rfl
set_option maxRecDepth 100000 in
theorem s24_8N : rn sc d 24 8 [l0, l1, l2, l3] (.null :: st) M Q = rn sc d 24 9 [l0, l1, l2, some .null] st M Q := ru_1 rfl rfl rfl rfl rfl
set_option maxRecDepth 100000 in
theorem s24_9 {a : Nat} : rn sc d 24 9 [l0, l1, l2, some (.ref a)] st M Q = rn sc d 24 10 [l0, l1, l2, some (.ref a)] (.ref a :: st) M Q := ru_1 rfl rfl rfl rfl rfl
set_option maxRecDepth 100000 in
theorem s24_9N : rn sc d 24 9 [l0, l1, l2, some .null] st M Q = rn sc d 24 10 [l0, l1, l2, some .null] (.null :: st) M Q := ru_1 rfl rfl rfl rfl rfl
set_option maxRecDepth 100000 in
theorem s24_10 {a : Nat} : rn sc d 24 10 [l0, l1, l2, l3] (.ref a :: st) M Q = rn sc d 24 15 [l0, l1, l2, l3] st M Q := ru_nn rfl (by decide)
set_option maxRecDepth 100000 in
theorem s24_10N : rn sc d 24 10 [l0, l1, l2, l3] (.null :: st) M Q = rn sc d 24 13 [l0, l1, l2, l3] st M Q := ru_nnN rfl
set_option maxRecDepth 100000 in
theorem s24_13 : rn sc d 24 13 [l0, l1, l2, l3] st M Q = rn sc d 24 14 [l0, l1, l2, l3] (.int (-1) :: st) M Q := ru_k rfl rfl rfl rfl rfl (by decide)
set_option maxRecDepth 100000 in
theorem s24_14 {v : Int32} : rn sc d 24 14 [l0, l1, l2, l3] [.int v] M Q = Q (some (.int v)) M := ru_ri rfl rfl
set_option maxRecDepth 100000 in
theorem s24_15 {x : Int32} : rn sc d 24 15 [l0, l1, some (.int x), l3] st M Q = rn sc d 24 16 [l0, l1, some (.int x), l3] (.int x :: st) M Q := ru_1 rfl rfl rfl rfl rfl
set_option maxRecDepth 100000 in
theorem s24_16_0 : rn sc d 24 16 [l0, l1, l2, l3] (.int 0 :: st) M Q = rn sc d 24 48 [l0, l1, l2, l3] st M Q := ru_sw rfl rfl rfl rfl rfl (by decide) sw_t
set_option maxRecDepth 100000 in
theorem s24_16_1 : rn sc d 24 16 [l0, l1, l2, l3] (.int 1 :: st) M Q = rn sc d 24 53 [l0, l1, l2, l3] st M Q := ru_sw rfl rfl rfl rfl rfl (by decide) sw_t
set_option maxRecDepth 100000 in
theorem s24_16_2 : rn sc d 24 16 [l0, l1, l2, l3] (.int 2 :: st) M Q = rn sc d 24 58 [l0, l1, l2, l3] st M Q := ru_sw rfl rfl rfl rfl rfl (by decide) sw_t
set_option maxRecDepth 100000 in
theorem s24_16_3 : rn sc d 24 16 [l0, l1, l2, l3] (.int 3 :: st) M Q = rn sc d 24 63 [l0, l1, l2, l3] st M Q := ru_sw rfl rfl rfl rfl rfl (by decide) sw_t
set_option maxRecDepth 100000 in
theorem s24_16_d {x : Int32} (h : x.toInt < 0 ∨ 3 < x.toInt) : rn sc d 24 16 [l0, l1, l2, l3] (.int x :: st) M Q = rn sc d 24 71 [l0, l1, l2, l3] st M Q := ru_sw rfl rfl rfl rfl rfl (sw_td h (by decide)) sw_t
set_option maxRecDepth 100000 in
theorem s24_48 {a : Nat} : rn sc d 24 48 [l0, l1, l2, some (.ref a)] st M Q = rn sc d 24 49 [l0, l1, l2, some (.ref a)] (.ref a :: st) M Q := ru_1 rfl rfl rfl rfl rfl
set_option maxRecDepth 100000 in
theorem s24_48N : rn sc d 24 48 [l0, l1, l2, some .null] st M Q = rn sc d 24 49 [l0, l1, l2, some .null] (.null :: st) M Q := ru_1 rfl rfl rfl rfl rfl
set_option maxRecDepth 100000 in
theorem s24_49 {a : Nat} : rn sc d 24 49 [l0, l1, l2, l3] (.ref a :: st) M Q = rn_o (hp_f M a 0 1) (fun v => rn sc d 24 52 [l0, l1, l2, l3] (v :: st) M Q) := ru_get rfl rfl
set_option maxRecDepth 100000 in
theorem s24_52 {v : Int32} : rn sc d 24 52 [l0, l1, l2, l3] [.int v] M Q = Q (some (.int v)) M := ru_ri rfl rfl
set_option maxRecDepth 100000 in
theorem s24_53 {a : Nat} : rn sc d 24 53 [l0, l1, l2, some (.ref a)] st M Q = rn sc d 24 54 [l0, l1, l2, some (.ref a)] (.ref a :: st) M Q := ru_1 rfl rfl rfl rfl rfl
set_option maxRecDepth 100000 in
theorem s24_53N : rn sc d 24 53 [l0, l1, l2, some .null] st M Q = rn sc d 24 54 [l0, l1, l2, some .null] (.null :: st) M Q := ru_1 rfl rfl rfl rfl rfl
set_option maxRecDepth 100000 in
theorem s24_54 {a : Nat} : rn sc d 24 54 [l0, l1, l2, l3] (.ref a :: st) M Q = rn_o (hp_f M a 0 2) (fun v => rn sc d 24 57 [l0, l1, l2, l3] (v :: st) M Q) := ru_get rfl rfl
set_option maxRecDepth 100000 in
theorem s24_57 {v : Int32} : rn sc d 24 57 [l0, l1, l2, l3] [.int v] M Q = Q (some (.int v)) M := ru_ri rfl rfl
set_option maxRecDepth 100000 in
theorem s24_58 {a : Nat} : rn sc d 24 58 [l0, l1, l2, some (.ref a)] st M Q = rn sc d 24 59 [l0, l1, l2, some (.ref a)] (.ref a :: st) M Q := ru_1 rfl rfl rfl rfl rfl
set_option maxRecDepth 100000 in
theorem s24_58N : rn sc d 24 58 [l0, l1, l2, some .null] st M Q = rn sc d 24 59 [l0, l1, l2, some .null] (.null :: st) M Q := ru_1 rfl rfl rfl rfl rfl
set_option maxRecDepth 100000 in
theorem s24_59 {a : Nat} : rn sc d 24 59 [l0, l1, l2, l3] (.ref a :: st) M Q = rn_o (hp_f M a 0 3) (fun v => rn sc d 24 62 [l0, l1, l2, l3] (v :: st) M Q) := ru_get rfl rfl
set_option maxRecDepth 100000 in
theorem s24_62 {v : Int32} : rn sc d 24 62 [l0, l1, l2, l3] [.int v] M Q = Q (some (.int v)) M := ru_ri rfl rfl
set_option maxRecDepth 100000 in
theorem s24_63 {a : Nat} : rn sc d 24 63 [l0, l1, l2, some (.ref a)] st M Q = rn sc d 24 64 [l0, l1, l2, some (.ref a)] (.ref a :: st) M Q := ru_1 rfl rfl rfl rfl rfl
set_option maxRecDepth 100000 in
theorem s24_63N : rn sc d 24 63 [l0, l1, l2, some .null] st M Q = rn sc d 24 64 [l0, l1, l2, some .null] (.null :: st) M Q := ru_1 rfl rfl rfl rfl rfl
set_option maxRecDepth 100000 in
theorem s24_64 {a : Nat} : rn sc d 24 64 [l0, l1, l2, l3] (.ref a :: st) M Q = rn_o (hp_f M a 0 0) (fun v => rn sc d 24 67 [l0, l1, l2, l3] (v :: st) M Q) := ru_get rfl rfl
set_option maxRecDepth 100000 in
theorem s24_67 {a : Nat} : rn sc d 24 67 [l0, l1, l2, l3] (.ref a :: st) M Q = rn_o (hp_f M a 5 1) (fun v => rn sc d 24 70 [l0, l1, l2, l3] (v :: st) M Q) := ru_get rfl rfl
set_option maxRecDepth 100000 in
theorem s24_70 {v : Int32} : rn sc d 24 70 [l0, l1, l2, l3] [.int v] M Q = Q (some (.int v)) M := ru_ri rfl rfl
set_option maxRecDepth 100000 in
theorem s24_71 : rn sc d 24 71 [l0, l1, l2, l3] st M Q = rn sc d 24 72 [l0, l1, l2, l3] (.int (-1) :: st) M Q := ru_k rfl rfl rfl rfl rfl (by decide)
set_option maxRecDepth 100000 in
theorem s24_72 {v : Int32} : rn sc d 24 72 [l0, l1, l2, l3] [.int v] M Q = Q (some (.int v)) M := ru_ri rfl rfl
set_option maxRecDepth 100000 in
theorem s25_0 {a : Nat} : rn sc d 25 0 [some (.ref a), l1, l2, l3, l4, l5, l6] st M Q = rn sc d 25 1 [some (.ref a), l1, l2, l3, l4, l5, l6] (.ref a :: st) M Q := ru_1 rfl rfl rfl rfl rfl
set_option maxRecDepth 100000 in
theorem s25_1 {a : Nat} : rn sc d 25 1 [l0, l1, l2, l3, l4, l5, l6] (.ref a :: st) M Q = rn_o (hp_f M a 6 1) (fun v => rn sc d 25 4 [l0, l1, l2, l3, l4, l5, l6] (v :: st) M Q) := ru_get rfl rfl
set_option maxRecDepth 100000 in
theorem s25_4 {x : Int32} : rn sc d 25 4 [l0, some (.int x), l2, l3, l4, l5, l6] st M Q = rn sc d 25 5 [l0, some (.int x), l2, l3, l4, l5, l6] (.int x :: st) M Q := ru_1 rfl rfl rfl rfl rfl
set_option maxRecDepth 100000 in
theorem s25_5 {a : Nat} {x0 : Int32} (hw : xm_wt st ≤ 8) (hq : hp_is M a 4) : rn sc (d + 1) 25 5 [l0, l1, l2, l3, l4, l5, l6] (.int x0 :: .ref a :: st) M Q = rn sc d 11 0 [some (.ref a), some (.int x0)] [] M (fun r M' => rn sc (d + 1) 25 8 [l0, l1, l2, l3, l4, l5, l6] (r.toList ++ st) M' Q) := ru_d (ru_iv (as := [.int x0]) rfl rfl rfl (Nat.le_of_ble_eq_true rfl) hw rfl hq)
set_option maxRecDepth 100000 in
theorem s25_8 {a : Nat} : rn sc d 25 8 [l0, l1, l2, l3, l4, l5, l6] (.ref a :: st) M Q = rn sc d 25 10 [l0, l1, l2, l3, some (.ref a), l5, l6] st M Q := ru_1 rfl rfl rfl rfl rfl
set_option maxRecDepth 100000 in
theorem s25_8N : rn sc d 25 8 [l0, l1, l2, l3, l4, l5, l6] (.null :: st) M Q = rn sc d 25 10 [l0, l1, l2, l3, some .null, l5, l6] st M Q := ru_1 rfl rfl rfl rfl rfl
set_option maxRecDepth 100000 in
theorem s25_10 {a : Nat} : rn sc d 25 10 [some (.ref a), l1, l2, l3, l4, l5, l6] st M Q = rn sc d 25 11 [some (.ref a), l1, l2, l3, l4, l5, l6] (.ref a :: st) M Q := ru_1 rfl rfl rfl rfl rfl
set_option maxRecDepth 100000 in
theorem s25_11 {a : Nat} : rn sc d 25 11 [l0, l1, l2, l3, l4, l5, l6] (.ref a :: st) M Q = rn_o (hp_f M a 6 1) (fun v => rn sc d 25 14 [l0, l1, l2, l3, l4, l5, l6] (v :: st) M Q) := ru_get rfl rfl
set_option maxRecDepth 100000 in
theorem s25_14 {x : Int32} : rn sc d 25 14 [l0, l1, some (.int x), l3, l4, l5, l6] st M Q = rn sc d 25 15 [l0, l1, some (.int x), l3, l4, l5, l6] (.int x :: st) M Q := ru_1 rfl rfl rfl rfl rfl
set_option maxRecDepth 100000 in
theorem s25_15 {a : Nat} {x0 : Int32} (hw : xm_wt st ≤ 8) (hq : hp_is M a 4) : rn sc (d + 1) 25 15 [l0, l1, l2, l3, l4, l5, l6] (.int x0 :: .ref a :: st) M Q = rn sc d 20 0 [some (.ref a), some (.int x0)] [] M (fun r M' => rn sc (d + 1) 25 18 [l0, l1, l2, l3, l4, l5, l6] (r.toList ++ st) M' Q) := ru_d (ru_iv (as := [.int x0]) rfl rfl rfl (Nat.le_of_ble_eq_true rfl) hw rfl hq)
set_option maxRecDepth 100000 in
theorem s25_18 {a : Nat} : rn sc d 25 18 [l0, l1, l2, l3, l4, l5, l6] (.ref a :: st) M Q = rn sc d 25 20 [l0, l1, l2, l3, l4, some (.ref a), l6] st M Q := ru_1 rfl rfl rfl rfl rfl
set_option maxRecDepth 100000 in
theorem s25_18N : rn sc d 25 18 [l0, l1, l2, l3, l4, l5, l6] (.null :: st) M Q = rn sc d 25 20 [l0, l1, l2, l3, l4, some .null, l6] st M Q := ru_1 rfl rfl rfl rfl rfl
set_option maxRecDepth 100000 in
theorem s25_20 {a : Nat} : rn sc d 25 20 [l0, l1, l2, l3, some (.ref a), l5, l6] st M Q = rn sc d 25 22 [l0, l1, l2, l3, some (.ref a), l5, l6] (.ref a :: st) M Q := ru_1 rfl rfl rfl rfl rfl
set_option maxRecDepth 100000 in
theorem s25_20N : rn sc d 25 20 [l0, l1, l2, l3, some .null, l5, l6] st M Q = rn sc d 25 22 [l0, l1, l2, l3, some .null, l5, l6] (.null :: st) M Q := ru_1 rfl rfl rfl rfl rfl
set_option maxRecDepth 100000 in
theorem s25_22 {a : Nat} : rn sc d 25 22 [l0, l1, l2, l3, l4, l5, l6] (.ref a :: st) M Q = rn sc d 25 25 [l0, l1, l2, l3, l4, l5, l6] st M Q := ru_nu rfl
set_option maxRecDepth 100000 in
theorem s25_22N : rn sc d 25 22 [l0, l1, l2, l3, l4, l5, l6] (.null :: st) M Q = rn sc d 25 30 [l0, l1, l2, l3, l4, l5, l6] st M Q := ru_nuN rfl (by decide)
set_option maxRecDepth 100000 in
theorem s25_25 {a : Nat} : rn sc d 25 25 [l0, l1, l2, l3, l4, some (.ref a), l6] st M Q = rn sc d 25 27 [l0, l1, l2, l3, l4, some (.ref a), l6] (.ref a :: st) M Q := ru_1 rfl rfl rfl rfl rfl
set_option maxRecDepth 100000 in
theorem s25_25N : rn sc d 25 25 [l0, l1, l2, l3, l4, some .null, l6] st M Q = rn sc d 25 27 [l0, l1, l2, l3, l4, some .null, l6] (.null :: st) M Q := ru_1 rfl rfl rfl rfl rfl
set_option maxRecDepth 100000 in
theorem s25_27 {a : Nat} : rn sc d 25 27 [l0, l1, l2, l3, l4, l5, l6] (.ref a :: st) M Q = rn sc d 25 32 [l0, l1, l2, l3, l4, l5, l6] st M Q := ru_nn rfl (by decide)
set_option maxRecDepth 100000 in
theorem s25_27N : rn sc d 25 27 [l0, l1, l2, l3, l4, l5, l6] (.null :: st) M Q = rn sc d 25 30 [l0, l1, l2, l3, l4, l5, l6] st M Q := ru_nnN rfl
set_option maxRecDepth 100000 in
theorem s25_30 : rn sc d 25 30 [l0, l1, l2, l3, l4, l5, l6] st M Q = rn sc d 25 31 [l0, l1, l2, l3, l4, l5, l6] (.int (-1) :: st) M Q := ru_k rfl rfl rfl rfl rfl (by decide)
set_option maxRecDepth 100000 in
theorem s25_31 {v : Int32} : rn sc d 25 31 [l0, l1, l2, l3, l4, l5, l6] [.int v] M Q = Q (some (.int v)) M := ru_ri rfl rfl
set_option maxRecDepth 100000 in
theorem s25_32 {a : Nat} : rn sc d 25 32 [some (.ref a), l1, l2, l3, l4, l5, l6] st M Q = rn sc d 25 33 [some (.ref a), l1, l2, l3, l4, l5, l6] (.ref a :: st) M Q := ru_1 rfl rfl rfl rfl rfl
set_option maxRecDepth 100000 in
theorem s25_33 {a : Nat} : rn sc d 25 33 [l0, l1, l2, l3, l4, l5, l6] (.ref a :: st) M Q = rn_o (hp_f M a 6 2) (fun v => rn sc d 25 36 [l0, l1, l2, l3, l4, l5, l6] (v :: st) M Q) := ru_get rfl rfl
set_option maxRecDepth 100000 in
theorem s25_36 {a : Nat} : rn sc d 25 36 [l0, l1, l2, l3, some (.ref a), l5, l6] st M Q = rn sc d 25 38 [l0, l1, l2, l3, some (.ref a), l5, l6] (.ref a :: st) M Q := ru_1 rfl rfl rfl rfl rfl
set_option maxRecDepth 100000 in
theorem s25_36N : rn sc d 25 36 [l0, l1, l2, l3, some .null, l5, l6] st M Q = rn sc d 25 38 [l0, l1, l2, l3, some .null, l5, l6] (.null :: st) M Q := ru_1 rfl rfl rfl rfl rfl
set_option maxRecDepth 100000 in
theorem s25_38 {a : Nat} : rn sc d 25 38 [l0, l1, l2, l3, l4, some (.ref a), l6] st M Q = rn sc d 25 40 [l0, l1, l2, l3, l4, some (.ref a), l6] (.ref a :: st) M Q := ru_1 rfl rfl rfl rfl rfl
set_option maxRecDepth 100000 in
theorem s25_38N : rn sc d 25 38 [l0, l1, l2, l3, l4, some .null, l6] st M Q = rn sc d 25 40 [l0, l1, l2, l3, l4, some .null, l6] (.null :: st) M Q := ru_1 rfl rfl rfl rfl rfl
set_option maxRecDepth 100000 in
theorem s25_40 {x : Int32} : rn sc d 25 40 [l0, l1, l2, some (.int x), l4, l5, l6] st M Q = rn sc d 25 41 [l0, l1, l2, some (.int x), l4, l5, l6] (.int x :: st) M Q := ru_1 rfl rfl rfl rfl rfl
set_option maxRecDepth 100000 in
theorem s25_41 {a : Nat} {b0 : Nat} {b1 : Nat} {x2 : Int32} (hw : xm_wt st ≤ 8) (hq : hp_is M a 2) : rn sc (d + 1) 25 41 [l0, l1, l2, l3, l4, l5, l6] (.int x2 :: .ref b1 :: .ref b0 :: .ref a :: st) M Q = rn sc d 26 0 [some (.ref a), some (.ref b0), some (.ref b1), some (.int x2), none, none] [] M (fun r M' => rn sc (d + 1) 25 44 [l0, l1, l2, l3, l4, l5, l6] (r.toList ++ st) M' Q) := ru_d (ru_iv (as := [.int x2, .ref b1, .ref b0]) rfl rfl rfl (Nat.le_of_ble_eq_true rfl) hw rfl hq)
set_option maxRecDepth 100000 in
theorem s25_41N0 {a : Nat} {b1 : Nat} {x2 : Int32} (hw : xm_wt st ≤ 8) (hq : hp_is M a 2) : rn sc (d + 1) 25 41 [l0, l1, l2, l3, l4, l5, l6] (.int x2 :: .ref b1 :: .null :: .ref a :: st) M Q = rn sc d 26 0 [some (.ref a), some (.null), some (.ref b1), some (.int x2), none, none] [] M (fun r M' => rn sc (d + 1) 25 44 [l0, l1, l2, l3, l4, l5, l6] (r.toList ++ st) M' Q) := ru_d (ru_iv (as := [.int x2, .ref b1, .null]) rfl rfl rfl (Nat.le_of_ble_eq_true rfl) hw rfl hq)
set_option maxRecDepth 100000 in
theorem s25_41N1 {a : Nat} {b0 : Nat} {x2 : Int32} (hw : xm_wt st ≤ 8) (hq : hp_is M a 2) : rn sc (d + 1) 25 41 [l0, l1, l2, l3, l4, l5, l6] (.int x2 :: .null :: .ref b0 :: .ref a :: st) M Q = rn sc d 26 0 [some (.ref a), some (.ref b0), some (.null), some (.int x2), none, none] [] M (fun r M' => rn sc (d + 1) 25 44 [l0, l1, l2, l3, l4, l5, l6] (r.toList ++ st) M' Q) := ru_d (ru_iv (as := [.int x2, .null, .ref b0]) rfl rfl rfl (Nat.le_of_ble_eq_true rfl) hw rfl hq)
set_option maxRecDepth 100000 in
theorem s25_44 {x : Int32} : rn sc d 25 44 [l0, l1, l2, l3, l4, l5, l6] (.int x :: st) M Q = rn sc d 25 46 [l0, l1, l2, l3, l4, l5, some (.int x)] st M Q := ru_1 rfl rfl rfl rfl rfl
set_option maxRecDepth 100000 in
theorem s25_46 {a : Nat} : rn sc d 25 46 [some (.ref a), l1, l2, l3, l4, l5, l6] st M Q = rn sc d 25 47 [some (.ref a), l1, l2, l3, l4, l5, l6] (.ref a :: st) M Q := ru_1 rfl rfl rfl rfl rfl
set_option maxRecDepth 100000 in
theorem s25_47 {x : Int32} : rn sc d 25 47 [l0, l1, l2, l3, l4, l5, some (.int x)] st M Q = rn sc d 25 49 [l0, l1, l2, l3, l4, l5, some (.int x)] (.int x :: st) M Q := ru_1 rfl rfl rfl rfl rfl
set_option maxRecDepth 100000 in
theorem s25_49 : rn sc d 25 49 [l0, l1, l2, l3, l4, l5, l6] st M Q = rn sc d 25 50 [l0, l1, l2, l3, l4, l5, l6] (.int 1 :: st) M Q := ru_k rfl rfl rfl rfl rfl (by decide)
set_option maxRecDepth 100000 in
theorem s25_50 {u v : Int32} : rn sc d 25 50 [l0, l1, l2, l3, l4, l5, l6] (.int v :: .int u :: st) M Q = if ¬ u = v then rn sc d 25 63 [l0, l1, l2, l3, l4, l5, l6] st M Q else rn sc d 25 53 [l0, l1, l2, l3, l4, l5, l6] st M Q := ru_ic pc_ne rfl (by decide)
set_option maxRecDepth 100000 in
theorem s25_53 {a : Nat} : rn sc d 25 53 [some (.ref a), l1, l2, l3, l4, l5, l6] st M Q = rn sc d 25 54 [some (.ref a), l1, l2, l3, l4, l5, l6] (.ref a :: st) M Q := ru_1 rfl rfl rfl rfl rfl
set_option maxRecDepth 100000 in
theorem s25_54 {a : Nat} : rn sc d 25 54 [l0, l1, l2, l3, l4, l5, l6] (.ref a :: st) M Q = rn_o (hp_f M a 6 2) (fun v => rn sc d 25 57 [l0, l1, l2, l3, l4, l5, l6] (v :: st) M Q) := ru_get rfl rfl
set_option maxRecDepth 100000 in
theorem s25_57 {a : Nat} : rn sc d 25 57 [l0, l1, l2, l3, l4, l5, l6] (.ref a :: st) M Q = rn_o (hp_f M a 2 5) (fun v => rn sc d 25 60 [l0, l1, l2, l3, l4, l5, l6] (v :: st) M Q) := ru_get rfl rfl
set_option maxRecDepth 100000 in
theorem s25_60 : rn sc d 25 60 [l0, l1, l2, l3, l4, l5, l6] st M Q = rn sc d 25 64 [l0, l1, l2, l3, l4, l5, l6] st M Q := ru_go rfl (by decide)
set_option maxRecDepth 100000 in
theorem s25_63 : rn sc d 25 63 [l0, l1, l2, l3, l4, l5, l6] st M Q = rn sc d 25 64 [l0, l1, l2, l3, l4, l5, l6] (.int (-1) :: st) M Q := ru_k rfl rfl rfl rfl rfl (by decide)
set_option maxRecDepth 100000 in
theorem s25_64 {a : Nat} {v : Value} : rn sc d 25 64 [l0, l1, l2, l3, l4, l5, l6] (v :: .ref a :: st) M Q = rn_o (hp_pf M a 6 3 v) (fun M' => rn sc d 25 67 [l0, l1, l2, l3, l4, l5, l6] st M' Q) := ru_put rfl rfl rfl
set_option maxRecDepth 100000 in
theorem s25_67 {a : Nat} : rn sc d 25 67 [some (.ref a), l1, l2, l3, l4, l5, l6] st M Q = rn sc d 25 68 [some (.ref a), l1, l2, l3, l4, l5, l6] (.ref a :: st) M Q := ru_1 rfl rfl rfl rfl rfl
set_option maxRecDepth 100000 in
theorem s25_68 {x : Int32} : rn sc d 25 68 [l0, l1, l2, l3, l4, l5, some (.int x)] st M Q = rn sc d 25 70 [l0, l1, l2, l3, l4, l5, some (.int x)] (.int x :: st) M Q := ru_1 rfl rfl rfl rfl rfl
set_option maxRecDepth 100000 in
theorem s25_70 : rn sc d 25 70 [l0, l1, l2, l3, l4, l5, l6] st M Q = rn sc d 25 71 [l0, l1, l2, l3, l4, l5, l6] (.int 1 :: st) M Q := ru_k rfl rfl rfl rfl rfl (by decide)
set_option maxRecDepth 100000 in
theorem s25_71 {u v : Int32} : rn sc d 25 71 [l0, l1, l2, l3, l4, l5, l6] (.int v :: .int u :: st) M Q = if ¬ u = v then rn sc d 25 84 [l0, l1, l2, l3, l4, l5, l6] st M Q else rn sc d 25 74 [l0, l1, l2, l3, l4, l5, l6] st M Q := ru_ic pc_ne rfl (by decide)
set_option maxRecDepth 100000 in
theorem s25_74 {a : Nat} : rn sc d 25 74 [some (.ref a), l1, l2, l3, l4, l5, l6] st M Q = rn sc d 25 75 [some (.ref a), l1, l2, l3, l4, l5, l6] (.ref a :: st) M Q := ru_1 rfl rfl rfl rfl rfl
set_option maxRecDepth 100000 in
theorem s25_75 {a : Nat} : rn sc d 25 75 [l0, l1, l2, l3, l4, l5, l6] (.ref a :: st) M Q = rn_o (hp_f M a 6 2) (fun v => rn sc d 25 78 [l0, l1, l2, l3, l4, l5, l6] (v :: st) M Q) := ru_get rfl rfl
set_option maxRecDepth 100000 in
theorem s25_78 {a : Nat} : rn sc d 25 78 [l0, l1, l2, l3, l4, l5, l6] (.ref a :: st) M Q = rn_o (hp_f M a 2 6) (fun v => rn sc d 25 81 [l0, l1, l2, l3, l4, l5, l6] (v :: st) M Q) := ru_get rfl rfl
set_option maxRecDepth 100000 in
theorem s25_81 : rn sc d 25 81 [l0, l1, l2, l3, l4, l5, l6] st M Q = rn sc d 25 85 [l0, l1, l2, l3, l4, l5, l6] st M Q := ru_go rfl (by decide)
set_option maxRecDepth 100000 in
theorem s25_84 : rn sc d 25 84 [l0, l1, l2, l3, l4, l5, l6] st M Q = rn sc d 25 85 [l0, l1, l2, l3, l4, l5, l6] (.int (-1) :: st) M Q := ru_k rfl rfl rfl rfl rfl (by decide)
set_option maxRecDepth 100000 in
theorem s25_85 {a : Nat} {v : Value} : rn sc d 25 85 [l0, l1, l2, l3, l4, l5, l6] (v :: .ref a :: st) M Q = rn_o (hp_pf M a 6 4 v) (fun M' => rn sc d 25 88 [l0, l1, l2, l3, l4, l5, l6] st M' Q) := ru_put rfl rfl rfl
set_option maxRecDepth 100000 in
theorem s25_88 {a : Nat} : rn sc d 25 88 [some (.ref a), l1, l2, l3, l4, l5, l6] st M Q = rn sc d 25 89 [some (.ref a), l1, l2, l3, l4, l5, l6] (.ref a :: st) M Q := ru_1 rfl rfl rfl rfl rfl
set_option maxRecDepth 100000 in
theorem s25_89 {a : Nat} : rn sc d 25 89 [some (.ref a), l1, l2, l3, l4, l5, l6] st M Q = rn sc d 25 90 [some (.ref a), l1, l2, l3, l4, l5, l6] (.ref a :: st) M Q := ru_1 rfl rfl rfl rfl rfl
set_option maxRecDepth 100000 in
theorem s25_90 {a : Nat} : rn sc d 25 90 [l0, l1, l2, l3, l4, l5, l6] (.ref a :: st) M Q = rn_o (hp_f M a 6 2) (fun v => rn sc d 25 93 [l0, l1, l2, l3, l4, l5, l6] (v :: st) M Q) := ru_get rfl rfl
set_option maxRecDepth 100000 in
theorem s25_93 {a : Nat} : rn sc d 25 93 [l0, l1, l2, l3, l4, l5, l6] (.ref a :: st) M Q = rn_o (hp_f M a 2 2) (fun v => rn sc d 25 96 [l0, l1, l2, l3, l4, l5, l6] (v :: st) M Q) := ru_get rfl rfl
set_option maxRecDepth 100000 in
theorem s25_96 {a : Nat} : rn sc d 25 96 [l0, l1, l2, l3, l4, l5, l6] (.ref a :: st) M Q = rn_o (hp_f M a 3 5) (fun v => rn sc d 25 99 [l0, l1, l2, l3, l4, l5, l6] (v :: st) M Q) := ru_get rfl rfl
set_option maxRecDepth 100000 in
theorem s25_99 {a : Nat} {v : Value} : rn sc d 25 99 [l0, l1, l2, l3, l4, l5, l6] (v :: .ref a :: st) M Q = rn_o (hp_pf M a 6 5 v) (fun M' => rn sc d 25 102 [l0, l1, l2, l3, l4, l5, l6] st M' Q) := ru_put rfl rfl rfl
set_option maxRecDepth 100000 in
theorem s25_102 {x : Int32} : rn sc d 25 102 [l0, l1, l2, l3, l4, l5, some (.int x)] st M Q = rn sc d 25 104 [l0, l1, l2, l3, l4, l5, some (.int x)] (.int x :: st) M Q := ru_1 rfl rfl rfl rfl rfl
set_option maxRecDepth 100000 in
theorem s25_104 {v : Int32} : rn sc d 25 104 [l0, l1, l2, l3, l4, l5, l6] [.int v] M Q = Q (some (.int v)) M := ru_ri rfl rfl
set_option maxRecDepth 100000 in
theorem s26_0 {a : Nat} : rn sc d 26 0 [some (.ref a), l1, l2, l3, l4, l5] st M Q = rn sc d 26 1 [some (.ref a), l1, l2, l3, l4, l5] (.ref a :: st) M Q := ru_1 rfl rfl rfl rfl rfl
set_option maxRecDepth 100000 in
theorem s26_1 {a : Nat} : rn sc d 26 1 [l0, l1, l2, l3, l4, l5] (.ref a :: st) M Q = rn_o (hp_f M a 2 1) (fun v => rn sc d 26 4 [l0, l1, l2, l3, l4, l5] (v :: st) M Q) := ru_get rfl rfl
set_option maxRecDepth 100000 in
theorem s26_4 {a : Nat} : rn sc d 26 4 [l0, some (.ref a), l2, l3, l4, l5] st M Q = rn sc d 26 5 [l0, some (.ref a), l2, l3, l4, l5] (.ref a :: st) M Q := ru_1 rfl rfl rfl rfl rfl
set_option maxRecDepth 100000 in
theorem s26_4N : rn sc d 26 4 [l0, some .null, l2, l3, l4, l5] st M Q = rn sc d 26 5 [l0, some .null, l2, l3, l4, l5] (.null :: st) M Q := ru_1 rfl rfl rfl rfl rfl
set_option maxRecDepth 100000 in
theorem s26_5 {a : Nat} {b0 : Nat} (hw : xm_wt st ≤ 8) (hq : hp_is M a 5) : rn sc (d + 1) 26 5 [l0, l1, l2, l3, l4, l5] (.ref b0 :: .ref a :: st) M Q = rn sc d 12 0 [some (.ref a), some (.ref b0)] [] M (fun r M' => rn sc (d + 1) 26 8 [l0, l1, l2, l3, l4, l5] (r.toList ++ st) M' Q) := ru_d (ru_iv (as := [.ref b0]) rfl rfl rfl (Nat.le_of_ble_eq_true rfl) hw rfl hq)
set_option maxRecDepth 100000 in
theorem s26_5N {a : Nat}  (hw : xm_wt st ≤ 8) (hq : hp_is M a 5) : rn sc (d + 1) 26 5 [l0, l1, l2, l3, l4, l5] (.null :: .ref a :: st) M Q = rn sc d 12 0 [some (.ref a), some (.null)] [] M (fun r M' => rn sc (d + 1) 26 8 [l0, l1, l2, l3, l4, l5] (r.toList ++ st) M' Q) := ru_d (ru_iv (as := [.null]) rfl rfl rfl (Nat.le_of_ble_eq_true rfl) hw rfl hq)
set_option maxRecDepth 100000 in
theorem s26_8 {a : Nat} : rn sc d 26 8 [some (.ref a), l1, l2, l3, l4, l5] st M Q = rn sc d 26 9 [some (.ref a), l1, l2, l3, l4, l5] (.ref a :: st) M Q := ru_1 rfl rfl rfl rfl rfl
set_option maxRecDepth 100000 in
theorem s26_9 {a : Nat} : rn sc d 26 9 [l0, l1, l2, l3, l4, l5] (.ref a :: st) M Q = rn_o (hp_f M a 2 2) (fun v => rn sc d 26 12 [l0, l1, l2, l3, l4, l5] (v :: st) M Q) := ru_get rfl rfl
set_option maxRecDepth 100000 in
theorem s26_12 : rn sc d 26 12 [l0, l1, l2, l3, l4, l5] st M Q = rn sc d 26 13 [l0, l1, l2, l3, l4, l5] (.int 0 :: st) M Q := ru_k rfl rfl rfl rfl rfl (by decide)
set_option maxRecDepth 100000 in
theorem s26_13 {a : Nat} {v : Value} : rn sc d 26 13 [l0, l1, l2, l3, l4, l5] (v :: .ref a :: st) M Q = rn_o (hp_pf M a 3 5 v) (fun M' => rn sc d 26 16 [l0, l1, l2, l3, l4, l5] st M' Q) := ru_put rfl rfl rfl
set_option maxRecDepth 100000 in
theorem s26_16 {a : Nat} : rn sc d 26 16 [some (.ref a), l1, l2, l3, l4, l5] st M Q = rn sc d 26 17 [some (.ref a), l1, l2, l3, l4, l5] (.ref a :: st) M Q := ru_1 rfl rfl rfl rfl rfl
set_option maxRecDepth 100000 in
theorem s26_17 : rn sc d 26 17 [l0, l1, l2, l3, l4, l5] st M Q = rn sc d 26 18 [l0, l1, l2, l3, l4, l5] (.int 0 :: st) M Q := ru_k rfl rfl rfl rfl rfl (by decide)
set_option maxRecDepth 100000 in
theorem s26_18 {a : Nat} {v : Value} : rn sc d 26 18 [l0, l1, l2, l3, l4, l5] (v :: .ref a :: st) M Q = rn_o (hp_pf M a 2 7 v) (fun M' => rn sc d 26 21 [l0, l1, l2, l3, l4, l5] st M' Q) := ru_put rfl rfl rfl
set_option maxRecDepth 100000 in
theorem s26_21 {x : Int32} : rn sc d 26 21 [l0, l1, l2, some (.int x), l4, l5] st M Q = rn sc d 26 22 [l0, l1, l2, some (.int x), l4, l5] (.int x :: st) M Q := ru_1 rfl rfl rfl rfl rfl
set_option maxRecDepth 100000 in
theorem s26_22 {x : Int32} : rn sc d 26 22 [l0, l1, l2, l3, l4, l5] (.int x :: st) M Q = if x = 0 then rn sc d 26 29 [l0, l1, l2, l3, l4, l5] st M Q else rn sc d 26 25 [l0, l1, l2, l3, l4, l5] st M Q := ru_if pc_eq rfl (by decide)
set_option maxRecDepth 100000 in
theorem s26_25 : rn sc d 26 25 [l0, l1, l2, l3, l4, l5] st M Q = rn sc d 26 26 [l0, l1, l2, l3, l4, l5] (.int 0 :: st) M Q := ru_k rfl rfl rfl rfl rfl (by decide)
set_option maxRecDepth 100000 in
theorem s26_26 : rn sc d 26 26 [l0, l1, l2, l3, l4, l5] st M Q = rn sc d 26 36 [l0, l1, l2, l3, l4, l5] st M Q := ru_go rfl (by decide)
set_option maxRecDepth 100000 in
theorem s26_29 {a : Nat} : rn sc d 26 29 [some (.ref a), l1, l2, l3, l4, l5] st M Q = rn sc d 26 30 [some (.ref a), l1, l2, l3, l4, l5] (.ref a :: st) M Q := ru_1 rfl rfl rfl rfl rfl
set_option maxRecDepth 100000 in
theorem s26_30 {a : Nat} : rn sc d 26 30 [l0, l1, l2, l3, l4, l5] (.ref a :: st) M Q = rn_o (hp_f M a 2 1) (fun v => rn sc d 26 33 [l0, l1, l2, l3, l4, l5] (v :: st) M Q) := ru_get rfl rfl
set_option maxRecDepth 100000 in
theorem s26_33 {a : Nat} : rn sc d 26 33 [l0, l1, l2, l3, l4, l5] (.ref a :: st) M Q = rn_o (hp_f M a 5 1) (fun v => rn sc d 26 36 [l0, l1, l2, l3, l4, l5] (v :: st) M Q) := ru_get rfl rfl
set_option maxRecDepth 100000 in
theorem s26_36 {x : Int32} : rn sc d 26 36 [l0, l1, l2, l3, l4, l5] (.int x :: st) M Q = rn sc d 26 38 [l0, l1, l2, l3, some (.int x), l5] st M Q := ru_1 rfl rfl rfl rfl rfl
set_option maxRecDepth 100000 in
theorem s26_38 : rn sc d 26 38 [l0, l1, l2, l3, l4, l5] st M Q = rn sc d 26 39 [l0, l1, l2, l3, l4, l5] (.int 0 :: st) M Q := ru_k rfl rfl rfl rfl rfl (by decide)
set_option maxRecDepth 100000 in
theorem s26_39 {x : Int32} : rn sc d 26 39 [l0, l1, l2, l3, l4, l5] (.int x :: st) M Q = rn sc d 26 41 [l0, l1, l2, l3, l4, some (.int x)] st M Q := ru_1 rfl rfl rfl rfl rfl
set_option maxRecDepth 100000 in
theorem s26_41 {x : Int32} : rn sc d 26 41 [l0, l1, l2, l3, l4, some (.int x)] st M Q = rn sc d 26 43 [l0, l1, l2, l3, l4, some (.int x)] (.int x :: st) M Q := ru_1 rfl rfl rfl rfl rfl
set_option maxRecDepth 100000 in
theorem s26_43 {x : Int32} : rn sc d 26 43 [l0, l1, l2, l3, some (.int x), l5] st M Q = rn sc d 26 45 [l0, l1, l2, l3, some (.int x), l5] (.int x :: st) M Q := ru_1 rfl rfl rfl rfl rfl
set_option maxRecDepth 100000 in
theorem s26_45 {u v : Int32} : rn sc d 26 45 [l0, l1, l2, l3, l4, l5] (.int v :: .int u :: st) M Q = if v < u then rn sc d 26 68 [l0, l1, l2, l3, l4, l5] st M Q else rn sc d 26 48 [l0, l1, l2, l3, l4, l5] st M Q := ru_ic pc_gt rfl (by decide)
set_option maxRecDepth 100000 in
theorem s26_48 {a : Nat} : rn sc d 26 48 [some (.ref a), l1, l2, l3, l4, l5] st M Q = rn sc d 26 49 [some (.ref a), l1, l2, l3, l4, l5] (.ref a :: st) M Q := ru_1 rfl rfl rfl rfl rfl
set_option maxRecDepth 100000 in
theorem s26_49 {a : Nat} : rn sc d 26 49 [l0, l1, l2, l3, l4, l5] (.ref a :: st) M Q = rn_o (hp_f M a 2 7) (fun v => rn sc d 26 52 [l0, l1, l2, l3, l4, l5] (v :: st) M Q) := ru_get rfl rfl
set_option maxRecDepth 100000 in
theorem s26_52 {x : Int32} : rn sc d 26 52 [l0, l1, l2, l3, l4, l5] (.int x :: st) M Q = if ¬ x = 0 then rn sc d 26 68 [l0, l1, l2, l3, l4, l5] st M Q else rn sc d 26 55 [l0, l1, l2, l3, l4, l5] st M Q := ru_if pc_ne rfl (by decide)
set_option maxRecDepth 100000 in
theorem s26_55 {a : Nat} : rn sc d 26 55 [some (.ref a), l1, l2, l3, l4, l5] st M Q = rn sc d 26 56 [some (.ref a), l1, l2, l3, l4, l5] (.ref a :: st) M Q := ru_1 rfl rfl rfl rfl rfl
set_option maxRecDepth 100000 in
theorem s26_56 {a : Nat} : rn sc d 26 56 [l0, l1, some (.ref a), l3, l4, l5] st M Q = rn sc d 26 57 [l0, l1, some (.ref a), l3, l4, l5] (.ref a :: st) M Q := ru_1 rfl rfl rfl rfl rfl
set_option maxRecDepth 100000 in
theorem s26_56N : rn sc d 26 56 [l0, l1, some .null, l3, l4, l5] st M Q = rn sc d 26 57 [l0, l1, some .null, l3, l4, l5] (.null :: st) M Q := ru_1 rfl rfl rfl rfl rfl
set_option maxRecDepth 100000 in
theorem s26_57 {x : Int32} : rn sc d 26 57 [l0, l1, l2, l3, l4, some (.int x)] st M Q = rn sc d 26 59 [l0, l1, l2, l3, l4, some (.int x)] (.int x :: st) M Q := ru_1 rfl rfl rfl rfl rfl
set_option maxRecDepth 100000 in
theorem s26_59 {a : Nat} {b0 : Nat} {x1 : Int32} (hw : xm_wt st ≤ 8) (hq : hp_is M a 2) : rn sc (d + 1) 26 59 [l0, l1, l2, l3, l4, l5] (.int x1 :: .ref b0 :: .ref a :: st) M Q = rn sc d 27 0 [some (.ref a), some (.ref b0), some (.int x1), none] [] M (fun r M' => rn sc (d + 1) 26 62 [l0, l1, l2, l3, l4, l5] (r.toList ++ st) M' Q) := ru_d (ru_iv (as := [.int x1, .ref b0]) rfl rfl rfl (Nat.le_of_ble_eq_true rfl) hw rfl hq)
set_option maxRecDepth 100000 in
theorem s26_59N {a : Nat} {x1 : Int32} (hw : xm_wt st ≤ 8) (hq : hp_is M a 2) : rn sc (d + 1) 26 59 [l0, l1, l2, l3, l4, l5] (.int x1 :: .null :: .ref a :: st) M Q = rn sc d 27 0 [some (.ref a), some (.null), some (.int x1), none] [] M (fun r M' => rn sc (d + 1) 26 62 [l0, l1, l2, l3, l4, l5] (r.toList ++ st) M' Q) := ru_d (ru_iv (as := [.int x1, .null]) rfl rfl rfl (Nat.le_of_ble_eq_true rfl) hw rfl hq)
set_option maxRecDepth 100000 in
theorem s26_62 {x : Int32} : rn sc d 26 62 [l0, l1, l2, l3, l4, some (.int x)] st M Q = rn sc d 26 65 [l0, l1, l2, l3, l4, some (.int (x + 1))] st M Q := ru_1 rfl rfl rfl rfl rfl
set_option maxRecDepth 100000 in
theorem s26_65 : rn sc d 26 65 [l0, l1, l2, l3, l4, l5] st M Q = rn sc d 26 41 [l0, l1, l2, l3, l4, l5] st M Q := ru_go rfl (by decide)
set_option maxRecDepth 100000 in
theorem s26_68 {a : Nat} : rn sc d 26 68 [some (.ref a), l1, l2, l3, l4, l5] st M Q = rn sc d 26 69 [some (.ref a), l1, l2, l3, l4, l5] (.ref a :: st) M Q := ru_1 rfl rfl rfl rfl rfl
set_option maxRecDepth 100000 in
theorem s26_69 {a : Nat} : rn sc d 26 69 [l0, l1, l2, l3, l4, l5] (.ref a :: st) M Q = rn_o (hp_f M a 2 7) (fun v => rn sc d 26 72 [l0, l1, l2, l3, l4, l5] (v :: st) M Q) := ru_get rfl rfl
set_option maxRecDepth 100000 in
theorem s26_72 : rn sc d 26 72 [l0, l1, l2, l3, l4, l5] st M Q = rn sc d 26 73 [l0, l1, l2, l3, l4, l5] (.int 1 :: st) M Q := ru_k rfl rfl rfl rfl rfl (by decide)
set_option maxRecDepth 100000 in
theorem s26_73 {u v : Int32} : rn sc d 26 73 [l0, l1, l2, l3, l4, l5] (.int v :: .int u :: st) M Q = if ¬ u = v then rn sc d 26 80 [l0, l1, l2, l3, l4, l5] st M Q else rn sc d 26 76 [l0, l1, l2, l3, l4, l5] st M Q := ru_ic pc_ne rfl (by decide)
set_option maxRecDepth 100000 in
theorem s26_76 {a : Nat} : rn sc d 26 76 [some (.ref a), l1, l2, l3, l4, l5] st M Q = rn sc d 26 77 [some (.ref a), l1, l2, l3, l4, l5] (.ref a :: st) M Q := ru_1 rfl rfl rfl rfl rfl
set_option maxRecDepth 100000 in
theorem s26_77 {a : Nat}  (hw : xm_wt st ≤ 8) (hq : hp_is M a 2) : rn sc (d + 1) 26 77 [l0, l1, l2, l3, l4, l5] (.ref a :: st) M Q = rn sc d 50 0 [some (.ref a), none] [] M (fun r M' => rn sc (d + 1) 26 80 [l0, l1, l2, l3, l4, l5] (r.toList ++ st) M' Q) := ru_d (ru_iv (as := []) rfl rfl rfl (Nat.le_of_ble_eq_true rfl) hw rfl hq)
set_option maxRecDepth 100000 in
theorem s26_80 {a : Nat} : rn sc d 26 80 [some (.ref a), l1, l2, l3, l4, l5] st M Q = rn sc d 26 81 [some (.ref a), l1, l2, l3, l4, l5] (.ref a :: st) M Q := ru_1 rfl rfl rfl rfl rfl
set_option maxRecDepth 100000 in
theorem s26_81 {a : Nat} : rn sc d 26 81 [l0, l1, l2, l3, l4, l5] (.ref a :: st) M Q = rn_o (hp_f M a 2 7) (fun v => rn sc d 26 84 [l0, l1, l2, l3, l4, l5] (v :: st) M Q) := ru_get rfl rfl
set_option maxRecDepth 100000 in
theorem s26_84 {v : Int32} : rn sc d 26 84 [l0, l1, l2, l3, l4, l5] [.int v] M Q = Q (some (.int v)) M := ru_ri rfl rfl
set_option maxRecDepth 100000 in
theorem s27_0 {a : Nat} : rn sc d 27 0 [some (.ref a), l1, l2, l3] st M Q = rn sc d 27 1 [some (.ref a), l1, l2, l3] (.ref a :: st) M Q := ru_1 rfl rfl rfl rfl rfl
set_option maxRecDepth 100000 in
theorem s27_1 {x : Int32} : rn sc d 27 1 [l0, l1, some (.int x), l3] st M Q = rn sc d 27 2 [l0, l1, some (.int x), l3] (.int x :: st) M Q := ru_1 rfl rfl rfl rfl rfl
set_option maxRecDepth 100000 in
theorem s27_2 {a : Nat} {v : Value} : rn sc d 27 2 [l0, l1, l2, l3] (v :: .ref a :: st) M Q = rn_o (hp_pf M a 2 5 v) (fun M' => rn sc d 27 5 [l0, l1, l2, l3] st M' Q) := ru_put rfl rfl rfl
set_option maxRecDepth 100000 in
theorem s27_5 {a : Nat} : rn sc d 27 5 [some (.ref a), l1, l2, l3] st M Q = rn sc d 27 6 [some (.ref a), l1, l2, l3] (.ref a :: st) M Q := ru_1 rfl rfl rfl rfl rfl
set_option maxRecDepth 100000 in
theorem s27_6 {a : Nat} : rn sc d 27 6 [l0, l1, l2, l3] (.ref a :: st) M Q = rn_o (hp_f M a 2 3) (fun v => rn sc d 27 9 [l0, l1, l2, l3] (v :: st) M Q) := ru_get rfl rfl
set_option maxRecDepth 100000 in
theorem s27_9 : rn sc d 27 9 [l0, l1, l2, l3] st M Q = rn sc d 27 10 [l0, l1, l2, l3] (.int 0 :: st) M Q := ru_k rfl rfl rfl rfl rfl (by decide)
set_option maxRecDepth 100000 in
theorem s27_10 {a : Nat} {v : Value} : rn sc d 27 10 [l0, l1, l2, l3] (v :: .ref a :: st) M Q = rn_o (hp_pf M a 1 1 v) (fun M' => rn sc d 27 13 [l0, l1, l2, l3] st M' Q) := ru_put rfl rfl rfl
set_option maxRecDepth 100000 in
theorem s27_13 {a : Nat} : rn sc d 27 13 [some (.ref a), l1, l2, l3] st M Q = rn sc d 27 14 [some (.ref a), l1, l2, l3] (.ref a :: st) M Q := ru_1 rfl rfl rfl rfl rfl
set_option maxRecDepth 100000 in
theorem s27_14 {a : Nat} : rn sc d 27 14 [l0, l1, l2, l3] (.ref a :: st) M Q = rn_o (hp_f M a 2 4) (fun v => rn sc d 27 17 [l0, l1, l2, l3] (v :: st) M Q) := ru_get rfl rfl
set_option maxRecDepth 100000 in
theorem s27_17 : rn sc d 27 17 [l0, l1, l2, l3] st M Q = rn sc d 27 18 [l0, l1, l2, l3] (.int 0 :: st) M Q := ru_k rfl rfl rfl rfl rfl (by decide)
set_option maxRecDepth 100000 in
theorem s27_18 {a : Nat} {v : Value} : rn sc d 27 18 [l0, l1, l2, l3] (v :: .ref a :: st) M Q = rn_o (hp_pf M a 1 1 v) (fun M' => rn sc d 27 21 [l0, l1, l2, l3] st M' Q) := ru_put rfl rfl rfl
set_option maxRecDepth 100000 in
theorem s27_21 {a : Nat} : rn sc d 27 21 [some (.ref a), l1, l2, l3] st M Q = rn sc d 27 22 [some (.ref a), l1, l2, l3] (.ref a :: st) M Q := ru_1 rfl rfl rfl rfl rfl
set_option maxRecDepth 100000 in
theorem s27_22 : rn sc d 27 22 [l0, l1, l2, l3] st M Q = rn sc d 27 23 [l0, l1, l2, l3] (.int 4 :: st) M Q := ru_k rfl rfl rfl rfl rfl (by decide)
set_option maxRecDepth 100000 in
theorem s27_23 {a : Nat} {v : Value} : rn sc d 27 23 [l0, l1, l2, l3] (v :: .ref a :: st) M Q = rn_o (hp_pf M a 2 7 v) (fun M' => rn sc d 27 26 [l0, l1, l2, l3] st M' Q) := ru_put rfl rfl rfl
set_option maxRecDepth 100000 in
theorem s27_26 {a : Nat} : rn sc d 27 26 [some (.ref a), l1, l2, l3] st M Q = rn sc d 27 27 [some (.ref a), l1, l2, l3] (.ref a :: st) M Q := ru_1 rfl rfl rfl rfl rfl
set_option maxRecDepth 100000 in
theorem s27_27 {a : Nat} : rn sc d 27 27 [l0, some (.ref a), l2, l3] st M Q = rn sc d 27 28 [l0, some (.ref a), l2, l3] (.ref a :: st) M Q := ru_1 rfl rfl rfl rfl rfl
set_option maxRecDepth 100000 in
theorem s27_27N : rn sc d 27 27 [l0, some .null, l2, l3] st M Q = rn sc d 27 28 [l0, some .null, l2, l3] (.null :: st) M Q := ru_1 rfl rfl rfl rfl rfl
set_option maxRecDepth 100000 in
theorem s27_28 {x : Int32} : rn sc d 27 28 [l0, l1, some (.int x), l3] st M Q = rn sc d 27 29 [l0, l1, some (.int x), l3] (.int x :: st) M Q := ru_1 rfl rfl rfl rfl rfl
set_option maxRecDepth 100000 in
theorem s27_29 : rn sc d 27 29 [l0, l1, l2, l3] st M Q = rn sc d 27 30 [l0, l1, l2, l3] (.int 0 :: st) M Q := ru_k rfl rfl rfl rfl rfl (by decide)
set_option maxRecDepth 100000 in
theorem s27_30 {a : Nat} {b0 : Nat} {x1 : Int32} {x2 : Int32} (hw : xm_wt st ≤ 8) (hq : hp_is M a 2) : rn sc (d + 1) 27 30 [l0, l1, l2, l3] (.int x2 :: .int x1 :: .ref b0 :: .ref a :: st) M Q = rn sc d 28 0 [some (.ref a), some (.ref b0), some (.int x1), some (.int x2)] [] M (fun r M' => rn sc (d + 1) 27 33 [l0, l1, l2, l3] (r.toList ++ st) M' Q) := ru_d (ru_iv (as := [.int x2, .int x1, .ref b0]) rfl rfl rfl (Nat.le_of_ble_eq_true rfl) hw rfl hq)
set_option maxRecDepth 100000 in
theorem s27_30N {a : Nat} {x1 : Int32} {x2 : Int32} (hw : xm_wt st ≤ 8) (hq : hp_is M a 2) : rn sc (d + 1) 27 30 [l0, l1, l2, l3] (.int x2 :: .int x1 :: .null :: .ref a :: st) M Q = rn sc d 28 0 [some (.ref a), some (.null), some (.int x1), some (.int x2)] [] M (fun r M' => rn sc (d + 1) 27 33 [l0, l1, l2, l3] (r.toList ++ st) M' Q) := ru_d (ru_iv (as := [.int x2, .int x1, .null]) rfl rfl rfl (Nat.le_of_ble_eq_true rfl) hw rfl hq)
set_option maxRecDepth 100000 in
theorem s27_33 : rn sc d 27 33 [l0, l1, l2, l3] st M Q = rn sc d 27 34 [l0, l1, l2, l3] (.int 0 :: st) M Q := ru_k rfl rfl rfl rfl rfl (by decide)
set_option maxRecDepth 100000 in
theorem s27_34 {x : Int32} : rn sc d 27 34 [l0, l1, l2, l3] (.int x :: st) M Q = rn sc d 27 35 [l0, l1, l2, some (.int x)] st M Q := ru_1 rfl rfl rfl rfl rfl
set_option maxRecDepth 100000 in
theorem s27_35 {x : Int32} : rn sc d 27 35 [l0, l1, l2, some (.int x)] st M Q = rn sc d 27 36 [l0, l1, l2, some (.int x)] (.int x :: st) M Q := ru_1 rfl rfl rfl rfl rfl
set_option maxRecDepth 100000 in
theorem s27_36 : rn sc d 27 36 [l0, l1, l2, l3] st M Q = rn sc d 27 38 [l0, l1, l2, l3] (.int 1000000 :: st) M Q := ru_k rfl rfl rfl rfl rfl (by decide)
set_option maxRecDepth 100000 in
theorem s27_38 {u v : Int32} : rn sc d 27 38 [l0, l1, l2, l3] (.int v :: .int u :: st) M Q = if v ≤ u then rn sc d 27 104 [l0, l1, l2, l3] st M Q else rn sc d 27 41 [l0, l1, l2, l3] st M Q := ru_ic pc_ge rfl (by decide)
set_option maxRecDepth 100000 in
theorem s27_41 {a : Nat} : rn sc d 27 41 [some (.ref a), l1, l2, l3] st M Q = rn sc d 27 42 [some (.ref a), l1, l2, l3] (.ref a :: st) M Q := ru_1 rfl rfl rfl rfl rfl
set_option maxRecDepth 100000 in
theorem s27_42 {a : Nat} : rn sc d 27 42 [l0, l1, l2, l3] (.ref a :: st) M Q = rn_o (hp_f M a 2 7) (fun v => rn sc d 27 45 [l0, l1, l2, l3] (v :: st) M Q) := ru_get rfl rfl
set_option maxRecDepth 100000 in
theorem s27_45 : rn sc d 27 45 [l0, l1, l2, l3] st M Q = rn sc d 27 46 [l0, l1, l2, l3] (.int 4 :: st) M Q := ru_k rfl rfl rfl rfl rfl (by decide)
set_option maxRecDepth 100000 in
theorem s27_46 {u v : Int32} : rn sc d 27 46 [l0, l1, l2, l3] (.int v :: .int u :: st) M Q = if ¬ u = v then rn sc d 27 104 [l0, l1, l2, l3] st M Q else rn sc d 27 49 [l0, l1, l2, l3] st M Q := ru_ic pc_ne rfl (by decide)
set_option maxRecDepth 100000 in
theorem s27_49 {a : Nat} : rn sc d 27 49 [some (.ref a), l1, l2, l3] st M Q = rn sc d 27 50 [some (.ref a), l1, l2, l3] (.ref a :: st) M Q := ru_1 rfl rfl rfl rfl rfl
set_option maxRecDepth 100000 in
theorem s27_50 {a : Nat} : rn sc d 27 50 [l0, l1, l2, l3] (.ref a :: st) M Q = rn_o (hp_f M a 2 8) (fun v => rn sc d 27 53 [l0, l1, l2, l3] (v :: st) M Q) := ru_get rfl rfl
set_option maxRecDepth 100000 in
theorem s27_53_0 : rn sc d 27 53 [l0, l1, l2, l3] (.int 0 :: st) M Q = rn sc d 27 80 [l0, l1, l2, l3] st M Q := ru_sw rfl rfl rfl rfl rfl (by decide) sw_l
set_option maxRecDepth 100000 in
theorem s27_53_1 : rn sc d 27 53 [l0, l1, l2, l3] (.int 1 :: st) M Q = rn sc d 27 87 [l0, l1, l2, l3] st M Q := ru_sw rfl rfl rfl rfl rfl (by decide) sw_l
set_option maxRecDepth 100000 in
theorem s27_53_d {x : Int32} (h0 : ¬ x = 0) (h1 : ¬ x = 1) : rn sc d 27 53 [l0, l1, l2, l3] (.int x :: st) M Q = rn sc d 27 94 [l0, l1, l2, l3] st M Q := ru_sw rfl rfl rfl rfl rfl (by simp only [xm_s2]; rw [if_pos (by decide)]; rw [lv_osw (a := 0) h0 rfl, lv_osw (a := 1) h1 rfl]; rfl) sw_l
set_option maxRecDepth 100000 in
theorem s27_80 {a : Nat} : rn sc d 27 80 [some (.ref a), l1, l2, l3] st M Q = rn sc d 27 81 [some (.ref a), l1, l2, l3] (.ref a :: st) M Q := ru_1 rfl rfl rfl rfl rfl
set_option maxRecDepth 100000 in
theorem s27_81 {a : Nat}  (hw : xm_wt st ≤ 8) (hq : hp_is M a 2) : rn sc (d + 1) 27 81 [l0, l1, l2, l3] (.ref a :: st) M Q = rn sc d 29 0 [some (.ref a), none] [] M (fun r M' => rn sc (d + 1) 27 84 [l0, l1, l2, l3] (r.toList ++ st) M' Q) := ru_d (ru_iv (as := []) rfl rfl rfl (Nat.le_of_ble_eq_true rfl) hw rfl hq)
set_option maxRecDepth 100000 in
theorem s27_84 : rn sc d 27 84 [l0, l1, l2, l3] st M Q = rn sc d 27 98 [l0, l1, l2, l3] st M Q := ru_go rfl (by decide)
set_option maxRecDepth 100000 in
theorem s27_87 {a : Nat} : rn sc d 27 87 [some (.ref a), l1, l2, l3] st M Q = rn sc d 27 88 [some (.ref a), l1, l2, l3] (.ref a :: st) M Q := ru_1 rfl rfl rfl rfl rfl
set_option maxRecDepth 100000 in
theorem s27_88 {a : Nat}  (hw : xm_wt st ≤ 8) (hq : hp_is M a 2) : rn sc (d + 1) 27 88 [l0, l1, l2, l3] (.ref a :: st) M Q = rn sc d 45 0 [some (.ref a), none, none] [] M (fun r M' => rn sc (d + 1) 27 91 [l0, l1, l2, l3] (r.toList ++ st) M' Q) := ru_d (ru_iv (as := []) rfl rfl rfl (Nat.le_of_ble_eq_true rfl) hw rfl hq)
set_option maxRecDepth 100000 in
theorem s27_91 : rn sc d 27 91 [l0, l1, l2, l3] st M Q = rn sc d 27 98 [l0, l1, l2, l3] st M Q := ru_go rfl (by decide)
set_option maxRecDepth 100000 in
theorem s27_94 {a : Nat} : rn sc d 27 94 [some (.ref a), l1, l2, l3] st M Q = rn sc d 27 95 [some (.ref a), l1, l2, l3] (.ref a :: st) M Q := ru_1 rfl rfl rfl rfl rfl
set_option maxRecDepth 100000 in
theorem s27_95 {a : Nat}  (hw : xm_wt st ≤ 8) (hq : hp_is M a 2) : rn sc (d + 1) 27 95 [l0, l1, l2, l3] (.ref a :: st) M Q = rn sc d 49 0 [some (.ref a), none, none] [] M (fun r M' => rn sc (d + 1) 27 98 [l0, l1, l2, l3] (r.toList ++ st) M' Q) := ru_d (ru_iv (as := []) rfl rfl rfl (Nat.le_of_ble_eq_true rfl) hw rfl hq)
set_option maxRecDepth 100000 in
theorem s27_98 {x : Int32} : rn sc d 27 98 [l0, l1, l2, some (.int x)] st M Q = rn sc d 27 101 [l0, l1, l2, some (.int (x + 1))] st M Q := ru_1 rfl rfl rfl rfl rfl
set_option maxRecDepth 100000 in
theorem s27_101 : rn sc d 27 101 [l0, l1, l2, l3] st M Q = rn sc d 27 35 [l0, l1, l2, l3] st M Q := ru_go rfl (by decide)
set_option maxRecDepth 100000 in
theorem s27_104 : rn sc d 27 104 [l0, l1, l2, l3] [] M Q = Q none M := rn_ret rfl rfl rfl
set_option maxRecDepth 100000 in
theorem s28_0 {a : Nat} : rn sc d 28 0 [some (.ref a), l1, l2, l3] st M Q = rn sc d 28 1 [some (.ref a), l1, l2, l3] (.ref a :: st) M Q := ru_1 rfl rfl rfl rfl rfl
set_option maxRecDepth 100000 in
theorem s28_1 {a : Nat} : rn sc d 28 1 [l0, some (.ref a), l2, l3] st M Q = rn sc d 28 2 [l0, some (.ref a), l2, l3] (.ref a :: st) M Q := ru_1 rfl rfl rfl rfl rfl
set_option maxRecDepth 100000 in
theorem s28_1N : rn sc d 28 1 [l0, some .null, l2, l3] st M Q = rn sc d 28 2 [l0, some .null, l2, l3] (.null :: st) M Q := ru_1 rfl rfl rfl rfl rfl
set_option maxRecDepth 100000 in
theorem s28_2 {a : Nat} {v : Value} : rn sc d 28 2 [l0, l1, l2, l3] (v :: .ref a :: st) M Q = rn_o (hp_pf M a 2 9 v) (fun M' => rn sc d 28 5 [l0, l1, l2, l3] st M' Q) := ru_put rfl rfl rfl
set_option maxRecDepth 100000 in
theorem s28_5 {a : Nat} : rn sc d 28 5 [some (.ref a), l1, l2, l3] st M Q = rn sc d 28 6 [some (.ref a), l1, l2, l3] (.ref a :: st) M Q := ru_1 rfl rfl rfl rfl rfl
set_option maxRecDepth 100000 in
theorem s28_6 {x : Int32} : rn sc d 28 6 [l0, l1, some (.int x), l3] st M Q = rn sc d 28 7 [l0, l1, some (.int x), l3] (.int x :: st) M Q := ru_1 rfl rfl rfl rfl rfl
set_option maxRecDepth 100000 in
theorem s28_7 {a : Nat} {v : Value} : rn sc d 28 7 [l0, l1, l2, l3] (v :: .ref a :: st) M Q = rn_o (hp_pf M a 2 6 v) (fun M' => rn sc d 28 10 [l0, l1, l2, l3] st M' Q) := ru_put rfl rfl rfl
set_option maxRecDepth 100000 in
theorem s28_10 {a : Nat} : rn sc d 28 10 [some (.ref a), l1, l2, l3] st M Q = rn sc d 28 11 [some (.ref a), l1, l2, l3] (.ref a :: st) M Q := ru_1 rfl rfl rfl rfl rfl
set_option maxRecDepth 100000 in
theorem s28_11 {x : Int32} : rn sc d 28 11 [l0, l1, l2, some (.int x)] st M Q = rn sc d 28 12 [l0, l1, l2, some (.int x)] (.int x :: st) M Q := ru_1 rfl rfl rfl rfl rfl
set_option maxRecDepth 100000 in
theorem s28_12 {a : Nat} {v : Value} : rn sc d 28 12 [l0, l1, l2, l3] (v :: .ref a :: st) M Q = rn_o (hp_pf M a 2 10 v) (fun M' => rn sc d 28 15 [l0, l1, l2, l3] st M' Q) := ru_put rfl rfl rfl
set_option maxRecDepth 100000 in
theorem s28_15 {a : Nat} : rn sc d 28 15 [some (.ref a), l1, l2, l3] st M Q = rn sc d 28 16 [some (.ref a), l1, l2, l3] (.ref a :: st) M Q := ru_1 rfl rfl rfl rfl rfl
set_option maxRecDepth 100000 in
theorem s28_16 {a : Nat} : rn sc d 28 16 [l0, some (.ref a), l2, l3] st M Q = rn sc d 28 17 [l0, some (.ref a), l2, l3] (.ref a :: st) M Q := ru_1 rfl rfl rfl rfl rfl
set_option maxRecDepth 100000 in
theorem s28_16N : rn sc d 28 16 [l0, some .null, l2, l3] st M Q = rn sc d 28 17 [l0, some .null, l2, l3] (.null :: st) M Q := ru_1 rfl rfl rfl rfl rfl
set_option maxRecDepth 100000 in
theorem s28_17 {a : Nat} : rn sc d 28 17 [l0, l1, l2, l3] (.ref a :: st) M Q = rn sc d 28 24 [l0, l1, l2, l3] st M Q := ru_nn rfl (by decide)
set_option maxRecDepth 100000 in
theorem s28_17N : rn sc d 28 17 [l0, l1, l2, l3] (.null :: st) M Q = rn sc d 28 20 [l0, l1, l2, l3] st M Q := ru_nnN rfl
set_option maxRecDepth 100000 in
theorem s28_20 : rn sc d 28 20 [l0, l1, l2, l3] st M Q = rn sc d 28 21 [l0, l1, l2, l3] (.int 2 :: st) M Q := ru_k rfl rfl rfl rfl rfl (by decide)
set_option maxRecDepth 100000 in
theorem s28_21 : rn sc d 28 21 [l0, l1, l2, l3] st M Q = rn sc d 28 25 [l0, l1, l2, l3] st M Q := ru_go rfl (by decide)
set_option maxRecDepth 100000 in
theorem s28_24 : rn sc d 28 24 [l0, l1, l2, l3] st M Q = rn sc d 28 25 [l0, l1, l2, l3] (.int 0 :: st) M Q := ru_k rfl rfl rfl rfl rfl (by decide)
set_option maxRecDepth 100000 in
theorem s28_25 {a : Nat} {v : Value} : rn sc d 28 25 [l0, l1, l2, l3] (v :: .ref a :: st) M Q = rn_o (hp_pf M a 2 8 v) (fun M' => rn sc d 28 28 [l0, l1, l2, l3] st M' Q) := ru_put rfl rfl rfl
set_option maxRecDepth 100000 in
theorem s28_28 : rn sc d 28 28 [l0, l1, l2, l3] [] M Q = Q none M := rn_ret rfl rfl rfl
set_option maxRecDepth 100000 in
theorem s29_0 {a : Nat} : rn sc d 29 0 [some (.ref a), l1] st M Q = rn sc d 29 1 [some (.ref a), l1] (.ref a :: st) M Q := ru_1 rfl rfl rfl rfl rfl
set_option maxRecDepth 100000 in
theorem s29_1 {a : Nat} : rn sc d 29 1 [l0, l1] (.ref a :: st) M Q = rn_o (hp_f M a 2 2) (fun v => rn sc d 29 4 [l0, l1] (v :: st) M Q) := ru_get rfl rfl
set_option maxRecDepth 100000 in
theorem s29_4 {a : Nat} : rn sc d 29 4 [some (.ref a), l1] st M Q = rn sc d 29 5 [some (.ref a), l1] (.ref a :: st) M Q := ru_1 rfl rfl rfl rfl rfl
set_option maxRecDepth 100000 in
theorem s29_5 {a : Nat} : rn sc d 29 5 [l0, l1] (.ref a :: st) M Q = rn_o (hp_f M a 2 9) (fun v => rn sc d 29 8 [l0, l1] (v :: st) M Q) := ru_get rfl rfl
set_option maxRecDepth 100000 in
theorem s29_8 {a : Nat} : rn sc d 29 8 [some (.ref a), l1] st M Q = rn sc d 29 9 [some (.ref a), l1] (.ref a :: st) M Q := ru_1 rfl rfl rfl rfl rfl
set_option maxRecDepth 100000 in
theorem s29_9 {a : Nat} : rn sc d 29 9 [l0, l1] (.ref a :: st) M Q = rn_o (hp_f M a 2 6) (fun v => rn sc d 29 12 [l0, l1] (v :: st) M Q) := ru_get rfl rfl
set_option maxRecDepth 100000 in
theorem s29_12 {a : Nat} : rn sc d 29 12 [some (.ref a), l1] st M Q = rn sc d 29 13 [some (.ref a), l1] (.ref a :: st) M Q := ru_1 rfl rfl rfl rfl rfl
set_option maxRecDepth 100000 in
theorem s29_13 {a : Nat} : rn sc d 29 13 [l0, l1] (.ref a :: st) M Q = rn_o (hp_f M a 2 10) (fun v => rn sc d 29 16 [l0, l1] (v :: st) M Q) := ru_get rfl rfl
set_option maxRecDepth 100000 in
theorem s29_16 {a : Nat} : rn sc d 29 16 [some (.ref a), l1] st M Q = rn sc d 29 17 [some (.ref a), l1] (.ref a :: st) M Q := ru_1 rfl rfl rfl rfl rfl
set_option maxRecDepth 100000 in
theorem s29_17 {a : Nat} : rn sc d 29 17 [l0, l1] (.ref a :: st) M Q = rn_o (hp_f M a 2 4) (fun v => rn sc d 29 20 [l0, l1] (v :: st) M Q) := ru_get rfl rfl
set_option maxRecDepth 100000 in
theorem s29_20 {a : Nat} : rn sc d 29 20 [l0, l1] (.ref a :: st) M Q = rn_o (hp_f M a 1 1) (fun v => rn sc d 29 23 [l0, l1] (v :: st) M Q) := ru_get rfl rfl
set_option maxRecDepth 100000 in
theorem s29_23 {a : Nat} {b0 : Nat} {x1 : Int32} {x2 : Int32} {x3 : Int32} (hw : xm_wt st ≤ 8) (hq : hp_is M a 3) : rn sc (d + 1) 29 23 [l0, l1] (.int x3 :: .int x2 :: .int x1 :: .ref b0 :: .ref a :: st) M Q = rn sc d 30 0 [some (.ref a), some (.ref b0), some (.int x1), some (.int x2), some (.int x3)] [] M (fun r M' => rn sc (d + 1) 29 26 [l0, l1] (r.toList ++ st) M' Q) := ru_d (ru_iv (as := [.int x3, .int x2, .int x1, .ref b0]) rfl rfl rfl (Nat.le_of_ble_eq_true rfl) hw rfl hq)
set_option maxRecDepth 100000 in
theorem s29_23N {a : Nat} {x1 : Int32} {x2 : Int32} {x3 : Int32} (hw : xm_wt st ≤ 8) (hq : hp_is M a 3) : rn sc (d + 1) 29 23 [l0, l1] (.int x3 :: .int x2 :: .int x1 :: .null :: .ref a :: st) M Q = rn sc d 30 0 [some (.ref a), some (.null), some (.int x1), some (.int x2), some (.int x3)] [] M (fun r M' => rn sc (d + 1) 29 26 [l0, l1] (r.toList ++ st) M' Q) := ru_d (ru_iv (as := [.int x3, .int x2, .int x1, .null]) rfl rfl rfl (Nat.le_of_ble_eq_true rfl) hw rfl hq)
set_option maxRecDepth 100000 in
theorem s29_26 {x : Int32} : rn sc d 29 26 [l0, l1] (.int x :: st) M Q = if ¬ x = 0 then rn sc d 29 35 [l0, l1] st M Q else rn sc d 29 29 [l0, l1] st M Q := ru_if pc_ne rfl (by decide)
set_option maxRecDepth 100000 in
theorem s29_29 {a : Nat} : rn sc d 29 29 [some (.ref a), l1] st M Q = rn sc d 29 30 [some (.ref a), l1] (.ref a :: st) M Q := ru_1 rfl rfl rfl rfl rfl
set_option maxRecDepth 100000 in
theorem s29_30 : rn sc d 29 30 [l0, l1] st M Q = rn sc d 29 31 [l0, l1] (.int 3 :: st) M Q := ru_k rfl rfl rfl rfl rfl (by decide)
set_option maxRecDepth 100000 in
theorem s29_31 {a : Nat} {v : Value} : rn sc d 29 31 [l0, l1] (v :: .ref a :: st) M Q = rn_o (hp_pf M a 2 7 v) (fun M' => rn sc d 29 34 [l0, l1] st M' Q) := ru_put rfl rfl rfl
set_option maxRecDepth 100000 in
theorem s29_34 : rn sc d 29 34 [l0, l1] [] M Q = Q none M := rn_ret rfl rfl rfl
set_option maxRecDepth 100000 in
theorem s29_35 {a : Nat} : rn sc d 29 35 [some (.ref a), l1] st M Q = rn sc d 29 36 [some (.ref a), l1] (.ref a :: st) M Q := ru_1 rfl rfl rfl rfl rfl
set_option maxRecDepth 100000 in
theorem s29_36 {a : Nat} : rn sc d 29 36 [l0, l1] (.ref a :: st) M Q = rn_o (hp_f M a 2 2) (fun v => rn sc d 29 39 [l0, l1] (v :: st) M Q) := ru_get rfl rfl
set_option maxRecDepth 100000 in
theorem s29_39 {a : Nat} : rn sc d 29 39 [l0, l1] (.ref a :: st) M Q = rn_o (hp_f M a 3 5) (fun v => rn sc d 29 42 [l0, l1] (v :: st) M Q) := ru_get rfl rfl
set_option maxRecDepth 100000 in
theorem s29_42 {x : Int32} : rn sc d 29 42 [l0, l1] (.int x :: st) M Q = rn sc d 29 43 [l0, some (.int x)] st M Q := ru_1 rfl rfl rfl rfl rfl
set_option maxRecDepth 100000 in
theorem s29_43 {a : Nat} : rn sc d 29 43 [some (.ref a), l1] st M Q = rn sc d 29 44 [some (.ref a), l1] (.ref a :: st) M Q := ru_1 rfl rfl rfl rfl rfl
set_option maxRecDepth 100000 in
theorem s29_44 {a : Nat} : rn sc d 29 44 [l0, l1] (.ref a :: st) M Q = rn_o (hp_f M a 2 9) (fun v => rn sc d 29 47 [l0, l1] (v :: st) M Q) := ru_get rfl rfl
set_option maxRecDepth 100000 in
theorem s29_47 {a : Nat} : rn sc d 29 47 [l0, l1] (.ref a :: st) M Q = rn_o (hp_f M a 0 1) (fun v => rn sc d 29 50 [l0, l1] (v :: st) M Q) := ru_get rfl rfl
set_option maxRecDepth 100000 in
theorem s29_50_11 : rn sc d 29 50 [l0, l1] (.int 11 :: st) M Q = rn sc d 29 124 [l0, l1] st M Q := ru_sw rfl rfl rfl rfl rfl (by decide) sw_t
set_option maxRecDepth 100000 in
theorem s29_50_12 : rn sc d 29 50 [l0, l1] (.int 12 :: st) M Q = rn sc d 29 136 [l0, l1] st M Q := ru_sw rfl rfl rfl rfl rfl (by decide) sw_t
set_option maxRecDepth 100000 in
theorem s29_50_13 : rn sc d 29 50 [l0, l1] (.int 13 :: st) M Q = rn sc d 29 247 [l0, l1] st M Q := ru_sw rfl rfl rfl rfl rfl (by decide) sw_t
set_option maxRecDepth 100000 in
theorem s29_50_14 : rn sc d 29 50 [l0, l1] (.int 14 :: st) M Q = rn sc d 29 124 [l0, l1] st M Q := ru_sw rfl rfl rfl rfl rfl (by decide) sw_t
set_option maxRecDepth 100000 in
theorem s29_50_15 : rn sc d 29 50 [l0, l1] (.int 15 :: st) M Q = rn sc d 29 116 [l0, l1] st M Q := ru_sw rfl rfl rfl rfl rfl (by decide) sw_t
set_option maxRecDepth 100000 in
theorem s29_50_16 : rn sc d 29 50 [l0, l1] (.int 16 :: st) M Q = rn sc d 29 124 [l0, l1] st M Q := ru_sw rfl rfl rfl rfl rfl (by decide) sw_t
set_option maxRecDepth 100000 in
theorem s29_50_17 : rn sc d 29 50 [l0, l1] (.int 17 :: st) M Q = rn sc d 29 221 [l0, l1] st M Q := ru_sw rfl rfl rfl rfl rfl (by decide) sw_t
set_option maxRecDepth 100000 in
theorem s29_50_18 : rn sc d 29 50 [l0, l1] (.int 18 :: st) M Q = rn sc d 29 155 [l0, l1] st M Q := ru_sw rfl rfl rfl rfl rfl (by decide) sw_t
set_option maxRecDepth 100000 in
theorem s29_50_19 : rn sc d 29 50 [l0, l1] (.int 19 :: st) M Q = rn sc d 29 221 [l0, l1] st M Q := ru_sw rfl rfl rfl rfl rfl (by decide) sw_t
set_option maxRecDepth 100000 in
theorem s29_50_20 : rn sc d 29 50 [l0, l1] (.int 20 :: st) M Q = rn sc d 29 221 [l0, l1] st M Q := ru_sw rfl rfl rfl rfl rfl (by decide) sw_t
set_option maxRecDepth 100000 in
theorem s29_50_21 : rn sc d 29 50 [l0, l1] (.int 21 :: st) M Q = rn sc d 29 247 [l0, l1] st M Q := ru_sw rfl rfl rfl rfl rfl (by decide) sw_t
set_option maxRecDepth 100000 in
theorem s29_50_22 : rn sc d 29 50 [l0, l1] (.int 22 :: st) M Q = rn sc d 29 247 [l0, l1] st M Q := ru_sw rfl rfl rfl rfl rfl (by decide) sw_t
set_option maxRecDepth 100000 in
theorem s29_50_23 : rn sc d 29 50 [l0, l1] (.int 23 :: st) M Q = rn sc d 29 192 [l0, l1] st M Q := ru_sw rfl rfl rfl rfl rfl (by decide) sw_t
set_option maxRecDepth 100000 in
theorem s29_50_d {x : Int32} (h : x.toInt < 11 ∨ 23 < x.toInt) : rn sc d 29 50 [l0, l1] (.int x :: st) M Q = rn sc d 29 247 [l0, l1] st M Q := ru_sw rfl rfl rfl rfl rfl (sw_td h (by decide)) sw_t
set_option maxRecDepth 100000 in
theorem s29_116 {a : Nat} : rn sc d 29 116 [some (.ref a), l1] st M Q = rn sc d 29 117 [some (.ref a), l1] (.ref a :: st) M Q := ru_1 rfl rfl rfl rfl rfl
set_option maxRecDepth 100000 in
theorem s29_117 : rn sc d 29 117 [l0, l1] st M Q = rn sc d 29 118 [l0, l1] (.int 2 :: st) M Q := ru_k rfl rfl rfl rfl rfl (by decide)
set_option maxRecDepth 100000 in
theorem s29_118 {a : Nat} {v : Value} : rn sc d 29 118 [l0, l1] (v :: .ref a :: st) M Q = rn_o (hp_pf M a 2 7 v) (fun M' => rn sc d 29 121 [l0, l1] st M' Q) := ru_put rfl rfl rfl
set_option maxRecDepth 100000 in
theorem s29_121 : rn sc d 29 121 [l0, l1] st M Q = rn sc d 29 263 [l0, l1] st M Q := ru_go rfl (by decide)
set_option maxRecDepth 100000 in
theorem s29_124 {a : Nat} : rn sc d 29 124 [some (.ref a), l1] st M Q = rn sc d 29 125 [some (.ref a), l1] (.ref a :: st) M Q := ru_1 rfl rfl rfl rfl rfl
set_option maxRecDepth 100000 in
theorem s29_125 {x : Int32} : rn sc d 29 125 [l0, some (.int x)] st M Q = rn sc d 29 126 [l0, some (.int x)] (.int x :: st) M Q := ru_1 rfl rfl rfl rfl rfl
set_option maxRecDepth 100000 in
theorem s29_126 {a : Nat} : rn sc d 29 126 [some (.ref a), l1] st M Q = rn sc d 29 127 [some (.ref a), l1] (.ref a :: st) M Q := ru_1 rfl rfl rfl rfl rfl
set_option maxRecDepth 100000 in
theorem s29_127 {a : Nat} : rn sc d 29 127 [l0, l1] (.ref a :: st) M Q = rn_o (hp_f M a 2 6) (fun v => rn sc d 29 130 [l0, l1] (v :: st) M Q) := ru_get rfl rfl
set_option maxRecDepth 100000 in
theorem s29_130 {a : Nat} {x0 : Int32} {x1 : Int32} (hw : xm_wt st ≤ 8) (hq : hp_is M a 2) : rn sc (d + 1) 29 130 [l0, l1] (.int x1 :: .int x0 :: .ref a :: st) M Q = rn sc d 31 0 [some (.ref a), some (.int x0), some (.int x1)] [] M (fun r M' => rn sc (d + 1) 29 133 [l0, l1] (r.toList ++ st) M' Q) := ru_d (ru_iv (as := [.int x1, .int x0]) rfl rfl rfl (Nat.le_of_ble_eq_true rfl) hw rfl hq)
set_option maxRecDepth 100000 in
theorem s29_133 : rn sc d 29 133 [l0, l1] st M Q = rn sc d 29 263 [l0, l1] st M Q := ru_go rfl (by decide)
set_option maxRecDepth 100000 in
theorem s29_136 {a : Nat} : rn sc d 29 136 [some (.ref a), l1] st M Q = rn sc d 29 137 [some (.ref a), l1] (.ref a :: st) M Q := ru_1 rfl rfl rfl rfl rfl
set_option maxRecDepth 100000 in
theorem s29_137 {x : Int32} : rn sc d 29 137 [l0, some (.int x)] st M Q = rn sc d 29 138 [l0, some (.int x)] (.int x :: st) M Q := ru_1 rfl rfl rfl rfl rfl
set_option maxRecDepth 100000 in
theorem s29_138 {a : Nat} : rn sc d 29 138 [some (.ref a), l1] st M Q = rn sc d 29 139 [some (.ref a), l1] (.ref a :: st) M Q := ru_1 rfl rfl rfl rfl rfl
set_option maxRecDepth 100000 in
theorem s29_139 {a : Nat} : rn sc d 29 139 [l0, l1] (.ref a :: st) M Q = rn_o (hp_f M a 2 1) (fun v => rn sc d 29 142 [l0, l1] (v :: st) M Q) := ru_get rfl rfl
set_option maxRecDepth 100000 in
theorem s29_142 {a : Nat} : rn sc d 29 142 [some (.ref a), l1] st M Q = rn sc d 29 143 [some (.ref a), l1] (.ref a :: st) M Q := ru_1 rfl rfl rfl rfl rfl
set_option maxRecDepth 100000 in
theorem s29_143 {a : Nat} : rn sc d 29 143 [l0, l1] (.ref a :: st) M Q = rn_o (hp_f M a 2 6) (fun v => rn sc d 29 146 [l0, l1] (v :: st) M Q) := ru_get rfl rfl
set_option maxRecDepth 100000 in
theorem s29_146 {a : Nat} {x0 : Int32} (hw : xm_wt st ≤ 8) (hq : hp_is M a 5) : rn sc (d + 1) 29 146 [l0, l1] (.int x0 :: .ref a :: st) M Q = rn sc d 34 0 [some (.ref a), some (.int x0), none, none] [] M (fun r M' => rn sc (d + 1) 29 149 [l0, l1] (r.toList ++ st) M' Q) := ru_d (ru_iv (as := [.int x0]) rfl rfl rfl (Nat.le_of_ble_eq_true rfl) hw rfl hq)
set_option maxRecDepth 100000 in
theorem s29_149 {a : Nat} {x0 : Int32} {x1 : Int32} (hw : xm_wt st ≤ 8) (hq : hp_is M a 2) : rn sc (d + 1) 29 149 [l0, l1] (.int x1 :: .int x0 :: .ref a :: st) M Q = rn sc d 31 0 [some (.ref a), some (.int x0), some (.int x1)] [] M (fun r M' => rn sc (d + 1) 29 152 [l0, l1] (r.toList ++ st) M' Q) := ru_d (ru_iv (as := [.int x1, .int x0]) rfl rfl rfl (Nat.le_of_ble_eq_true rfl) hw rfl hq)
set_option maxRecDepth 100000 in
theorem s29_152 : rn sc d 29 152 [l0, l1] st M Q = rn sc d 29 263 [l0, l1] st M Q := ru_go rfl (by decide)
set_option maxRecDepth 100000 in
theorem s29_155 {a : Nat} : rn sc d 29 155 [some (.ref a), l1] st M Q = rn sc d 29 156 [some (.ref a), l1] (.ref a :: st) M Q := ru_1 rfl rfl rfl rfl rfl
set_option maxRecDepth 100000 in
theorem s29_156 {a : Nat} : rn sc d 29 156 [l0, l1] (.ref a :: st) M Q = rn_o (hp_f M a 2 3) (fun v => rn sc d 29 159 [l0, l1] (v :: st) M Q) := ru_get rfl rfl
set_option maxRecDepth 100000 in
theorem s29_159 {x : Int32} : rn sc d 29 159 [l0, some (.int x)] st M Q = rn sc d 29 160 [l0, some (.int x)] (.int x :: st) M Q := ru_1 rfl rfl rfl rfl rfl
set_option maxRecDepth 100000 in
theorem s29_160 {a : Nat} {x0 : Int32} (hw : xm_wt st ≤ 8) (hq : hp_is M a 1) : rn sc (d + 1) 29 160 [l0, l1] (.int x0 :: .ref a :: st) M Q = rn sc d 32 0 [some (.ref a), some (.int x0)] [] M (fun r M' => rn sc (d + 1) 29 163 [l0, l1] (r.toList ++ st) M' Q) := ru_d (ru_iv (as := [.int x0]) rfl rfl rfl (Nat.le_of_ble_eq_true rfl) hw rfl hq)
set_option maxRecDepth 100000 in
theorem s29_163 {a : Nat} : rn sc d 29 163 [some (.ref a), l1] st M Q = rn sc d 29 164 [some (.ref a), l1] (.ref a :: st) M Q := ru_1 rfl rfl rfl rfl rfl
set_option maxRecDepth 100000 in
theorem s29_164 {a : Nat} : rn sc d 29 164 [some (.ref a), l1] st M Q = rn sc d 29 165 [some (.ref a), l1] (.ref a :: st) M Q := ru_1 rfl rfl rfl rfl rfl
set_option maxRecDepth 100000 in
theorem s29_165 {a : Nat} : rn sc d 29 165 [l0, l1] (.ref a :: st) M Q = rn_o (hp_f M a 2 0) (fun v => rn sc d 29 168 [l0, l1] (v :: st) M Q) := ru_get rfl rfl
set_option maxRecDepth 100000 in
theorem s29_168 {a : Nat} : rn sc d 29 168 [some (.ref a), l1] st M Q = rn sc d 29 169 [some (.ref a), l1] (.ref a :: st) M Q := ru_1 rfl rfl rfl rfl rfl
set_option maxRecDepth 100000 in
theorem s29_169 {a : Nat} : rn sc d 29 169 [l0, l1] (.ref a :: st) M Q = rn_o (hp_f M a 2 9) (fun v => rn sc d 29 172 [l0, l1] (v :: st) M Q) := ru_get rfl rfl
set_option maxRecDepth 100000 in
theorem s29_172 {a : Nat} : rn sc d 29 172 [l0, l1] (.ref a :: st) M Q = rn_o (hp_f M a 0 2) (fun v => rn sc d 29 175 [l0, l1] (v :: st) M Q) := ru_get rfl rfl
set_option maxRecDepth 100000 in
theorem s29_175 {a : Nat} {x0 : Int32} (hw : xm_wt st ≤ 8) (hq : hp_is M a 4) : rn sc (d + 1) 29 175 [l0, l1] (.int x0 :: .ref a :: st) M Q = rn sc d 20 0 [some (.ref a), some (.int x0)] [] M (fun r M' => rn sc (d + 1) 29 178 [l0, l1] (r.toList ++ st) M' Q) := ru_d (ru_iv (as := [.int x0]) rfl rfl rfl (Nat.le_of_ble_eq_true rfl) hw rfl hq)
set_option maxRecDepth 100000 in
theorem s29_178 {a : Nat} : rn sc d 29 178 [some (.ref a), l1] st M Q = rn sc d 29 179 [some (.ref a), l1] (.ref a :: st) M Q := ru_1 rfl rfl rfl rfl rfl
set_option maxRecDepth 100000 in
theorem s29_179 {a : Nat} : rn sc d 29 179 [l0, l1] (.ref a :: st) M Q = rn_o (hp_f M a 2 6) (fun v => rn sc d 29 182 [l0, l1] (v :: st) M Q) := ru_get rfl rfl
set_option maxRecDepth 100000 in
theorem s29_182 {a : Nat} : rn sc d 29 182 [some (.ref a), l1] st M Q = rn sc d 29 183 [some (.ref a), l1] (.ref a :: st) M Q := ru_1 rfl rfl rfl rfl rfl
set_option maxRecDepth 100000 in
theorem s29_183 {a : Nat} : rn sc d 29 183 [l0, l1] (.ref a :: st) M Q = rn_o (hp_f M a 2 10) (fun v => rn sc d 29 186 [l0, l1] (v :: st) M Q) := ru_get rfl rfl
set_option maxRecDepth 100000 in
theorem s29_186 {a : Nat} {b0 : Nat} {x1 : Int32} {x2 : Int32} (hw : xm_wt st ≤ 8) (hq : hp_is M a 2) : rn sc (d + 1) 29 186 [l0, l1] (.int x2 :: .int x1 :: .ref b0 :: .ref a :: st) M Q = rn sc d 28 0 [some (.ref a), some (.ref b0), some (.int x1), some (.int x2)] [] M (fun r M' => rn sc (d + 1) 29 189 [l0, l1] (r.toList ++ st) M' Q) := ru_d (ru_iv (as := [.int x2, .int x1, .ref b0]) rfl rfl rfl (Nat.le_of_ble_eq_true rfl) hw rfl hq)
set_option maxRecDepth 100000 in
theorem s29_186N {a : Nat} {x1 : Int32} {x2 : Int32} (hw : xm_wt st ≤ 8) (hq : hp_is M a 2) : rn sc (d + 1) 29 186 [l0, l1] (.int x2 :: .int x1 :: .null :: .ref a :: st) M Q = rn sc d 28 0 [some (.ref a), some (.null), some (.int x1), some (.int x2)] [] M (fun r M' => rn sc (d + 1) 29 189 [l0, l1] (r.toList ++ st) M' Q) := ru_d (ru_iv (as := [.int x2, .int x1, .null]) rfl rfl rfl (Nat.le_of_ble_eq_true rfl) hw rfl hq)
set_option maxRecDepth 100000 in
theorem s29_189 : rn sc d 29 189 [l0, l1] st M Q = rn sc d 29 263 [l0, l1] st M Q := ru_go rfl (by decide)
set_option maxRecDepth 100000 in
theorem s29_192 {a : Nat} : rn sc d 29 192 [some (.ref a), l1] st M Q = rn sc d 29 193 [some (.ref a), l1] (.ref a :: st) M Q := ru_1 rfl rfl rfl rfl rfl
set_option maxRecDepth 100000 in
theorem s29_193 {a : Nat} : rn sc d 29 193 [some (.ref a), l1] st M Q = rn sc d 29 194 [some (.ref a), l1] (.ref a :: st) M Q := ru_1 rfl rfl rfl rfl rfl
set_option maxRecDepth 100000 in
theorem s29_194 {a : Nat} : rn sc d 29 194 [l0, l1] (.ref a :: st) M Q = rn_o (hp_f M a 2 0) (fun v => rn sc d 29 197 [l0, l1] (v :: st) M Q) := ru_get rfl rfl
set_option maxRecDepth 100000 in
theorem s29_197 {a : Nat} : rn sc d 29 197 [some (.ref a), l1] st M Q = rn sc d 29 198 [some (.ref a), l1] (.ref a :: st) M Q := ru_1 rfl rfl rfl rfl rfl
set_option maxRecDepth 100000 in
theorem s29_198 {a : Nat} : rn sc d 29 198 [l0, l1] (.ref a :: st) M Q = rn_o (hp_f M a 2 9) (fun v => rn sc d 29 201 [l0, l1] (v :: st) M Q) := ru_get rfl rfl
set_option maxRecDepth 100000 in
theorem s29_201 {a : Nat} : rn sc d 29 201 [l0, l1] (.ref a :: st) M Q = rn_o (hp_f M a 0 2) (fun v => rn sc d 29 204 [l0, l1] (v :: st) M Q) := ru_get rfl rfl
set_option maxRecDepth 100000 in
theorem s29_204 {a : Nat} {x0 : Int32} (hw : xm_wt st ≤ 8) (hq : hp_is M a 4) : rn sc (d + 1) 29 204 [l0, l1] (.int x0 :: .ref a :: st) M Q = rn sc d 20 0 [some (.ref a), some (.int x0)] [] M (fun r M' => rn sc (d + 1) 29 207 [l0, l1] (r.toList ++ st) M' Q) := ru_d (ru_iv (as := [.int x0]) rfl rfl rfl (Nat.le_of_ble_eq_true rfl) hw rfl hq)
set_option maxRecDepth 100000 in
theorem s29_207 {a : Nat} : rn sc d 29 207 [some (.ref a), l1] st M Q = rn sc d 29 208 [some (.ref a), l1] (.ref a :: st) M Q := ru_1 rfl rfl rfl rfl rfl
set_option maxRecDepth 100000 in
theorem s29_208 {a : Nat} : rn sc d 29 208 [l0, l1] (.ref a :: st) M Q = rn_o (hp_f M a 2 6) (fun v => rn sc d 29 211 [l0, l1] (v :: st) M Q) := ru_get rfl rfl
set_option maxRecDepth 100000 in
theorem s29_211 {a : Nat} : rn sc d 29 211 [some (.ref a), l1] st M Q = rn sc d 29 212 [some (.ref a), l1] (.ref a :: st) M Q := ru_1 rfl rfl rfl rfl rfl
set_option maxRecDepth 100000 in
theorem s29_212 {a : Nat} : rn sc d 29 212 [l0, l1] (.ref a :: st) M Q = rn_o (hp_f M a 2 10) (fun v => rn sc d 29 215 [l0, l1] (v :: st) M Q) := ru_get rfl rfl
set_option maxRecDepth 100000 in
theorem s29_215 {a : Nat} {b0 : Nat} {x1 : Int32} {x2 : Int32} (hw : xm_wt st ≤ 8) (hq : hp_is M a 2) : rn sc (d + 1) 29 215 [l0, l1] (.int x2 :: .int x1 :: .ref b0 :: .ref a :: st) M Q = rn sc d 28 0 [some (.ref a), some (.ref b0), some (.int x1), some (.int x2)] [] M (fun r M' => rn sc (d + 1) 29 218 [l0, l1] (r.toList ++ st) M' Q) := ru_d (ru_iv (as := [.int x2, .int x1, .ref b0]) rfl rfl rfl (Nat.le_of_ble_eq_true rfl) hw rfl hq)
set_option maxRecDepth 100000 in
theorem s29_215N {a : Nat} {x1 : Int32} {x2 : Int32} (hw : xm_wt st ≤ 8) (hq : hp_is M a 2) : rn sc (d + 1) 29 215 [l0, l1] (.int x2 :: .int x1 :: .null :: .ref a :: st) M Q = rn sc d 28 0 [some (.ref a), some (.null), some (.int x1), some (.int x2)] [] M (fun r M' => rn sc (d + 1) 29 218 [l0, l1] (r.toList ++ st) M' Q) := ru_d (ru_iv (as := [.int x2, .int x1, .null]) rfl rfl rfl (Nat.le_of_ble_eq_true rfl) hw rfl hq)
set_option maxRecDepth 100000 in
theorem s29_218 : rn sc d 29 218 [l0, l1] st M Q = rn sc d 29 263 [l0, l1] st M Q := ru_go rfl (by decide)
set_option maxRecDepth 100000 in
theorem s29_221 {a : Nat} : rn sc d 29 221 [some (.ref a), l1] st M Q = rn sc d 29 222 [some (.ref a), l1] (.ref a :: st) M Q := ru_1 rfl rfl rfl rfl rfl
set_option maxRecDepth 100000 in
theorem s29_222 {a : Nat} : rn sc d 29 222 [some (.ref a), l1] st M Q = rn sc d 29 223 [some (.ref a), l1] (.ref a :: st) M Q := ru_1 rfl rfl rfl rfl rfl
set_option maxRecDepth 100000 in
theorem s29_223 {a : Nat} : rn sc d 29 223 [l0, l1] (.ref a :: st) M Q = rn_o (hp_f M a 2 0) (fun v => rn sc d 29 226 [l0, l1] (v :: st) M Q) := ru_get rfl rfl
set_option maxRecDepth 100000 in
theorem s29_226 {a : Nat} : rn sc d 29 226 [some (.ref a), l1] st M Q = rn sc d 29 227 [some (.ref a), l1] (.ref a :: st) M Q := ru_1 rfl rfl rfl rfl rfl
set_option maxRecDepth 100000 in
theorem s29_227 {a : Nat} : rn sc d 29 227 [l0, l1] (.ref a :: st) M Q = rn_o (hp_f M a 2 9) (fun v => rn sc d 29 230 [l0, l1] (v :: st) M Q) := ru_get rfl rfl
set_option maxRecDepth 100000 in
theorem s29_230 {a : Nat} : rn sc d 29 230 [l0, l1] (.ref a :: st) M Q = rn_o (hp_f M a 0 2) (fun v => rn sc d 29 233 [l0, l1] (v :: st) M Q) := ru_get rfl rfl
set_option maxRecDepth 100000 in
theorem s29_233 {a : Nat} {x0 : Int32} (hw : xm_wt st ≤ 8) (hq : hp_is M a 4) : rn sc (d + 1) 29 233 [l0, l1] (.int x0 :: .ref a :: st) M Q = rn sc d 20 0 [some (.ref a), some (.int x0)] [] M (fun r M' => rn sc (d + 1) 29 236 [l0, l1] (r.toList ++ st) M' Q) := ru_d (ru_iv (as := [.int x0]) rfl rfl rfl (Nat.le_of_ble_eq_true rfl) hw rfl hq)
set_option maxRecDepth 100000 in
theorem s29_236 {a : Nat} : rn sc d 29 236 [some (.ref a), l1] st M Q = rn sc d 29 237 [some (.ref a), l1] (.ref a :: st) M Q := ru_1 rfl rfl rfl rfl rfl
set_option maxRecDepth 100000 in
theorem s29_237 {a : Nat} : rn sc d 29 237 [l0, l1] (.ref a :: st) M Q = rn_o (hp_f M a 2 6) (fun v => rn sc d 29 240 [l0, l1] (v :: st) M Q) := ru_get rfl rfl
set_option maxRecDepth 100000 in
theorem s29_240 {x : Int32} : rn sc d 29 240 [l0, some (.int x)] st M Q = rn sc d 29 241 [l0, some (.int x)] (.int x :: st) M Q := ru_1 rfl rfl rfl rfl rfl
set_option maxRecDepth 100000 in
theorem s29_241 {a : Nat} {b0 : Nat} {x1 : Int32} {x2 : Int32} (hw : xm_wt st ≤ 8) (hq : hp_is M a 2) : rn sc (d + 1) 29 241 [l0, l1] (.int x2 :: .int x1 :: .ref b0 :: .ref a :: st) M Q = rn sc d 28 0 [some (.ref a), some (.ref b0), some (.int x1), some (.int x2)] [] M (fun r M' => rn sc (d + 1) 29 244 [l0, l1] (r.toList ++ st) M' Q) := ru_d (ru_iv (as := [.int x2, .int x1, .ref b0]) rfl rfl rfl (Nat.le_of_ble_eq_true rfl) hw rfl hq)
set_option maxRecDepth 100000 in
theorem s29_241N {a : Nat} {x1 : Int32} {x2 : Int32} (hw : xm_wt st ≤ 8) (hq : hp_is M a 2) : rn sc (d + 1) 29 241 [l0, l1] (.int x2 :: .int x1 :: .null :: .ref a :: st) M Q = rn sc d 28 0 [some (.ref a), some (.null), some (.int x1), some (.int x2)] [] M (fun r M' => rn sc (d + 1) 29 244 [l0, l1] (r.toList ++ st) M' Q) := ru_d (ru_iv (as := [.int x2, .int x1, .null]) rfl rfl rfl (Nat.le_of_ble_eq_true rfl) hw rfl hq)
set_option maxRecDepth 100000 in
theorem s29_244 : rn sc d 29 244 [l0, l1] st M Q = rn sc d 29 263 [l0, l1] st M Q := ru_go rfl (by decide)
set_option maxRecDepth 100000 in
theorem s29_247 {a : Nat} : rn sc d 29 247 [some (.ref a), l1] st M Q = rn sc d 29 248 [some (.ref a), l1] (.ref a :: st) M Q := ru_1 rfl rfl rfl rfl rfl
set_option maxRecDepth 100000 in
theorem s29_248 {a : Nat} : rn sc d 29 248 [some (.ref a), l1] st M Q = rn sc d 29 249 [some (.ref a), l1] (.ref a :: st) M Q := ru_1 rfl rfl rfl rfl rfl
set_option maxRecDepth 100000 in
theorem s29_249 {a : Nat} : rn sc d 29 249 [some (.ref a), l1] st M Q = rn sc d 29 250 [some (.ref a), l1] (.ref a :: st) M Q := ru_1 rfl rfl rfl rfl rfl
set_option maxRecDepth 100000 in
theorem s29_250 {a : Nat} : rn sc d 29 250 [l0, l1] (.ref a :: st) M Q = rn_o (hp_f M a 2 9) (fun v => rn sc d 29 253 [l0, l1] (v :: st) M Q) := ru_get rfl rfl
set_option maxRecDepth 100000 in
theorem s29_253 {a : Nat} : rn sc d 29 253 [some (.ref a), l1] st M Q = rn sc d 29 254 [some (.ref a), l1] (.ref a :: st) M Q := ru_1 rfl rfl rfl rfl rfl
set_option maxRecDepth 100000 in
theorem s29_254 {a : Nat} : rn sc d 29 254 [l0, l1] (.ref a :: st) M Q = rn_o (hp_f M a 2 6) (fun v => rn sc d 29 257 [l0, l1] (v :: st) M Q) := ru_get rfl rfl
set_option maxRecDepth 100000 in
theorem s29_257 {a : Nat} {b0 : Nat} {x1 : Int32} (hw : xm_wt st ≤ 8) (hq : hp_is M a 2) : rn sc (d + 1) 29 257 [l0, l1] (.int x1 :: .ref b0 :: .ref a :: st) M Q = rn sc d 35 0 [some (.ref a), some (.ref b0), some (.int x1)] [] M (fun r M' => rn sc (d + 1) 29 260 [l0, l1] (r.toList ++ st) M' Q) := ru_d (ru_iv (as := [.int x1, .ref b0]) rfl rfl rfl (Nat.le_of_ble_eq_true rfl) hw rfl hq)
set_option maxRecDepth 100000 in
theorem s29_257N {a : Nat} {x1 : Int32} (hw : xm_wt st ≤ 8) (hq : hp_is M a 2) : rn sc (d + 1) 29 257 [l0, l1] (.int x1 :: .null :: .ref a :: st) M Q = rn sc d 35 0 [some (.ref a), some (.null), some (.int x1)] [] M (fun r M' => rn sc (d + 1) 29 260 [l0, l1] (r.toList ++ st) M' Q) := ru_d (ru_iv (as := [.int x1, .null]) rfl rfl rfl (Nat.le_of_ble_eq_true rfl) hw rfl hq)
set_option maxRecDepth 100000 in
theorem s29_260 {a : Nat} {x0 : Int32} (hw : xm_wt st ≤ 8) (hq : hp_is M a 2) : rn sc (d + 1) 29 260 [l0, l1] (.int x0 :: .ref a :: st) M Q = rn sc d 33 0 [some (.ref a), some (.int x0)] [] M (fun r M' => rn sc (d + 1) 29 263 [l0, l1] (r.toList ++ st) M' Q) := ru_d (ru_iv (as := [.int x0]) rfl rfl rfl (Nat.le_of_ble_eq_true rfl) hw rfl hq)
set_option maxRecDepth 100000 in
theorem s29_263 : rn sc d 29 263 [l0, l1] [] M Q = Q none M := rn_ret rfl rfl rfl
set_option maxRecDepth 100000 in
theorem s30_0 {a : Nat} : rn sc d 30 0 [some (.ref a), l1, l2, l3, l4] st M Q = rn sc d 30 1 [some (.ref a), l1, l2, l3, l4] (.ref a :: st) M Q := ru_1 rfl rfl rfl rfl rfl
set_option maxRecDepth 100000 in
theorem s30_1 {a : Nat} : rn sc d 30 1 [l0, l1, l2, l3, l4] (.ref a :: st) M Q = rn_o (hp_f M a 3 5) (fun v => rn sc d 30 4 [l0, l1, l2, l3, l4] (v :: st) M Q) := ru_get rfl rfl
set_option maxRecDepth 100000 in
theorem s30_4 : rn sc d 30 4 [l0, l1, l2, l3, l4] st M Q = rn sc d 30 7 [l0, l1, l2, l3, l4] (.int 3000 :: st) M Q := ru_k rfl rfl rfl rfl rfl (by decide)
set_option maxRecDepth 100000 in
theorem s30_7 {u v : Int32} : rn sc d 30 7 [l0, l1, l2, l3, l4] (.int v :: .int u :: st) M Q = if u < v then rn sc d 30 12 [l0, l1, l2, l3, l4] st M Q else rn sc d 30 10 [l0, l1, l2, l3, l4] st M Q := ru_ic pc_lt rfl (by decide)
set_option maxRecDepth 100000 in
theorem s30_10 : rn sc d 30 10 [l0, l1, l2, l3, l4] st M Q = rn sc d 30 11 [l0, l1, l2, l3, l4] (.int 0 :: st) M Q := ru_k rfl rfl rfl rfl rfl (by decide)
set_option maxRecDepth 100000 in
theorem s30_11 {v : Int32} (h : narrow .boolean (.int v) = .int v) : rn sc d 30 11 [l0, l1, l2, l3, l4] [.int v] M Q = Q (some (.int v)) M := ru_rz rfl rfl h
set_option maxRecDepth 100000 in
theorem s30_12 {a : Nat} : rn sc d 30 12 [some (.ref a), l1, l2, l3, l4] st M Q = rn sc d 30 13 [some (.ref a), l1, l2, l3, l4] (.ref a :: st) M Q := ru_1 rfl rfl rfl rfl rfl
set_option maxRecDepth 100000 in
theorem s30_13 {a : Nat} : rn sc d 30 13 [l0, l1, l2, l3, l4] (.ref a :: st) M Q = rn sc d 30 14 [l0, l1, l2, l3, l4] (.ref a :: .ref a :: st) M Q := ru_1 rfl rfl rfl rfl rfl
set_option maxRecDepth 100000 in
theorem s30_13I {x : Int32} : rn sc d 30 13 [l0, l1, l2, l3, l4] (.int x :: st) M Q = rn sc d 30 14 [l0, l1, l2, l3, l4] (.int x :: .int x :: st) M Q := ru_1 rfl rfl rfl rfl rfl
set_option maxRecDepth 100000 in
theorem s30_14 {a : Nat} : rn sc d 30 14 [l0, l1, l2, l3, l4] (.ref a :: st) M Q = rn_o (hp_f M a 3 5) (fun v => rn sc d 30 17 [l0, l1, l2, l3, l4] (v :: st) M Q) := ru_get rfl rfl
set_option maxRecDepth 100000 in
theorem s30_17 : rn sc d 30 17 [l0, l1, l2, l3, l4] st M Q = rn sc d 30 18 [l0, l1, l2, l3, l4] (.int 1 :: st) M Q := ru_k rfl rfl rfl rfl rfl (by decide)
set_option maxRecDepth 100000 in
theorem s30_18 {u v : Int32} : rn sc d 30 18 [l0, l1, l2, l3, l4] (.int v :: .int u :: st) M Q = rn sc d 30 19 [l0, l1, l2, l3, l4] (.int (u + v) :: st) M Q := ru_1 rfl rfl rfl rfl rfl
set_option maxRecDepth 100000 in
theorem s30_19 {a : Nat} {v : Value} : rn sc d 30 19 [l0, l1, l2, l3, l4] (v :: .ref a :: st) M Q = rn_o (hp_pf M a 3 5 v) (fun M' => rn sc d 30 22 [l0, l1, l2, l3, l4] st M' Q) := ru_put rfl rfl rfl
set_option maxRecDepth 100000 in
theorem s30_22 {a : Nat} : rn sc d 30 22 [some (.ref a), l1, l2, l3, l4] st M Q = rn sc d 30 23 [some (.ref a), l1, l2, l3, l4] (.ref a :: st) M Q := ru_1 rfl rfl rfl rfl rfl
set_option maxRecDepth 100000 in
theorem s30_23 {a : Nat} : rn sc d 30 23 [l0, l1, l2, l3, l4] (.ref a :: st) M Q = rn_o (hp_f M a 3 0) (fun v => rn sc d 30 26 [l0, l1, l2, l3, l4] (v :: st) M Q) := ru_get rfl rfl
set_option maxRecDepth 100000 in
theorem s30_26 {a : Nat} : rn sc d 30 26 [some (.ref a), l1, l2, l3, l4] st M Q = rn sc d 30 27 [some (.ref a), l1, l2, l3, l4] (.ref a :: st) M Q := ru_1 rfl rfl rfl rfl rfl
set_option maxRecDepth 100000 in
theorem s30_27 {a : Nat} : rn sc d 30 27 [l0, l1, l2, l3, l4] (.ref a :: st) M Q = rn_o (hp_f M a 3 5) (fun v => rn sc d 30 30 [l0, l1, l2, l3, l4] (v :: st) M Q) := ru_get rfl rfl
set_option maxRecDepth 100000 in
theorem s30_30 {a : Nat} : rn sc d 30 30 [l0, some (.ref a), l2, l3, l4] st M Q = rn sc d 30 31 [l0, some (.ref a), l2, l3, l4] (.ref a :: st) M Q := ru_1 rfl rfl rfl rfl rfl
set_option maxRecDepth 100000 in
theorem s30_30N : rn sc d 30 30 [l0, some .null, l2, l3, l4] st M Q = rn sc d 30 31 [l0, some .null, l2, l3, l4] (.null :: st) M Q := ru_1 rfl rfl rfl rfl rfl
set_option maxRecDepth 100000 in
theorem s30_31 {a v : Nat} {j : Int32} : rn sc d 30 31 [l0, l1, l2, l3, l4] (.ref v :: .int j :: .ref a :: st) M Q = rn_o (hp_pq M a j v) (fun M' => rn sc d 30 32 [l0, l1, l2, l3, l4] st M' Q) := ru_aast rfl
set_option maxRecDepth 100000 in
theorem s30_32 {a : Nat} : rn sc d 30 32 [some (.ref a), l1, l2, l3, l4] st M Q = rn sc d 30 33 [some (.ref a), l1, l2, l3, l4] (.ref a :: st) M Q := ru_1 rfl rfl rfl rfl rfl
set_option maxRecDepth 100000 in
theorem s30_33 {a : Nat} : rn sc d 30 33 [l0, l1, l2, l3, l4] (.ref a :: st) M Q = rn_o (hp_f M a 3 1) (fun v => rn sc d 30 36 [l0, l1, l2, l3, l4] (v :: st) M Q) := ru_get rfl rfl
set_option maxRecDepth 100000 in
theorem s30_36 {a : Nat} : rn sc d 30 36 [some (.ref a), l1, l2, l3, l4] st M Q = rn sc d 30 37 [some (.ref a), l1, l2, l3, l4] (.ref a :: st) M Q := ru_1 rfl rfl rfl rfl rfl
set_option maxRecDepth 100000 in
theorem s30_37 {a : Nat} : rn sc d 30 37 [l0, l1, l2, l3, l4] (.ref a :: st) M Q = rn_o (hp_f M a 3 5) (fun v => rn sc d 30 40 [l0, l1, l2, l3, l4] (v :: st) M Q) := ru_get rfl rfl
set_option maxRecDepth 100000 in
theorem s30_40 {x : Int32} : rn sc d 30 40 [l0, l1, some (.int x), l3, l4] st M Q = rn sc d 30 41 [l0, l1, some (.int x), l3, l4] (.int x :: st) M Q := ru_1 rfl rfl rfl rfl rfl
set_option maxRecDepth 100000 in
theorem s30_41 {a : Nat} {j x : Int32} : rn sc d 30 41 [l0, l1, l2, l3, l4] (.int x :: .int j :: .ref a :: st) M Q = rn_o (hp_pi M a j x) (fun M' => rn sc d 30 42 [l0, l1, l2, l3, l4] st M' Q) := ru_iast rfl
set_option maxRecDepth 100000 in
theorem s30_42 {a : Nat} : rn sc d 30 42 [some (.ref a), l1, l2, l3, l4] st M Q = rn sc d 30 43 [some (.ref a), l1, l2, l3, l4] (.ref a :: st) M Q := ru_1 rfl rfl rfl rfl rfl
set_option maxRecDepth 100000 in
theorem s30_43 {a : Nat} : rn sc d 30 43 [l0, l1, l2, l3, l4] (.ref a :: st) M Q = rn_o (hp_f M a 3 2) (fun v => rn sc d 30 46 [l0, l1, l2, l3, l4] (v :: st) M Q) := ru_get rfl rfl
set_option maxRecDepth 100000 in
theorem s30_46 {a : Nat} : rn sc d 30 46 [some (.ref a), l1, l2, l3, l4] st M Q = rn sc d 30 47 [some (.ref a), l1, l2, l3, l4] (.ref a :: st) M Q := ru_1 rfl rfl rfl rfl rfl
set_option maxRecDepth 100000 in
theorem s30_47 {a : Nat} : rn sc d 30 47 [l0, l1, l2, l3, l4] (.ref a :: st) M Q = rn_o (hp_f M a 3 5) (fun v => rn sc d 30 50 [l0, l1, l2, l3, l4] (v :: st) M Q) := ru_get rfl rfl
set_option maxRecDepth 100000 in
theorem s30_50 {x : Int32} : rn sc d 30 50 [l0, l1, some (.int x), l3, l4] st M Q = rn sc d 30 51 [l0, l1, some (.int x), l3, l4] (.int x :: st) M Q := ru_1 rfl rfl rfl rfl rfl
set_option maxRecDepth 100000 in
theorem s30_51 {a : Nat} {j x : Int32} : rn sc d 30 51 [l0, l1, l2, l3, l4] (.int x :: .int j :: .ref a :: st) M Q = rn_o (hp_pi M a j x) (fun M' => rn sc d 30 52 [l0, l1, l2, l3, l4] st M' Q) := ru_iast rfl
set_option maxRecDepth 100000 in
theorem s30_52 {a : Nat} : rn sc d 30 52 [some (.ref a), l1, l2, l3, l4] st M Q = rn sc d 30 53 [some (.ref a), l1, l2, l3, l4] (.ref a :: st) M Q := ru_1 rfl rfl rfl rfl rfl
set_option maxRecDepth 100000 in
theorem s30_53 {a : Nat} : rn sc d 30 53 [l0, l1, l2, l3, l4] (.ref a :: st) M Q = rn_o (hp_f M a 3 3) (fun v => rn sc d 30 56 [l0, l1, l2, l3, l4] (v :: st) M Q) := ru_get rfl rfl
set_option maxRecDepth 100000 in
theorem s30_56 {a : Nat} : rn sc d 30 56 [some (.ref a), l1, l2, l3, l4] st M Q = rn sc d 30 57 [some (.ref a), l1, l2, l3, l4] (.ref a :: st) M Q := ru_1 rfl rfl rfl rfl rfl
set_option maxRecDepth 100000 in
theorem s30_57 {a : Nat} : rn sc d 30 57 [l0, l1, l2, l3, l4] (.ref a :: st) M Q = rn_o (hp_f M a 3 5) (fun v => rn sc d 30 60 [l0, l1, l2, l3, l4] (v :: st) M Q) := ru_get rfl rfl
set_option maxRecDepth 100000 in
theorem s30_60 {x : Int32} : rn sc d 30 60 [l0, l1, l2, some (.int x), l4] st M Q = rn sc d 30 61 [l0, l1, l2, some (.int x), l4] (.int x :: st) M Q := ru_1 rfl rfl rfl rfl rfl
set_option maxRecDepth 100000 in
theorem s30_61 {a : Nat} {j x : Int32} : rn sc d 30 61 [l0, l1, l2, l3, l4] (.int x :: .int j :: .ref a :: st) M Q = rn_o (hp_pi M a j x) (fun M' => rn sc d 30 62 [l0, l1, l2, l3, l4] st M' Q) := ru_iast rfl
set_option maxRecDepth 100000 in
theorem s30_62 {a : Nat} : rn sc d 30 62 [some (.ref a), l1, l2, l3, l4] st M Q = rn sc d 30 63 [some (.ref a), l1, l2, l3, l4] (.ref a :: st) M Q := ru_1 rfl rfl rfl rfl rfl
set_option maxRecDepth 100000 in
theorem s30_63 {a : Nat} : rn sc d 30 63 [l0, l1, l2, l3, l4] (.ref a :: st) M Q = rn_o (hp_f M a 3 4) (fun v => rn sc d 30 66 [l0, l1, l2, l3, l4] (v :: st) M Q) := ru_get rfl rfl
set_option maxRecDepth 100000 in
theorem s30_66 {a : Nat} : rn sc d 30 66 [some (.ref a), l1, l2, l3, l4] st M Q = rn sc d 30 67 [some (.ref a), l1, l2, l3, l4] (.ref a :: st) M Q := ru_1 rfl rfl rfl rfl rfl
set_option maxRecDepth 100000 in
theorem s30_67 {a : Nat} : rn sc d 30 67 [l0, l1, l2, l3, l4] (.ref a :: st) M Q = rn_o (hp_f M a 3 5) (fun v => rn sc d 30 70 [l0, l1, l2, l3, l4] (v :: st) M Q) := ru_get rfl rfl
set_option maxRecDepth 100000 in
theorem s30_70 {x : Int32} : rn sc d 30 70 [l0, l1, l2, l3, some (.int x)] st M Q = rn sc d 30 72 [l0, l1, l2, l3, some (.int x)] (.int x :: st) M Q := ru_1 rfl rfl rfl rfl rfl
set_option maxRecDepth 100000 in
theorem s30_72 {a : Nat} {j x : Int32} : rn sc d 30 72 [l0, l1, l2, l3, l4] (.int x :: .int j :: .ref a :: st) M Q = rn_o (hp_pi M a j x) (fun M' => rn sc d 30 73 [l0, l1, l2, l3, l4] st M' Q) := ru_iast rfl
set_option maxRecDepth 100000 in
theorem s30_73 : rn sc d 30 73 [l0, l1, l2, l3, l4] st M Q = rn sc d 30 74 [l0, l1, l2, l3, l4] (.int 1 :: st) M Q := ru_k rfl rfl rfl rfl rfl (by decide)
set_option maxRecDepth 100000 in
theorem s30_74 {v : Int32} (h : narrow .boolean (.int v) = .int v) : rn sc d 30 74 [l0, l1, l2, l3, l4] [.int v] M Q = Q (some (.int v)) M := ru_rz rfl rfl h
set_option maxRecDepth 100000 in
theorem s31_0 {x : Int32} : rn sc d 31 0 [l0, l1, some (.int x)] st M Q = rn sc d 31 1 [l0, l1, some (.int x)] (.int x :: st) M Q := ru_1 rfl rfl rfl rfl rfl
set_option maxRecDepth 100000 in
theorem s31_1 : rn sc d 31 1 [l0, l1, l2] st M Q = rn sc d 31 2 [l0, l1, l2] (.int (-1) :: st) M Q := ru_k rfl rfl rfl rfl rfl (by decide)
set_option maxRecDepth 100000 in
theorem s31_2 {u v : Int32} : rn sc d 31 2 [l0, l1, l2] (.int v :: .int u :: st) M Q = if u = v then rn sc d 31 23 [l0, l1, l2] st M Q else rn sc d 31 5 [l0, l1, l2] st M Q := ru_ic pc_eq rfl (by decide)
set_option maxRecDepth 100000 in
theorem s31_5 {a : Nat} : rn sc d 31 5 [some (.ref a), l1, l2] st M Q = rn sc d 31 6 [some (.ref a), l1, l2] (.ref a :: st) M Q := ru_1 rfl rfl rfl rfl rfl
set_option maxRecDepth 100000 in
theorem s31_6 {a : Nat} : rn sc d 31 6 [l0, l1, l2] (.ref a :: st) M Q = rn_o (hp_f M a 2 2) (fun v => rn sc d 31 9 [l0, l1, l2] (v :: st) M Q) := ru_get rfl rfl
set_option maxRecDepth 100000 in
theorem s31_9 {a : Nat} : rn sc d 31 9 [l0, l1, l2] (.ref a :: st) M Q = rn_o (hp_f M a 3 2) (fun v => rn sc d 31 12 [l0, l1, l2] (v :: st) M Q) := ru_get rfl rfl
set_option maxRecDepth 100000 in
theorem s31_12 {x : Int32} : rn sc d 31 12 [l0, some (.int x), l2] st M Q = rn sc d 31 13 [l0, some (.int x), l2] (.int x :: st) M Q := ru_1 rfl rfl rfl rfl rfl
set_option maxRecDepth 100000 in
theorem s31_13 {x : Int32} : rn sc d 31 13 [l0, l1, some (.int x)] st M Q = rn sc d 31 14 [l0, l1, some (.int x)] (.int x :: st) M Q := ru_1 rfl rfl rfl rfl rfl
set_option maxRecDepth 100000 in
theorem s31_14 {a : Nat} {j x : Int32} : rn sc d 31 14 [l0, l1, l2] (.int x :: .int j :: .ref a :: st) M Q = rn_o (hp_pi M a j x) (fun M' => rn sc d 31 15 [l0, l1, l2] st M' Q) := ru_iast rfl
set_option maxRecDepth 100000 in
theorem s31_15 {a : Nat} : rn sc d 31 15 [some (.ref a), l1, l2] st M Q = rn sc d 31 16 [some (.ref a), l1, l2] (.ref a :: st) M Q := ru_1 rfl rfl rfl rfl rfl
set_option maxRecDepth 100000 in
theorem s31_16 {a : Nat} : rn sc d 31 16 [l0, l1, l2] (.ref a :: st) M Q = rn_o (hp_f M a 2 3) (fun v => rn sc d 31 19 [l0, l1, l2] (v :: st) M Q) := ru_get rfl rfl
set_option maxRecDepth 100000 in
theorem s31_19 {x : Int32} : rn sc d 31 19 [l0, some (.int x), l2] st M Q = rn sc d 31 20 [l0, some (.int x), l2] (.int x :: st) M Q := ru_1 rfl rfl rfl rfl rfl
set_option maxRecDepth 100000 in
theorem s31_20 {a : Nat} {x0 : Int32} (hw : xm_wt st ≤ 8) (hq : hp_is M a 1) : rn sc (d + 1) 31 20 [l0, l1, l2] (.int x0 :: .ref a :: st) M Q = rn sc d 32 0 [some (.ref a), some (.int x0)] [] M (fun r M' => rn sc (d + 1) 31 23 [l0, l1, l2] (r.toList ++ st) M' Q) := ru_d (ru_iv (as := [.int x0]) rfl rfl rfl (Nat.le_of_ble_eq_true rfl) hw rfl hq)
set_option maxRecDepth 100000 in
theorem s31_23 {a : Nat} : rn sc d 31 23 [some (.ref a), l1, l2] st M Q = rn sc d 31 24 [some (.ref a), l1, l2] (.ref a :: st) M Q := ru_1 rfl rfl rfl rfl rfl
set_option maxRecDepth 100000 in
theorem s31_24 {x : Int32} : rn sc d 31 24 [l0, l1, some (.int x)] st M Q = rn sc d 31 25 [l0, l1, some (.int x)] (.int x :: st) M Q := ru_1 rfl rfl rfl rfl rfl
set_option maxRecDepth 100000 in
theorem s31_25 {a : Nat} {x0 : Int32} (hw : xm_wt st ≤ 8) (hq : hp_is M a 2) : rn sc (d + 1) 31 25 [l0, l1, l2] (.int x0 :: .ref a :: st) M Q = rn sc d 33 0 [some (.ref a), some (.int x0)] [] M (fun r M' => rn sc (d + 1) 31 28 [l0, l1, l2] (r.toList ++ st) M' Q) := ru_d (ru_iv (as := [.int x0]) rfl rfl rfl (Nat.le_of_ble_eq_true rfl) hw rfl hq)
set_option maxRecDepth 100000 in
theorem s31_28 : rn sc d 31 28 [l0, l1, l2] [] M Q = Q none M := rn_ret rfl rfl rfl
set_option maxRecDepth 100000 in
theorem s32_0 {a : Nat} : rn sc d 32 0 [some (.ref a), l1] st M Q = rn sc d 32 1 [some (.ref a), l1] (.ref a :: st) M Q := ru_1 rfl rfl rfl rfl rfl
set_option maxRecDepth 100000 in
theorem s32_1 {a : Nat} : rn sc d 32 1 [l0, l1] (.ref a :: st) M Q = rn_o (hp_f M a 1 1) (fun v => rn sc d 32 4 [l0, l1] (v :: st) M Q) := ru_get rfl rfl
set_option maxRecDepth 100000 in
theorem s32_4 : rn sc d 32 4 [l0, l1] st M Q = rn sc d 32 7 [l0, l1] (.int 3000 :: st) M Q := ru_k rfl rfl rfl rfl rfl (by decide)
set_option maxRecDepth 100000 in
theorem s32_7 {u v : Int32} : rn sc d 32 7 [l0, l1] (.int v :: .int u :: st) M Q = if v ≤ u then rn sc d 32 30 [l0, l1] st M Q else rn sc d 32 10 [l0, l1] st M Q := ru_ic pc_ge rfl (by decide)
set_option maxRecDepth 100000 in
theorem s32_10 {a : Nat} : rn sc d 32 10 [some (.ref a), l1] st M Q = rn sc d 32 11 [some (.ref a), l1] (.ref a :: st) M Q := ru_1 rfl rfl rfl rfl rfl
set_option maxRecDepth 100000 in
theorem s32_11 {a : Nat} : rn sc d 32 11 [l0, l1] (.ref a :: st) M Q = rn_o (hp_f M a 1 0) (fun v => rn sc d 32 14 [l0, l1] (v :: st) M Q) := ru_get rfl rfl
set_option maxRecDepth 100000 in
theorem s32_14 {a : Nat} : rn sc d 32 14 [some (.ref a), l1] st M Q = rn sc d 32 15 [some (.ref a), l1] (.ref a :: st) M Q := ru_1 rfl rfl rfl rfl rfl
set_option maxRecDepth 100000 in
theorem s32_15 {a : Nat} : rn sc d 32 15 [l0, l1] (.ref a :: st) M Q = rn_o (hp_f M a 1 1) (fun v => rn sc d 32 18 [l0, l1] (v :: st) M Q) := ru_get rfl rfl
set_option maxRecDepth 100000 in
theorem s32_18 {x : Int32} : rn sc d 32 18 [l0, some (.int x)] st M Q = rn sc d 32 19 [l0, some (.int x)] (.int x :: st) M Q := ru_1 rfl rfl rfl rfl rfl
set_option maxRecDepth 100000 in
theorem s32_19 {a : Nat} {j x : Int32} : rn sc d 32 19 [l0, l1] (.int x :: .int j :: .ref a :: st) M Q = rn_o (hp_pi M a j x) (fun M' => rn sc d 32 20 [l0, l1] st M' Q) := ru_iast rfl
set_option maxRecDepth 100000 in
theorem s32_20 {a : Nat} : rn sc d 32 20 [some (.ref a), l1] st M Q = rn sc d 32 21 [some (.ref a), l1] (.ref a :: st) M Q := ru_1 rfl rfl rfl rfl rfl
set_option maxRecDepth 100000 in
theorem s32_21 {a : Nat} : rn sc d 32 21 [l0, l1] (.ref a :: st) M Q = rn sc d 32 22 [l0, l1] (.ref a :: .ref a :: st) M Q := ru_1 rfl rfl rfl rfl rfl
set_option maxRecDepth 100000 in
theorem s32_21I {x : Int32} : rn sc d 32 21 [l0, l1] (.int x :: st) M Q = rn sc d 32 22 [l0, l1] (.int x :: .int x :: st) M Q := ru_1 rfl rfl rfl rfl rfl
set_option maxRecDepth 100000 in
theorem s32_22 {a : Nat} : rn sc d 32 22 [l0, l1] (.ref a :: st) M Q = rn_o (hp_f M a 1 1) (fun v => rn sc d 32 25 [l0, l1] (v :: st) M Q) := ru_get rfl rfl
set_option maxRecDepth 100000 in
theorem s32_25 : rn sc d 32 25 [l0, l1] st M Q = rn sc d 32 26 [l0, l1] (.int 1 :: st) M Q := ru_k rfl rfl rfl rfl rfl (by decide)
set_option maxRecDepth 100000 in
theorem s32_26 {u v : Int32} : rn sc d 32 26 [l0, l1] (.int v :: .int u :: st) M Q = rn sc d 32 27 [l0, l1] (.int (u + v) :: st) M Q := ru_1 rfl rfl rfl rfl rfl
set_option maxRecDepth 100000 in
theorem s32_27 {a : Nat} {v : Value} : rn sc d 32 27 [l0, l1] (v :: .ref a :: st) M Q = rn_o (hp_pf M a 1 1 v) (fun M' => rn sc d 32 30 [l0, l1] st M' Q) := ru_put rfl rfl rfl
set_option maxRecDepth 100000 in
theorem s32_30 : rn sc d 32 30 [l0, l1] [] M Q = Q none M := rn_ret rfl rfl rfl
set_option maxRecDepth 100000 in
theorem s33_0 {x : Int32} : rn sc d 33 0 [l0, some (.int x)] st M Q = rn sc d 33 1 [l0, some (.int x)] (.int x :: st) M Q := ru_1 rfl rfl rfl rfl rfl
set_option maxRecDepth 100000 in
theorem s33_1 : rn sc d 33 1 [l0, l1] st M Q = rn sc d 33 2 [l0, l1] (.int (-1) :: st) M Q := ru_k rfl rfl rfl rfl rfl (by decide)
set_option maxRecDepth 100000 in
theorem s33_2 {u v : Int32} : rn sc d 33 2 [l0, l1] (.int v :: .int u :: st) M Q = if ¬ u = v then rn sc d 33 13 [l0, l1] st M Q else rn sc d 33 5 [l0, l1] st M Q := ru_ic pc_ne rfl (by decide)
set_option maxRecDepth 100000 in
theorem s33_5 {a : Nat} : rn sc d 33 5 [some (.ref a), l1] st M Q = rn sc d 33 6 [some (.ref a), l1] (.ref a :: st) M Q := ru_1 rfl rfl rfl rfl rfl
set_option maxRecDepth 100000 in
theorem s33_6 : rn sc d 33 6 [l0, l1] st M Q = rn sc d 33 7 [l0, l1] (.int 2 :: st) M Q := ru_k rfl rfl rfl rfl rfl (by decide)
set_option maxRecDepth 100000 in
theorem s33_7 {a : Nat} {v : Value} : rn sc d 33 7 [l0, l1] (v :: .ref a :: st) M Q = rn_o (hp_pf M a 2 8 v) (fun M' => rn sc d 33 10 [l0, l1] st M' Q) := ru_put rfl rfl rfl
set_option maxRecDepth 100000 in
theorem s33_10 : rn sc d 33 10 [l0, l1] st M Q = rn sc d 33 23 [l0, l1] st M Q := ru_go rfl (by decide)
set_option maxRecDepth 100000 in
theorem s33_13 {a : Nat} : rn sc d 33 13 [some (.ref a), l1] st M Q = rn sc d 33 14 [some (.ref a), l1] (.ref a :: st) M Q := ru_1 rfl rfl rfl rfl rfl
set_option maxRecDepth 100000 in
theorem s33_14 {x : Int32} : rn sc d 33 14 [l0, some (.int x)] st M Q = rn sc d 33 15 [l0, some (.int x)] (.int x :: st) M Q := ru_1 rfl rfl rfl rfl rfl
set_option maxRecDepth 100000 in
theorem s33_15 {a : Nat} {v : Value} : rn sc d 33 15 [l0, l1] (v :: .ref a :: st) M Q = rn_o (hp_pf M a 2 6 v) (fun M' => rn sc d 33 18 [l0, l1] st M' Q) := ru_put rfl rfl rfl
set_option maxRecDepth 100000 in
theorem s33_18 {a : Nat} : rn sc d 33 18 [some (.ref a), l1] st M Q = rn sc d 33 19 [some (.ref a), l1] (.ref a :: st) M Q := ru_1 rfl rfl rfl rfl rfl
set_option maxRecDepth 100000 in
theorem s33_19 : rn sc d 33 19 [l0, l1] st M Q = rn sc d 33 20 [l0, l1] (.int 1 :: st) M Q := ru_k rfl rfl rfl rfl rfl (by decide)
set_option maxRecDepth 100000 in
theorem s33_20 {a : Nat} {v : Value} : rn sc d 33 20 [l0, l1] (v :: .ref a :: st) M Q = rn_o (hp_pf M a 2 8 v) (fun M' => rn sc d 33 23 [l0, l1] st M' Q) := ru_put rfl rfl rfl
set_option maxRecDepth 100000 in
theorem s33_23 : rn sc d 33 23 [l0, l1] [] M Q = Q none M := rn_ret rfl rfl rfl
set_option maxRecDepth 100000 in
theorem s34_0 : rn sc d 34 0 [l0, l1, l2, l3] st M Q = rn sc d 34 1 [l0, l1, l2, l3] (.int 0 :: st) M Q := ru_k rfl rfl rfl rfl rfl (by decide)
set_option maxRecDepth 100000 in
theorem s34_1 {x : Int32} : rn sc d 34 1 [l0, l1, l2, l3] (.int x :: st) M Q = rn sc d 34 2 [l0, l1, some (.int x), l3] st M Q := ru_1 rfl rfl rfl rfl rfl
set_option maxRecDepth 100000 in
theorem s34_2 {x : Int32} : rn sc d 34 2 [l0, some (.int x), l2, l3] st M Q = rn sc d 34 3 [l0, some (.int x), l2, l3] (.int x :: st) M Q := ru_1 rfl rfl rfl rfl rfl
set_option maxRecDepth 100000 in
theorem s34_3 {x : Int32} : rn sc d 34 3 [l0, l1, l2, l3] (.int x :: st) M Q = rn sc d 34 4 [l0, l1, l2, some (.int x)] st M Q := ru_1 rfl rfl rfl rfl rfl
set_option maxRecDepth 100000 in
theorem s34_4 {x : Int32} : rn sc d 34 4 [l0, l1, l2, some (.int x)] st M Q = rn sc d 34 5 [l0, l1, l2, some (.int x)] (.int x :: st) M Q := ru_1 rfl rfl rfl rfl rfl
set_option maxRecDepth 100000 in
theorem s34_5 {a : Nat} : rn sc d 34 5 [some (.ref a), l1, l2, l3] st M Q = rn sc d 34 6 [some (.ref a), l1, l2, l3] (.ref a :: st) M Q := ru_1 rfl rfl rfl rfl rfl
set_option maxRecDepth 100000 in
theorem s34_6 {a : Nat} : rn sc d 34 6 [l0, l1, l2, l3] (.ref a :: st) M Q = rn_o (hp_f M a 5 1) (fun v => rn sc d 34 9 [l0, l1, l2, l3] (v :: st) M Q) := ru_get rfl rfl
set_option maxRecDepth 100000 in
theorem s34_9 {u v : Int32} : rn sc d 34 9 [l0, l1, l2, l3] (.int v :: .int u :: st) M Q = if v ≤ u then rn sc d 34 61 [l0, l1, l2, l3] st M Q else rn sc d 34 12 [l0, l1, l2, l3] st M Q := ru_ic pc_ge rfl (by decide)
set_option maxRecDepth 100000 in
theorem s34_12 {a : Nat} : rn sc d 34 12 [some (.ref a), l1, l2, l3] st M Q = rn sc d 34 13 [some (.ref a), l1, l2, l3] (.ref a :: st) M Q := ru_1 rfl rfl rfl rfl rfl
set_option maxRecDepth 100000 in
theorem s34_13 {x : Int32} : rn sc d 34 13 [l0, l1, l2, some (.int x)] st M Q = rn sc d 34 14 [l0, l1, l2, some (.int x)] (.int x :: st) M Q := ru_1 rfl rfl rfl rfl rfl
set_option maxRecDepth 100000 in
theorem s34_14 {a : Nat} {x0 : Int32} (hw : xm_wt st ≤ 8) (hq : hp_is M a 5) : rn sc (d + 1) 34 14 [l0, l1, l2, l3] (.int x0 :: .ref a :: st) M Q = rn sc d 15 0 [some (.ref a), some (.int x0)] [] M (fun r M' => rn sc (d + 1) 34 17 [l0, l1, l2, l3] (r.toList ++ st) M' Q) := ru_d (ru_iv (as := [.int x0]) rfl rfl rfl (Nat.le_of_ble_eq_true rfl) hw rfl hq)
set_option maxRecDepth 100000 in
theorem s34_17 : rn sc d 34 17 [l0, l1, l2, l3] st M Q = rn sc d 34 19 [l0, l1, l2, l3] (.int 40 :: st) M Q := ru_k rfl rfl rfl rfl rfl (by decide)
set_option maxRecDepth 100000 in
theorem s34_19 {u v : Int32} : rn sc d 34 19 [l0, l1, l2, l3] (.int v :: .int u :: st) M Q = if ¬ u = v then rn sc d 34 28 [l0, l1, l2, l3] st M Q else rn sc d 34 22 [l0, l1, l2, l3] st M Q := ru_ic pc_ne rfl (by decide)
set_option maxRecDepth 100000 in
theorem s34_22 {x : Int32} : rn sc d 34 22 [l0, l1, some (.int x), l3] st M Q = rn sc d 34 25 [l0, l1, some (.int (x + 1)), l3] st M Q := ru_1 rfl rfl rfl rfl rfl
set_option maxRecDepth 100000 in
theorem s34_25 : rn sc d 34 25 [l0, l1, l2, l3] st M Q = rn sc d 34 41 [l0, l1, l2, l3] st M Q := ru_go rfl (by decide)
set_option maxRecDepth 100000 in
theorem s34_28 {a : Nat} : rn sc d 34 28 [some (.ref a), l1, l2, l3] st M Q = rn sc d 34 29 [some (.ref a), l1, l2, l3] (.ref a :: st) M Q := ru_1 rfl rfl rfl rfl rfl
set_option maxRecDepth 100000 in
theorem s34_29 {x : Int32} : rn sc d 34 29 [l0, l1, l2, some (.int x)] st M Q = rn sc d 34 30 [l0, l1, l2, some (.int x)] (.int x :: st) M Q := ru_1 rfl rfl rfl rfl rfl
set_option maxRecDepth 100000 in
theorem s34_30 {a : Nat} {x0 : Int32} (hw : xm_wt st ≤ 8) (hq : hp_is M a 5) : rn sc (d + 1) 34 30 [l0, l1, l2, l3] (.int x0 :: .ref a :: st) M Q = rn sc d 15 0 [some (.ref a), some (.int x0)] [] M (fun r M' => rn sc (d + 1) 34 33 [l0, l1, l2, l3] (r.toList ++ st) M' Q) := ru_d (ru_iv (as := [.int x0]) rfl rfl rfl (Nat.le_of_ble_eq_true rfl) hw rfl hq)
set_option maxRecDepth 100000 in
theorem s34_33 : rn sc d 34 33 [l0, l1, l2, l3] st M Q = rn sc d 34 35 [l0, l1, l2, l3] (.int 41 :: st) M Q := ru_k rfl rfl rfl rfl rfl (by decide)
set_option maxRecDepth 100000 in
theorem s34_35 {u v : Int32} : rn sc d 34 35 [l0, l1, l2, l3] (.int v :: .int u :: st) M Q = if ¬ u = v then rn sc d 34 41 [l0, l1, l2, l3] st M Q else rn sc d 34 38 [l0, l1, l2, l3] st M Q := ru_ic pc_ne rfl (by decide)
set_option maxRecDepth 100000 in
theorem s34_38 {x : Int32} : rn sc d 34 38 [l0, l1, some (.int x), l3] st M Q = rn sc d 34 41 [l0, l1, some (.int (x + (-1))), l3] st M Q := ru_1 rfl rfl rfl rfl rfl
set_option maxRecDepth 100000 in
theorem s34_41 {x : Int32} : rn sc d 34 41 [l0, l1, some (.int x), l3] st M Q = rn sc d 34 42 [l0, l1, some (.int x), l3] (.int x :: st) M Q := ru_1 rfl rfl rfl rfl rfl
set_option maxRecDepth 100000 in
theorem s34_42 {x : Int32} : rn sc d 34 42 [l0, l1, l2, l3] (.int x :: st) M Q = if 0 ≤ x then rn sc d 34 47 [l0, l1, l2, l3] st M Q else rn sc d 34 45 [l0, l1, l2, l3] st M Q := ru_if pc_ge rfl (by decide)
set_option maxRecDepth 100000 in
theorem s34_45 : rn sc d 34 45 [l0, l1, l2, l3] st M Q = rn sc d 34 46 [l0, l1, l2, l3] (.int (-1) :: st) M Q := ru_k rfl rfl rfl rfl rfl (by decide)
set_option maxRecDepth 100000 in
theorem s34_46 {v : Int32} : rn sc d 34 46 [l0, l1, l2, l3] [.int v] M Q = Q (some (.int v)) M := ru_ri rfl rfl
set_option maxRecDepth 100000 in
theorem s34_47 {x : Int32} : rn sc d 34 47 [l0, l1, some (.int x), l3] st M Q = rn sc d 34 48 [l0, l1, some (.int x), l3] (.int x :: st) M Q := ru_1 rfl rfl rfl rfl rfl
set_option maxRecDepth 100000 in
theorem s34_48 {x : Int32} : rn sc d 34 48 [l0, l1, l2, l3] (.int x :: st) M Q = if ¬ x = 0 then rn sc d 34 55 [l0, l1, l2, l3] st M Q else rn sc d 34 51 [l0, l1, l2, l3] st M Q := ru_if pc_ne rfl (by decide)
set_option maxRecDepth 100000 in
theorem s34_51 {x : Int32} : rn sc d 34 51 [l0, l1, l2, some (.int x)] st M Q = rn sc d 34 52 [l0, l1, l2, some (.int x)] (.int x :: st) M Q := ru_1 rfl rfl rfl rfl rfl
set_option maxRecDepth 100000 in
theorem s34_52 : rn sc d 34 52 [l0, l1, l2, l3] st M Q = rn sc d 34 53 [l0, l1, l2, l3] (.int 1 :: st) M Q := ru_k rfl rfl rfl rfl rfl (by decide)
set_option maxRecDepth 100000 in
theorem s34_53 {u v : Int32} : rn sc d 34 53 [l0, l1, l2, l3] (.int v :: .int u :: st) M Q = rn sc d 34 54 [l0, l1, l2, l3] (.int (u + v) :: st) M Q := ru_1 rfl rfl rfl rfl rfl
set_option maxRecDepth 100000 in
theorem s34_54 {v : Int32} : rn sc d 34 54 [l0, l1, l2, l3] [.int v] M Q = Q (some (.int v)) M := ru_ri rfl rfl
set_option maxRecDepth 100000 in
theorem s34_55 {x : Int32} : rn sc d 34 55 [l0, l1, l2, some (.int x)] st M Q = rn sc d 34 58 [l0, l1, l2, some (.int (x + 1))] st M Q := ru_1 rfl rfl rfl rfl rfl
set_option maxRecDepth 100000 in
theorem s34_58 : rn sc d 34 58 [l0, l1, l2, l3] st M Q = rn sc d 34 4 [l0, l1, l2, l3] st M Q := ru_go rfl (by decide)
set_option maxRecDepth 100000 in
theorem s34_61 : rn sc d 34 61 [l0, l1, l2, l3] st M Q = rn sc d 34 62 [l0, l1, l2, l3] (.int (-1) :: st) M Q := ru_k rfl rfl rfl rfl rfl (by decide)
set_option maxRecDepth 100000 in
theorem s34_62 {v : Int32} : rn sc d 34 62 [l0, l1, l2, l3] [.int v] M Q = Q (some (.int v)) M := ru_ri rfl rfl
set_option maxRecDepth 100000 in
theorem s35_0 {a : Nat} : rn sc d 35 0 [l0, some (.ref a), l2] st M Q = rn sc d 35 1 [l0, some (.ref a), l2] (.ref a :: st) M Q := ru_1 rfl rfl rfl rfl rfl
set_option maxRecDepth 100000 in
theorem s35_0N : rn sc d 35 0 [l0, some .null, l2] st M Q = rn sc d 35 1 [l0, some .null, l2] (.null :: st) M Q := ru_1 rfl rfl rfl rfl rfl
set_option maxRecDepth 100000 in
theorem s35_1 {a : Nat} : rn sc d 35 1 [l0, l1, l2] (.ref a :: st) M Q = rn_o (hp_f M a 0 1) (fun v => rn sc d 35 4 [l0, l1, l2] (v :: st) M Q) := ru_get rfl rfl
set_option maxRecDepth 100000 in
theorem s35_4_0 : rn sc d 35 4 [l0, l1, l2] (.int 0 :: st) M Q = rn sc d 35 112 [l0, l1, l2] st M Q := ru_sw rfl rfl rfl rfl rfl (by decide) sw_t
set_option maxRecDepth 100000 in
theorem s35_4_1 : rn sc d 35 4 [l0, l1, l2] (.int 1 :: st) M Q = rn sc d 35 125 [l0, l1, l2] st M Q := ru_sw rfl rfl rfl rfl rfl (by decide) sw_t
set_option maxRecDepth 100000 in
theorem s35_4_2 : rn sc d 35 4 [l0, l1, l2] (.int 2 :: st) M Q = rn sc d 35 139 [l0, l1, l2] st M Q := ru_sw rfl rfl rfl rfl rfl (by decide) sw_t
set_option maxRecDepth 100000 in
theorem s35_4_3 : rn sc d 35 4 [l0, l1, l2] (.int 3 :: st) M Q = rn sc d 35 153 [l0, l1, l2] st M Q := ru_sw rfl rfl rfl rfl rfl (by decide) sw_t
set_option maxRecDepth 100000 in
theorem s35_4_4 : rn sc d 35 4 [l0, l1, l2] (.int 4 :: st) M Q = rn sc d 35 166 [l0, l1, l2] st M Q := ru_sw rfl rfl rfl rfl rfl (by decide) sw_t
set_option maxRecDepth 100000 in
theorem s35_4_5 : rn sc d 35 4 [l0, l1, l2] (.int 5 :: st) M Q = rn sc d 35 213 [l0, l1, l2] st M Q := ru_sw rfl rfl rfl rfl rfl (by decide) sw_t
set_option maxRecDepth 100000 in
theorem s35_4_6 : rn sc d 35 4 [l0, l1, l2] (.int 6 :: st) M Q = rn sc d 35 213 [l0, l1, l2] st M Q := ru_sw rfl rfl rfl rfl rfl (by decide) sw_t
set_option maxRecDepth 100000 in
theorem s35_4_7 : rn sc d 35 4 [l0, l1, l2] (.int 7 :: st) M Q = rn sc d 35 213 [l0, l1, l2] st M Q := ru_sw rfl rfl rfl rfl rfl (by decide) sw_t
set_option maxRecDepth 100000 in
theorem s35_4_8 : rn sc d 35 4 [l0, l1, l2] (.int 8 :: st) M Q = rn sc d 35 213 [l0, l1, l2] st M Q := ru_sw rfl rfl rfl rfl rfl (by decide) sw_t
set_option maxRecDepth 100000 in
theorem s35_4_9 : rn sc d 35 4 [l0, l1, l2] (.int 9 :: st) M Q = rn sc d 35 213 [l0, l1, l2] st M Q := ru_sw rfl rfl rfl rfl rfl (by decide) sw_t
set_option maxRecDepth 100000 in
theorem s35_4_10 : rn sc d 35 4 [l0, l1, l2] (.int 10 :: st) M Q = rn sc d 35 213 [l0, l1, l2] st M Q := ru_sw rfl rfl rfl rfl rfl (by decide) sw_t
set_option maxRecDepth 100000 in
theorem s35_4_11 : rn sc d 35 4 [l0, l1, l2] (.int 11 :: st) M Q = rn sc d 35 213 [l0, l1, l2] st M Q := ru_sw rfl rfl rfl rfl rfl (by decide) sw_t
set_option maxRecDepth 100000 in
theorem s35_4_12 : rn sc d 35 4 [l0, l1, l2] (.int 12 :: st) M Q = rn sc d 35 213 [l0, l1, l2] st M Q := ru_sw rfl rfl rfl rfl rfl (by decide) sw_t
set_option maxRecDepth 100000 in
theorem s35_4_13 : rn sc d 35 4 [l0, l1, l2] (.int 13 :: st) M Q = rn sc d 35 213 [l0, l1, l2] st M Q := ru_sw rfl rfl rfl rfl rfl (by decide) sw_t
set_option maxRecDepth 100000 in
theorem s35_4_14 : rn sc d 35 4 [l0, l1, l2] (.int 14 :: st) M Q = rn sc d 35 213 [l0, l1, l2] st M Q := ru_sw rfl rfl rfl rfl rfl (by decide) sw_t
set_option maxRecDepth 100000 in
theorem s35_4_15 : rn sc d 35 4 [l0, l1, l2] (.int 15 :: st) M Q = rn sc d 35 213 [l0, l1, l2] st M Q := ru_sw rfl rfl rfl rfl rfl (by decide) sw_t
set_option maxRecDepth 100000 in
theorem s35_4_16 : rn sc d 35 4 [l0, l1, l2] (.int 16 :: st) M Q = rn sc d 35 213 [l0, l1, l2] st M Q := ru_sw rfl rfl rfl rfl rfl (by decide) sw_t
set_option maxRecDepth 100000 in
theorem s35_4_17 : rn sc d 35 4 [l0, l1, l2] (.int 17 :: st) M Q = rn sc d 35 213 [l0, l1, l2] st M Q := ru_sw rfl rfl rfl rfl rfl (by decide) sw_t
set_option maxRecDepth 100000 in
theorem s35_4_18 : rn sc d 35 4 [l0, l1, l2] (.int 18 :: st) M Q = rn sc d 35 213 [l0, l1, l2] st M Q := ru_sw rfl rfl rfl rfl rfl (by decide) sw_t
set_option maxRecDepth 100000 in
theorem s35_4_19 : rn sc d 35 4 [l0, l1, l2] (.int 19 :: st) M Q = rn sc d 35 213 [l0, l1, l2] st M Q := ru_sw rfl rfl rfl rfl rfl (by decide) sw_t
set_option maxRecDepth 100000 in
theorem s35_4_20 : rn sc d 35 4 [l0, l1, l2] (.int 20 :: st) M Q = rn sc d 35 213 [l0, l1, l2] st M Q := ru_sw rfl rfl rfl rfl rfl (by decide) sw_t
set_option maxRecDepth 100000 in
theorem s35_4_21 : rn sc d 35 4 [l0, l1, l2] (.int 21 :: st) M Q = rn sc d 35 179 [l0, l1, l2] st M Q := ru_sw rfl rfl rfl rfl rfl (by decide) sw_t
set_option maxRecDepth 100000 in
theorem s35_4_22 : rn sc d 35 4 [l0, l1, l2] (.int 22 :: st) M Q = rn sc d 35 196 [l0, l1, l2] st M Q := ru_sw rfl rfl rfl rfl rfl (by decide) sw_t
set_option maxRecDepth 100000 in
theorem s35_4_d {x : Int32} (h : x.toInt < 0 ∨ 22 < x.toInt) : rn sc d 35 4 [l0, l1, l2] (.int x :: st) M Q = rn sc d 35 213 [l0, l1, l2] st M Q := ru_sw rfl rfl rfl rfl rfl (sw_td h (by decide)) sw_t
set_option maxRecDepth 100000 in
theorem s35_112 {a : Nat} : rn sc d 35 112 [some (.ref a), l1, l2] st M Q = rn sc d 35 113 [some (.ref a), l1, l2] (.ref a :: st) M Q := ru_1 rfl rfl rfl rfl rfl
set_option maxRecDepth 100000 in
theorem s35_113 {a : Nat} : rn sc d 35 113 [l0, l1, l2] (.ref a :: st) M Q = rn_o (hp_f M a 2 1) (fun v => rn sc d 35 116 [l0, l1, l2] (v :: st) M Q) := ru_get rfl rfl
set_option maxRecDepth 100000 in
theorem s35_116 {a : Nat} : rn sc d 35 116 [l0, some (.ref a), l2] st M Q = rn sc d 35 117 [l0, some (.ref a), l2] (.ref a :: st) M Q := ru_1 rfl rfl rfl rfl rfl
set_option maxRecDepth 100000 in
theorem s35_116N : rn sc d 35 116 [l0, some .null, l2] st M Q = rn sc d 35 117 [l0, some .null, l2] (.null :: st) M Q := ru_1 rfl rfl rfl rfl rfl
set_option maxRecDepth 100000 in
theorem s35_117 {a : Nat} : rn sc d 35 117 [l0, l1, l2] (.ref a :: st) M Q = rn_o (hp_f M a 0 0) (fun v => rn sc d 35 120 [l0, l1, l2] (v :: st) M Q) := ru_get rfl rfl
set_option maxRecDepth 100000 in
theorem s35_120 {x : Int32} : rn sc d 35 120 [l0, l1, some (.int x)] st M Q = rn sc d 35 121 [l0, l1, some (.int x)] (.int x :: st) M Q := ru_1 rfl rfl rfl rfl rfl
set_option maxRecDepth 100000 in
theorem s35_121 {a : Nat} {b0 : Nat} {x1 : Int32} (hw : xm_wt st ≤ 8) (hq : hp_is M a 5) : rn sc (d + 1) 35 121 [l0, l1, l2] (.int x1 :: .ref b0 :: .ref a :: st) M Q = rn sc d 36 0 [some (.ref a), some (.ref b0), some (.int x1), none] [] M (fun r M' => rn sc (d + 1) 35 124 [l0, l1, l2] (r.toList ++ st) M' Q) := ru_d (ru_iv (as := [.int x1, .ref b0]) rfl rfl rfl (Nat.le_of_ble_eq_true rfl) hw rfl hq)
set_option maxRecDepth 100000 in
theorem s35_121N {a : Nat} {x1 : Int32} (hw : xm_wt st ≤ 8) (hq : hp_is M a 5) : rn sc (d + 1) 35 121 [l0, l1, l2] (.int x1 :: .null :: .ref a :: st) M Q = rn sc d 36 0 [some (.ref a), some (.null), some (.int x1), none] [] M (fun r M' => rn sc (d + 1) 35 124 [l0, l1, l2] (r.toList ++ st) M' Q) := ru_d (ru_iv (as := [.int x1, .null]) rfl rfl rfl (Nat.le_of_ble_eq_true rfl) hw rfl hq)
set_option maxRecDepth 100000 in
theorem s35_124 {v : Int32} : rn sc d 35 124 [l0, l1, l2] [.int v] M Q = Q (some (.int v)) M := ru_ri rfl rfl
set_option maxRecDepth 100000 in
theorem s35_125 {a : Nat} : rn sc d 35 125 [some (.ref a), l1, l2] st M Q = rn sc d 35 126 [some (.ref a), l1, l2] (.ref a :: st) M Q := ru_1 rfl rfl rfl rfl rfl
set_option maxRecDepth 100000 in
theorem s35_126 {a : Nat} : rn sc d 35 126 [l0, l1, l2] (.ref a :: st) M Q = rn_o (hp_f M a 2 1) (fun v => rn sc d 35 129 [l0, l1, l2] (v :: st) M Q) := ru_get rfl rfl
set_option maxRecDepth 100000 in
theorem s35_129 {a : Nat} : rn sc d 35 129 [l0, some (.ref a), l2] st M Q = rn sc d 35 130 [l0, some (.ref a), l2] (.ref a :: st) M Q := ru_1 rfl rfl rfl rfl rfl
set_option maxRecDepth 100000 in
theorem s35_129N : rn sc d 35 129 [l0, some .null, l2] st M Q = rn sc d 35 130 [l0, some .null, l2] (.null :: st) M Q := ru_1 rfl rfl rfl rfl rfl
set_option maxRecDepth 100000 in
theorem s35_130 {a : Nat} : rn sc d 35 130 [l0, l1, l2] (.ref a :: st) M Q = rn_o (hp_f M a 0 0) (fun v => rn sc d 35 133 [l0, l1, l2] (v :: st) M Q) := ru_get rfl rfl
set_option maxRecDepth 100000 in
theorem s35_133 : rn sc d 35 133 [l0, l1, l2] st M Q = rn sc d 35 134 [l0, l1, l2] (.int 1 :: st) M Q := ru_k rfl rfl rfl rfl rfl (by decide)
set_option maxRecDepth 100000 in
theorem s35_134 {x : Int32} : rn sc d 35 134 [l0, l1, some (.int x)] st M Q = rn sc d 35 135 [l0, l1, some (.int x)] (.int x :: st) M Q := ru_1 rfl rfl rfl rfl rfl
set_option maxRecDepth 100000 in
theorem s35_135 {a : Nat} {b0 : Nat} {x1 : Int32} {x2 : Int32} (hw : xm_wt st ≤ 8) (hq : hp_is M a 5) : rn sc (d + 1) 35 135 [l0, l1, l2] (.int x2 :: .int x1 :: .ref b0 :: .ref a :: st) M Q = rn sc d 37 0 [some (.ref a), some (.ref b0), some (.int x1), some (.int x2)] [] M (fun r M' => rn sc (d + 1) 35 138 [l0, l1, l2] (r.toList ++ st) M' Q) := ru_d (ru_iv (as := [.int x2, .int x1, .ref b0]) rfl rfl rfl (Nat.le_of_ble_eq_true rfl) hw rfl hq)
set_option maxRecDepth 100000 in
theorem s35_135N {a : Nat} {x1 : Int32} {x2 : Int32} (hw : xm_wt st ≤ 8) (hq : hp_is M a 5) : rn sc (d + 1) 35 135 [l0, l1, l2] (.int x2 :: .int x1 :: .null :: .ref a :: st) M Q = rn sc d 37 0 [some (.ref a), some (.null), some (.int x1), some (.int x2)] [] M (fun r M' => rn sc (d + 1) 35 138 [l0, l1, l2] (r.toList ++ st) M' Q) := ru_d (ru_iv (as := [.int x2, .int x1, .null]) rfl rfl rfl (Nat.le_of_ble_eq_true rfl) hw rfl hq)
set_option maxRecDepth 100000 in
theorem s35_138 {v : Int32} : rn sc d 35 138 [l0, l1, l2] [.int v] M Q = Q (some (.int v)) M := ru_ri rfl rfl
set_option maxRecDepth 100000 in
theorem s35_139 {a : Nat} : rn sc d 35 139 [some (.ref a), l1, l2] st M Q = rn sc d 35 140 [some (.ref a), l1, l2] (.ref a :: st) M Q := ru_1 rfl rfl rfl rfl rfl
set_option maxRecDepth 100000 in
theorem s35_140 {a : Nat} : rn sc d 35 140 [l0, l1, l2] (.ref a :: st) M Q = rn_o (hp_f M a 2 1) (fun v => rn sc d 35 143 [l0, l1, l2] (v :: st) M Q) := ru_get rfl rfl
set_option maxRecDepth 100000 in
theorem s35_143 {a : Nat} : rn sc d 35 143 [l0, some (.ref a), l2] st M Q = rn sc d 35 144 [l0, some (.ref a), l2] (.ref a :: st) M Q := ru_1 rfl rfl rfl rfl rfl
set_option maxRecDepth 100000 in
theorem s35_143N : rn sc d 35 143 [l0, some .null, l2] st M Q = rn sc d 35 144 [l0, some .null, l2] (.null :: st) M Q := ru_1 rfl rfl rfl rfl rfl
set_option maxRecDepth 100000 in
theorem s35_144 {a : Nat} : rn sc d 35 144 [l0, l1, l2] (.ref a :: st) M Q = rn_o (hp_f M a 0 0) (fun v => rn sc d 35 147 [l0, l1, l2] (v :: st) M Q) := ru_get rfl rfl
set_option maxRecDepth 100000 in
theorem s35_147 : rn sc d 35 147 [l0, l1, l2] st M Q = rn sc d 35 148 [l0, l1, l2] (.int 0 :: st) M Q := ru_k rfl rfl rfl rfl rfl (by decide)
set_option maxRecDepth 100000 in
theorem s35_148 {x : Int32} : rn sc d 35 148 [l0, l1, some (.int x)] st M Q = rn sc d 35 149 [l0, l1, some (.int x)] (.int x :: st) M Q := ru_1 rfl rfl rfl rfl rfl
set_option maxRecDepth 100000 in
theorem s35_149 {a : Nat} {b0 : Nat} {x1 : Int32} {x2 : Int32} (hw : xm_wt st ≤ 8) (hq : hp_is M a 5) : rn sc (d + 1) 35 149 [l0, l1, l2] (.int x2 :: .int x1 :: .ref b0 :: .ref a :: st) M Q = rn sc d 37 0 [some (.ref a), some (.ref b0), some (.int x1), some (.int x2)] [] M (fun r M' => rn sc (d + 1) 35 152 [l0, l1, l2] (r.toList ++ st) M' Q) := ru_d (ru_iv (as := [.int x2, .int x1, .ref b0]) rfl rfl rfl (Nat.le_of_ble_eq_true rfl) hw rfl hq)
set_option maxRecDepth 100000 in
theorem s35_149N {a : Nat} {x1 : Int32} {x2 : Int32} (hw : xm_wt st ≤ 8) (hq : hp_is M a 5) : rn sc (d + 1) 35 149 [l0, l1, l2] (.int x2 :: .int x1 :: .null :: .ref a :: st) M Q = rn sc d 37 0 [some (.ref a), some (.null), some (.int x1), some (.int x2)] [] M (fun r M' => rn sc (d + 1) 35 152 [l0, l1, l2] (r.toList ++ st) M' Q) := ru_d (ru_iv (as := [.int x2, .int x1, .null]) rfl rfl rfl (Nat.le_of_ble_eq_true rfl) hw rfl hq)
set_option maxRecDepth 100000 in
theorem s35_152 {v : Int32} : rn sc d 35 152 [l0, l1, l2] [.int v] M Q = Q (some (.int v)) M := ru_ri rfl rfl
set_option maxRecDepth 100000 in
theorem s35_153 {a : Nat} : rn sc d 35 153 [some (.ref a), l1, l2] st M Q = rn sc d 35 154 [some (.ref a), l1, l2] (.ref a :: st) M Q := ru_1 rfl rfl rfl rfl rfl
set_option maxRecDepth 100000 in
theorem s35_154 {a : Nat} : rn sc d 35 154 [l0, l1, l2] (.ref a :: st) M Q = rn_o (hp_f M a 2 1) (fun v => rn sc d 35 157 [l0, l1, l2] (v :: st) M Q) := ru_get rfl rfl
set_option maxRecDepth 100000 in
theorem s35_157 {a : Nat} : rn sc d 35 157 [l0, some (.ref a), l2] st M Q = rn sc d 35 158 [l0, some (.ref a), l2] (.ref a :: st) M Q := ru_1 rfl rfl rfl rfl rfl
set_option maxRecDepth 100000 in
theorem s35_157N : rn sc d 35 157 [l0, some .null, l2] st M Q = rn sc d 35 158 [l0, some .null, l2] (.null :: st) M Q := ru_1 rfl rfl rfl rfl rfl
set_option maxRecDepth 100000 in
theorem s35_158 {a : Nat} : rn sc d 35 158 [l0, l1, l2] (.ref a :: st) M Q = rn_o (hp_f M a 0 0) (fun v => rn sc d 35 161 [l0, l1, l2] (v :: st) M Q) := ru_get rfl rfl
set_option maxRecDepth 100000 in
theorem s35_161 {x : Int32} : rn sc d 35 161 [l0, l1, some (.int x)] st M Q = rn sc d 35 162 [l0, l1, some (.int x)] (.int x :: st) M Q := ru_1 rfl rfl rfl rfl rfl
set_option maxRecDepth 100000 in
theorem s35_162 {a : Nat} {b0 : Nat} {x1 : Int32} (hw : xm_wt st ≤ 8) (hq : hp_is M a 5) : rn sc (d + 1) 35 162 [l0, l1, l2] (.int x1 :: .ref b0 :: .ref a :: st) M Q = rn sc d 39 0 [some (.ref a), some (.ref b0), some (.int x1), none] [] M (fun r M' => rn sc (d + 1) 35 165 [l0, l1, l2] (r.toList ++ st) M' Q) := ru_d (ru_iv (as := [.int x1, .ref b0]) rfl rfl rfl (Nat.le_of_ble_eq_true rfl) hw rfl hq)
set_option maxRecDepth 100000 in
theorem s35_162N {a : Nat} {x1 : Int32} (hw : xm_wt st ≤ 8) (hq : hp_is M a 5) : rn sc (d + 1) 35 162 [l0, l1, l2] (.int x1 :: .null :: .ref a :: st) M Q = rn sc d 39 0 [some (.ref a), some (.null), some (.int x1), none] [] M (fun r M' => rn sc (d + 1) 35 165 [l0, l1, l2] (r.toList ++ st) M' Q) := ru_d (ru_iv (as := [.int x1, .null]) rfl rfl rfl (Nat.le_of_ble_eq_true rfl) hw rfl hq)
set_option maxRecDepth 100000 in
theorem s35_165 {v : Int32} : rn sc d 35 165 [l0, l1, l2] [.int v] M Q = Q (some (.int v)) M := ru_ri rfl rfl
set_option maxRecDepth 100000 in
theorem s35_166 {a : Nat} : rn sc d 35 166 [some (.ref a), l1, l2] st M Q = rn sc d 35 167 [some (.ref a), l1, l2] (.ref a :: st) M Q := ru_1 rfl rfl rfl rfl rfl
set_option maxRecDepth 100000 in
theorem s35_167 {a : Nat} : rn sc d 35 167 [l0, l1, l2] (.ref a :: st) M Q = rn_o (hp_f M a 2 1) (fun v => rn sc d 35 170 [l0, l1, l2] (v :: st) M Q) := ru_get rfl rfl
set_option maxRecDepth 100000 in
theorem s35_170 {a : Nat} : rn sc d 35 170 [l0, some (.ref a), l2] st M Q = rn sc d 35 171 [l0, some (.ref a), l2] (.ref a :: st) M Q := ru_1 rfl rfl rfl rfl rfl
set_option maxRecDepth 100000 in
theorem s35_170N : rn sc d 35 170 [l0, some .null, l2] st M Q = rn sc d 35 171 [l0, some .null, l2] (.null :: st) M Q := ru_1 rfl rfl rfl rfl rfl
set_option maxRecDepth 100000 in
theorem s35_171 {a : Nat} : rn sc d 35 171 [l0, l1, l2] (.ref a :: st) M Q = rn_o (hp_f M a 0 0) (fun v => rn sc d 35 174 [l0, l1, l2] (v :: st) M Q) := ru_get rfl rfl
set_option maxRecDepth 100000 in
theorem s35_174 {x : Int32} : rn sc d 35 174 [l0, l1, some (.int x)] st M Q = rn sc d 35 175 [l0, l1, some (.int x)] (.int x :: st) M Q := ru_1 rfl rfl rfl rfl rfl
set_option maxRecDepth 100000 in
theorem s35_175 {a : Nat} {b0 : Nat} {x1 : Int32} (hw : xm_wt st ≤ 8) (hq : hp_is M a 5) : rn sc (d + 1) 35 175 [l0, l1, l2] (.int x1 :: .ref b0 :: .ref a :: st) M Q = rn sc d 40 0 [some (.ref a), some (.ref b0), some (.int x1), none] [] M (fun r M' => rn sc (d + 1) 35 178 [l0, l1, l2] (r.toList ++ st) M' Q) := ru_d (ru_iv (as := [.int x1, .ref b0]) rfl rfl rfl (Nat.le_of_ble_eq_true rfl) hw rfl hq)
set_option maxRecDepth 100000 in
theorem s35_175N {a : Nat} {x1 : Int32} (hw : xm_wt st ≤ 8) (hq : hp_is M a 5) : rn sc (d + 1) 35 175 [l0, l1, l2] (.int x1 :: .null :: .ref a :: st) M Q = rn sc d 40 0 [some (.ref a), some (.null), some (.int x1), none] [] M (fun r M' => rn sc (d + 1) 35 178 [l0, l1, l2] (r.toList ++ st) M' Q) := ru_d (ru_iv (as := [.int x1, .null]) rfl rfl rfl (Nat.le_of_ble_eq_true rfl) hw rfl hq)
set_option maxRecDepth 100000 in
theorem s35_178 {v : Int32} : rn sc d 35 178 [l0, l1, l2] [.int v] M Q = Q (some (.int v)) M := ru_ri rfl rfl
set_option maxRecDepth 100000 in
theorem s35_179 {a : Nat} : rn sc d 35 179 [some (.ref a), l1, l2] st M Q = rn sc d 35 180 [some (.ref a), l1, l2] (.ref a :: st) M Q := ru_1 rfl rfl rfl rfl rfl
set_option maxRecDepth 100000 in
theorem s35_180 {a : Nat} : rn sc d 35 180 [some (.ref a), l1, l2] st M Q = rn sc d 35 181 [some (.ref a), l1, l2] (.ref a :: st) M Q := ru_1 rfl rfl rfl rfl rfl
set_option maxRecDepth 100000 in
theorem s35_181 {a : Nat} : rn sc d 35 181 [l0, l1, l2] (.ref a :: st) M Q = rn_o (hp_f M a 2 0) (fun v => rn sc d 35 184 [l0, l1, l2] (v :: st) M Q) := ru_get rfl rfl
set_option maxRecDepth 100000 in
theorem s35_184 {a : Nat} : rn sc d 35 184 [l0, some (.ref a), l2] st M Q = rn sc d 35 185 [l0, some (.ref a), l2] (.ref a :: st) M Q := ru_1 rfl rfl rfl rfl rfl
set_option maxRecDepth 100000 in
theorem s35_184N : rn sc d 35 184 [l0, some .null, l2] st M Q = rn sc d 35 185 [l0, some .null, l2] (.null :: st) M Q := ru_1 rfl rfl rfl rfl rfl
set_option maxRecDepth 100000 in
theorem s35_185 {a : Nat} : rn sc d 35 185 [l0, l1, l2] (.ref a :: st) M Q = rn_o (hp_f M a 0 2) (fun v => rn sc d 35 188 [l0, l1, l2] (v :: st) M Q) := ru_get rfl rfl
set_option maxRecDepth 100000 in
theorem s35_188 {a : Nat} {x0 : Int32} (hw : xm_wt st ≤ 8) (hq : hp_is M a 4) : rn sc (d + 1) 35 188 [l0, l1, l2] (.int x0 :: .ref a :: st) M Q = rn sc d 11 0 [some (.ref a), some (.int x0)] [] M (fun r M' => rn sc (d + 1) 35 191 [l0, l1, l2] (r.toList ++ st) M' Q) := ru_d (ru_iv (as := [.int x0]) rfl rfl rfl (Nat.le_of_ble_eq_true rfl) hw rfl hq)
set_option maxRecDepth 100000 in
theorem s35_191 {x : Int32} : rn sc d 35 191 [l0, l1, some (.int x)] st M Q = rn sc d 35 192 [l0, l1, some (.int x)] (.int x :: st) M Q := ru_1 rfl rfl rfl rfl rfl
set_option maxRecDepth 100000 in
theorem s35_192 {a : Nat} {b0 : Nat} {x1 : Int32} (hw : xm_wt st ≤ 8) (hq : hp_is M a 2) : rn sc (d + 1) 35 192 [l0, l1, l2] (.int x1 :: .ref b0 :: .ref a :: st) M Q = rn sc d 41 0 [some (.ref a), some (.ref b0), some (.int x1)] [] M (fun r M' => rn sc (d + 1) 35 195 [l0, l1, l2] (r.toList ++ st) M' Q) := ru_d (ru_iv (as := [.int x1, .ref b0]) rfl rfl rfl (Nat.le_of_ble_eq_true rfl) hw rfl hq)
set_option maxRecDepth 100000 in
theorem s35_192N {a : Nat} {x1 : Int32} (hw : xm_wt st ≤ 8) (hq : hp_is M a 2) : rn sc (d + 1) 35 192 [l0, l1, l2] (.int x1 :: .null :: .ref a :: st) M Q = rn sc d 41 0 [some (.ref a), some (.null), some (.int x1)] [] M (fun r M' => rn sc (d + 1) 35 195 [l0, l1, l2] (r.toList ++ st) M' Q) := ru_d (ru_iv (as := [.int x1, .null]) rfl rfl rfl (Nat.le_of_ble_eq_true rfl) hw rfl hq)
set_option maxRecDepth 100000 in
theorem s35_195 {v : Int32} : rn sc d 35 195 [l0, l1, l2] [.int v] M Q = Q (some (.int v)) M := ru_ri rfl rfl
set_option maxRecDepth 100000 in
theorem s35_196 {a : Nat} : rn sc d 35 196 [some (.ref a), l1, l2] st M Q = rn sc d 35 197 [some (.ref a), l1, l2] (.ref a :: st) M Q := ru_1 rfl rfl rfl rfl rfl
set_option maxRecDepth 100000 in
theorem s35_197 {a : Nat} : rn sc d 35 197 [some (.ref a), l1, l2] st M Q = rn sc d 35 198 [some (.ref a), l1, l2] (.ref a :: st) M Q := ru_1 rfl rfl rfl rfl rfl
set_option maxRecDepth 100000 in
theorem s35_198 {a : Nat} : rn sc d 35 198 [l0, l1, l2] (.ref a :: st) M Q = rn_o (hp_f M a 2 0) (fun v => rn sc d 35 201 [l0, l1, l2] (v :: st) M Q) := ru_get rfl rfl
set_option maxRecDepth 100000 in
theorem s35_201 {a : Nat} : rn sc d 35 201 [l0, some (.ref a), l2] st M Q = rn sc d 35 202 [l0, some (.ref a), l2] (.ref a :: st) M Q := ru_1 rfl rfl rfl rfl rfl
set_option maxRecDepth 100000 in
theorem s35_201N : rn sc d 35 201 [l0, some .null, l2] st M Q = rn sc d 35 202 [l0, some .null, l2] (.null :: st) M Q := ru_1 rfl rfl rfl rfl rfl
set_option maxRecDepth 100000 in
theorem s35_202 {a : Nat} : rn sc d 35 202 [l0, l1, l2] (.ref a :: st) M Q = rn_o (hp_f M a 0 2) (fun v => rn sc d 35 205 [l0, l1, l2] (v :: st) M Q) := ru_get rfl rfl
set_option maxRecDepth 100000 in
theorem s35_205 {a : Nat} {x0 : Int32} (hw : xm_wt st ≤ 8) (hq : hp_is M a 4) : rn sc (d + 1) 35 205 [l0, l1, l2] (.int x0 :: .ref a :: st) M Q = rn sc d 11 0 [some (.ref a), some (.int x0)] [] M (fun r M' => rn sc (d + 1) 35 208 [l0, l1, l2] (r.toList ++ st) M' Q) := ru_d (ru_iv (as := [.int x0]) rfl rfl rfl (Nat.le_of_ble_eq_true rfl) hw rfl hq)
set_option maxRecDepth 100000 in
theorem s35_208 {x : Int32} : rn sc d 35 208 [l0, l1, some (.int x)] st M Q = rn sc d 35 209 [l0, l1, some (.int x)] (.int x :: st) M Q := ru_1 rfl rfl rfl rfl rfl
set_option maxRecDepth 100000 in
theorem s35_209 {a : Nat} {b0 : Nat} {x1 : Int32} (hw : xm_wt st ≤ 8) (hq : hp_is M a 2) : rn sc (d + 1) 35 209 [l0, l1, l2] (.int x1 :: .ref b0 :: .ref a :: st) M Q = rn sc d 43 0 [some (.ref a), some (.ref b0), some (.int x1)] [] M (fun r M' => rn sc (d + 1) 35 212 [l0, l1, l2] (r.toList ++ st) M' Q) := ru_d (ru_iv (as := [.int x1, .ref b0]) rfl rfl rfl (Nat.le_of_ble_eq_true rfl) hw rfl hq)
set_option maxRecDepth 100000 in
theorem s35_209N {a : Nat} {x1 : Int32} (hw : xm_wt st ≤ 8) (hq : hp_is M a 2) : rn sc (d + 1) 35 209 [l0, l1, l2] (.int x1 :: .null :: .ref a :: st) M Q = rn sc d 43 0 [some (.ref a), some (.null), some (.int x1)] [] M (fun r M' => rn sc (d + 1) 35 212 [l0, l1, l2] (r.toList ++ st) M' Q) := ru_d (ru_iv (as := [.int x1, .null]) rfl rfl rfl (Nat.le_of_ble_eq_true rfl) hw rfl hq)
set_option maxRecDepth 100000 in
theorem s35_212 {v : Int32} : rn sc d 35 212 [l0, l1, l2] [.int v] M Q = Q (some (.int v)) M := ru_ri rfl rfl
set_option maxRecDepth 100000 in
theorem s35_213 {a : Nat} : rn sc d 35 213 [some (.ref a), l1, l2] st M Q = rn sc d 35 214 [some (.ref a), l1, l2] (.ref a :: st) M Q := ru_1 rfl rfl rfl rfl rfl
set_option maxRecDepth 100000 in
theorem s35_214 {a : Nat} : rn sc d 35 214 [l0, some (.ref a), l2] st M Q = rn sc d 35 215 [l0, some (.ref a), l2] (.ref a :: st) M Q := ru_1 rfl rfl rfl rfl rfl
set_option maxRecDepth 100000 in
theorem s35_214N : rn sc d 35 214 [l0, some .null, l2] st M Q = rn sc d 35 215 [l0, some .null, l2] (.null :: st) M Q := ru_1 rfl rfl rfl rfl rfl
set_option maxRecDepth 100000 in
theorem s35_215 {a : Nat} : rn sc d 35 215 [l0, l1, l2] (.ref a :: st) M Q = rn_o (hp_f M a 0 1) (fun v => rn sc d 35 218 [l0, l1, l2] (v :: st) M Q) := ru_get rfl rfl
set_option maxRecDepth 100000 in
theorem s35_218 {a : Nat} : rn sc d 35 218 [l0, some (.ref a), l2] st M Q = rn sc d 35 219 [l0, some (.ref a), l2] (.ref a :: st) M Q := ru_1 rfl rfl rfl rfl rfl
set_option maxRecDepth 100000 in
theorem s35_218N : rn sc d 35 218 [l0, some .null, l2] st M Q = rn sc d 35 219 [l0, some .null, l2] (.null :: st) M Q := ru_1 rfl rfl rfl rfl rfl
set_option maxRecDepth 100000 in
theorem s35_219 {a : Nat} : rn sc d 35 219 [l0, l1, l2] (.ref a :: st) M Q = rn_o (hp_f M a 0 2) (fun v => rn sc d 35 222 [l0, l1, l2] (v :: st) M Q) := ru_get rfl rfl
set_option maxRecDepth 100000 in
theorem s35_222 {x : Int32} : rn sc d 35 222 [l0, l1, some (.int x)] st M Q = rn sc d 35 223 [l0, l1, some (.int x)] (.int x :: st) M Q := ru_1 rfl rfl rfl rfl rfl
set_option maxRecDepth 100000 in
theorem s35_223 {a : Nat} {x0 : Int32} {x1 : Int32} {x2 : Int32} (hw : xm_wt st ≤ 8) (hq : hp_is M a 2) : rn sc (d + 1) 35 223 [l0, l1, l2] (.int x2 :: .int x1 :: .int x0 :: .ref a :: st) M Q = rn sc d 44 0 [some (.ref a), some (.int x0), some (.int x1), some (.int x2), none] [] M (fun r M' => rn sc (d + 1) 35 226 [l0, l1, l2] (r.toList ++ st) M' Q) := ru_d (ru_iv (as := [.int x2, .int x1, .int x0]) rfl rfl rfl (Nat.le_of_ble_eq_true rfl) hw rfl hq)
set_option maxRecDepth 100000 in
theorem s35_226 {v : Int32} : rn sc d 35 226 [l0, l1, l2] [.int v] M Q = Q (some (.int v)) M := ru_ri rfl rfl
set_option maxRecDepth 100000 in
theorem s36_0 {a : Nat} : rn sc d 36 0 [l0, some (.ref a), l2, l3] st M Q = rn sc d 36 1 [l0, some (.ref a), l2, l3] (.ref a :: st) M Q := ru_1 rfl rfl rfl rfl rfl
set_option maxRecDepth 100000 in
theorem s36_0N : rn sc d 36 0 [l0, some .null, l2, l3] st M Q = rn sc d 36 1 [l0, some .null, l2, l3] (.null :: st) M Q := ru_1 rfl rfl rfl rfl rfl
set_option maxRecDepth 100000 in
theorem s36_1 {a : Nat} : rn sc d 36 1 [l0, l1, l2, l3] (.ref a :: st) M Q = rn_o (hp_f M a 5 1) (fun v => rn sc d 36 4 [l0, l1, l2, l3] (v :: st) M Q) := ru_get rfl rfl
set_option maxRecDepth 100000 in
theorem s36_4 {a : Nat} : rn sc d 36 4 [some (.ref a), l1, l2, l3] st M Q = rn sc d 36 5 [some (.ref a), l1, l2, l3] (.ref a :: st) M Q := ru_1 rfl rfl rfl rfl rfl
set_option maxRecDepth 100000 in
theorem s36_5 {a : Nat} : rn sc d 36 5 [l0, l1, l2, l3] (.ref a :: st) M Q = rn_o (hp_f M a 5 1) (fun v => rn sc d 36 8 [l0, l1, l2, l3] (v :: st) M Q) := ru_get rfl rfl
set_option maxRecDepth 100000 in
theorem s36_8 {x : Int32} : rn sc d 36 8 [l0, l1, some (.int x), l3] st M Q = rn sc d 36 9 [l0, l1, some (.int x), l3] (.int x :: st) M Q := ru_1 rfl rfl rfl rfl rfl
set_option maxRecDepth 100000 in
theorem s36_9 {u v : Int32} : rn sc d 36 9 [l0, l1, l2, l3] (.int v :: .int u :: st) M Q = rn sc d 36 10 [l0, l1, l2, l3] (.int (u - v) :: st) M Q := ru_1 rfl rfl rfl rfl rfl
set_option maxRecDepth 100000 in
theorem s36_10 {u v : Int32} : rn sc d 36 10 [l0, l1, l2, l3] (.int v :: .int u :: st) M Q = if u ≤ v then rn sc d 36 15 [l0, l1, l2, l3] st M Q else rn sc d 36 13 [l0, l1, l2, l3] st M Q := ru_ic pc_le rfl (by decide)
set_option maxRecDepth 100000 in
theorem s36_13 : rn sc d 36 13 [l0, l1, l2, l3] st M Q = rn sc d 36 14 [l0, l1, l2, l3] (.int (-1) :: st) M Q := ru_k rfl rfl rfl rfl rfl (by decide)
set_option maxRecDepth 100000 in
theorem s36_14 {v : Int32} : rn sc d 36 14 [l0, l1, l2, l3] [.int v] M Q = Q (some (.int v)) M := ru_ri rfl rfl
set_option maxRecDepth 100000 in
theorem s36_15 : rn sc d 36 15 [l0, l1, l2, l3] st M Q = rn sc d 36 16 [l0, l1, l2, l3] (.int 0 :: st) M Q := ru_k rfl rfl rfl rfl rfl (by decide)
set_option maxRecDepth 100000 in
theorem s36_16 {x : Int32} : rn sc d 36 16 [l0, l1, l2, l3] (.int x :: st) M Q = rn sc d 36 17 [l0, l1, l2, some (.int x)] st M Q := ru_1 rfl rfl rfl rfl rfl
set_option maxRecDepth 100000 in
theorem s36_17 {x : Int32} : rn sc d 36 17 [l0, l1, l2, some (.int x)] st M Q = rn sc d 36 18 [l0, l1, l2, some (.int x)] (.int x :: st) M Q := ru_1 rfl rfl rfl rfl rfl
set_option maxRecDepth 100000 in
theorem s36_18 {a : Nat} : rn sc d 36 18 [l0, some (.ref a), l2, l3] st M Q = rn sc d 36 19 [l0, some (.ref a), l2, l3] (.ref a :: st) M Q := ru_1 rfl rfl rfl rfl rfl
set_option maxRecDepth 100000 in
theorem s36_18N : rn sc d 36 18 [l0, some .null, l2, l3] st M Q = rn sc d 36 19 [l0, some .null, l2, l3] (.null :: st) M Q := ru_1 rfl rfl rfl rfl rfl
set_option maxRecDepth 100000 in
theorem s36_19 {a : Nat} : rn sc d 36 19 [l0, l1, l2, l3] (.ref a :: st) M Q = rn_o (hp_f M a 5 1) (fun v => rn sc d 36 22 [l0, l1, l2, l3] (v :: st) M Q) := ru_get rfl rfl
set_option maxRecDepth 100000 in
theorem s36_22 {u v : Int32} : rn sc d 36 22 [l0, l1, l2, l3] (.int v :: .int u :: st) M Q = if v ≤ u then rn sc d 36 48 [l0, l1, l2, l3] st M Q else rn sc d 36 25 [l0, l1, l2, l3] st M Q := ru_ic pc_ge rfl (by decide)
set_option maxRecDepth 100000 in
theorem s36_25 {a : Nat} : rn sc d 36 25 [some (.ref a), l1, l2, l3] st M Q = rn sc d 36 26 [some (.ref a), l1, l2, l3] (.ref a :: st) M Q := ru_1 rfl rfl rfl rfl rfl
set_option maxRecDepth 100000 in
theorem s36_26 {x : Int32} : rn sc d 36 26 [l0, l1, some (.int x), l3] st M Q = rn sc d 36 27 [l0, l1, some (.int x), l3] (.int x :: st) M Q := ru_1 rfl rfl rfl rfl rfl
set_option maxRecDepth 100000 in
theorem s36_27 {x : Int32} : rn sc d 36 27 [l0, l1, l2, some (.int x)] st M Q = rn sc d 36 28 [l0, l1, l2, some (.int x)] (.int x :: st) M Q := ru_1 rfl rfl rfl rfl rfl
set_option maxRecDepth 100000 in
theorem s36_28 {u v : Int32} : rn sc d 36 28 [l0, l1, l2, l3] (.int v :: .int u :: st) M Q = rn sc d 36 29 [l0, l1, l2, l3] (.int (u + v) :: st) M Q := ru_1 rfl rfl rfl rfl rfl
set_option maxRecDepth 100000 in
theorem s36_29 {a : Nat} {x0 : Int32} (hw : xm_wt st ≤ 8) (hq : hp_is M a 5) : rn sc (d + 1) 36 29 [l0, l1, l2, l3] (.int x0 :: .ref a :: st) M Q = rn sc d 15 0 [some (.ref a), some (.int x0)] [] M (fun r M' => rn sc (d + 1) 36 32 [l0, l1, l2, l3] (r.toList ++ st) M' Q) := ru_d (ru_iv (as := [.int x0]) rfl rfl rfl (Nat.le_of_ble_eq_true rfl) hw rfl hq)
set_option maxRecDepth 100000 in
theorem s36_32 {a : Nat} : rn sc d 36 32 [l0, some (.ref a), l2, l3] st M Q = rn sc d 36 33 [l0, some (.ref a), l2, l3] (.ref a :: st) M Q := ru_1 rfl rfl rfl rfl rfl
set_option maxRecDepth 100000 in
theorem s36_32N : rn sc d 36 32 [l0, some .null, l2, l3] st M Q = rn sc d 36 33 [l0, some .null, l2, l3] (.null :: st) M Q := ru_1 rfl rfl rfl rfl rfl
set_option maxRecDepth 100000 in
theorem s36_33 {x : Int32} : rn sc d 36 33 [l0, l1, l2, some (.int x)] st M Q = rn sc d 36 34 [l0, l1, l2, some (.int x)] (.int x :: st) M Q := ru_1 rfl rfl rfl rfl rfl
set_option maxRecDepth 100000 in
theorem s36_34 {a : Nat} {x0 : Int32} (hw : xm_wt st ≤ 8) (hq : hp_is M a 5) : rn sc (d + 1) 36 34 [l0, l1, l2, l3] (.int x0 :: .ref a :: st) M Q = rn sc d 15 0 [some (.ref a), some (.int x0)] [] M (fun r M' => rn sc (d + 1) 36 37 [l0, l1, l2, l3] (r.toList ++ st) M' Q) := ru_d (ru_iv (as := [.int x0]) rfl rfl rfl (Nat.le_of_ble_eq_true rfl) hw rfl hq)
set_option maxRecDepth 100000 in
theorem s36_37 {u v : Int32} : rn sc d 36 37 [l0, l1, l2, l3] (.int v :: .int u :: st) M Q = if u = v then rn sc d 36 42 [l0, l1, l2, l3] st M Q else rn sc d 36 40 [l0, l1, l2, l3] st M Q := ru_ic pc_eq rfl (by decide)
set_option maxRecDepth 100000 in
theorem s36_40 : rn sc d 36 40 [l0, l1, l2, l3] st M Q = rn sc d 36 41 [l0, l1, l2, l3] (.int (-1) :: st) M Q := ru_k rfl rfl rfl rfl rfl (by decide)
set_option maxRecDepth 100000 in
theorem s36_41 {v : Int32} : rn sc d 36 41 [l0, l1, l2, l3] [.int v] M Q = Q (some (.int v)) M := ru_ri rfl rfl
set_option maxRecDepth 100000 in
theorem s36_42 {x : Int32} : rn sc d 36 42 [l0, l1, l2, some (.int x)] st M Q = rn sc d 36 45 [l0, l1, l2, some (.int (x + 1))] st M Q := ru_1 rfl rfl rfl rfl rfl
set_option maxRecDepth 100000 in
theorem s36_45 : rn sc d 36 45 [l0, l1, l2, l3] st M Q = rn sc d 36 17 [l0, l1, l2, l3] st M Q := ru_go rfl (by decide)
set_option maxRecDepth 100000 in
theorem s36_48 {x : Int32} : rn sc d 36 48 [l0, l1, some (.int x), l3] st M Q = rn sc d 36 49 [l0, l1, some (.int x), l3] (.int x :: st) M Q := ru_1 rfl rfl rfl rfl rfl
set_option maxRecDepth 100000 in
theorem s36_49 {a : Nat} : rn sc d 36 49 [l0, some (.ref a), l2, l3] st M Q = rn sc d 36 50 [l0, some (.ref a), l2, l3] (.ref a :: st) M Q := ru_1 rfl rfl rfl rfl rfl
set_option maxRecDepth 100000 in
theorem s36_49N : rn sc d 36 49 [l0, some .null, l2, l3] st M Q = rn sc d 36 50 [l0, some .null, l2, l3] (.null :: st) M Q := ru_1 rfl rfl rfl rfl rfl
set_option maxRecDepth 100000 in
theorem s36_50 {a : Nat} : rn sc d 36 50 [l0, l1, l2, l3] (.ref a :: st) M Q = rn_o (hp_f M a 5 1) (fun v => rn sc d 36 53 [l0, l1, l2, l3] (v :: st) M Q) := ru_get rfl rfl
set_option maxRecDepth 100000 in
theorem s36_53 {u v : Int32} : rn sc d 36 53 [l0, l1, l2, l3] (.int v :: .int u :: st) M Q = rn sc d 36 54 [l0, l1, l2, l3] (.int (u + v) :: st) M Q := ru_1 rfl rfl rfl rfl rfl
set_option maxRecDepth 100000 in
theorem s36_54 {v : Int32} : rn sc d 36 54 [l0, l1, l2, l3] [.int v] M Q = Q (some (.int v)) M := ru_ri rfl rfl
set_option maxRecDepth 100000 in
theorem s37_0 {x : Int32} : rn sc d 37 0 [l0, l1, l2, some (.int x)] st M Q = rn sc d 37 1 [l0, l1, l2, some (.int x)] (.int x :: st) M Q := ru_1 rfl rfl rfl rfl rfl
set_option maxRecDepth 100000 in
theorem s37_1 {a : Nat} : rn sc d 37 1 [some (.ref a), l1, l2, l3] st M Q = rn sc d 37 2 [some (.ref a), l1, l2, l3] (.ref a :: st) M Q := ru_1 rfl rfl rfl rfl rfl
set_option maxRecDepth 100000 in
theorem s37_2 {a : Nat} : rn sc d 37 2 [l0, l1, l2, l3] (.ref a :: st) M Q = rn_o (hp_f M a 5 1) (fun v => rn sc d 37 5 [l0, l1, l2, l3] (v :: st) M Q) := ru_get rfl rfl
set_option maxRecDepth 100000 in
theorem s37_5 {u v : Int32} : rn sc d 37 5 [l0, l1, l2, l3] (.int v :: .int u :: st) M Q = if v ≤ u then rn sc d 37 27 [l0, l1, l2, l3] st M Q else rn sc d 37 8 [l0, l1, l2, l3] st M Q := ru_ic pc_ge rfl (by decide)
set_option maxRecDepth 100000 in
theorem s37_8 {a : Nat} : rn sc d 37 8 [l0, some (.ref a), l2, l3] st M Q = rn sc d 37 9 [l0, some (.ref a), l2, l3] (.ref a :: st) M Q := ru_1 rfl rfl rfl rfl rfl
set_option maxRecDepth 100000 in
theorem s37_8N : rn sc d 37 8 [l0, some .null, l2, l3] st M Q = rn sc d 37 9 [l0, some .null, l2, l3] (.null :: st) M Q := ru_1 rfl rfl rfl rfl rfl
set_option maxRecDepth 100000 in
theorem s37_9 {a : Nat} : rn sc d 37 9 [some (.ref a), l1, l2, l3] st M Q = rn sc d 37 10 [some (.ref a), l1, l2, l3] (.ref a :: st) M Q := ru_1 rfl rfl rfl rfl rfl
set_option maxRecDepth 100000 in
theorem s37_10 {x : Int32} : rn sc d 37 10 [l0, l1, l2, some (.int x)] st M Q = rn sc d 37 11 [l0, l1, l2, some (.int x)] (.int x :: st) M Q := ru_1 rfl rfl rfl rfl rfl
set_option maxRecDepth 100000 in
theorem s37_11 {a : Nat} {x0 : Int32} (hw : xm_wt st ≤ 8) (hq : hp_is M a 5) : rn sc (d + 1) 37 11 [l0, l1, l2, l3] (.int x0 :: .ref a :: st) M Q = rn sc d 15 0 [some (.ref a), some (.int x0)] [] M (fun r M' => rn sc (d + 1) 37 14 [l0, l1, l2, l3] (r.toList ++ st) M' Q) := ru_d (ru_iv (as := [.int x0]) rfl rfl rfl (Nat.le_of_ble_eq_true rfl) hw rfl hq)
set_option maxRecDepth 100000 in
theorem s37_14 {a : Nat} {x0 : Int32} (hw : xm_wt st ≤ 8) (hq : hp_is M a 5) : rn sc (d + 1) 37 14 [l0, l1, l2, l3] (.int x0 :: .ref a :: st) M Q = rn sc d 38 0 [some (.ref a), some (.int x0), none] [] M (fun r M' => rn sc (d + 1) 37 17 [l0, l1, l2, l3] (r.toList ++ st) M' Q) := ru_d (ru_iv (as := [.int x0]) rfl rfl rfl (Nat.le_of_ble_eq_true rfl) hw rfl hq)
set_option maxRecDepth 100000 in
theorem s37_17 {x : Int32} : rn sc d 37 17 [l0, l1, some (.int x), l3] st M Q = rn sc d 37 18 [l0, l1, some (.int x), l3] (.int x :: st) M Q := ru_1 rfl rfl rfl rfl rfl
set_option maxRecDepth 100000 in
theorem s37_18 {u v : Int32} : rn sc d 37 18 [l0, l1, l2, l3] (.int v :: .int u :: st) M Q = if ¬ u = v then rn sc d 37 27 [l0, l1, l2, l3] st M Q else rn sc d 37 21 [l0, l1, l2, l3] st M Q := ru_ic pc_ne rfl (by decide)
set_option maxRecDepth 100000 in
theorem s37_21 {x : Int32} : rn sc d 37 21 [l0, l1, l2, some (.int x)] st M Q = rn sc d 37 22 [l0, l1, l2, some (.int x)] (.int x :: st) M Q := ru_1 rfl rfl rfl rfl rfl
set_option maxRecDepth 100000 in
theorem s37_22 : rn sc d 37 22 [l0, l1, l2, l3] st M Q = rn sc d 37 23 [l0, l1, l2, l3] (.int 1 :: st) M Q := ru_k rfl rfl rfl rfl rfl (by decide)
set_option maxRecDepth 100000 in
theorem s37_23 {u v : Int32} : rn sc d 37 23 [l0, l1, l2, l3] (.int v :: .int u :: st) M Q = rn sc d 37 24 [l0, l1, l2, l3] (.int (u + v) :: st) M Q := ru_1 rfl rfl rfl rfl rfl
set_option maxRecDepth 100000 in
theorem s37_24 : rn sc d 37 24 [l0, l1, l2, l3] st M Q = rn sc d 37 28 [l0, l1, l2, l3] st M Q := ru_go rfl (by decide)
set_option maxRecDepth 100000 in
theorem s37_27 : rn sc d 37 27 [l0, l1, l2, l3] st M Q = rn sc d 37 28 [l0, l1, l2, l3] (.int (-1) :: st) M Q := ru_k rfl rfl rfl rfl rfl (by decide)
set_option maxRecDepth 100000 in
theorem s37_28 {v : Int32} : rn sc d 37 28 [l0, l1, l2, l3] [.int v] M Q = Q (some (.int v)) M := ru_ri rfl rfl
set_option maxRecDepth 100000 in
theorem s38_0 : rn sc d 38 0 [l0, l1, l2] st M Q = rn sc d 38 1 [l0, l1, l2] (.int 0 :: st) M Q := ru_k rfl rfl rfl rfl rfl (by decide)
set_option maxRecDepth 100000 in
theorem s38_1 {x : Int32} : rn sc d 38 1 [l0, l1, l2] (.int x :: st) M Q = rn sc d 38 2 [l0, l1, some (.int x)] st M Q := ru_1 rfl rfl rfl rfl rfl
set_option maxRecDepth 100000 in
theorem s38_2 {x : Int32} : rn sc d 38 2 [l0, l1, some (.int x)] st M Q = rn sc d 38 3 [l0, l1, some (.int x)] (.int x :: st) M Q := ru_1 rfl rfl rfl rfl rfl
set_option maxRecDepth 100000 in
theorem s38_3 {a : Nat} : rn sc d 38 3 [some (.ref a), l1, l2] st M Q = rn sc d 38 4 [some (.ref a), l1, l2] (.ref a :: st) M Q := ru_1 rfl rfl rfl rfl rfl
set_option maxRecDepth 100000 in
theorem s38_4 {a : Nat} : rn sc d 38 4 [l0, l1, l2] (.ref a :: st) M Q = rn_o (hp_f M a 5 1) (fun v => rn sc d 38 7 [l0, l1, l2] (v :: st) M Q) := ru_get rfl rfl
set_option maxRecDepth 100000 in
theorem s38_7 {u v : Int32} : rn sc d 38 7 [l0, l1, l2] (.int v :: .int u :: st) M Q = if v ≤ u then rn sc d 38 28 [l0, l1, l2] st M Q else rn sc d 38 10 [l0, l1, l2] st M Q := ru_ic pc_ge rfl (by decide)
set_option maxRecDepth 100000 in
theorem s38_10 {a : Nat} : rn sc d 38 10 [some (.ref a), l1, l2] st M Q = rn sc d 38 11 [some (.ref a), l1, l2] (.ref a :: st) M Q := ru_1 rfl rfl rfl rfl rfl
set_option maxRecDepth 100000 in
theorem s38_11 {a : Nat} : rn sc d 38 11 [l0, l1, l2] (.ref a :: st) M Q = rn_o (hp_f M a 5 0) (fun v => rn sc d 38 14 [l0, l1, l2] (v :: st) M Q) := ru_get rfl rfl
set_option maxRecDepth 100000 in
theorem s38_14 {x : Int32} : rn sc d 38 14 [l0, l1, some (.int x)] st M Q = rn sc d 38 15 [l0, l1, some (.int x)] (.int x :: st) M Q := ru_1 rfl rfl rfl rfl rfl
set_option maxRecDepth 100000 in
theorem s38_15 {a : Nat} {j : Int32} : rn sc d 38 15 [l0, l1, l2] (.int j :: .ref a :: st) M Q = rn_o (hp_i sc M a j) (fun v => rn sc d 38 16 [l0, l1, l2] (.int v :: st) M Q) := ru_iald rfl
set_option maxRecDepth 100000 in
theorem s38_16 {x : Int32} : rn sc d 38 16 [l0, some (.int x), l2] st M Q = rn sc d 38 17 [l0, some (.int x), l2] (.int x :: st) M Q := ru_1 rfl rfl rfl rfl rfl
set_option maxRecDepth 100000 in
theorem s38_17 {u v : Int32} : rn sc d 38 17 [l0, l1, l2] (.int v :: .int u :: st) M Q = if ¬ u = v then rn sc d 38 22 [l0, l1, l2] st M Q else rn sc d 38 20 [l0, l1, l2] st M Q := ru_ic pc_ne rfl (by decide)
set_option maxRecDepth 100000 in
theorem s38_20 : rn sc d 38 20 [l0, l1, l2] st M Q = rn sc d 38 21 [l0, l1, l2] (.int 1 :: st) M Q := ru_k rfl rfl rfl rfl rfl (by decide)
set_option maxRecDepth 100000 in
theorem s38_21 {v : Int32} (h : narrow .boolean (.int v) = .int v) : rn sc d 38 21 [l0, l1, l2] [.int v] M Q = Q (some (.int v)) M := ru_rz rfl rfl h
set_option maxRecDepth 100000 in
theorem s38_22 {x : Int32} : rn sc d 38 22 [l0, l1, some (.int x)] st M Q = rn sc d 38 25 [l0, l1, some (.int (x + 1))] st M Q := ru_1 rfl rfl rfl rfl rfl
set_option maxRecDepth 100000 in
theorem s38_25 : rn sc d 38 25 [l0, l1, l2] st M Q = rn sc d 38 2 [l0, l1, l2] st M Q := ru_go rfl (by decide)
set_option maxRecDepth 100000 in
theorem s38_28 : rn sc d 38 28 [l0, l1, l2] st M Q = rn sc d 38 29 [l0, l1, l2] (.int 0 :: st) M Q := ru_k rfl rfl rfl rfl rfl (by decide)
set_option maxRecDepth 100000 in
theorem s38_29 {v : Int32} (h : narrow .boolean (.int v) = .int v) : rn sc d 38 29 [l0, l1, l2] [.int v] M Q = Q (some (.int v)) M := ru_rz rfl rfl h
set_option maxRecDepth 100000 in
theorem s39_0 {x : Int32} : rn sc d 39 0 [l0, l1, some (.int x), l3] st M Q = rn sc d 39 1 [l0, l1, some (.int x), l3] (.int x :: st) M Q := ru_1 rfl rfl rfl rfl rfl
set_option maxRecDepth 100000 in
theorem s39_1 {x : Int32} : rn sc d 39 1 [l0, l1, l2, l3] (.int x :: st) M Q = rn sc d 39 2 [l0, l1, l2, some (.int x)] st M Q := ru_1 rfl rfl rfl rfl rfl
set_option maxRecDepth 100000 in
theorem s39_2 {x : Int32} : rn sc d 39 2 [l0, l1, l2, some (.int x)] st M Q = rn sc d 39 3 [l0, l1, l2, some (.int x)] (.int x :: st) M Q := ru_1 rfl rfl rfl rfl rfl
set_option maxRecDepth 100000 in
theorem s39_3 {a : Nat} : rn sc d 39 3 [some (.ref a), l1, l2, l3] st M Q = rn sc d 39 4 [some (.ref a), l1, l2, l3] (.ref a :: st) M Q := ru_1 rfl rfl rfl rfl rfl
set_option maxRecDepth 100000 in
theorem s39_4 {a : Nat} : rn sc d 39 4 [l0, l1, l2, l3] (.ref a :: st) M Q = rn_o (hp_f M a 5 1) (fun v => rn sc d 39 7 [l0, l1, l2, l3] (v :: st) M Q) := ru_get rfl rfl
set_option maxRecDepth 100000 in
theorem s39_7 {u v : Int32} : rn sc d 39 7 [l0, l1, l2, l3] (.int v :: .int u :: st) M Q = if v ≤ u then rn sc d 39 29 [l0, l1, l2, l3] st M Q else rn sc d 39 10 [l0, l1, l2, l3] st M Q := ru_ic pc_ge rfl (by decide)
set_option maxRecDepth 100000 in
theorem s39_10 {a : Nat} : rn sc d 39 10 [l0, some (.ref a), l2, l3] st M Q = rn sc d 39 11 [l0, some (.ref a), l2, l3] (.ref a :: st) M Q := ru_1 rfl rfl rfl rfl rfl
set_option maxRecDepth 100000 in
theorem s39_10N : rn sc d 39 10 [l0, some .null, l2, l3] st M Q = rn sc d 39 11 [l0, some .null, l2, l3] (.null :: st) M Q := ru_1 rfl rfl rfl rfl rfl
set_option maxRecDepth 100000 in
theorem s39_11 {a : Nat} : rn sc d 39 11 [some (.ref a), l1, l2, l3] st M Q = rn sc d 39 12 [some (.ref a), l1, l2, l3] (.ref a :: st) M Q := ru_1 rfl rfl rfl rfl rfl
set_option maxRecDepth 100000 in
theorem s39_12 {a : Nat} : rn sc d 39 12 [l0, l1, l2, l3] (.ref a :: st) M Q = rn_o (hp_f M a 5 0) (fun v => rn sc d 39 15 [l0, l1, l2, l3] (v :: st) M Q) := ru_get rfl rfl
set_option maxRecDepth 100000 in
theorem s39_15 {x : Int32} : rn sc d 39 15 [l0, l1, l2, some (.int x)] st M Q = rn sc d 39 16 [l0, l1, l2, some (.int x)] (.int x :: st) M Q := ru_1 rfl rfl rfl rfl rfl
set_option maxRecDepth 100000 in
theorem s39_16 {a : Nat} {j : Int32} : rn sc d 39 16 [l0, l1, l2, l3] (.int j :: .ref a :: st) M Q = rn_o (hp_i sc M a j) (fun v => rn sc d 39 17 [l0, l1, l2, l3] (.int v :: st) M Q) := ru_iald rfl
set_option maxRecDepth 100000 in
theorem s39_17 {a : Nat} {x0 : Int32} (hw : xm_wt st ≤ 8) (hq : hp_is M a 5) : rn sc (d + 1) 39 17 [l0, l1, l2, l3] (.int x0 :: .ref a :: st) M Q = rn sc d 38 0 [some (.ref a), some (.int x0), none] [] M (fun r M' => rn sc (d + 1) 39 20 [l0, l1, l2, l3] (r.toList ++ st) M' Q) := ru_d (ru_iv (as := [.int x0]) rfl rfl rfl (Nat.le_of_ble_eq_true rfl) hw rfl hq)
set_option maxRecDepth 100000 in
theorem s39_20 {x : Int32} : rn sc d 39 20 [l0, l1, l2, l3] (.int x :: st) M Q = if x = 0 then rn sc d 39 29 [l0, l1, l2, l3] st M Q else rn sc d 39 23 [l0, l1, l2, l3] st M Q := ru_if pc_eq rfl (by decide)
set_option maxRecDepth 100000 in
theorem s39_23 {x : Int32} : rn sc d 39 23 [l0, l1, l2, some (.int x)] st M Q = rn sc d 39 26 [l0, l1, l2, some (.int (x + 1))] st M Q := ru_1 rfl rfl rfl rfl rfl
set_option maxRecDepth 100000 in
theorem s39_26 : rn sc d 39 26 [l0, l1, l2, l3] st M Q = rn sc d 39 2 [l0, l1, l2, l3] st M Q := ru_go rfl (by decide)
set_option maxRecDepth 100000 in
theorem s39_29 {x : Int32} : rn sc d 39 29 [l0, l1, l2, some (.int x)] st M Q = rn sc d 39 30 [l0, l1, l2, some (.int x)] (.int x :: st) M Q := ru_1 rfl rfl rfl rfl rfl
set_option maxRecDepth 100000 in
theorem s39_30 {x : Int32} : rn sc d 39 30 [l0, l1, some (.int x), l3] st M Q = rn sc d 39 31 [l0, l1, some (.int x), l3] (.int x :: st) M Q := ru_1 rfl rfl rfl rfl rfl
set_option maxRecDepth 100000 in
theorem s39_31 {u v : Int32} : rn sc d 39 31 [l0, l1, l2, l3] (.int v :: .int u :: st) M Q = if u ≤ v then rn sc d 39 38 [l0, l1, l2, l3] st M Q else rn sc d 39 34 [l0, l1, l2, l3] st M Q := ru_ic pc_le rfl (by decide)
set_option maxRecDepth 100000 in
theorem s39_34 {x : Int32} : rn sc d 39 34 [l0, l1, l2, some (.int x)] st M Q = rn sc d 39 35 [l0, l1, l2, some (.int x)] (.int x :: st) M Q := ru_1 rfl rfl rfl rfl rfl
set_option maxRecDepth 100000 in
theorem s39_35 : rn sc d 39 35 [l0, l1, l2, l3] st M Q = rn sc d 39 39 [l0, l1, l2, l3] st M Q := ru_go rfl (by decide)
set_option maxRecDepth 100000 in
theorem s39_38 : rn sc d 39 38 [l0, l1, l2, l3] st M Q = rn sc d 39 39 [l0, l1, l2, l3] (.int (-1) :: st) M Q := ru_k rfl rfl rfl rfl rfl (by decide)
set_option maxRecDepth 100000 in
theorem s39_39 {v : Int32} : rn sc d 39 39 [l0, l1, l2, l3] [.int v] M Q = Q (some (.int v)) M := ru_ri rfl rfl
set_option maxRecDepth 100000 in
theorem s40_0 {x : Int32} : rn sc d 40 0 [l0, l1, some (.int x), l3] st M Q = rn sc d 40 1 [l0, l1, some (.int x), l3] (.int x :: st) M Q := ru_1 rfl rfl rfl rfl rfl
set_option maxRecDepth 100000 in
theorem s40_1 {x : Int32} : rn sc d 40 1 [l0, l1, l2, l3] (.int x :: st) M Q = rn sc d 40 2 [l0, l1, l2, some (.int x)] st M Q := ru_1 rfl rfl rfl rfl rfl
set_option maxRecDepth 100000 in
theorem s40_2 {x : Int32} : rn sc d 40 2 [l0, l1, l2, some (.int x)] st M Q = rn sc d 40 3 [l0, l1, l2, some (.int x)] (.int x :: st) M Q := ru_1 rfl rfl rfl rfl rfl
set_option maxRecDepth 100000 in
theorem s40_3 {a : Nat} : rn sc d 40 3 [some (.ref a), l1, l2, l3] st M Q = rn sc d 40 4 [some (.ref a), l1, l2, l3] (.ref a :: st) M Q := ru_1 rfl rfl rfl rfl rfl
set_option maxRecDepth 100000 in
theorem s40_4 {a : Nat} : rn sc d 40 4 [l0, l1, l2, l3] (.ref a :: st) M Q = rn_o (hp_f M a 5 1) (fun v => rn sc d 40 7 [l0, l1, l2, l3] (v :: st) M Q) := ru_get rfl rfl
set_option maxRecDepth 100000 in
theorem s40_7 {u v : Int32} : rn sc d 40 7 [l0, l1, l2, l3] (.int v :: .int u :: st) M Q = if v ≤ u then rn sc d 40 31 [l0, l1, l2, l3] st M Q else rn sc d 40 10 [l0, l1, l2, l3] st M Q := ru_ic pc_ge rfl (by decide)
set_option maxRecDepth 100000 in
theorem s40_10 {a : Nat} : rn sc d 40 10 [l0, some (.ref a), l2, l3] st M Q = rn sc d 40 11 [l0, some (.ref a), l2, l3] (.ref a :: st) M Q := ru_1 rfl rfl rfl rfl rfl
set_option maxRecDepth 100000 in
theorem s40_10N : rn sc d 40 10 [l0, some .null, l2, l3] st M Q = rn sc d 40 11 [l0, some .null, l2, l3] (.null :: st) M Q := ru_1 rfl rfl rfl rfl rfl
set_option maxRecDepth 100000 in
theorem s40_11 {a : Nat} : rn sc d 40 11 [some (.ref a), l1, l2, l3] st M Q = rn sc d 40 12 [some (.ref a), l1, l2, l3] (.ref a :: st) M Q := ru_1 rfl rfl rfl rfl rfl
set_option maxRecDepth 100000 in
theorem s40_12 {a : Nat} : rn sc d 40 12 [l0, l1, l2, l3] (.ref a :: st) M Q = rn_o (hp_f M a 5 0) (fun v => rn sc d 40 15 [l0, l1, l2, l3] (v :: st) M Q) := ru_get rfl rfl
set_option maxRecDepth 100000 in
theorem s40_15 {x : Int32} : rn sc d 40 15 [l0, l1, l2, some (.int x)] st M Q = rn sc d 40 16 [l0, l1, l2, some (.int x)] (.int x :: st) M Q := ru_1 rfl rfl rfl rfl rfl
set_option maxRecDepth 100000 in
theorem s40_16 {a : Nat} {j : Int32} : rn sc d 40 16 [l0, l1, l2, l3] (.int j :: .ref a :: st) M Q = rn_o (hp_i sc M a j) (fun v => rn sc d 40 17 [l0, l1, l2, l3] (.int v :: st) M Q) := ru_iald rfl
set_option maxRecDepth 100000 in
theorem s40_17 {a : Nat} {x0 : Int32} (hw : xm_wt st ≤ 8) (hq : hp_is M a 5) : rn sc (d + 1) 40 17 [l0, l1, l2, l3] (.int x0 :: .ref a :: st) M Q = rn sc d 38 0 [some (.ref a), some (.int x0), none] [] M (fun r M' => rn sc (d + 1) 40 20 [l0, l1, l2, l3] (r.toList ++ st) M' Q) := ru_d (ru_iv (as := [.int x0]) rfl rfl rfl (Nat.le_of_ble_eq_true rfl) hw rfl hq)
set_option maxRecDepth 100000 in
theorem s40_20 {x : Int32} : rn sc d 40 20 [l0, l1, l2, l3] (.int x :: st) M Q = if x = 0 then rn sc d 40 25 [l0, l1, l2, l3] st M Q else rn sc d 40 23 [l0, l1, l2, l3] st M Q := ru_if pc_eq rfl (by decide)
set_option maxRecDepth 100000 in
theorem s40_23 {x : Int32} : rn sc d 40 23 [l0, l1, l2, some (.int x)] st M Q = rn sc d 40 24 [l0, l1, l2, some (.int x)] (.int x :: st) M Q := ru_1 rfl rfl rfl rfl rfl
set_option maxRecDepth 100000 in
theorem s40_24 {v : Int32} : rn sc d 40 24 [l0, l1, l2, l3] [.int v] M Q = Q (some (.int v)) M := ru_ri rfl rfl
set_option maxRecDepth 100000 in
theorem s40_25 {x : Int32} : rn sc d 40 25 [l0, l1, l2, some (.int x)] st M Q = rn sc d 40 28 [l0, l1, l2, some (.int (x + 1))] st M Q := ru_1 rfl rfl rfl rfl rfl
set_option maxRecDepth 100000 in
theorem s40_28 : rn sc d 40 28 [l0, l1, l2, l3] st M Q = rn sc d 40 2 [l0, l1, l2, l3] st M Q := ru_go rfl (by decide)
set_option maxRecDepth 100000 in
theorem s40_31 : rn sc d 40 31 [l0, l1, l2, l3] st M Q = rn sc d 40 32 [l0, l1, l2, l3] (.int (-1) :: st) M Q := ru_k rfl rfl rfl rfl rfl (by decide)
set_option maxRecDepth 100000 in
theorem s40_32 {v : Int32} : rn sc d 40 32 [l0, l1, l2, l3] [.int v] M Q = Q (some (.int v)) M := ru_ri rfl rfl
set_option maxRecDepth 100000 in
theorem s41_0 {a : Nat} : rn sc d 41 0 [l0, some (.ref a), l2] st M Q = rn sc d 41 1 [l0, some (.ref a), l2] (.ref a :: st) M Q := ru_1 rfl rfl rfl rfl rfl
set_option maxRecDepth 100000 in
theorem s41_0N : rn sc d 41 0 [l0, some .null, l2] st M Q = rn sc d 41 1 [l0, some .null, l2] (.null :: st) M Q := ru_1 rfl rfl rfl rfl rfl
set_option maxRecDepth 100000 in
theorem s41_1 {a : Nat} : rn sc d 41 1 [l0, l1, l2] (.ref a :: st) M Q = rn sc d 41 4 [l0, l1, l2] st M Q := ru_nu rfl
set_option maxRecDepth 100000 in
theorem s41_1N : rn sc d 41 1 [l0, l1, l2] (.null :: st) M Q = rn sc d 41 9 [l0, l1, l2] st M Q := ru_nuN rfl (by decide)
set_option maxRecDepth 100000 in
theorem s41_4 {a : Nat} : rn sc d 41 4 [l0, some (.ref a), l2] st M Q = rn sc d 41 5 [l0, some (.ref a), l2] (.ref a :: st) M Q := ru_1 rfl rfl rfl rfl rfl
set_option maxRecDepth 100000 in
theorem s41_4N : rn sc d 41 4 [l0, some .null, l2] st M Q = rn sc d 41 5 [l0, some .null, l2] (.null :: st) M Q := ru_1 rfl rfl rfl rfl rfl
set_option maxRecDepth 100000 in
theorem s41_5 {x : Int32} : rn sc d 41 5 [l0, l1, some (.int x)] st M Q = rn sc d 41 6 [l0, l1, some (.int x)] (.int x :: st) M Q := ru_1 rfl rfl rfl rfl rfl
set_option maxRecDepth 100000 in
theorem s41_6 {a : Nat} {x0 : Int32} (hw : xm_wt st ≤ 8) (hq : hp_is M a 5) : rn sc (d + 1) 41 6 [l0, l1, l2] (.int x0 :: .ref a :: st) M Q = rn sc d 42 0 [some (.ref a), some (.int x0)] [] M (fun r M' => rn sc (d + 1) 41 9 [l0, l1, l2] (r.toList ++ st) M' Q) := ru_d (ru_iv (as := [.int x0]) rfl rfl rfl (Nat.le_of_ble_eq_true rfl) hw rfl hq)
set_option maxRecDepth 100000 in
theorem s41_9 {x : Int32} : rn sc d 41 9 [l0, l1, some (.int x)] st M Q = rn sc d 41 10 [l0, l1, some (.int x)] (.int x :: st) M Q := ru_1 rfl rfl rfl rfl rfl
set_option maxRecDepth 100000 in
theorem s41_10 {v : Int32} : rn sc d 41 10 [l0, l1, l2] [.int v] M Q = Q (some (.int v)) M := ru_ri rfl rfl
set_option maxRecDepth 100000 in
theorem s42_0 {a : Nat} : rn sc d 42 0 [some (.ref a), l1] st M Q = rn sc d 42 1 [some (.ref a), l1] (.ref a :: st) M Q := ru_1 rfl rfl rfl rfl rfl
set_option maxRecDepth 100000 in
theorem s42_1 {x : Int32} : rn sc d 42 1 [l0, some (.int x)] st M Q = rn sc d 42 2 [l0, some (.int x)] (.int x :: st) M Q := ru_1 rfl rfl rfl rfl rfl
set_option maxRecDepth 100000 in
theorem s42_2 : rn sc d 42 2 [l0, l1] st M Q = rn sc d 42 4 [l0, l1] (.int 10 :: st) M Q := ru_k rfl rfl rfl rfl rfl (by decide)
set_option maxRecDepth 100000 in
theorem s42_4 {u v : Int32} : rn sc d 42 4 [l0, l1] (.int v :: .int u :: st) M Q = if u < v then rn sc d 42 11 [l0, l1] st M Q else rn sc d 42 7 [l0, l1] st M Q := ru_ic pc_lt rfl (by decide)
set_option maxRecDepth 100000 in
theorem s42_7 : rn sc d 42 7 [l0, l1] st M Q = rn sc d 42 8 [l0, l1] (.int 2 :: st) M Q := ru_k rfl rfl rfl rfl rfl (by decide)
set_option maxRecDepth 100000 in
theorem s42_8 : rn sc d 42 8 [l0, l1] st M Q = rn sc d 42 12 [l0, l1] st M Q := ru_go rfl (by decide)
set_option maxRecDepth 100000 in
theorem s42_11 : rn sc d 42 11 [l0, l1] st M Q = rn sc d 42 12 [l0, l1] (.int 1 :: st) M Q := ru_k rfl rfl rfl rfl rfl (by decide)
set_option maxRecDepth 100000 in
theorem s42_12 {a : Nat} {v : Value} : rn sc d 42 12 [l0, l1] (v :: .ref a :: st) M Q = rn_o (hp_pf M a 5 1 v) (fun M' => rn sc d 42 15 [l0, l1] st M' Q) := ru_put rfl rfl rfl
set_option maxRecDepth 100000 in
theorem s42_15 {a : Nat} : rn sc d 42 15 [some (.ref a), l1] st M Q = rn sc d 42 16 [some (.ref a), l1] (.ref a :: st) M Q := ru_1 rfl rfl rfl rfl rfl
set_option maxRecDepth 100000 in
theorem s42_16 {a : Nat} : rn sc d 42 16 [l0, l1] (.ref a :: st) M Q = rn_o (hp_f M a 5 0) (fun v => rn sc d 42 19 [l0, l1] (v :: st) M Q) := ru_get rfl rfl
set_option maxRecDepth 100000 in
theorem s42_19 : rn sc d 42 19 [l0, l1] st M Q = rn sc d 42 20 [l0, l1] (.int 0 :: st) M Q := ru_k rfl rfl rfl rfl rfl (by decide)
set_option maxRecDepth 100000 in
theorem s42_20 : rn sc d 42 20 [l0, l1] st M Q = rn sc d 42 22 [l0, l1] (.int 48 :: st) M Q := ru_k rfl rfl rfl rfl rfl (by decide)
set_option maxRecDepth 100000 in
theorem s42_22 {x : Int32} : rn sc d 42 22 [l0, some (.int x)] st M Q = rn sc d 42 23 [l0, some (.int x)] (.int x :: st) M Q := ru_1 rfl rfl rfl rfl rfl
set_option maxRecDepth 100000 in
theorem s42_23 : rn sc d 42 23 [l0, l1] st M Q = rn sc d 42 25 [l0, l1] (.int 10 :: st) M Q := ru_k rfl rfl rfl rfl rfl (by decide)
set_option maxRecDepth 100000 in
theorem s42_25 {u v : Int32} : rn sc d 42 25 [l0, l1] (.int v :: .int u :: st) M Q = (¬ v = 0 ∧ rn sc d 42 26 [l0, l1] (.int (u / v) :: st) M Q) := ru_div rfl
set_option maxRecDepth 100000 in
theorem s42_26 {u v : Int32} : rn sc d 42 26 [l0, l1] (.int v :: .int u :: st) M Q = rn sc d 42 27 [l0, l1] (.int (u + v) :: st) M Q := ru_1 rfl rfl rfl rfl rfl
set_option maxRecDepth 100000 in
theorem s42_27 {a : Nat} {j x : Int32} : rn sc d 42 27 [l0, l1] (.int x :: .int j :: .ref a :: st) M Q = rn_o (hp_pi M a j x) (fun M' => rn sc d 42 28 [l0, l1] st M' Q) := ru_iast rfl
set_option maxRecDepth 100000 in
theorem s42_28 {a : Nat} : rn sc d 42 28 [some (.ref a), l1] st M Q = rn sc d 42 29 [some (.ref a), l1] (.ref a :: st) M Q := ru_1 rfl rfl rfl rfl rfl
set_option maxRecDepth 100000 in
theorem s42_29 {a : Nat} : rn sc d 42 29 [l0, l1] (.ref a :: st) M Q = rn_o (hp_f M a 5 0) (fun v => rn sc d 42 32 [l0, l1] (v :: st) M Q) := ru_get rfl rfl
set_option maxRecDepth 100000 in
theorem s42_32 {a : Nat} : rn sc d 42 32 [some (.ref a), l1] st M Q = rn sc d 42 33 [some (.ref a), l1] (.ref a :: st) M Q := ru_1 rfl rfl rfl rfl rfl
set_option maxRecDepth 100000 in
theorem s42_33 {a : Nat} : rn sc d 42 33 [l0, l1] (.ref a :: st) M Q = rn_o (hp_f M a 5 1) (fun v => rn sc d 42 36 [l0, l1] (v :: st) M Q) := ru_get rfl rfl
set_option maxRecDepth 100000 in
theorem s42_36 : rn sc d 42 36 [l0, l1] st M Q = rn sc d 42 37 [l0, l1] (.int 1 :: st) M Q := ru_k rfl rfl rfl rfl rfl (by decide)
set_option maxRecDepth 100000 in
theorem s42_37 {u v : Int32} : rn sc d 42 37 [l0, l1] (.int v :: .int u :: st) M Q = rn sc d 42 38 [l0, l1] (.int (u - v) :: st) M Q := ru_1 rfl rfl rfl rfl rfl
set_option maxRecDepth 100000 in
theorem s42_38 : rn sc d 42 38 [l0, l1] st M Q = rn sc d 42 40 [l0, l1] (.int 48 :: st) M Q := ru_k rfl rfl rfl rfl rfl (by decide)
set_option maxRecDepth 100000 in
theorem s42_40 {x : Int32} : rn sc d 42 40 [l0, some (.int x)] st M Q = rn sc d 42 41 [l0, some (.int x)] (.int x :: st) M Q := ru_1 rfl rfl rfl rfl rfl
set_option maxRecDepth 100000 in
theorem s42_41 : rn sc d 42 41 [l0, l1] st M Q = rn sc d 42 43 [l0, l1] (.int 10 :: st) M Q := ru_k rfl rfl rfl rfl rfl (by decide)
set_option maxRecDepth 100000 in
theorem s42_43 {u v : Int32} : rn sc d 42 43 [l0, l1] (.int v :: .int u :: st) M Q = (¬ v = 0 ∧ rn sc d 42 44 [l0, l1] (.int (u - u / v * v) :: st) M Q) := ru_rem rfl
set_option maxRecDepth 100000 in
theorem s42_44 {u v : Int32} : rn sc d 42 44 [l0, l1] (.int v :: .int u :: st) M Q = rn sc d 42 45 [l0, l1] (.int (u + v) :: st) M Q := ru_1 rfl rfl rfl rfl rfl
set_option maxRecDepth 100000 in
theorem s42_45 {a : Nat} {j x : Int32} : rn sc d 42 45 [l0, l1] (.int x :: .int j :: .ref a :: st) M Q = rn_o (hp_pi M a j x) (fun M' => rn sc d 42 46 [l0, l1] st M' Q) := ru_iast rfl
set_option maxRecDepth 100000 in
theorem s42_46 : rn sc d 42 46 [l0, l1] [] M Q = Q none M := rn_ret rfl rfl rfl
set_option maxRecDepth 100000 in
theorem s43_0 {a : Nat} : rn sc d 43 0 [l0, some (.ref a), l2] st M Q = rn sc d 43 1 [l0, some (.ref a), l2] (.ref a :: st) M Q := ru_1 rfl rfl rfl rfl rfl
set_option maxRecDepth 100000 in
theorem s43_0N : rn sc d 43 0 [l0, some .null, l2] st M Q = rn sc d 43 1 [l0, some .null, l2] (.null :: st) M Q := ru_1 rfl rfl rfl rfl rfl
set_option maxRecDepth 100000 in
theorem s43_1 {a : Nat} : rn sc d 43 1 [l0, l1, l2] (.ref a :: st) M Q = rn sc d 43 8 [l0, l1, l2] st M Q := ru_nn rfl (by decide)
set_option maxRecDepth 100000 in
theorem s43_1N : rn sc d 43 1 [l0, l1, l2] (.null :: st) M Q = rn sc d 43 4 [l0, l1, l2] st M Q := ru_nnN rfl
set_option maxRecDepth 100000 in
theorem s43_4 : rn sc d 43 4 [l0, l1, l2] st M Q = rn sc d 43 5 [l0, l1, l2] (.int (-1) :: st) M Q := ru_k rfl rfl rfl rfl rfl (by decide)
set_option maxRecDepth 100000 in
theorem s43_5 : rn sc d 43 5 [l0, l1, l2] st M Q = rn sc d 43 17 [l0, l1, l2] st M Q := ru_go rfl (by decide)
set_option maxRecDepth 100000 in
theorem s43_8 {a : Nat} : rn sc d 43 8 [some (.ref a), l1, l2] st M Q = rn sc d 43 9 [some (.ref a), l1, l2] (.ref a :: st) M Q := ru_1 rfl rfl rfl rfl rfl
set_option maxRecDepth 100000 in
theorem s43_9 {a : Nat} : rn sc d 43 9 [l0, l1, l2] (.ref a :: st) M Q = rn_o (hp_f M a 2 1) (fun v => rn sc d 43 12 [l0, l1, l2] (v :: st) M Q) := ru_get rfl rfl
set_option maxRecDepth 100000 in
theorem s43_12 {a : Nat} : rn sc d 43 12 [l0, some (.ref a), l2] st M Q = rn sc d 43 13 [l0, some (.ref a), l2] (.ref a :: st) M Q := ru_1 rfl rfl rfl rfl rfl
set_option maxRecDepth 100000 in
theorem s43_12N : rn sc d 43 12 [l0, some .null, l2] st M Q = rn sc d 43 13 [l0, some .null, l2] (.null :: st) M Q := ru_1 rfl rfl rfl rfl rfl
set_option maxRecDepth 100000 in
theorem s43_13 {x : Int32} : rn sc d 43 13 [l0, l1, some (.int x)] st M Q = rn sc d 43 14 [l0, l1, some (.int x)] (.int x :: st) M Q := ru_1 rfl rfl rfl rfl rfl
set_option maxRecDepth 100000 in
theorem s43_14 {a : Nat} {b0 : Nat} {x1 : Int32} (hw : xm_wt st ≤ 8) (hq : hp_is M a 5) : rn sc (d + 1) 43 14 [l0, l1, l2] (.int x1 :: .ref b0 :: .ref a :: st) M Q = rn sc d 36 0 [some (.ref a), some (.ref b0), some (.int x1), none] [] M (fun r M' => rn sc (d + 1) 43 17 [l0, l1, l2] (r.toList ++ st) M' Q) := ru_d (ru_iv (as := [.int x1, .ref b0]) rfl rfl rfl (Nat.le_of_ble_eq_true rfl) hw rfl hq)
set_option maxRecDepth 100000 in
theorem s43_14N {a : Nat} {x1 : Int32} (hw : xm_wt st ≤ 8) (hq : hp_is M a 5) : rn sc (d + 1) 43 14 [l0, l1, l2] (.int x1 :: .null :: .ref a :: st) M Q = rn sc d 36 0 [some (.ref a), some (.null), some (.int x1), none] [] M (fun r M' => rn sc (d + 1) 43 17 [l0, l1, l2] (r.toList ++ st) M' Q) := ru_d (ru_iv (as := [.int x1, .null]) rfl rfl rfl (Nat.le_of_ble_eq_true rfl) hw rfl hq)
set_option maxRecDepth 100000 in
theorem s43_17 {v : Int32} : rn sc d 43 17 [l0, l1, l2] [.int v] M Q = Q (some (.int v)) M := ru_ri rfl rfl
set_option maxRecDepth 100000 in
theorem s44_0 {a : Nat} : rn sc d 44 0 [some (.ref a), l1, l2, l3, l4] st M Q = rn sc d 44 1 [some (.ref a), l1, l2, l3, l4] (.ref a :: st) M Q := ru_1 rfl rfl rfl rfl rfl
set_option maxRecDepth 100000 in
theorem s44_1 {a : Nat} : rn sc d 44 1 [l0, l1, l2, l3, l4] (.ref a :: st) M Q = rn_o (hp_f M a 2 1) (fun v => rn sc d 44 4 [l0, l1, l2, l3, l4] (v :: st) M Q) := ru_get rfl rfl
set_option maxRecDepth 100000 in
theorem s44_4 {a : Nat} : rn sc d 44 4 [l0, l1, l2, l3, l4] (.ref a :: st) M Q = rn_o (hp_f M a 5 1) (fun v => rn sc d 44 7 [l0, l1, l2, l3, l4] (v :: st) M Q) := ru_get rfl rfl
set_option maxRecDepth 100000 in
theorem s44_7 {x : Int32} : rn sc d 44 7 [l0, l1, l2, l3, l4] (.int x :: st) M Q = rn sc d 44 9 [l0, l1, l2, l3, some (.int x)] st M Q := ru_1 rfl rfl rfl rfl rfl
set_option maxRecDepth 100000 in
theorem s44_9 {x : Int32} : rn sc d 44 9 [l0, some (.int x), l2, l3, l4] st M Q = rn sc d 44 10 [l0, some (.int x), l2, l3, l4] (.int x :: st) M Q := ru_1 rfl rfl rfl rfl rfl
set_option maxRecDepth 100000 in
theorem s44_10_5 : rn sc d 44 10 [l0, l1, l2, l3, l4] (.int 5 :: st) M Q = rn sc d 44 48 [l0, l1, l2, l3, l4] st M Q := ru_sw rfl rfl rfl rfl rfl (by decide) sw_t
set_option maxRecDepth 100000 in
theorem s44_10_6 : rn sc d 44 10 [l0, l1, l2, l3, l4] (.int 6 :: st) M Q = rn sc d 44 64 [l0, l1, l2, l3, l4] st M Q := ru_sw rfl rfl rfl rfl rfl (by decide) sw_t
set_option maxRecDepth 100000 in
theorem s44_10_7 : rn sc d 44 10 [l0, l1, l2, l3, l4] (.int 7 :: st) M Q = rn sc d 44 75 [l0, l1, l2, l3, l4] st M Q := ru_sw rfl rfl rfl rfl rfl (by decide) sw_t
set_option maxRecDepth 100000 in
theorem s44_10_8 : rn sc d 44 10 [l0, l1, l2, l3, l4] (.int 8 :: st) M Q = rn sc d 44 89 [l0, l1, l2, l3, l4] st M Q := ru_sw rfl rfl rfl rfl rfl (by decide) sw_t
set_option maxRecDepth 100000 in
theorem s44_10_9 : rn sc d 44 10 [l0, l1, l2, l3, l4] (.int 9 :: st) M Q = rn sc d 44 106 [l0, l1, l2, l3, l4] st M Q := ru_sw rfl rfl rfl rfl rfl (by decide) sw_t
set_option maxRecDepth 100000 in
theorem s44_10_10 : rn sc d 44 10 [l0, l1, l2, l3, l4] (.int 10 :: st) M Q = rn sc d 44 123 [l0, l1, l2, l3, l4] st M Q := ru_sw rfl rfl rfl rfl rfl (by decide) sw_t
set_option maxRecDepth 100000 in
theorem s44_10_d {x : Int32} (h : x.toInt < 5 ∨ 10 < x.toInt) : rn sc d 44 10 [l0, l1, l2, l3, l4] (.int x :: st) M Q = rn sc d 44 126 [l0, l1, l2, l3, l4] st M Q := ru_sw rfl rfl rfl rfl rfl (sw_td h (by decide)) sw_t
set_option maxRecDepth 100000 in
theorem s44_48 {x : Int32} : rn sc d 44 48 [l0, l1, some (.int x), l3, l4] st M Q = rn sc d 44 49 [l0, l1, some (.int x), l3, l4] (.int x :: st) M Q := ru_1 rfl rfl rfl rfl rfl
set_option maxRecDepth 100000 in
theorem s44_49 {x : Int32} : rn sc d 44 49 [l0, l1, l2, l3, some (.int x)] st M Q = rn sc d 44 51 [l0, l1, l2, l3, some (.int x)] (.int x :: st) M Q := ru_1 rfl rfl rfl rfl rfl
set_option maxRecDepth 100000 in
theorem s44_51 {x : Int32} : rn sc d 44 51 [l0, l1, l2, some (.int x), l4] st M Q = rn sc d 44 52 [l0, l1, l2, some (.int x), l4] (.int x :: st) M Q := ru_1 rfl rfl rfl rfl rfl
set_option maxRecDepth 100000 in
theorem s44_52 {u v : Int32} : rn sc d 44 52 [l0, l1, l2, l3, l4] (.int v :: .int u :: st) M Q = rn sc d 44 53 [l0, l1, l2, l3, l4] (.int (u - v) :: st) M Q := ru_1 rfl rfl rfl rfl rfl
set_option maxRecDepth 100000 in
theorem s44_53 {u v : Int32} : rn sc d 44 53 [l0, l1, l2, l3, l4] (.int v :: .int u :: st) M Q = if v < u then rn sc d 44 62 [l0, l1, l2, l3, l4] st M Q else rn sc d 44 56 [l0, l1, l2, l3, l4] st M Q := ru_ic pc_gt rfl (by decide)
set_option maxRecDepth 100000 in
theorem s44_56 {x : Int32} : rn sc d 44 56 [l0, l1, l2, some (.int x), l4] st M Q = rn sc d 44 57 [l0, l1, l2, some (.int x), l4] (.int x :: st) M Q := ru_1 rfl rfl rfl rfl rfl
set_option maxRecDepth 100000 in
theorem s44_57 {x : Int32} : rn sc d 44 57 [l0, l1, some (.int x), l3, l4] st M Q = rn sc d 44 58 [l0, l1, some (.int x), l3, l4] (.int x :: st) M Q := ru_1 rfl rfl rfl rfl rfl
set_option maxRecDepth 100000 in
theorem s44_58 {u v : Int32} : rn sc d 44 58 [l0, l1, l2, l3, l4] (.int v :: .int u :: st) M Q = rn sc d 44 59 [l0, l1, l2, l3, l4] (.int (u + v) :: st) M Q := ru_1 rfl rfl rfl rfl rfl
set_option maxRecDepth 100000 in
theorem s44_59 : rn sc d 44 59 [l0, l1, l2, l3, l4] st M Q = rn sc d 44 63 [l0, l1, l2, l3, l4] st M Q := ru_go rfl (by decide)
set_option maxRecDepth 100000 in
theorem s44_62 : rn sc d 44 62 [l0, l1, l2, l3, l4] st M Q = rn sc d 44 63 [l0, l1, l2, l3, l4] (.int (-1) :: st) M Q := ru_k rfl rfl rfl rfl rfl (by decide)
set_option maxRecDepth 100000 in
theorem s44_63 {v : Int32} : rn sc d 44 63 [l0, l1, l2, l3, l4] [.int v] M Q = Q (some (.int v)) M := ru_ri rfl rfl
set_option maxRecDepth 100000 in
theorem s44_64 {x : Int32} : rn sc d 44 64 [l0, l1, l2, some (.int x), l4] st M Q = rn sc d 44 65 [l0, l1, l2, some (.int x), l4] (.int x :: st) M Q := ru_1 rfl rfl rfl rfl rfl
set_option maxRecDepth 100000 in
theorem s44_65 {x : Int32} : rn sc d 44 65 [l0, l1, some (.int x), l3, l4] st M Q = rn sc d 44 66 [l0, l1, some (.int x), l3, l4] (.int x :: st) M Q := ru_1 rfl rfl rfl rfl rfl
set_option maxRecDepth 100000 in
theorem s44_66 {u v : Int32} : rn sc d 44 66 [l0, l1, l2, l3, l4] (.int v :: .int u :: st) M Q = if ¬ u = v then rn sc d 44 73 [l0, l1, l2, l3, l4] st M Q else rn sc d 44 69 [l0, l1, l2, l3, l4] st M Q := ru_ic pc_ne rfl (by decide)
set_option maxRecDepth 100000 in
theorem s44_69 {x : Int32} : rn sc d 44 69 [l0, l1, l2, some (.int x), l4] st M Q = rn sc d 44 70 [l0, l1, l2, some (.int x), l4] (.int x :: st) M Q := ru_1 rfl rfl rfl rfl rfl
set_option maxRecDepth 100000 in
theorem s44_70 : rn sc d 44 70 [l0, l1, l2, l3, l4] st M Q = rn sc d 44 74 [l0, l1, l2, l3, l4] st M Q := ru_go rfl (by decide)
set_option maxRecDepth 100000 in
theorem s44_73 : rn sc d 44 73 [l0, l1, l2, l3, l4] st M Q = rn sc d 44 74 [l0, l1, l2, l3, l4] (.int (-1) :: st) M Q := ru_k rfl rfl rfl rfl rfl (by decide)
set_option maxRecDepth 100000 in
theorem s44_74 {v : Int32} : rn sc d 44 74 [l0, l1, l2, l3, l4] [.int v] M Q = Q (some (.int v)) M := ru_ri rfl rfl
set_option maxRecDepth 100000 in
theorem s44_75 {x : Int32} : rn sc d 44 75 [l0, l1, l2, some (.int x), l4] st M Q = rn sc d 44 76 [l0, l1, l2, some (.int x), l4] (.int x :: st) M Q := ru_1 rfl rfl rfl rfl rfl
set_option maxRecDepth 100000 in
theorem s44_76 {x : Int32} : rn sc d 44 76 [l0, l1, l2, l3, some (.int x)] st M Q = rn sc d 44 78 [l0, l1, l2, l3, some (.int x)] (.int x :: st) M Q := ru_1 rfl rfl rfl rfl rfl
set_option maxRecDepth 100000 in
theorem s44_78 {x : Int32} : rn sc d 44 78 [l0, l1, some (.int x), l3, l4] st M Q = rn sc d 44 79 [l0, l1, some (.int x), l3, l4] (.int x :: st) M Q := ru_1 rfl rfl rfl rfl rfl
set_option maxRecDepth 100000 in
theorem s44_79 {u v : Int32} : rn sc d 44 79 [l0, l1, l2, l3, l4] (.int v :: .int u :: st) M Q = rn sc d 44 80 [l0, l1, l2, l3, l4] (.int (u - v) :: st) M Q := ru_1 rfl rfl rfl rfl rfl
set_option maxRecDepth 100000 in
theorem s44_80 {u v : Int32} : rn sc d 44 80 [l0, l1, l2, l3, l4] (.int v :: .int u :: st) M Q = if ¬ u = v then rn sc d 44 87 [l0, l1, l2, l3, l4] st M Q else rn sc d 44 83 [l0, l1, l2, l3, l4] st M Q := ru_ic pc_ne rfl (by decide)
set_option maxRecDepth 100000 in
theorem s44_83 {x : Int32} : rn sc d 44 83 [l0, l1, l2, some (.int x), l4] st M Q = rn sc d 44 84 [l0, l1, l2, some (.int x), l4] (.int x :: st) M Q := ru_1 rfl rfl rfl rfl rfl
set_option maxRecDepth 100000 in
theorem s44_84 : rn sc d 44 84 [l0, l1, l2, l3, l4] st M Q = rn sc d 44 88 [l0, l1, l2, l3, l4] st M Q := ru_go rfl (by decide)
set_option maxRecDepth 100000 in
theorem s44_87 : rn sc d 44 87 [l0, l1, l2, l3, l4] st M Q = rn sc d 44 88 [l0, l1, l2, l3, l4] (.int (-1) :: st) M Q := ru_k rfl rfl rfl rfl rfl (by decide)
set_option maxRecDepth 100000 in
theorem s44_88 {v : Int32} : rn sc d 44 88 [l0, l1, l2, l3, l4] [.int v] M Q = Q (some (.int v)) M := ru_ri rfl rfl
set_option maxRecDepth 100000 in
theorem s44_89 {x : Int32} : rn sc d 44 89 [l0, l1, some (.int x), l3, l4] st M Q = rn sc d 44 90 [l0, l1, some (.int x), l3, l4] (.int x :: st) M Q := ru_1 rfl rfl rfl rfl rfl
set_option maxRecDepth 100000 in
theorem s44_90 {x : Int32} : rn sc d 44 90 [l0, l1, l2, some (.int x), l4] st M Q = rn sc d 44 91 [l0, l1, l2, some (.int x), l4] (.int x :: st) M Q := ru_1 rfl rfl rfl rfl rfl
set_option maxRecDepth 100000 in
theorem s44_91 {u v : Int32} : rn sc d 44 91 [l0, l1, l2, l3, l4] (.int v :: .int u :: st) M Q = if u < v then rn sc d 44 104 [l0, l1, l2, l3, l4] st M Q else rn sc d 44 94 [l0, l1, l2, l3, l4] st M Q := ru_ic pc_lt rfl (by decide)
set_option maxRecDepth 100000 in
theorem s44_94 {x : Int32} : rn sc d 44 94 [l0, l1, some (.int x), l3, l4] st M Q = rn sc d 44 95 [l0, l1, some (.int x), l3, l4] (.int x :: st) M Q := ru_1 rfl rfl rfl rfl rfl
set_option maxRecDepth 100000 in
theorem s44_95 {x : Int32} : rn sc d 44 95 [l0, l1, l2, l3, some (.int x)] st M Q = rn sc d 44 97 [l0, l1, l2, l3, some (.int x)] (.int x :: st) M Q := ru_1 rfl rfl rfl rfl rfl
set_option maxRecDepth 100000 in
theorem s44_97 {u v : Int32} : rn sc d 44 97 [l0, l1, l2, l3, l4] (.int v :: .int u :: st) M Q = if v < u then rn sc d 44 104 [l0, l1, l2, l3, l4] st M Q else rn sc d 44 100 [l0, l1, l2, l3, l4] st M Q := ru_ic pc_gt rfl (by decide)
set_option maxRecDepth 100000 in
theorem s44_100 {x : Int32} : rn sc d 44 100 [l0, l1, some (.int x), l3, l4] st M Q = rn sc d 44 101 [l0, l1, some (.int x), l3, l4] (.int x :: st) M Q := ru_1 rfl rfl rfl rfl rfl
set_option maxRecDepth 100000 in
theorem s44_101 : rn sc d 44 101 [l0, l1, l2, l3, l4] st M Q = rn sc d 44 105 [l0, l1, l2, l3, l4] st M Q := ru_go rfl (by decide)
set_option maxRecDepth 100000 in
theorem s44_104 : rn sc d 44 104 [l0, l1, l2, l3, l4] st M Q = rn sc d 44 105 [l0, l1, l2, l3, l4] (.int (-1) :: st) M Q := ru_k rfl rfl rfl rfl rfl (by decide)
set_option maxRecDepth 100000 in
theorem s44_105 {v : Int32} : rn sc d 44 105 [l0, l1, l2, l3, l4] [.int v] M Q = Q (some (.int v)) M := ru_ri rfl rfl
set_option maxRecDepth 100000 in
theorem s44_106 {x : Int32} : rn sc d 44 106 [l0, l1, l2, l3, some (.int x)] st M Q = rn sc d 44 108 [l0, l1, l2, l3, some (.int x)] (.int x :: st) M Q := ru_1 rfl rfl rfl rfl rfl
set_option maxRecDepth 100000 in
theorem s44_108 {x : Int32} : rn sc d 44 108 [l0, l1, some (.int x), l3, l4] st M Q = rn sc d 44 109 [l0, l1, some (.int x), l3, l4] (.int x :: st) M Q := ru_1 rfl rfl rfl rfl rfl
set_option maxRecDepth 100000 in
theorem s44_109 {u v : Int32} : rn sc d 44 109 [l0, l1, l2, l3, l4] (.int v :: .int u :: st) M Q = rn sc d 44 110 [l0, l1, l2, l3, l4] (.int (u - v) :: st) M Q := ru_1 rfl rfl rfl rfl rfl
set_option maxRecDepth 100000 in
theorem s44_110 {x : Int32} : rn sc d 44 110 [l0, l1, l2, some (.int x), l4] st M Q = rn sc d 44 111 [l0, l1, l2, some (.int x), l4] (.int x :: st) M Q := ru_1 rfl rfl rfl rfl rfl
set_option maxRecDepth 100000 in
theorem s44_111 {u v : Int32} : rn sc d 44 111 [l0, l1, l2, l3, l4] (.int v :: .int u :: st) M Q = if u < v then rn sc d 44 121 [l0, l1, l2, l3, l4] st M Q else rn sc d 44 114 [l0, l1, l2, l3, l4] st M Q := ru_ic pc_lt rfl (by decide)
set_option maxRecDepth 100000 in
theorem s44_114 {x : Int32} : rn sc d 44 114 [l0, l1, l2, l3, some (.int x)] st M Q = rn sc d 44 116 [l0, l1, l2, l3, some (.int x)] (.int x :: st) M Q := ru_1 rfl rfl rfl rfl rfl
set_option maxRecDepth 100000 in
theorem s44_116 {x : Int32} : rn sc d 44 116 [l0, l1, some (.int x), l3, l4] st M Q = rn sc d 44 117 [l0, l1, some (.int x), l3, l4] (.int x :: st) M Q := ru_1 rfl rfl rfl rfl rfl
set_option maxRecDepth 100000 in
theorem s44_117 {u v : Int32} : rn sc d 44 117 [l0, l1, l2, l3, l4] (.int v :: .int u :: st) M Q = rn sc d 44 118 [l0, l1, l2, l3, l4] (.int (u - v) :: st) M Q := ru_1 rfl rfl rfl rfl rfl
set_option maxRecDepth 100000 in
theorem s44_118 : rn sc d 44 118 [l0, l1, l2, l3, l4] st M Q = rn sc d 44 122 [l0, l1, l2, l3, l4] st M Q := ru_go rfl (by decide)
set_option maxRecDepth 100000 in
theorem s44_121 : rn sc d 44 121 [l0, l1, l2, l3, l4] st M Q = rn sc d 44 122 [l0, l1, l2, l3, l4] (.int (-1) :: st) M Q := ru_k rfl rfl rfl rfl rfl (by decide)
set_option maxRecDepth 100000 in
theorem s44_122 {v : Int32} : rn sc d 44 122 [l0, l1, l2, l3, l4] [.int v] M Q = Q (some (.int v)) M := ru_ri rfl rfl
set_option maxRecDepth 100000 in
theorem s44_123 {x : Int32} : rn sc d 44 123 [l0, l1, l2, l3, some (.int x)] st M Q = rn sc d 44 125 [l0, l1, l2, l3, some (.int x)] (.int x :: st) M Q := ru_1 rfl rfl rfl rfl rfl
set_option maxRecDepth 100000 in
theorem s44_125 {v : Int32} : rn sc d 44 125 [l0, l1, l2, l3, l4] [.int v] M Q = Q (some (.int v)) M := ru_ri rfl rfl
set_option maxRecDepth 100000 in
theorem s44_126 : rn sc d 44 126 [l0, l1, l2, l3, l4] st M Q = rn sc d 44 127 [l0, l1, l2, l3, l4] (.int (-1) :: st) M Q := ru_k rfl rfl rfl rfl rfl (by decide)
set_option maxRecDepth 100000 in
theorem s44_127 {v : Int32} : rn sc d 44 127 [l0, l1, l2, l3, l4] [.int v] M Q = Q (some (.int v)) M := ru_ri rfl rfl
set_option maxRecDepth 100000 in
theorem s45_0 {a : Nat} : rn sc d 45 0 [some (.ref a), l1, l2] st M Q = rn sc d 45 1 [some (.ref a), l1, l2] (.ref a :: st) M Q := ru_1 rfl rfl rfl rfl rfl
set_option maxRecDepth 100000 in
theorem s45_1 {a : Nat} : rn sc d 45 1 [l0, l1, l2] (.ref a :: st) M Q = rn_o (hp_f M a 2 10) (fun v => rn sc d 45 4 [l0, l1, l2] (v :: st) M Q) := ru_get rfl rfl
set_option maxRecDepth 100000 in
theorem s45_4 {x : Int32} : rn sc d 45 4 [l0, l1, l2] (.int x :: st) M Q = rn sc d 45 5 [l0, some (.int x), l2] st M Q := ru_1 rfl rfl rfl rfl rfl
set_option maxRecDepth 100000 in
theorem s45_5 : rn sc d 45 5 [l0, l1, l2] st M Q = rn sc d 45 8 [l0, l1, l2] (.int 3000 :: st) M Q := ru_k rfl rfl rfl rfl rfl (by decide)
set_option maxRecDepth 100000 in
theorem s45_8 {x : Int32} : rn sc d 45 8 [l0, l1, l2] (.int x :: st) M Q = rn sc d 45 9 [l0, l1, some (.int x)] st M Q := ru_1 rfl rfl rfl rfl rfl
set_option maxRecDepth 100000 in
theorem s45_9 {x : Int32} : rn sc d 45 9 [l0, l1, some (.int x)] st M Q = rn sc d 45 10 [l0, l1, some (.int x)] (.int x :: st) M Q := ru_1 rfl rfl rfl rfl rfl
set_option maxRecDepth 100000 in
theorem s45_10 {x : Int32} : rn sc d 45 10 [l0, l1, l2] (.int x :: st) M Q = if x ≤ 0 then rn sc d 45 46 [l0, l1, l2] st M Q else rn sc d 45 13 [l0, l1, l2] st M Q := ru_if pc_le rfl (by decide)
set_option maxRecDepth 100000 in
theorem s45_13 {x : Int32} : rn sc d 45 13 [l0, some (.int x), l2] st M Q = rn sc d 45 14 [l0, some (.int x), l2] (.int x :: st) M Q := ru_1 rfl rfl rfl rfl rfl
set_option maxRecDepth 100000 in
theorem s45_14 {x : Int32} : rn sc d 45 14 [l0, l1, l2] (.int x :: st) M Q = if x = 0 then rn sc d 45 46 [l0, l1, l2] st M Q else rn sc d 45 17 [l0, l1, l2] st M Q := ru_if pc_eq rfl (by decide)
set_option maxRecDepth 100000 in
theorem s45_17 {a : Nat} : rn sc d 45 17 [some (.ref a), l1, l2] st M Q = rn sc d 45 18 [some (.ref a), l1, l2] (.ref a :: st) M Q := ru_1 rfl rfl rfl rfl rfl
set_option maxRecDepth 100000 in
theorem s45_18 {x : Int32} : rn sc d 45 18 [l0, some (.int x), l2] st M Q = rn sc d 45 19 [l0, some (.int x), l2] (.int x :: st) M Q := ru_1 rfl rfl rfl rfl rfl
set_option maxRecDepth 100000 in
theorem s45_19 {a : Nat} {x0 : Int32} (hw : xm_wt st ≤ 8) (hq : hp_is M a 2) : rn sc (d + 1) 45 19 [l0, l1, l2] (.int x0 :: .ref a :: st) M Q = rn sc d 46 0 [some (.ref a), some (.int x0), none] [] M (fun r M' => rn sc (d + 1) 45 22 [l0, l1, l2] (r.toList ++ st) M' Q) := ru_d (ru_iv (as := [.int x0]) rfl rfl rfl (Nat.le_of_ble_eq_true rfl) hw rfl hq)
set_option maxRecDepth 100000 in
theorem s45_22 {x : Int32} : rn sc d 45 22 [l0, l1, l2] (.int x :: st) M Q = if ¬ x = 0 then rn sc d 45 46 [l0, l1, l2] st M Q else rn sc d 45 25 [l0, l1, l2] st M Q := ru_if pc_ne rfl (by decide)
set_option maxRecDepth 100000 in
theorem s45_25 {a : Nat} : rn sc d 45 25 [some (.ref a), l1, l2] st M Q = rn sc d 45 26 [some (.ref a), l1, l2] (.ref a :: st) M Q := ru_1 rfl rfl rfl rfl rfl
set_option maxRecDepth 100000 in
theorem s45_26 {x : Int32} : rn sc d 45 26 [l0, some (.int x), l2] st M Q = rn sc d 45 27 [l0, some (.int x), l2] (.int x :: st) M Q := ru_1 rfl rfl rfl rfl rfl
set_option maxRecDepth 100000 in
theorem s45_27 {a : Nat} {x0 : Int32} (hw : xm_wt st ≤ 8) (hq : hp_is M a 2) : rn sc (d + 1) 45 27 [l0, l1, l2] (.int x0 :: .ref a :: st) M Q = rn sc d 47 0 [some (.ref a), some (.int x0)] [] M (fun r M' => rn sc (d + 1) 45 30 [l0, l1, l2] (r.toList ++ st) M' Q) := ru_d (ru_iv (as := [.int x0]) rfl rfl rfl (Nat.le_of_ble_eq_true rfl) hw rfl hq)
set_option maxRecDepth 100000 in
theorem s45_30 {a : Nat} : rn sc d 45 30 [some (.ref a), l1, l2] st M Q = rn sc d 45 31 [some (.ref a), l1, l2] (.ref a :: st) M Q := ru_1 rfl rfl rfl rfl rfl
set_option maxRecDepth 100000 in
theorem s45_31 {a : Nat} : rn sc d 45 31 [l0, l1, l2] (.ref a :: st) M Q = rn_o (hp_f M a 2 2) (fun v => rn sc d 45 34 [l0, l1, l2] (v :: st) M Q) := ru_get rfl rfl
set_option maxRecDepth 100000 in
theorem s45_34 {a : Nat} : rn sc d 45 34 [l0, l1, l2] (.ref a :: st) M Q = rn_o (hp_f M a 3 3) (fun v => rn sc d 45 37 [l0, l1, l2] (v :: st) M Q) := ru_get rfl rfl
set_option maxRecDepth 100000 in
theorem s45_37 {x : Int32} : rn sc d 45 37 [l0, some (.int x), l2] st M Q = rn sc d 45 38 [l0, some (.int x), l2] (.int x :: st) M Q := ru_1 rfl rfl rfl rfl rfl
set_option maxRecDepth 100000 in
theorem s45_38 {a : Nat} {j : Int32} : rn sc d 45 38 [l0, l1, l2] (.int j :: .ref a :: st) M Q = rn_o (hp_i sc M a j) (fun v => rn sc d 45 39 [l0, l1, l2] (.int v :: st) M Q) := ru_iald rfl
set_option maxRecDepth 100000 in
theorem s45_39 {x : Int32} : rn sc d 45 39 [l0, l1, l2] (.int x :: st) M Q = rn sc d 45 40 [l0, some (.int x), l2] st M Q := ru_1 rfl rfl rfl rfl rfl
set_option maxRecDepth 100000 in
theorem s45_40 {x : Int32} : rn sc d 45 40 [l0, l1, some (.int x)] st M Q = rn sc d 45 43 [l0, l1, some (.int (x + (-1)))] st M Q := ru_1 rfl rfl rfl rfl rfl
set_option maxRecDepth 100000 in
theorem s45_43 : rn sc d 45 43 [l0, l1, l2] st M Q = rn sc d 45 9 [l0, l1, l2] st M Q := ru_go rfl (by decide)
set_option maxRecDepth 100000 in
theorem s45_46 {x : Int32} : rn sc d 45 46 [l0, some (.int x), l2] st M Q = rn sc d 45 47 [l0, some (.int x), l2] (.int x :: st) M Q := ru_1 rfl rfl rfl rfl rfl
set_option maxRecDepth 100000 in
theorem s45_47 {x : Int32} : rn sc d 45 47 [l0, l1, l2] (.int x :: st) M Q = if ¬ x = 0 then rn sc d 45 56 [l0, l1, l2] st M Q else rn sc d 45 50 [l0, l1, l2] st M Q := ru_if pc_ne rfl (by decide)
set_option maxRecDepth 100000 in
theorem s45_50 {a : Nat} : rn sc d 45 50 [some (.ref a), l1, l2] st M Q = rn sc d 45 51 [some (.ref a), l1, l2] (.ref a :: st) M Q := ru_1 rfl rfl rfl rfl rfl
set_option maxRecDepth 100000 in
theorem s45_51 : rn sc d 45 51 [l0, l1, l2] st M Q = rn sc d 45 52 [l0, l1, l2] (.int 1 :: st) M Q := ru_k rfl rfl rfl rfl rfl (by decide)
set_option maxRecDepth 100000 in
theorem s45_52 {a : Nat} {v : Value} : rn sc d 45 52 [l0, l1, l2] (v :: .ref a :: st) M Q = rn_o (hp_pf M a 2 7 v) (fun M' => rn sc d 45 55 [l0, l1, l2] st M' Q) := ru_put rfl rfl rfl
set_option maxRecDepth 100000 in
theorem s45_55 : rn sc d 45 55 [l0, l1, l2] [] M Q = Q none M := rn_ret rfl rfl rfl
set_option maxRecDepth 100000 in
theorem s45_56 {a : Nat} : rn sc d 45 56 [some (.ref a), l1, l2] st M Q = rn sc d 45 57 [some (.ref a), l1, l2] (.ref a :: st) M Q := ru_1 rfl rfl rfl rfl rfl
set_option maxRecDepth 100000 in
theorem s45_57 {a : Nat} : rn sc d 45 57 [l0, l1, l2] (.ref a :: st) M Q = rn_o (hp_f M a 2 2) (fun v => rn sc d 45 60 [l0, l1, l2] (v :: st) M Q) := ru_get rfl rfl
set_option maxRecDepth 100000 in
theorem s45_60 {a : Nat} : rn sc d 45 60 [l0, l1, l2] (.ref a :: st) M Q = rn_o (hp_f M a 3 0) (fun v => rn sc d 45 63 [l0, l1, l2] (v :: st) M Q) := ru_get rfl rfl
set_option maxRecDepth 100000 in
theorem s45_63 {x : Int32} : rn sc d 45 63 [l0, some (.int x), l2] st M Q = rn sc d 45 64 [l0, some (.int x), l2] (.int x :: st) M Q := ru_1 rfl rfl rfl rfl rfl
set_option maxRecDepth 100000 in
theorem s45_64 {a : Nat} {j : Int32} : rn sc d 45 64 [l0, l1, l2] (.int j :: .ref a :: st) M Q = rn_o (hp_q M a j) (fun v => rn sc d 45 65 [l0, l1, l2] (v :: st) M Q) := ru_aald rfl
set_option maxRecDepth 100000 in
theorem s45_65 {a : Nat} : rn sc d 45 65 [l0, l1, l2] (.ref a :: st) M Q = rn sc d 45 66 [l0, l1, some (.ref a)] st M Q := ru_1 rfl rfl rfl rfl rfl
set_option maxRecDepth 100000 in
theorem s45_65N : rn sc d 45 65 [l0, l1, l2] (.null :: st) M Q = rn sc d 45 66 [l0, l1, some .null] st M Q := ru_1 rfl rfl rfl rfl rfl
set_option maxRecDepth 100000 in
theorem s45_66 {a : Nat} : rn sc d 45 66 [some (.ref a), l1, l2] st M Q = rn sc d 45 67 [some (.ref a), l1, l2] (.ref a :: st) M Q := ru_1 rfl rfl rfl rfl rfl
set_option maxRecDepth 100000 in
theorem s45_67 {a : Nat} : rn sc d 45 67 [l0, l1, some (.ref a)] st M Q = rn sc d 45 68 [l0, l1, some (.ref a)] (.ref a :: st) M Q := ru_1 rfl rfl rfl rfl rfl
set_option maxRecDepth 100000 in
theorem s45_67N : rn sc d 45 67 [l0, l1, some .null] st M Q = rn sc d 45 68 [l0, l1, some .null] (.null :: st) M Q := ru_1 rfl rfl rfl rfl rfl
set_option maxRecDepth 100000 in
theorem s45_68 {a : Nat} : rn sc d 45 68 [l0, l1, l2] (.ref a :: st) M Q = rn_o (hp_f M a 0 1) (fun v => rn sc d 45 71 [l0, l1, l2] (v :: st) M Q) := ru_get rfl rfl
set_option maxRecDepth 100000 in
theorem s45_71 : rn sc d 45 71 [l0, l1, l2] st M Q = rn sc d 45 73 [l0, l1, l2] (.int 17 :: st) M Q := ru_k rfl rfl rfl rfl rfl (by decide)
set_option maxRecDepth 100000 in
theorem s45_73 {u v : Int32} : rn sc d 45 73 [l0, l1, l2] (.int v :: .int u :: st) M Q = if ¬ u = v then rn sc d 45 90 [l0, l1, l2] st M Q else rn sc d 45 76 [l0, l1, l2] st M Q := ru_ic pc_ne rfl (by decide)
set_option maxRecDepth 100000 in
theorem s45_76 {a : Nat} : rn sc d 45 76 [some (.ref a), l1, l2] st M Q = rn sc d 45 77 [some (.ref a), l1, l2] (.ref a :: st) M Q := ru_1 rfl rfl rfl rfl rfl
set_option maxRecDepth 100000 in
theorem s45_77 {a : Nat} : rn sc d 45 77 [l0, l1, l2] (.ref a :: st) M Q = rn_o (hp_f M a 2 0) (fun v => rn sc d 45 80 [l0, l1, l2] (v :: st) M Q) := ru_get rfl rfl
set_option maxRecDepth 100000 in
theorem s45_80 {a : Nat} : rn sc d 45 80 [l0, l1, some (.ref a)] st M Q = rn sc d 45 81 [l0, l1, some (.ref a)] (.ref a :: st) M Q := ru_1 rfl rfl rfl rfl rfl
set_option maxRecDepth 100000 in
theorem s45_80N : rn sc d 45 80 [l0, l1, some .null] st M Q = rn sc d 45 81 [l0, l1, some .null] (.null :: st) M Q := ru_1 rfl rfl rfl rfl rfl
set_option maxRecDepth 100000 in
theorem s45_81 {a : Nat} : rn sc d 45 81 [l0, l1, l2] (.ref a :: st) M Q = rn_o (hp_f M a 0 3) (fun v => rn sc d 45 84 [l0, l1, l2] (v :: st) M Q) := ru_get rfl rfl
set_option maxRecDepth 100000 in
theorem s45_84 {a : Nat} {x0 : Int32} (hw : xm_wt st ≤ 8) (hq : hp_is M a 4) : rn sc (d + 1) 45 84 [l0, l1, l2] (.int x0 :: .ref a :: st) M Q = rn sc d 20 0 [some (.ref a), some (.int x0)] [] M (fun r M' => rn sc (d + 1) 45 87 [l0, l1, l2] (r.toList ++ st) M' Q) := ru_d (ru_iv (as := [.int x0]) rfl rfl rfl (Nat.le_of_ble_eq_true rfl) hw rfl hq)
set_option maxRecDepth 100000 in
theorem s45_87 : rn sc d 45 87 [l0, l1, l2] st M Q = rn sc d 45 91 [l0, l1, l2] st M Q := ru_go rfl (by decide)
set_option maxRecDepth 100000 in
theorem s45_90 {a : Nat} : rn sc d 45 90 [l0, l1, some (.ref a)] st M Q = rn sc d 45 91 [l0, l1, some (.ref a)] (.ref a :: st) M Q := ru_1 rfl rfl rfl rfl rfl
set_option maxRecDepth 100000 in
theorem s45_90N : rn sc d 45 90 [l0, l1, some .null] st M Q = rn sc d 45 91 [l0, l1, some .null] (.null :: st) M Q := ru_1 rfl rfl rfl rfl rfl
set_option maxRecDepth 100000 in
theorem s45_91 {a : Nat} : rn sc d 45 91 [some (.ref a), l1, l2] st M Q = rn sc d 45 92 [some (.ref a), l1, l2] (.ref a :: st) M Q := ru_1 rfl rfl rfl rfl rfl
set_option maxRecDepth 100000 in
theorem s45_92 {a : Nat} : rn sc d 45 92 [l0, l1, l2] (.ref a :: st) M Q = rn_o (hp_f M a 2 6) (fun v => rn sc d 45 95 [l0, l1, l2] (v :: st) M Q) := ru_get rfl rfl
set_option maxRecDepth 100000 in
theorem s45_95 {a : Nat} : rn sc d 45 95 [some (.ref a), l1, l2] st M Q = rn sc d 45 96 [some (.ref a), l1, l2] (.ref a :: st) M Q := ru_1 rfl rfl rfl rfl rfl
set_option maxRecDepth 100000 in
theorem s45_96 {a : Nat} : rn sc d 45 96 [l0, l1, l2] (.ref a :: st) M Q = rn_o (hp_f M a 2 2) (fun v => rn sc d 45 99 [l0, l1, l2] (v :: st) M Q) := ru_get rfl rfl
set_option maxRecDepth 100000 in
theorem s45_99 {a : Nat} : rn sc d 45 99 [l0, l1, l2] (.ref a :: st) M Q = rn_o (hp_f M a 3 3) (fun v => rn sc d 45 102 [l0, l1, l2] (v :: st) M Q) := ru_get rfl rfl
set_option maxRecDepth 100000 in
theorem s45_102 {x : Int32} : rn sc d 45 102 [l0, some (.int x), l2] st M Q = rn sc d 45 103 [l0, some (.int x), l2] (.int x :: st) M Q := ru_1 rfl rfl rfl rfl rfl
set_option maxRecDepth 100000 in
theorem s45_103 {a : Nat} {j : Int32} : rn sc d 45 103 [l0, l1, l2] (.int j :: .ref a :: st) M Q = rn_o (hp_i sc M a j) (fun v => rn sc d 45 104 [l0, l1, l2] (.int v :: st) M Q) := ru_iald rfl
set_option maxRecDepth 100000 in
theorem s45_104 {a : Nat} {b0 : Nat} {x1 : Int32} {x2 : Int32} (hw : xm_wt st ≤ 8) (hq : hp_is M a 2) : rn sc (d + 1) 45 104 [l0, l1, l2] (.int x2 :: .int x1 :: .ref b0 :: .ref a :: st) M Q = rn sc d 28 0 [some (.ref a), some (.ref b0), some (.int x1), some (.int x2)] [] M (fun r M' => rn sc (d + 1) 45 107 [l0, l1, l2] (r.toList ++ st) M' Q) := ru_d (ru_iv (as := [.int x2, .int x1, .ref b0]) rfl rfl rfl (Nat.le_of_ble_eq_true rfl) hw rfl hq)
set_option maxRecDepth 100000 in
theorem s45_104N {a : Nat} {x1 : Int32} {x2 : Int32} (hw : xm_wt st ≤ 8) (hq : hp_is M a 2) : rn sc (d + 1) 45 104 [l0, l1, l2] (.int x2 :: .int x1 :: .null :: .ref a :: st) M Q = rn sc d 28 0 [some (.ref a), some (.null), some (.int x1), some (.int x2)] [] M (fun r M' => rn sc (d + 1) 45 107 [l0, l1, l2] (r.toList ++ st) M' Q) := ru_d (ru_iv (as := [.int x2, .int x1, .null]) rfl rfl rfl (Nat.le_of_ble_eq_true rfl) hw rfl hq)
set_option maxRecDepth 100000 in
theorem s45_107 : rn sc d 45 107 [l0, l1, l2] [] M Q = Q none M := rn_ret rfl rfl rfl
set_option maxRecDepth 100000 in
theorem s46_0 {a : Nat} : rn sc d 46 0 [some (.ref a), l1, l2] st M Q = rn sc d 46 1 [some (.ref a), l1, l2] (.ref a :: st) M Q := ru_1 rfl rfl rfl rfl rfl
set_option maxRecDepth 100000 in
theorem s46_1 {a : Nat} : rn sc d 46 1 [l0, l1, l2] (.ref a :: st) M Q = rn_o (hp_f M a 2 2) (fun v => rn sc d 46 4 [l0, l1, l2] (v :: st) M Q) := ru_get rfl rfl
set_option maxRecDepth 100000 in
theorem s46_4 {a : Nat} : rn sc d 46 4 [l0, l1, l2] (.ref a :: st) M Q = rn_o (hp_f M a 3 0) (fun v => rn sc d 46 7 [l0, l1, l2] (v :: st) M Q) := ru_get rfl rfl
set_option maxRecDepth 100000 in
theorem s46_7 {x : Int32} : rn sc d 46 7 [l0, some (.int x), l2] st M Q = rn sc d 46 8 [l0, some (.int x), l2] (.int x :: st) M Q := ru_1 rfl rfl rfl rfl rfl
set_option maxRecDepth 100000 in
theorem s46_8 {a : Nat} {j : Int32} : rn sc d 46 8 [l0, l1, l2] (.int j :: .ref a :: st) M Q = rn_o (hp_q M a j) (fun v => rn sc d 46 9 [l0, l1, l2] (v :: st) M Q) := ru_aald rfl
set_option maxRecDepth 100000 in
theorem s46_9 {a : Nat} : rn sc d 46 9 [l0, l1, l2] (.ref a :: st) M Q = rn_o (hp_f M a 0 1) (fun v => rn sc d 46 12 [l0, l1, l2] (v :: st) M Q) := ru_get rfl rfl
set_option maxRecDepth 100000 in
theorem s46_12 {x : Int32} : rn sc d 46 12 [l0, l1, l2] (.int x :: st) M Q = rn sc d 46 13 [l0, l1, some (.int x)] st M Q := ru_1 rfl rfl rfl rfl rfl
set_option maxRecDepth 100000 in
theorem s46_13 {x : Int32} : rn sc d 46 13 [l0, l1, some (.int x)] st M Q = rn sc d 46 14 [l0, l1, some (.int x)] (.int x :: st) M Q := ru_1 rfl rfl rfl rfl rfl
set_option maxRecDepth 100000 in
theorem s46_14 : rn sc d 46 14 [l0, l1, l2] st M Q = rn sc d 46 16 [l0, l1, l2] (.int 17 :: st) M Q := ru_k rfl rfl rfl rfl rfl (by decide)
set_option maxRecDepth 100000 in
theorem s46_16 {u v : Int32} : rn sc d 46 16 [l0, l1, l2] (.int v :: .int u :: st) M Q = if u = v then rn sc d 46 25 [l0, l1, l2] st M Q else rn sc d 46 19 [l0, l1, l2] st M Q := ru_ic pc_eq rfl (by decide)
set_option maxRecDepth 100000 in
theorem s46_19 {x : Int32} : rn sc d 46 19 [l0, l1, some (.int x)] st M Q = rn sc d 46 20 [l0, l1, some (.int x)] (.int x :: st) M Q := ru_1 rfl rfl rfl rfl rfl
set_option maxRecDepth 100000 in
theorem s46_20 : rn sc d 46 20 [l0, l1, l2] st M Q = rn sc d 46 22 [l0, l1, l2] (.int 16 :: st) M Q := ru_k rfl rfl rfl rfl rfl (by decide)
set_option maxRecDepth 100000 in
theorem s46_22 {u v : Int32} : rn sc d 46 22 [l0, l1, l2] (.int v :: .int u :: st) M Q = if ¬ u = v then rn sc d 46 29 [l0, l1, l2] st M Q else rn sc d 46 25 [l0, l1, l2] st M Q := ru_ic pc_ne rfl (by decide)
set_option maxRecDepth 100000 in
theorem s46_25 : rn sc d 46 25 [l0, l1, l2] st M Q = rn sc d 46 26 [l0, l1, l2] (.int 1 :: st) M Q := ru_k rfl rfl rfl rfl rfl (by decide)
set_option maxRecDepth 100000 in
theorem s46_26 : rn sc d 46 26 [l0, l1, l2] st M Q = rn sc d 46 30 [l0, l1, l2] st M Q := ru_go rfl (by decide)
set_option maxRecDepth 100000 in
theorem s46_29 : rn sc d 46 29 [l0, l1, l2] st M Q = rn sc d 46 30 [l0, l1, l2] (.int 0 :: st) M Q := ru_k rfl rfl rfl rfl rfl (by decide)
set_option maxRecDepth 100000 in
theorem s46_30 {v : Int32} (h : narrow .boolean (.int v) = .int v) : rn sc d 46 30 [l0, l1, l2] [.int v] M Q = Q (some (.int v)) M := ru_rz rfl rfl h
set_option maxRecDepth 100000 in
theorem s47_0 {a : Nat} : rn sc d 47 0 [some (.ref a), l1] st M Q = rn sc d 47 1 [some (.ref a), l1] (.ref a :: st) M Q := ru_1 rfl rfl rfl rfl rfl
set_option maxRecDepth 100000 in
theorem s47_1 {a : Nat} : rn sc d 47 1 [l0, l1] (.ref a :: st) M Q = rn_o (hp_f M a 2 2) (fun v => rn sc d 47 4 [l0, l1] (v :: st) M Q) := ru_get rfl rfl
set_option maxRecDepth 100000 in
theorem s47_4 {a : Nat} : rn sc d 47 4 [l0, l1] (.ref a :: st) M Q = rn_o (hp_f M a 3 0) (fun v => rn sc d 47 7 [l0, l1] (v :: st) M Q) := ru_get rfl rfl
set_option maxRecDepth 100000 in
theorem s47_7 {x : Int32} : rn sc d 47 7 [l0, some (.int x)] st M Q = rn sc d 47 8 [l0, some (.int x)] (.int x :: st) M Q := ru_1 rfl rfl rfl rfl rfl
set_option maxRecDepth 100000 in
theorem s47_8 {a : Nat} {j : Int32} : rn sc d 47 8 [l0, l1] (.int j :: .ref a :: st) M Q = rn_o (hp_q M a j) (fun v => rn sc d 47 9 [l0, l1] (v :: st) M Q) := ru_aald rfl
set_option maxRecDepth 100000 in
theorem s47_9 {a : Nat} : rn sc d 47 9 [l0, l1] (.ref a :: st) M Q = rn_o (hp_f M a 0 1) (fun v => rn sc d 47 12 [l0, l1] (v :: st) M Q) := ru_get rfl rfl
set_option maxRecDepth 100000 in
theorem s47_12 : rn sc d 47 12 [l0, l1] st M Q = rn sc d 47 14 [l0, l1] (.int 20 :: st) M Q := ru_k rfl rfl rfl rfl rfl (by decide)
set_option maxRecDepth 100000 in
theorem s47_14 {u v : Int32} : rn sc d 47 14 [l0, l1] (.int v :: .int u :: st) M Q = if ¬ u = v then rn sc d 47 29 [l0, l1] st M Q else rn sc d 47 17 [l0, l1] st M Q := ru_ic pc_ne rfl (by decide)
set_option maxRecDepth 100000 in
theorem s47_17 {a : Nat} : rn sc d 47 17 [some (.ref a), l1] st M Q = rn sc d 47 18 [some (.ref a), l1] (.ref a :: st) M Q := ru_1 rfl rfl rfl rfl rfl
set_option maxRecDepth 100000 in
theorem s47_18 {x : Int32} : rn sc d 47 18 [l0, some (.int x)] st M Q = rn sc d 47 19 [l0, some (.int x)] (.int x :: st) M Q := ru_1 rfl rfl rfl rfl rfl
set_option maxRecDepth 100000 in
theorem s47_19 {a : Nat} : rn sc d 47 19 [some (.ref a), l1] st M Q = rn sc d 47 20 [some (.ref a), l1] (.ref a :: st) M Q := ru_1 rfl rfl rfl rfl rfl
set_option maxRecDepth 100000 in
theorem s47_20 {a : Nat} : rn sc d 47 20 [l0, l1] (.ref a :: st) M Q = rn_o (hp_f M a 2 6) (fun v => rn sc d 47 23 [l0, l1] (v :: st) M Q) := ru_get rfl rfl
set_option maxRecDepth 100000 in
theorem s47_23 {a : Nat} {x0 : Int32} {x1 : Int32} (hw : xm_wt st ≤ 8) (hq : hp_is M a 2) : rn sc (d + 1) 47 23 [l0, l1] (.int x1 :: .int x0 :: .ref a :: st) M Q = rn sc d 48 0 [some (.ref a), some (.int x0), some (.int x1), none] [] M (fun r M' => rn sc (d + 1) 47 26 [l0, l1] (r.toList ++ st) M' Q) := ru_d (ru_iv (as := [.int x1, .int x0]) rfl rfl rfl (Nat.le_of_ble_eq_true rfl) hw rfl hq)
set_option maxRecDepth 100000 in
theorem s47_26 : rn sc d 47 26 [l0, l1] st M Q = rn sc d 47 50 [l0, l1] st M Q := ru_go rfl (by decide)
set_option maxRecDepth 100000 in
theorem s47_29 {a : Nat} : rn sc d 47 29 [some (.ref a), l1] st M Q = rn sc d 47 30 [some (.ref a), l1] (.ref a :: st) M Q := ru_1 rfl rfl rfl rfl rfl
set_option maxRecDepth 100000 in
theorem s47_30 {a : Nat} : rn sc d 47 30 [l0, l1] (.ref a :: st) M Q = rn_o (hp_f M a 2 2) (fun v => rn sc d 47 33 [l0, l1] (v :: st) M Q) := ru_get rfl rfl
set_option maxRecDepth 100000 in
theorem s47_33 {a : Nat} : rn sc d 47 33 [l0, l1] (.ref a :: st) M Q = rn_o (hp_f M a 3 2) (fun v => rn sc d 47 36 [l0, l1] (v :: st) M Q) := ru_get rfl rfl
set_option maxRecDepth 100000 in
theorem s47_36 {x : Int32} : rn sc d 47 36 [l0, some (.int x)] st M Q = rn sc d 47 37 [l0, some (.int x)] (.int x :: st) M Q := ru_1 rfl rfl rfl rfl rfl
set_option maxRecDepth 100000 in
theorem s47_37 {a : Nat} : rn sc d 47 37 [some (.ref a), l1] st M Q = rn sc d 47 38 [some (.ref a), l1] (.ref a :: st) M Q := ru_1 rfl rfl rfl rfl rfl
set_option maxRecDepth 100000 in
theorem s47_38 {a : Nat} : rn sc d 47 38 [l0, l1] (.ref a :: st) M Q = rn_o (hp_f M a 2 6) (fun v => rn sc d 47 41 [l0, l1] (v :: st) M Q) := ru_get rfl rfl
set_option maxRecDepth 100000 in
theorem s47_41 {a : Nat} {j x : Int32} : rn sc d 47 41 [l0, l1] (.int x :: .int j :: .ref a :: st) M Q = rn_o (hp_pi M a j x) (fun M' => rn sc d 47 42 [l0, l1] st M' Q) := ru_iast rfl
set_option maxRecDepth 100000 in
theorem s47_42 {a : Nat} : rn sc d 47 42 [some (.ref a), l1] st M Q = rn sc d 47 43 [some (.ref a), l1] (.ref a :: st) M Q := ru_1 rfl rfl rfl rfl rfl
set_option maxRecDepth 100000 in
theorem s47_43 {a : Nat} : rn sc d 47 43 [l0, l1] (.ref a :: st) M Q = rn_o (hp_f M a 2 4) (fun v => rn sc d 47 46 [l0, l1] (v :: st) M Q) := ru_get rfl rfl
set_option maxRecDepth 100000 in
theorem s47_46 {x : Int32} : rn sc d 47 46 [l0, some (.int x)] st M Q = rn sc d 47 47 [l0, some (.int x)] (.int x :: st) M Q := ru_1 rfl rfl rfl rfl rfl
set_option maxRecDepth 100000 in
theorem s47_47 {a : Nat} {x0 : Int32} (hw : xm_wt st ≤ 8) (hq : hp_is M a 1) : rn sc (d + 1) 47 47 [l0, l1] (.int x0 :: .ref a :: st) M Q = rn sc d 32 0 [some (.ref a), some (.int x0)] [] M (fun r M' => rn sc (d + 1) 47 50 [l0, l1] (r.toList ++ st) M' Q) := ru_d (ru_iv (as := [.int x0]) rfl rfl rfl (Nat.le_of_ble_eq_true rfl) hw rfl hq)
set_option maxRecDepth 100000 in
theorem s47_50 : rn sc d 47 50 [l0, l1] [] M Q = Q none M := rn_ret rfl rfl rfl
set_option maxRecDepth 100000 in
theorem s48_0 {a : Nat} : rn sc d 48 0 [some (.ref a), l1, l2, l3] st M Q = rn sc d 48 1 [some (.ref a), l1, l2, l3] (.ref a :: st) M Q := ru_1 rfl rfl rfl rfl rfl
set_option maxRecDepth 100000 in
theorem s48_1 {a : Nat} : rn sc d 48 1 [l0, l1, l2, l3] (.ref a :: st) M Q = rn_o (hp_f M a 2 0) (fun v => rn sc d 48 4 [l0, l1, l2, l3] (v :: st) M Q) := ru_get rfl rfl
set_option maxRecDepth 100000 in
theorem s48_4 {a : Nat} : rn sc d 48 4 [some (.ref a), l1, l2, l3] st M Q = rn sc d 48 5 [some (.ref a), l1, l2, l3] (.ref a :: st) M Q := ru_1 rfl rfl rfl rfl rfl
set_option maxRecDepth 100000 in
theorem s48_5 {a : Nat} : rn sc d 48 5 [l0, l1, l2, l3] (.ref a :: st) M Q = rn_o (hp_f M a 2 2) (fun v => rn sc d 48 8 [l0, l1, l2, l3] (v :: st) M Q) := ru_get rfl rfl
set_option maxRecDepth 100000 in
theorem s48_8 {a : Nat} : rn sc d 48 8 [l0, l1, l2, l3] (.ref a :: st) M Q = rn_o (hp_f M a 3 0) (fun v => rn sc d 48 11 [l0, l1, l2, l3] (v :: st) M Q) := ru_get rfl rfl
set_option maxRecDepth 100000 in
theorem s48_11 {x : Int32} : rn sc d 48 11 [l0, some (.int x), l2, l3] st M Q = rn sc d 48 12 [l0, some (.int x), l2, l3] (.int x :: st) M Q := ru_1 rfl rfl rfl rfl rfl
set_option maxRecDepth 100000 in
theorem s48_12 {a : Nat} {j : Int32} : rn sc d 48 12 [l0, l1, l2, l3] (.int j :: .ref a :: st) M Q = rn_o (hp_q M a j) (fun v => rn sc d 48 13 [l0, l1, l2, l3] (v :: st) M Q) := ru_aald rfl
set_option maxRecDepth 100000 in
theorem s48_13 {a : Nat} : rn sc d 48 13 [l0, l1, l2, l3] (.ref a :: st) M Q = rn_o (hp_f M a 0 3) (fun v => rn sc d 48 16 [l0, l1, l2, l3] (v :: st) M Q) := ru_get rfl rfl
set_option maxRecDepth 100000 in
theorem s48_16 {a : Nat} {x0 : Int32} (hw : xm_wt st ≤ 8) (hq : hp_is M a 4) : rn sc (d + 1) 48 16 [l0, l1, l2, l3] (.int x0 :: .ref a :: st) M Q = rn sc d 11 0 [some (.ref a), some (.int x0)] [] M (fun r M' => rn sc (d + 1) 48 19 [l0, l1, l2, l3] (r.toList ++ st) M' Q) := ru_d (ru_iv (as := [.int x0]) rfl rfl rfl (Nat.le_of_ble_eq_true rfl) hw rfl hq)
set_option maxRecDepth 100000 in
theorem s48_19 {a : Nat} : rn sc d 48 19 [l0, l1, l2, l3] (.ref a :: st) M Q = rn sc d 48 20 [l0, l1, l2, some (.ref a)] st M Q := ru_1 rfl rfl rfl rfl rfl
set_option maxRecDepth 100000 in
theorem s48_19N : rn sc d 48 19 [l0, l1, l2, l3] (.null :: st) M Q = rn sc d 48 20 [l0, l1, l2, some .null] st M Q := ru_1 rfl rfl rfl rfl rfl
set_option maxRecDepth 100000 in
theorem s48_20 {a : Nat} : rn sc d 48 20 [l0, l1, l2, some (.ref a)] st M Q = rn sc d 48 21 [l0, l1, l2, some (.ref a)] (.ref a :: st) M Q := ru_1 rfl rfl rfl rfl rfl
set_option maxRecDepth 100000 in
theorem s48_20N : rn sc d 48 20 [l0, l1, l2, some .null] st M Q = rn sc d 48 21 [l0, l1, l2, some .null] (.null :: st) M Q := ru_1 rfl rfl rfl rfl rfl
set_option maxRecDepth 100000 in
theorem s48_21 {a : Nat} : rn sc d 48 21 [l0, l1, l2, l3] (.ref a :: st) M Q = rn sc d 48 24 [l0, l1, l2, l3] st M Q := ru_nu rfl
set_option maxRecDepth 100000 in
theorem s48_21N : rn sc d 48 21 [l0, l1, l2, l3] (.null :: st) M Q = rn sc d 48 42 [l0, l1, l2, l3] st M Q := ru_nuN rfl (by decide)
set_option maxRecDepth 100000 in
theorem s48_24 {a : Nat} : rn sc d 48 24 [l0, l1, l2, some (.ref a)] st M Q = rn sc d 48 25 [l0, l1, l2, some (.ref a)] (.ref a :: st) M Q := ru_1 rfl rfl rfl rfl rfl
set_option maxRecDepth 100000 in
theorem s48_24N : rn sc d 48 24 [l0, l1, l2, some .null] st M Q = rn sc d 48 25 [l0, l1, l2, some .null] (.null :: st) M Q := ru_1 rfl rfl rfl rfl rfl
set_option maxRecDepth 100000 in
theorem s48_25 {a : Nat} : rn sc d 48 25 [some (.ref a), l1, l2, l3] st M Q = rn sc d 48 26 [some (.ref a), l1, l2, l3] (.ref a :: st) M Q := ru_1 rfl rfl rfl rfl rfl
set_option maxRecDepth 100000 in
theorem s48_26 {a : Nat} : rn sc d 48 26 [l0, l1, l2, l3] (.ref a :: st) M Q = rn_o (hp_f M a 2 1) (fun v => rn sc d 48 29 [l0, l1, l2, l3] (v :: st) M Q) := ru_get rfl rfl
set_option maxRecDepth 100000 in
theorem s48_29 {a : Nat} : rn sc d 48 29 [some (.ref a), l1, l2, l3] st M Q = rn sc d 48 30 [some (.ref a), l1, l2, l3] (.ref a :: st) M Q := ru_1 rfl rfl rfl rfl rfl
set_option maxRecDepth 100000 in
theorem s48_30 {a : Nat} : rn sc d 48 30 [l0, l1, l2, l3] (.ref a :: st) M Q = rn_o (hp_f M a 2 2) (fun v => rn sc d 48 33 [l0, l1, l2, l3] (v :: st) M Q) := ru_get rfl rfl
set_option maxRecDepth 100000 in
theorem s48_33 {a : Nat} : rn sc d 48 33 [l0, l1, l2, l3] (.ref a :: st) M Q = rn_o (hp_f M a 3 1) (fun v => rn sc d 48 36 [l0, l1, l2, l3] (v :: st) M Q) := ru_get rfl rfl
set_option maxRecDepth 100000 in
theorem s48_36 {x : Int32} : rn sc d 48 36 [l0, some (.int x), l2, l3] st M Q = rn sc d 48 37 [l0, some (.int x), l2, l3] (.int x :: st) M Q := ru_1 rfl rfl rfl rfl rfl
set_option maxRecDepth 100000 in
theorem s48_37 {a : Nat} {j : Int32} : rn sc d 48 37 [l0, l1, l2, l3] (.int j :: .ref a :: st) M Q = rn_o (hp_i sc M a j) (fun v => rn sc d 48 38 [l0, l1, l2, l3] (.int v :: st) M Q) := ru_iald rfl
set_option maxRecDepth 100000 in
theorem s48_38 {x : Int32} : rn sc d 48 38 [l0, l1, some (.int x), l3] st M Q = rn sc d 48 39 [l0, l1, some (.int x), l3] (.int x :: st) M Q := ru_1 rfl rfl rfl rfl rfl
set_option maxRecDepth 100000 in
theorem s48_39 {a : Nat} {b0 : Nat} {x1 : Int32} {x2 : Int32} (hw : xm_wt st ≤ 8) (hq : hp_is M a 5) : rn sc (d + 1) 48 39 [l0, l1, l2, l3] (.int x2 :: .int x1 :: .ref b0 :: .ref a :: st) M Q = rn sc d 13 0 [some (.ref a), some (.ref b0), some (.int x1), some (.int x2)] [] M (fun r M' => rn sc (d + 1) 48 42 [l0, l1, l2, l3] (r.toList ++ st) M' Q) := ru_d (ru_iv (as := [.int x2, .int x1, .ref b0]) rfl rfl rfl (Nat.le_of_ble_eq_true rfl) hw rfl hq)
set_option maxRecDepth 100000 in
theorem s48_39N {a : Nat} {x1 : Int32} {x2 : Int32} (hw : xm_wt st ≤ 8) (hq : hp_is M a 5) : rn sc (d + 1) 48 39 [l0, l1, l2, l3] (.int x2 :: .int x1 :: .null :: .ref a :: st) M Q = rn sc d 13 0 [some (.ref a), some (.null), some (.int x1), some (.int x2)] [] M (fun r M' => rn sc (d + 1) 48 42 [l0, l1, l2, l3] (r.toList ++ st) M' Q) := ru_d (ru_iv (as := [.int x2, .int x1, .null]) rfl rfl rfl (Nat.le_of_ble_eq_true rfl) hw rfl hq)
set_option maxRecDepth 100000 in
theorem s48_42 : rn sc d 48 42 [l0, l1, l2, l3] [] M Q = Q none M := rn_ret rfl rfl rfl
set_option maxRecDepth 100000 in
theorem s49_0 {a : Nat} : rn sc d 49 0 [some (.ref a), l1, l2] st M Q = rn sc d 49 1 [some (.ref a), l1, l2] (.ref a :: st) M Q := ru_1 rfl rfl rfl rfl rfl
set_option maxRecDepth 100000 in
theorem s49_1 {a : Nat} : rn sc d 49 1 [l0, l1, l2] (.ref a :: st) M Q = rn_o (hp_f M a 2 3) (fun v => rn sc d 49 4 [l0, l1, l2] (v :: st) M Q) := ru_get rfl rfl
set_option maxRecDepth 100000 in
theorem s49_4 {a : Nat} : rn sc d 49 4 [l0, l1, l2] (.ref a :: st) M Q = rn_o (hp_f M a 1 1) (fun v => rn sc d 49 7 [l0, l1, l2] (v :: st) M Q) := ru_get rfl rfl
set_option maxRecDepth 100000 in
theorem s49_7 {x : Int32} : rn sc d 49 7 [l0, l1, l2] (.int x :: st) M Q = if ¬ x = 0 then rn sc d 49 16 [l0, l1, l2] st M Q else rn sc d 49 10 [l0, l1, l2] st M Q := ru_if pc_ne rfl (by decide)
set_option maxRecDepth 100000 in
theorem s49_10 {a : Nat} : rn sc d 49 10 [some (.ref a), l1, l2] st M Q = rn sc d 49 11 [some (.ref a), l1, l2] (.ref a :: st) M Q := ru_1 rfl rfl rfl rfl rfl
set_option maxRecDepth 100000 in
theorem s49_11 : rn sc d 49 11 [l0, l1, l2] st M Q = rn sc d 49 12 [l0, l1, l2] (.int 0 :: st) M Q := ru_k rfl rfl rfl rfl rfl (by decide)
set_option maxRecDepth 100000 in
theorem s49_12 {a : Nat} {v : Value} : rn sc d 49 12 [l0, l1, l2] (v :: .ref a :: st) M Q = rn_o (hp_pf M a 2 7 v) (fun M' => rn sc d 49 15 [l0, l1, l2] st M' Q) := ru_put rfl rfl rfl
set_option maxRecDepth 100000 in
theorem s49_15 : rn sc d 49 15 [l0, l1, l2] [] M Q = Q none M := rn_ret rfl rfl rfl
set_option maxRecDepth 100000 in
theorem s49_16 {a : Nat} : rn sc d 49 16 [some (.ref a), l1, l2] st M Q = rn sc d 49 17 [some (.ref a), l1, l2] (.ref a :: st) M Q := ru_1 rfl rfl rfl rfl rfl
set_option maxRecDepth 100000 in
theorem s49_17 {a : Nat} : rn sc d 49 17 [l0, l1, l2] (.ref a :: st) M Q = rn_o (hp_f M a 2 3) (fun v => rn sc d 49 20 [l0, l1, l2] (v :: st) M Q) := ru_get rfl rfl
set_option maxRecDepth 100000 in
theorem s49_20 {a : Nat} : rn sc d 49 20 [l0, l1, l2] (.ref a :: st) M Q = rn sc d 49 21 [l0, l1, l2] (.ref a :: .ref a :: st) M Q := ru_1 rfl rfl rfl rfl rfl
set_option maxRecDepth 100000 in
theorem s49_20I {x : Int32} : rn sc d 49 20 [l0, l1, l2] (.int x :: st) M Q = rn sc d 49 21 [l0, l1, l2] (.int x :: .int x :: st) M Q := ru_1 rfl rfl rfl rfl rfl
set_option maxRecDepth 100000 in
theorem s49_21 {a : Nat} : rn sc d 49 21 [l0, l1, l2] (.ref a :: st) M Q = rn_o (hp_f M a 1 1) (fun v => rn sc d 49 24 [l0, l1, l2] (v :: st) M Q) := ru_get rfl rfl
set_option maxRecDepth 100000 in
theorem s49_24 : rn sc d 49 24 [l0, l1, l2] st M Q = rn sc d 49 25 [l0, l1, l2] (.int 1 :: st) M Q := ru_k rfl rfl rfl rfl rfl (by decide)
set_option maxRecDepth 100000 in
theorem s49_25 {u v : Int32} : rn sc d 49 25 [l0, l1, l2] (.int v :: .int u :: st) M Q = rn sc d 49 26 [l0, l1, l2] (.int (u - v) :: st) M Q := ru_1 rfl rfl rfl rfl rfl
set_option maxRecDepth 100000 in
theorem s49_26 {a : Nat} {v : Value} : rn sc d 49 26 [l0, l1, l2] (v :: .ref a :: st) M Q = rn_o (hp_pf M a 1 1 v) (fun M' => rn sc d 49 29 [l0, l1, l2] st M' Q) := ru_put rfl rfl rfl
set_option maxRecDepth 100000 in
theorem s49_29 {a : Nat} : rn sc d 49 29 [some (.ref a), l1, l2] st M Q = rn sc d 49 30 [some (.ref a), l1, l2] (.ref a :: st) M Q := ru_1 rfl rfl rfl rfl rfl
set_option maxRecDepth 100000 in
theorem s49_30 {a : Nat} : rn sc d 49 30 [l0, l1, l2] (.ref a :: st) M Q = rn_o (hp_f M a 2 3) (fun v => rn sc d 49 33 [l0, l1, l2] (v :: st) M Q) := ru_get rfl rfl
set_option maxRecDepth 100000 in
theorem s49_33 {a : Nat} : rn sc d 49 33 [l0, l1, l2] (.ref a :: st) M Q = rn_o (hp_f M a 1 0) (fun v => rn sc d 49 36 [l0, l1, l2] (v :: st) M Q) := ru_get rfl rfl
set_option maxRecDepth 100000 in
theorem s49_36 {a : Nat} : rn sc d 49 36 [some (.ref a), l1, l2] st M Q = rn sc d 49 37 [some (.ref a), l1, l2] (.ref a :: st) M Q := ru_1 rfl rfl rfl rfl rfl
set_option maxRecDepth 100000 in
theorem s49_37 {a : Nat} : rn sc d 49 37 [l0, l1, l2] (.ref a :: st) M Q = rn_o (hp_f M a 2 3) (fun v => rn sc d 49 40 [l0, l1, l2] (v :: st) M Q) := ru_get rfl rfl
set_option maxRecDepth 100000 in
theorem s49_40 {a : Nat} : rn sc d 49 40 [l0, l1, l2] (.ref a :: st) M Q = rn_o (hp_f M a 1 1) (fun v => rn sc d 49 43 [l0, l1, l2] (v :: st) M Q) := ru_get rfl rfl
set_option maxRecDepth 100000 in
theorem s49_43 {a : Nat} {j : Int32} : rn sc d 49 43 [l0, l1, l2] (.int j :: .ref a :: st) M Q = rn_o (hp_i sc M a j) (fun v => rn sc d 49 44 [l0, l1, l2] (.int v :: st) M Q) := ru_iald rfl
set_option maxRecDepth 100000 in
theorem s49_44 {x : Int32} : rn sc d 49 44 [l0, l1, l2] (.int x :: st) M Q = rn sc d 49 45 [l0, some (.int x), l2] st M Q := ru_1 rfl rfl rfl rfl rfl
set_option maxRecDepth 100000 in
theorem s49_45 {a : Nat} : rn sc d 49 45 [some (.ref a), l1, l2] st M Q = rn sc d 49 46 [some (.ref a), l1, l2] (.ref a :: st) M Q := ru_1 rfl rfl rfl rfl rfl
set_option maxRecDepth 100000 in
theorem s49_46 {a : Nat} : rn sc d 49 46 [l0, l1, l2] (.ref a :: st) M Q = rn_o (hp_f M a 2 4) (fun v => rn sc d 49 49 [l0, l1, l2] (v :: st) M Q) := ru_get rfl rfl
set_option maxRecDepth 100000 in
theorem s49_49 {a : Nat} : rn sc d 49 49 [some (.ref a), l1, l2] st M Q = rn sc d 49 50 [some (.ref a), l1, l2] (.ref a :: st) M Q := ru_1 rfl rfl rfl rfl rfl
set_option maxRecDepth 100000 in
theorem s49_50 {a : Nat} : rn sc d 49 50 [l0, l1, l2] (.ref a :: st) M Q = rn_o (hp_f M a 2 2) (fun v => rn sc d 49 53 [l0, l1, l2] (v :: st) M Q) := ru_get rfl rfl
set_option maxRecDepth 100000 in
theorem s49_53 {a : Nat} : rn sc d 49 53 [l0, l1, l2] (.ref a :: st) M Q = rn_o (hp_f M a 3 4) (fun v => rn sc d 49 56 [l0, l1, l2] (v :: st) M Q) := ru_get rfl rfl
set_option maxRecDepth 100000 in
theorem s49_56 {x : Int32} : rn sc d 49 56 [l0, some (.int x), l2] st M Q = rn sc d 49 57 [l0, some (.int x), l2] (.int x :: st) M Q := ru_1 rfl rfl rfl rfl rfl
set_option maxRecDepth 100000 in
theorem s49_57 {a : Nat} {j : Int32} : rn sc d 49 57 [l0, l1, l2] (.int j :: .ref a :: st) M Q = rn_o (hp_i sc M a j) (fun v => rn sc d 49 58 [l0, l1, l2] (.int v :: st) M Q) := ru_iald rfl
set_option maxRecDepth 100000 in
theorem s49_58 {a : Nat} {v : Value} : rn sc d 49 58 [l0, l1, l2] (v :: .ref a :: st) M Q = rn_o (hp_pf M a 1 1 v) (fun M' => rn sc d 49 61 [l0, l1, l2] st M' Q) := ru_put rfl rfl rfl
set_option maxRecDepth 100000 in
theorem s49_61 {a : Nat} : rn sc d 49 61 [some (.ref a), l1, l2] st M Q = rn sc d 49 62 [some (.ref a), l1, l2] (.ref a :: st) M Q := ru_1 rfl rfl rfl rfl rfl
set_option maxRecDepth 100000 in
theorem s49_62 {a : Nat} : rn sc d 49 62 [some (.ref a), l1, l2] st M Q = rn sc d 49 63 [some (.ref a), l1, l2] (.ref a :: st) M Q := ru_1 rfl rfl rfl rfl rfl
set_option maxRecDepth 100000 in
theorem s49_63 {a : Nat} : rn sc d 49 63 [l0, l1, l2] (.ref a :: st) M Q = rn_o (hp_f M a 2 2) (fun v => rn sc d 49 66 [l0, l1, l2] (v :: st) M Q) := ru_get rfl rfl
set_option maxRecDepth 100000 in
theorem s49_66 {a : Nat} : rn sc d 49 66 [l0, l1, l2] (.ref a :: st) M Q = rn_o (hp_f M a 3 3) (fun v => rn sc d 49 69 [l0, l1, l2] (v :: st) M Q) := ru_get rfl rfl
set_option maxRecDepth 100000 in
theorem s49_69 {x : Int32} : rn sc d 49 69 [l0, some (.int x), l2] st M Q = rn sc d 49 70 [l0, some (.int x), l2] (.int x :: st) M Q := ru_1 rfl rfl rfl rfl rfl
set_option maxRecDepth 100000 in
theorem s49_70 {a : Nat} {j : Int32} : rn sc d 49 70 [l0, l1, l2] (.int j :: .ref a :: st) M Q = rn_o (hp_i sc M a j) (fun v => rn sc d 49 71 [l0, l1, l2] (.int v :: st) M Q) := ru_iald rfl
set_option maxRecDepth 100000 in
theorem s49_71 {a : Nat} {v : Value} : rn sc d 49 71 [l0, l1, l2] (v :: .ref a :: st) M Q = rn_o (hp_pf M a 2 10 v) (fun M' => rn sc d 49 74 [l0, l1, l2] st M' Q) := ru_put rfl rfl rfl
set_option maxRecDepth 100000 in
theorem s49_74 {a : Nat} : rn sc d 49 74 [some (.ref a), l1, l2] st M Q = rn sc d 49 75 [some (.ref a), l1, l2] (.ref a :: st) M Q := ru_1 rfl rfl rfl rfl rfl
set_option maxRecDepth 100000 in
theorem s49_75 {a : Nat} : rn sc d 49 75 [l0, l1, l2] (.ref a :: st) M Q = rn_o (hp_f M a 2 2) (fun v => rn sc d 49 78 [l0, l1, l2] (v :: st) M Q) := ru_get rfl rfl
set_option maxRecDepth 100000 in
theorem s49_78 {a : Nat} : rn sc d 49 78 [l0, l1, l2] (.ref a :: st) M Q = rn_o (hp_f M a 3 0) (fun v => rn sc d 49 81 [l0, l1, l2] (v :: st) M Q) := ru_get rfl rfl
set_option maxRecDepth 100000 in
theorem s49_81 {x : Int32} : rn sc d 49 81 [l0, some (.int x), l2] st M Q = rn sc d 49 82 [l0, some (.int x), l2] (.int x :: st) M Q := ru_1 rfl rfl rfl rfl rfl
set_option maxRecDepth 100000 in
theorem s49_82 {a : Nat} {j : Int32} : rn sc d 49 82 [l0, l1, l2] (.int j :: .ref a :: st) M Q = rn_o (hp_q M a j) (fun v => rn sc d 49 83 [l0, l1, l2] (v :: st) M Q) := ru_aald rfl
set_option maxRecDepth 100000 in
theorem s49_83 {a : Nat} : rn sc d 49 83 [l0, l1, l2] (.ref a :: st) M Q = rn sc d 49 84 [l0, l1, some (.ref a)] st M Q := ru_1 rfl rfl rfl rfl rfl
set_option maxRecDepth 100000 in
theorem s49_83N : rn sc d 49 83 [l0, l1, l2] (.null :: st) M Q = rn sc d 49 84 [l0, l1, some .null] st M Q := ru_1 rfl rfl rfl rfl rfl
set_option maxRecDepth 100000 in
theorem s49_84 {a : Nat} : rn sc d 49 84 [l0, l1, some (.ref a)] st M Q = rn sc d 49 85 [l0, l1, some (.ref a)] (.ref a :: st) M Q := ru_1 rfl rfl rfl rfl rfl
set_option maxRecDepth 100000 in
theorem s49_84N : rn sc d 49 84 [l0, l1, some .null] st M Q = rn sc d 49 85 [l0, l1, some .null] (.null :: st) M Q := ru_1 rfl rfl rfl rfl rfl
set_option maxRecDepth 100000 in
theorem s49_85 {a : Nat} : rn sc d 49 85 [l0, l1, l2] (.ref a :: st) M Q = rn_o (hp_f M a 0 1) (fun v => rn sc d 49 88 [l0, l1, l2] (v :: st) M Q) := ru_get rfl rfl
set_option maxRecDepth 100000 in
theorem s49_88_11 : rn sc d 49 88 [l0, l1, l2] (.int 11 :: st) M Q = rn sc d 49 136 [l0, l1, l2] st M Q := ru_sw rfl rfl rfl rfl rfl (by decide) sw_t
set_option maxRecDepth 100000 in
theorem s49_88_12 : rn sc d 49 88 [l0, l1, l2] (.int 12 :: st) M Q = rn sc d 49 159 [l0, l1, l2] st M Q := ru_sw rfl rfl rfl rfl rfl (by decide) sw_t
set_option maxRecDepth 100000 in
theorem s49_88_13 : rn sc d 49 88 [l0, l1, l2] (.int 13 :: st) M Q = rn sc d 49 242 [l0, l1, l2] st M Q := ru_sw rfl rfl rfl rfl rfl (by decide) sw_t
set_option maxRecDepth 100000 in
theorem s49_88_14 : rn sc d 49 88 [l0, l1, l2] (.int 14 :: st) M Q = rn sc d 49 242 [l0, l1, l2] st M Q := ru_sw rfl rfl rfl rfl rfl (by decide) sw_t
set_option maxRecDepth 100000 in
theorem s49_88_15 : rn sc d 49 88 [l0, l1, l2] (.int 15 :: st) M Q = rn sc d 49 242 [l0, l1, l2] st M Q := ru_sw rfl rfl rfl rfl rfl (by decide) sw_t
set_option maxRecDepth 100000 in
theorem s49_88_16 : rn sc d 49 88 [l0, l1, l2] (.int 16 :: st) M Q = rn sc d 49 183 [l0, l1, l2] st M Q := ru_sw rfl rfl rfl rfl rfl (by decide) sw_t
set_option maxRecDepth 100000 in
theorem s49_88_17 : rn sc d 49 88 [l0, l1, l2] (.int 17 :: st) M Q = rn sc d 49 242 [l0, l1, l2] st M Q := ru_sw rfl rfl rfl rfl rfl (by decide) sw_t
set_option maxRecDepth 100000 in
theorem s49_88_18 : rn sc d 49 88 [l0, l1, l2] (.int 18 :: st) M Q = rn sc d 49 211 [l0, l1, l2] st M Q := ru_sw rfl rfl rfl rfl rfl (by decide) sw_t
set_option maxRecDepth 100000 in
theorem s49_88_d {x : Int32} (h : x.toInt < 11 ∨ 18 < x.toInt) : rn sc d 49 88 [l0, l1, l2] (.int x :: st) M Q = rn sc d 49 242 [l0, l1, l2] st M Q := ru_sw rfl rfl rfl rfl rfl (sw_td h (by decide)) sw_t
set_option maxRecDepth 100000 in
theorem s49_136 {a : Nat} : rn sc d 49 136 [some (.ref a), l1, l2] st M Q = rn sc d 49 137 [some (.ref a), l1, l2] (.ref a :: st) M Q := ru_1 rfl rfl rfl rfl rfl
set_option maxRecDepth 100000 in
theorem s49_137 {x : Int32} : rn sc d 49 137 [l0, some (.int x), l2] st M Q = rn sc d 49 138 [l0, some (.int x), l2] (.int x :: st) M Q := ru_1 rfl rfl rfl rfl rfl
set_option maxRecDepth 100000 in
theorem s49_138 {a : Nat} : rn sc d 49 138 [some (.ref a), l1, l2] st M Q = rn sc d 49 139 [some (.ref a), l1, l2] (.ref a :: st) M Q := ru_1 rfl rfl rfl rfl rfl
set_option maxRecDepth 100000 in
theorem s49_139 : rn sc d 49 139 [l0, l1, l2] st M Q = rn sc d 49 140 [l0, l1, l2] (.int 5 :: st) M Q := ru_k rfl rfl rfl rfl rfl (by decide)
set_option maxRecDepth 100000 in
theorem s49_140 : rn sc d 49 140 [l0, l1, l2] st M Q = rn sc d 49 141 [l0, l1, l2] (.int 1 :: st) M Q := ru_k rfl rfl rfl rfl rfl (by decide)
set_option maxRecDepth 100000 in
theorem s49_141 {a : Nat} : rn sc d 49 141 [some (.ref a), l1, l2] st M Q = rn sc d 49 142 [some (.ref a), l1, l2] (.ref a :: st) M Q := ru_1 rfl rfl rfl rfl rfl
set_option maxRecDepth 100000 in
theorem s49_142 {a : Nat} : rn sc d 49 142 [l0, l1, l2] (.ref a :: st) M Q = rn_o (hp_f M a 2 2) (fun v => rn sc d 49 145 [l0, l1, l2] (v :: st) M Q) := ru_get rfl rfl
set_option maxRecDepth 100000 in
theorem s49_145 {a : Nat} : rn sc d 49 145 [l0, l1, l2] (.ref a :: st) M Q = rn_o (hp_f M a 3 2) (fun v => rn sc d 49 148 [l0, l1, l2] (v :: st) M Q) := ru_get rfl rfl
set_option maxRecDepth 100000 in
theorem s49_148 {x : Int32} : rn sc d 49 148 [l0, some (.int x), l2] st M Q = rn sc d 49 149 [l0, some (.int x), l2] (.int x :: st) M Q := ru_1 rfl rfl rfl rfl rfl
set_option maxRecDepth 100000 in
theorem s49_149 {a : Nat} {j : Int32} : rn sc d 49 149 [l0, l1, l2] (.int j :: .ref a :: st) M Q = rn_o (hp_i sc M a j) (fun v => rn sc d 49 150 [l0, l1, l2] (.int v :: st) M Q) := ru_iald rfl
set_option maxRecDepth 100000 in
theorem s49_150 {a : Nat} {x0 : Int32} {x1 : Int32} {x2 : Int32} (hw : xm_wt st ≤ 8) (hq : hp_is M a 2) : rn sc (d + 1) 49 150 [l0, l1, l2] (.int x2 :: .int x1 :: .int x0 :: .ref a :: st) M Q = rn sc d 44 0 [some (.ref a), some (.int x0), some (.int x1), some (.int x2), none] [] M (fun r M' => rn sc (d + 1) 49 153 [l0, l1, l2] (r.toList ++ st) M' Q) := ru_d (ru_iv (as := [.int x2, .int x1, .int x0]) rfl rfl rfl (Nat.le_of_ble_eq_true rfl) hw rfl hq)
set_option maxRecDepth 100000 in
theorem s49_153 {a : Nat} {x0 : Int32} {x1 : Int32} (hw : xm_wt st ≤ 8) (hq : hp_is M a 2) : rn sc (d + 1) 49 153 [l0, l1, l2] (.int x1 :: .int x0 :: .ref a :: st) M Q = rn sc d 31 0 [some (.ref a), some (.int x0), some (.int x1)] [] M (fun r M' => rn sc (d + 1) 49 156 [l0, l1, l2] (r.toList ++ st) M' Q) := ru_d (ru_iv (as := [.int x1, .int x0]) rfl rfl rfl (Nat.le_of_ble_eq_true rfl) hw rfl hq)
set_option maxRecDepth 100000 in
theorem s49_156 : rn sc d 49 156 [l0, l1, l2] st M Q = rn sc d 49 247 [l0, l1, l2] st M Q := ru_go rfl (by decide)
set_option maxRecDepth 100000 in
theorem s49_159 {a : Nat} : rn sc d 49 159 [some (.ref a), l1, l2] st M Q = rn sc d 49 160 [some (.ref a), l1, l2] (.ref a :: st) M Q := ru_1 rfl rfl rfl rfl rfl
set_option maxRecDepth 100000 in
theorem s49_160 {x : Int32} : rn sc d 49 160 [l0, some (.int x), l2] st M Q = rn sc d 49 161 [l0, some (.int x), l2] (.int x :: st) M Q := ru_1 rfl rfl rfl rfl rfl
set_option maxRecDepth 100000 in
theorem s49_161 {a : Nat} : rn sc d 49 161 [some (.ref a), l1, l2] st M Q = rn sc d 49 162 [some (.ref a), l1, l2] (.ref a :: st) M Q := ru_1 rfl rfl rfl rfl rfl
set_option maxRecDepth 100000 in
theorem s49_162 {a : Nat} : rn sc d 49 162 [l0, l1, l2] (.ref a :: st) M Q = rn_o (hp_f M a 2 1) (fun v => rn sc d 49 165 [l0, l1, l2] (v :: st) M Q) := ru_get rfl rfl
set_option maxRecDepth 100000 in
theorem s49_165 {a : Nat} : rn sc d 49 165 [some (.ref a), l1, l2] st M Q = rn sc d 49 166 [some (.ref a), l1, l2] (.ref a :: st) M Q := ru_1 rfl rfl rfl rfl rfl
set_option maxRecDepth 100000 in
theorem s49_166 {a : Nat} : rn sc d 49 166 [l0, l1, l2] (.ref a :: st) M Q = rn_o (hp_f M a 2 2) (fun v => rn sc d 49 169 [l0, l1, l2] (v :: st) M Q) := ru_get rfl rfl
set_option maxRecDepth 100000 in
theorem s49_169 {a : Nat} : rn sc d 49 169 [l0, l1, l2] (.ref a :: st) M Q = rn_o (hp_f M a 3 2) (fun v => rn sc d 49 172 [l0, l1, l2] (v :: st) M Q) := ru_get rfl rfl
set_option maxRecDepth 100000 in
theorem s49_172 {x : Int32} : rn sc d 49 172 [l0, some (.int x), l2] st M Q = rn sc d 49 173 [l0, some (.int x), l2] (.int x :: st) M Q := ru_1 rfl rfl rfl rfl rfl
set_option maxRecDepth 100000 in
theorem s49_173 {a : Nat} {j : Int32} : rn sc d 49 173 [l0, l1, l2] (.int j :: .ref a :: st) M Q = rn_o (hp_i sc M a j) (fun v => rn sc d 49 174 [l0, l1, l2] (.int v :: st) M Q) := ru_iald rfl
set_option maxRecDepth 100000 in
theorem s49_174 {a : Nat} {x0 : Int32} (hw : xm_wt st ≤ 8) (hq : hp_is M a 5) : rn sc (d + 1) 49 174 [l0, l1, l2] (.int x0 :: .ref a :: st) M Q = rn sc d 34 0 [some (.ref a), some (.int x0), none, none] [] M (fun r M' => rn sc (d + 1) 49 177 [l0, l1, l2] (r.toList ++ st) M' Q) := ru_d (ru_iv (as := [.int x0]) rfl rfl rfl (Nat.le_of_ble_eq_true rfl) hw rfl hq)
set_option maxRecDepth 100000 in
theorem s49_177 {a : Nat} {x0 : Int32} {x1 : Int32} (hw : xm_wt st ≤ 8) (hq : hp_is M a 2) : rn sc (d + 1) 49 177 [l0, l1, l2] (.int x1 :: .int x0 :: .ref a :: st) M Q = rn sc d 31 0 [some (.ref a), some (.int x0), some (.int x1)] [] M (fun r M' => rn sc (d + 1) 49 180 [l0, l1, l2] (r.toList ++ st) M' Q) := ru_d (ru_iv (as := [.int x1, .int x0]) rfl rfl rfl (Nat.le_of_ble_eq_true rfl) hw rfl hq)
set_option maxRecDepth 100000 in
theorem s49_180 : rn sc d 49 180 [l0, l1, l2] st M Q = rn sc d 49 247 [l0, l1, l2] st M Q := ru_go rfl (by decide)
set_option maxRecDepth 100000 in
theorem s49_183 {a : Nat} : rn sc d 49 183 [some (.ref a), l1, l2] st M Q = rn sc d 49 184 [some (.ref a), l1, l2] (.ref a :: st) M Q := ru_1 rfl rfl rfl rfl rfl
set_option maxRecDepth 100000 in
theorem s49_184 {a : Nat} : rn sc d 49 184 [some (.ref a), l1, l2] st M Q = rn sc d 49 185 [some (.ref a), l1, l2] (.ref a :: st) M Q := ru_1 rfl rfl rfl rfl rfl
set_option maxRecDepth 100000 in
theorem s49_185 {a : Nat} : rn sc d 49 185 [l0, l1, l2] (.ref a :: st) M Q = rn_o (hp_f M a 2 0) (fun v => rn sc d 49 188 [l0, l1, l2] (v :: st) M Q) := ru_get rfl rfl
set_option maxRecDepth 100000 in
theorem s49_188 {a : Nat} : rn sc d 49 188 [l0, l1, some (.ref a)] st M Q = rn sc d 49 189 [l0, l1, some (.ref a)] (.ref a :: st) M Q := ru_1 rfl rfl rfl rfl rfl
set_option maxRecDepth 100000 in
theorem s49_188N : rn sc d 49 188 [l0, l1, some .null] st M Q = rn sc d 49 189 [l0, l1, some .null] (.null :: st) M Q := ru_1 rfl rfl rfl rfl rfl
set_option maxRecDepth 100000 in
theorem s49_189 {a : Nat} : rn sc d 49 189 [l0, l1, l2] (.ref a :: st) M Q = rn_o (hp_f M a 0 2) (fun v => rn sc d 49 192 [l0, l1, l2] (v :: st) M Q) := ru_get rfl rfl
set_option maxRecDepth 100000 in
theorem s49_192 {a : Nat} {x0 : Int32} (hw : xm_wt st ≤ 8) (hq : hp_is M a 4) : rn sc (d + 1) 49 192 [l0, l1, l2] (.int x0 :: .ref a :: st) M Q = rn sc d 20 0 [some (.ref a), some (.int x0)] [] M (fun r M' => rn sc (d + 1) 49 195 [l0, l1, l2] (r.toList ++ st) M' Q) := ru_d (ru_iv (as := [.int x0]) rfl rfl rfl (Nat.le_of_ble_eq_true rfl) hw rfl hq)
set_option maxRecDepth 100000 in
theorem s49_195 {a : Nat} : rn sc d 49 195 [some (.ref a), l1, l2] st M Q = rn sc d 49 196 [some (.ref a), l1, l2] (.ref a :: st) M Q := ru_1 rfl rfl rfl rfl rfl
set_option maxRecDepth 100000 in
theorem s49_196 {a : Nat} : rn sc d 49 196 [l0, l1, l2] (.ref a :: st) M Q = rn_o (hp_f M a 2 2) (fun v => rn sc d 49 199 [l0, l1, l2] (v :: st) M Q) := ru_get rfl rfl
set_option maxRecDepth 100000 in
theorem s49_199 {a : Nat} : rn sc d 49 199 [l0, l1, l2] (.ref a :: st) M Q = rn_o (hp_f M a 3 1) (fun v => rn sc d 49 202 [l0, l1, l2] (v :: st) M Q) := ru_get rfl rfl
set_option maxRecDepth 100000 in
theorem s49_202 {x : Int32} : rn sc d 49 202 [l0, some (.int x), l2] st M Q = rn sc d 49 203 [l0, some (.int x), l2] (.int x :: st) M Q := ru_1 rfl rfl rfl rfl rfl
set_option maxRecDepth 100000 in
theorem s49_203 {a : Nat} {j : Int32} : rn sc d 49 203 [l0, l1, l2] (.int j :: .ref a :: st) M Q = rn_o (hp_i sc M a j) (fun v => rn sc d 49 204 [l0, l1, l2] (.int v :: st) M Q) := ru_iald rfl
set_option maxRecDepth 100000 in
theorem s49_204 {x : Int32} : rn sc d 49 204 [l0, some (.int x), l2] st M Q = rn sc d 49 205 [l0, some (.int x), l2] (.int x :: st) M Q := ru_1 rfl rfl rfl rfl rfl
set_option maxRecDepth 100000 in
theorem s49_205 {a : Nat} {b0 : Nat} {x1 : Int32} {x2 : Int32} (hw : xm_wt st ≤ 8) (hq : hp_is M a 2) : rn sc (d + 1) 49 205 [l0, l1, l2] (.int x2 :: .int x1 :: .ref b0 :: .ref a :: st) M Q = rn sc d 28 0 [some (.ref a), some (.ref b0), some (.int x1), some (.int x2)] [] M (fun r M' => rn sc (d + 1) 49 208 [l0, l1, l2] (r.toList ++ st) M' Q) := ru_d (ru_iv (as := [.int x2, .int x1, .ref b0]) rfl rfl rfl (Nat.le_of_ble_eq_true rfl) hw rfl hq)
set_option maxRecDepth 100000 in
theorem s49_205N {a : Nat} {x1 : Int32} {x2 : Int32} (hw : xm_wt st ≤ 8) (hq : hp_is M a 2) : rn sc (d + 1) 49 205 [l0, l1, l2] (.int x2 :: .int x1 :: .null :: .ref a :: st) M Q = rn sc d 28 0 [some (.ref a), some (.null), some (.int x1), some (.int x2)] [] M (fun r M' => rn sc (d + 1) 49 208 [l0, l1, l2] (r.toList ++ st) M' Q) := ru_d (ru_iv (as := [.int x2, .int x1, .null]) rfl rfl rfl (Nat.le_of_ble_eq_true rfl) hw rfl hq)
set_option maxRecDepth 100000 in
theorem s49_208 : rn sc d 49 208 [l0, l1, l2] st M Q = rn sc d 49 247 [l0, l1, l2] st M Q := ru_go rfl (by decide)
set_option maxRecDepth 100000 in
theorem s49_211 {a : Nat} : rn sc d 49 211 [some (.ref a), l1, l2] st M Q = rn sc d 49 212 [some (.ref a), l1, l2] (.ref a :: st) M Q := ru_1 rfl rfl rfl rfl rfl
set_option maxRecDepth 100000 in
theorem s49_212 {a : Nat} : rn sc d 49 212 [some (.ref a), l1, l2] st M Q = rn sc d 49 213 [some (.ref a), l1, l2] (.ref a :: st) M Q := ru_1 rfl rfl rfl rfl rfl
set_option maxRecDepth 100000 in
theorem s49_213 {a : Nat} : rn sc d 49 213 [l0, l1, l2] (.ref a :: st) M Q = rn_o (hp_f M a 2 0) (fun v => rn sc d 49 216 [l0, l1, l2] (v :: st) M Q) := ru_get rfl rfl
set_option maxRecDepth 100000 in
theorem s49_216 {a : Nat} : rn sc d 49 216 [l0, l1, some (.ref a)] st M Q = rn sc d 49 217 [l0, l1, some (.ref a)] (.ref a :: st) M Q := ru_1 rfl rfl rfl rfl rfl
set_option maxRecDepth 100000 in
theorem s49_216N : rn sc d 49 216 [l0, l1, some .null] st M Q = rn sc d 49 217 [l0, l1, some .null] (.null :: st) M Q := ru_1 rfl rfl rfl rfl rfl
set_option maxRecDepth 100000 in
theorem s49_217 {a : Nat} : rn sc d 49 217 [l0, l1, l2] (.ref a :: st) M Q = rn_o (hp_f M a 0 3) (fun v => rn sc d 49 220 [l0, l1, l2] (v :: st) M Q) := ru_get rfl rfl
set_option maxRecDepth 100000 in
theorem s49_220 {a : Nat} {x0 : Int32} (hw : xm_wt st ≤ 8) (hq : hp_is M a 4) : rn sc (d + 1) 49 220 [l0, l1, l2] (.int x0 :: .ref a :: st) M Q = rn sc d 20 0 [some (.ref a), some (.int x0)] [] M (fun r M' => rn sc (d + 1) 49 223 [l0, l1, l2] (r.toList ++ st) M' Q) := ru_d (ru_iv (as := [.int x0]) rfl rfl rfl (Nat.le_of_ble_eq_true rfl) hw rfl hq)
set_option maxRecDepth 100000 in
theorem s49_223 {a : Nat} : rn sc d 49 223 [some (.ref a), l1, l2] st M Q = rn sc d 49 224 [some (.ref a), l1, l2] (.ref a :: st) M Q := ru_1 rfl rfl rfl rfl rfl
set_option maxRecDepth 100000 in
theorem s49_224 {a : Nat} : rn sc d 49 224 [l0, l1, l2] (.ref a :: st) M Q = rn_o (hp_f M a 2 2) (fun v => rn sc d 49 227 [l0, l1, l2] (v :: st) M Q) := ru_get rfl rfl
set_option maxRecDepth 100000 in
theorem s49_227 {a : Nat} : rn sc d 49 227 [l0, l1, l2] (.ref a :: st) M Q = rn_o (hp_f M a 3 1) (fun v => rn sc d 49 230 [l0, l1, l2] (v :: st) M Q) := ru_get rfl rfl
set_option maxRecDepth 100000 in
theorem s49_230 {x : Int32} : rn sc d 49 230 [l0, some (.int x), l2] st M Q = rn sc d 49 231 [l0, some (.int x), l2] (.int x :: st) M Q := ru_1 rfl rfl rfl rfl rfl
set_option maxRecDepth 100000 in
theorem s49_231 {a : Nat} {j : Int32} : rn sc d 49 231 [l0, l1, l2] (.int j :: .ref a :: st) M Q = rn_o (hp_i sc M a j) (fun v => rn sc d 49 232 [l0, l1, l2] (.int v :: st) M Q) := ru_iald rfl
set_option maxRecDepth 100000 in
theorem s49_232 {a : Nat} : rn sc d 49 232 [some (.ref a), l1, l2] st M Q = rn sc d 49 233 [some (.ref a), l1, l2] (.ref a :: st) M Q := ru_1 rfl rfl rfl rfl rfl
set_option maxRecDepth 100000 in
theorem s49_233 {a : Nat} : rn sc d 49 233 [l0, l1, l2] (.ref a :: st) M Q = rn_o (hp_f M a 2 10) (fun v => rn sc d 49 236 [l0, l1, l2] (v :: st) M Q) := ru_get rfl rfl
set_option maxRecDepth 100000 in
theorem s49_236 {a : Nat} {b0 : Nat} {x1 : Int32} {x2 : Int32} (hw : xm_wt st ≤ 8) (hq : hp_is M a 2) : rn sc (d + 1) 49 236 [l0, l1, l2] (.int x2 :: .int x1 :: .ref b0 :: .ref a :: st) M Q = rn sc d 28 0 [some (.ref a), some (.ref b0), some (.int x1), some (.int x2)] [] M (fun r M' => rn sc (d + 1) 49 239 [l0, l1, l2] (r.toList ++ st) M' Q) := ru_d (ru_iv (as := [.int x2, .int x1, .ref b0]) rfl rfl rfl (Nat.le_of_ble_eq_true rfl) hw rfl hq)
set_option maxRecDepth 100000 in
theorem s49_236N {a : Nat} {x1 : Int32} {x2 : Int32} (hw : xm_wt st ≤ 8) (hq : hp_is M a 2) : rn sc (d + 1) 49 236 [l0, l1, l2] (.int x2 :: .int x1 :: .null :: .ref a :: st) M Q = rn sc d 28 0 [some (.ref a), some (.null), some (.int x1), some (.int x2)] [] M (fun r M' => rn sc (d + 1) 49 239 [l0, l1, l2] (r.toList ++ st) M' Q) := ru_d (ru_iv (as := [.int x2, .int x1, .null]) rfl rfl rfl (Nat.le_of_ble_eq_true rfl) hw rfl hq)
set_option maxRecDepth 100000 in
theorem s49_239 : rn sc d 49 239 [l0, l1, l2] st M Q = rn sc d 49 247 [l0, l1, l2] st M Q := ru_go rfl (by decide)
set_option maxRecDepth 100000 in
theorem s49_242 {a : Nat} : rn sc d 49 242 [some (.ref a), l1, l2] st M Q = rn sc d 49 243 [some (.ref a), l1, l2] (.ref a :: st) M Q := ru_1 rfl rfl rfl rfl rfl
set_option maxRecDepth 100000 in
theorem s49_243 : rn sc d 49 243 [l0, l1, l2] st M Q = rn sc d 49 244 [l0, l1, l2] (.int 2 :: st) M Q := ru_k rfl rfl rfl rfl rfl (by decide)
set_option maxRecDepth 100000 in
theorem s49_244 {a : Nat} {v : Value} : rn sc d 49 244 [l0, l1, l2] (v :: .ref a :: st) M Q = rn_o (hp_pf M a 2 7 v) (fun M' => rn sc d 49 247 [l0, l1, l2] st M' Q) := ru_put rfl rfl rfl
set_option maxRecDepth 100000 in
theorem s49_247 : rn sc d 49 247 [l0, l1, l2] [] M Q = Q none M := rn_ret rfl rfl rfl
set_option maxRecDepth 100000 in
theorem s50_0 : rn sc d 50 0 [l0, l1] st M Q = rn sc d 50 1 [l0, l1] (.int 0 :: st) M Q := ru_k rfl rfl rfl rfl rfl (by decide)
set_option maxRecDepth 100000 in
theorem s50_1 {x : Int32} : rn sc d 50 1 [l0, l1] (.int x :: st) M Q = rn sc d 50 2 [l0, some (.int x)] st M Q := ru_1 rfl rfl rfl rfl rfl
set_option maxRecDepth 100000 in
theorem s50_2 {x : Int32} : rn sc d 50 2 [l0, some (.int x)] st M Q = rn sc d 50 3 [l0, some (.int x)] (.int x :: st) M Q := ru_1 rfl rfl rfl rfl rfl
set_option maxRecDepth 100000 in
theorem s50_3 {a : Nat} : rn sc d 50 3 [some (.ref a), l1] st M Q = rn sc d 50 4 [some (.ref a), l1] (.ref a :: st) M Q := ru_1 rfl rfl rfl rfl rfl
set_option maxRecDepth 100000 in
theorem s50_4 {a : Nat} : rn sc d 50 4 [l0, l1] (.ref a :: st) M Q = rn_o (hp_f M a 2 4) (fun v => rn sc d 50 7 [l0, l1] (v :: st) M Q) := ru_get rfl rfl
set_option maxRecDepth 100000 in
theorem s50_7 {a : Nat} : rn sc d 50 7 [l0, l1] (.ref a :: st) M Q = rn_o (hp_f M a 1 1) (fun v => rn sc d 50 10 [l0, l1] (v :: st) M Q) := ru_get rfl rfl
set_option maxRecDepth 100000 in
theorem s50_10 {u v : Int32} : rn sc d 50 10 [l0, l1] (.int v :: .int u :: st) M Q = if v ≤ u then rn sc d 50 49 [l0, l1] st M Q else rn sc d 50 13 [l0, l1] st M Q := ru_ic pc_ge rfl (by decide)
set_option maxRecDepth 100000 in
theorem s50_13 {a : Nat} : rn sc d 50 13 [some (.ref a), l1] st M Q = rn sc d 50 14 [some (.ref a), l1] (.ref a :: st) M Q := ru_1 rfl rfl rfl rfl rfl
set_option maxRecDepth 100000 in
theorem s50_14 {a : Nat} : rn sc d 50 14 [some (.ref a), l1] st M Q = rn sc d 50 15 [some (.ref a), l1] (.ref a :: st) M Q := ru_1 rfl rfl rfl rfl rfl
set_option maxRecDepth 100000 in
theorem s50_15 {a : Nat} : rn sc d 50 15 [l0, l1] (.ref a :: st) M Q = rn_o (hp_f M a 2 4) (fun v => rn sc d 50 18 [l0, l1] (v :: st) M Q) := ru_get rfl rfl
set_option maxRecDepth 100000 in
theorem s50_18 {a : Nat} : rn sc d 50 18 [l0, l1] (.ref a :: st) M Q = rn_o (hp_f M a 1 0) (fun v => rn sc d 50 21 [l0, l1] (v :: st) M Q) := ru_get rfl rfl
set_option maxRecDepth 100000 in
theorem s50_21 {x : Int32} : rn sc d 50 21 [l0, some (.int x)] st M Q = rn sc d 50 22 [l0, some (.int x)] (.int x :: st) M Q := ru_1 rfl rfl rfl rfl rfl
set_option maxRecDepth 100000 in
theorem s50_22 {a : Nat} {j : Int32} : rn sc d 50 22 [l0, l1] (.int j :: .ref a :: st) M Q = rn_o (hp_i sc M a j) (fun v => rn sc d 50 23 [l0, l1] (.int v :: st) M Q) := ru_iald rfl
set_option maxRecDepth 100000 in
theorem s50_23 {a : Nat} : rn sc d 50 23 [some (.ref a), l1] st M Q = rn sc d 50 24 [some (.ref a), l1] (.ref a :: st) M Q := ru_1 rfl rfl rfl rfl rfl
set_option maxRecDepth 100000 in
theorem s50_24 {a : Nat} : rn sc d 50 24 [l0, l1] (.ref a :: st) M Q = rn_o (hp_f M a 2 2) (fun v => rn sc d 50 27 [l0, l1] (v :: st) M Q) := ru_get rfl rfl
set_option maxRecDepth 100000 in
theorem s50_27 {a : Nat} : rn sc d 50 27 [l0, l1] (.ref a :: st) M Q = rn_o (hp_f M a 3 2) (fun v => rn sc d 50 30 [l0, l1] (v :: st) M Q) := ru_get rfl rfl
set_option maxRecDepth 100000 in
theorem s50_30 {a : Nat} : rn sc d 50 30 [some (.ref a), l1] st M Q = rn sc d 50 31 [some (.ref a), l1] (.ref a :: st) M Q := ru_1 rfl rfl rfl rfl rfl
set_option maxRecDepth 100000 in
theorem s50_31 {a : Nat} : rn sc d 50 31 [l0, l1] (.ref a :: st) M Q = rn_o (hp_f M a 2 4) (fun v => rn sc d 50 34 [l0, l1] (v :: st) M Q) := ru_get rfl rfl
set_option maxRecDepth 100000 in
theorem s50_34 {a : Nat} : rn sc d 50 34 [l0, l1] (.ref a :: st) M Q = rn_o (hp_f M a 1 0) (fun v => rn sc d 50 37 [l0, l1] (v :: st) M Q) := ru_get rfl rfl
set_option maxRecDepth 100000 in
theorem s50_37 {x : Int32} : rn sc d 50 37 [l0, some (.int x)] st M Q = rn sc d 50 38 [l0, some (.int x)] (.int x :: st) M Q := ru_1 rfl rfl rfl rfl rfl
set_option maxRecDepth 100000 in
theorem s50_38 {a : Nat} {j : Int32} : rn sc d 50 38 [l0, l1] (.int j :: .ref a :: st) M Q = rn_o (hp_i sc M a j) (fun v => rn sc d 50 39 [l0, l1] (.int v :: st) M Q) := ru_iald rfl
set_option maxRecDepth 100000 in
theorem s50_39 {a : Nat} {j : Int32} : rn sc d 50 39 [l0, l1] (.int j :: .ref a :: st) M Q = rn_o (hp_i sc M a j) (fun v => rn sc d 50 40 [l0, l1] (.int v :: st) M Q) := ru_iald rfl
set_option maxRecDepth 100000 in
theorem s50_40 {a : Nat} {x0 : Int32} {x1 : Int32} (hw : xm_wt st ≤ 8) (hq : hp_is M a 2) : rn sc (d + 1) 50 40 [l0, l1] (.int x1 :: .int x0 :: .ref a :: st) M Q = rn sc d 48 0 [some (.ref a), some (.int x0), some (.int x1), none] [] M (fun r M' => rn sc (d + 1) 50 43 [l0, l1] (r.toList ++ st) M' Q) := ru_d (ru_iv (as := [.int x1, .int x0]) rfl rfl rfl (Nat.le_of_ble_eq_true rfl) hw rfl hq)
set_option maxRecDepth 100000 in
theorem s50_43 {x : Int32} : rn sc d 50 43 [l0, some (.int x)] st M Q = rn sc d 50 46 [l0, some (.int (x + 1))] st M Q := ru_1 rfl rfl rfl rfl rfl
set_option maxRecDepth 100000 in
theorem s50_46 : rn sc d 50 46 [l0, l1] st M Q = rn sc d 50 2 [l0, l1] st M Q := ru_go rfl (by decide)
set_option maxRecDepth 100000 in
theorem s50_49 : rn sc d 50 49 [l0, l1] [] M Q = Q none M := rn_ret rfl rfl rfl
set_option maxRecDepth 100000 in
theorem s51_0 {x : Int32} : rn sc d 51 0 [l0, some (.int x)] st M Q = rn sc d 51 1 [l0, some (.int x)] (.int x :: st) M Q := ru_1 rfl rfl rfl rfl rfl
set_option maxRecDepth 100000 in
theorem s51_1_0 : rn sc d 51 1 [l0, l1] (.int 0 :: st) M Q = rn sc d 51 28 [l0, l1] st M Q := ru_sw rfl rfl rfl rfl rfl (by decide) sw_t
set_option maxRecDepth 100000 in
theorem s51_1_1 : rn sc d 51 1 [l0, l1] (.int 1 :: st) M Q = rn sc d 51 33 [l0, l1] st M Q := ru_sw rfl rfl rfl rfl rfl (by decide) sw_t
set_option maxRecDepth 100000 in
theorem s51_1_2 : rn sc d 51 1 [l0, l1] (.int 2 :: st) M Q = rn sc d 51 38 [l0, l1] st M Q := ru_sw rfl rfl rfl rfl rfl (by decide) sw_t
set_option maxRecDepth 100000 in
theorem s51_1_d {x : Int32} (h : x.toInt < 0 ∨ 2 < x.toInt) : rn sc d 51 1 [l0, l1] (.int x :: st) M Q = rn sc d 51 43 [l0, l1] st M Q := ru_sw rfl rfl rfl rfl rfl (sw_td h (by decide)) sw_t
set_option maxRecDepth 100000 in
theorem s51_28 {a : Nat} : rn sc d 51 28 [some (.ref a), l1] st M Q = rn sc d 51 29 [some (.ref a), l1] (.ref a :: st) M Q := ru_1 rfl rfl rfl rfl rfl
set_option maxRecDepth 100000 in
theorem s51_29 {a : Nat} : rn sc d 51 29 [l0, l1] (.ref a :: st) M Q = rn_o (hp_f M a 6 3) (fun v => rn sc d 51 32 [l0, l1] (v :: st) M Q) := ru_get rfl rfl
set_option maxRecDepth 100000 in
theorem s51_32 {v : Int32} : rn sc d 51 32 [l0, l1] [.int v] M Q = Q (some (.int v)) M := ru_ri rfl rfl
set_option maxRecDepth 100000 in
theorem s51_33 {a : Nat} : rn sc d 51 33 [some (.ref a), l1] st M Q = rn sc d 51 34 [some (.ref a), l1] (.ref a :: st) M Q := ru_1 rfl rfl rfl rfl rfl
set_option maxRecDepth 100000 in
theorem s51_34 {a : Nat} : rn sc d 51 34 [l0, l1] (.ref a :: st) M Q = rn_o (hp_f M a 6 4) (fun v => rn sc d 51 37 [l0, l1] (v :: st) M Q) := ru_get rfl rfl
set_option maxRecDepth 100000 in
theorem s51_37 {v : Int32} : rn sc d 51 37 [l0, l1] [.int v] M Q = Q (some (.int v)) M := ru_ri rfl rfl
set_option maxRecDepth 100000 in
theorem s51_38 {a : Nat} : rn sc d 51 38 [some (.ref a), l1] st M Q = rn sc d 51 39 [some (.ref a), l1] (.ref a :: st) M Q := ru_1 rfl rfl rfl rfl rfl
set_option maxRecDepth 100000 in
theorem s51_39 {a : Nat} : rn sc d 51 39 [l0, l1] (.ref a :: st) M Q = rn_o (hp_f M a 6 5) (fun v => rn sc d 51 42 [l0, l1] (v :: st) M Q) := ru_get rfl rfl
set_option maxRecDepth 100000 in
theorem s51_42 {v : Int32} : rn sc d 51 42 [l0, l1] [.int v] M Q = Q (some (.int v)) M := ru_ri rfl rfl
set_option maxRecDepth 100000 in
theorem s51_43 : rn sc d 51 43 [l0, l1] st M Q = rn sc d 51 44 [l0, l1] (.int (-1) :: st) M Q := ru_k rfl rfl rfl rfl rfl (by decide)
set_option maxRecDepth 100000 in
theorem s51_44 {v : Int32} : rn sc d 51 44 [l0, l1] [.int v] M Q = Q (some (.int v)) M := ru_ri rfl rfl
set_option maxRecDepth 100000 in
theorem s52_0 {a : Nat} : rn sc d 52 0 [some (.ref a), l1, l2] st M Q = rn sc d 52 1 [some (.ref a), l1, l2] (.ref a :: st) M Q := ru_1 rfl rfl rfl rfl rfl
set_option maxRecDepth 100000 in
theorem s52_1 {a : Nat} : rn sc d 52 1 [l0, l1, l2] (.ref a :: st) M Q = rn_o (hp_f M a 6 1) (fun v => rn sc d 52 4 [l0, l1, l2] (v :: st) M Q) := ru_get rfl rfl
set_option maxRecDepth 100000 in
theorem s52_4 {x : Int32} : rn sc d 52 4 [l0, some (.int x), l2] st M Q = rn sc d 52 5 [l0, some (.int x), l2] (.int x :: st) M Q := ru_1 rfl rfl rfl rfl rfl
set_option maxRecDepth 100000 in
theorem s52_5 {a : Nat} {x0 : Int32} (hw : xm_wt st ≤ 8) (hq : hp_is M a 4) : rn sc (d + 1) 52 5 [l0, l1, l2] (.int x0 :: .ref a :: st) M Q = rn sc d 11 0 [some (.ref a), some (.int x0)] [] M (fun r M' => rn sc (d + 1) 52 8 [l0, l1, l2] (r.toList ++ st) M' Q) := ru_d (ru_iv (as := [.int x0]) rfl rfl rfl (Nat.le_of_ble_eq_true rfl) hw rfl hq)
set_option maxRecDepth 100000 in
theorem s52_8 {a : Nat} : rn sc d 52 8 [l0, l1, l2] (.ref a :: st) M Q = rn sc d 52 9 [l0, l1, some (.ref a)] st M Q := ru_1 rfl rfl rfl rfl rfl
set_option maxRecDepth 100000 in
theorem s52_8N : rn sc d 52 8 [l0, l1, l2] (.null :: st) M Q = rn sc d 52 9 [l0, l1, some .null] st M Q := ru_1 rfl rfl rfl rfl rfl
set_option maxRecDepth 100000 in
theorem s52_9 {a : Nat} : rn sc d 52 9 [l0, l1, some (.ref a)] st M Q = rn sc d 52 10 [l0, l1, some (.ref a)] (.ref a :: st) M Q := ru_1 rfl rfl rfl rfl rfl
set_option maxRecDepth 100000 in
theorem s52_9N : rn sc d 52 9 [l0, l1, some .null] st M Q = rn sc d 52 10 [l0, l1, some .null] (.null :: st) M Q := ru_1 rfl rfl rfl rfl rfl
set_option maxRecDepth 100000 in
theorem s52_10 {a : Nat} : rn sc d 52 10 [l0, l1, l2] (.ref a :: st) M Q = rn sc d 52 13 [l0, l1, l2] st M Q := ru_nu rfl
set_option maxRecDepth 100000 in
theorem s52_10N : rn sc d 52 10 [l0, l1, l2] (.null :: st) M Q = rn sc d 52 40 [l0, l1, l2] st M Q := ru_nuN rfl (by decide)
set_option maxRecDepth 100000 in
theorem s52_13 {a : Nat} : rn sc d 52 13 [some (.ref a), l1, l2] st M Q = rn sc d 52 14 [some (.ref a), l1, l2] (.ref a :: st) M Q := ru_1 rfl rfl rfl rfl rfl
set_option maxRecDepth 100000 in
theorem s52_14 {a : Nat} : rn sc d 52 14 [l0, l1, l2] (.ref a :: st) M Q = rn_o (hp_f M a 6 3) (fun v => rn sc d 52 17 [l0, l1, l2] (v :: st) M Q) := ru_get rfl rfl
set_option maxRecDepth 100000 in
theorem s52_17 : rn sc d 52 17 [l0, l1, l2] st M Q = rn sc d 52 18 [l0, l1, l2] (.int (-1) :: st) M Q := ru_k rfl rfl rfl rfl rfl (by decide)
set_option maxRecDepth 100000 in
theorem s52_18 {u v : Int32} : rn sc d 52 18 [l0, l1, l2] (.int v :: .int u :: st) M Q = if u = v then rn sc d 52 40 [l0, l1, l2] st M Q else rn sc d 52 21 [l0, l1, l2] st M Q := ru_ic pc_eq rfl (by decide)
set_option maxRecDepth 100000 in
theorem s52_21 {a : Nat} : rn sc d 52 21 [l0, l1, some (.ref a)] st M Q = rn sc d 52 22 [l0, l1, some (.ref a)] (.ref a :: st) M Q := ru_1 rfl rfl rfl rfl rfl
set_option maxRecDepth 100000 in
theorem s52_21N : rn sc d 52 21 [l0, l1, some .null] st M Q = rn sc d 52 22 [l0, l1, some .null] (.null :: st) M Q := ru_1 rfl rfl rfl rfl rfl
set_option maxRecDepth 100000 in
theorem s52_22 {a : Nat} : rn sc d 52 22 [some (.ref a), l1, l2] st M Q = rn sc d 52 23 [some (.ref a), l1, l2] (.ref a :: st) M Q := ru_1 rfl rfl rfl rfl rfl
set_option maxRecDepth 100000 in
theorem s52_23 {a : Nat} : rn sc d 52 23 [l0, l1, l2] (.ref a :: st) M Q = rn_o (hp_f M a 6 3) (fun v => rn sc d 52 26 [l0, l1, l2] (v :: st) M Q) := ru_get rfl rfl
set_option maxRecDepth 100000 in
theorem s52_26 {a : Nat} : rn sc d 52 26 [some (.ref a), l1, l2] st M Q = rn sc d 52 27 [some (.ref a), l1, l2] (.ref a :: st) M Q := ru_1 rfl rfl rfl rfl rfl
set_option maxRecDepth 100000 in
theorem s52_27 {a : Nat} : rn sc d 52 27 [l0, l1, l2] (.ref a :: st) M Q = rn_o (hp_f M a 6 4) (fun v => rn sc d 52 30 [l0, l1, l2] (v :: st) M Q) := ru_get rfl rfl
set_option maxRecDepth 100000 in
theorem s52_30 {a : Nat} : rn sc d 52 30 [some (.ref a), l1, l2] st M Q = rn sc d 52 31 [some (.ref a), l1, l2] (.ref a :: st) M Q := ru_1 rfl rfl rfl rfl rfl
set_option maxRecDepth 100000 in
theorem s52_31 {a : Nat} : rn sc d 52 31 [l0, l1, l2] (.ref a :: st) M Q = rn_o (hp_f M a 6 0) (fun v => rn sc d 52 34 [l0, l1, l2] (v :: st) M Q) := ru_get rfl rfl
set_option maxRecDepth 100000 in
theorem s52_34 {a : Nat} {x0 : Int32} {x1 : Int32} {b2 : Nat} (hw : xm_wt st ≤ 8) (hq : hp_is M a 5) : rn sc (d + 1) 52 34 [l0, l1, l2] (.ref b2 :: .int x1 :: .int x0 :: .ref a :: st) M Q = rn sc d 53 0 [some (.ref a), some (.int x0), some (.int x1), some (.ref b2), none] [] M (fun r M' => rn sc (d + 1) 52 37 [l0, l1, l2] (r.toList ++ st) M' Q) := ru_d (ru_iv (as := [.ref b2, .int x1, .int x0]) rfl rfl rfl (Nat.le_of_ble_eq_true rfl) hw rfl hq)
set_option maxRecDepth 100000 in
theorem s52_34N {a : Nat} {x0 : Int32} {x1 : Int32} (hw : xm_wt st ≤ 8) (hq : hp_is M a 5) : rn sc (d + 1) 52 34 [l0, l1, l2] (.null :: .int x1 :: .int x0 :: .ref a :: st) M Q = rn sc d 53 0 [some (.ref a), some (.int x0), some (.int x1), some (.null), none] [] M (fun r M' => rn sc (d + 1) 52 37 [l0, l1, l2] (r.toList ++ st) M' Q) := ru_d (ru_iv (as := [.null, .int x1, .int x0]) rfl rfl rfl (Nat.le_of_ble_eq_true rfl) hw rfl hq)
set_option maxRecDepth 100000 in
theorem s52_37 {x : Int32} : rn sc d 52 37 [l0, l1, l2] (.int x :: st) M Q = if ¬ x = 0 then rn sc d 52 42 [l0, l1, l2] st M Q else rn sc d 52 40 [l0, l1, l2] st M Q := ru_if pc_ne rfl (by decide)
set_option maxRecDepth 100000 in
theorem s52_40 : rn sc d 52 40 [l0, l1, l2] st M Q = rn sc d 52 41 [l0, l1, l2] (.int 0 :: st) M Q := ru_k rfl rfl rfl rfl rfl (by decide)
set_option maxRecDepth 100000 in
theorem s52_41 {v : Int32} (h : narrow .boolean (.int v) = .int v) : rn sc d 52 41 [l0, l1, l2] [.int v] M Q = Q (some (.int v)) M := ru_rz rfl rfl h
set_option maxRecDepth 100000 in
theorem s52_42 {a : Nat} : rn sc d 52 42 [some (.ref a), l1, l2] st M Q = rn sc d 52 43 [some (.ref a), l1, l2] (.ref a :: st) M Q := ru_1 rfl rfl rfl rfl rfl
set_option maxRecDepth 100000 in
theorem s52_43 {a : Nat} : rn sc d 52 43 [l0, l1, l2] (.ref a :: st) M Q = rn_o (hp_f M a 6 0) (fun v => rn sc d 52 46 [l0, l1, l2] (v :: st) M Q) := ru_get rfl rfl
set_option maxRecDepth 100000 in
theorem s52_46 : rn sc d 52 46 [l0, l1, l2] st M Q = rn sc d 52 47 [l0, l1, l2] (.int 0 :: st) M Q := ru_k rfl rfl rfl rfl rfl (by decide)
set_option maxRecDepth 100000 in
theorem s52_47 {a : Nat} {v : Value} : rn sc d 52 47 [l0, l1, l2] (v :: .ref a :: st) M Q = rn_o (hp_pf M a 5 1 v) (fun M' => rn sc d 52 50 [l0, l1, l2] st M' Q) := ru_put rfl rfl rfl
set_option maxRecDepth 100000 in
theorem s52_50 : rn sc d 52 50 [l0, l1, l2] st M Q = rn sc d 52 51 [l0, l1, l2] (.int 1 :: st) M Q := ru_k rfl rfl rfl rfl rfl (by decide)
set_option maxRecDepth 100000 in
theorem s52_51 {v : Int32} (h : narrow .boolean (.int v) = .int v) : rn sc d 52 51 [l0, l1, l2] [.int v] M Q = Q (some (.int v)) M := ru_rz rfl rfl h
set_option maxRecDepth 100000 in
theorem s53_0 {a : Nat} : rn sc d 53 0 [some (.ref a), l1, l2, l3, l4] st M Q = rn sc d 53 1 [some (.ref a), l1, l2, l3, l4] (.ref a :: st) M Q := ru_1 rfl rfl rfl rfl rfl
set_option maxRecDepth 100000 in
theorem s53_1 {a : Nat} : rn sc d 53 1 [l0, l1, l2, l3, l4] (.ref a :: st) M Q = rn_o (hp_f M a 5 1) (fun v => rn sc d 53 4 [l0, l1, l2, l3, l4] (v :: st) M Q) := ru_get rfl rfl
set_option maxRecDepth 100000 in
theorem s53_4 {x : Int32} : rn sc d 53 4 [l0, l1, some (.int x), l3, l4] st M Q = rn sc d 53 5 [l0, l1, some (.int x), l3, l4] (.int x :: st) M Q := ru_1 rfl rfl rfl rfl rfl
set_option maxRecDepth 100000 in
theorem s53_5 {u v : Int32} : rn sc d 53 5 [l0, l1, l2, l3, l4] (.int v :: .int u :: st) M Q = rn sc d 53 6 [l0, l1, l2, l3, l4] (.int (u - v) :: st) M Q := ru_1 rfl rfl rfl rfl rfl
set_option maxRecDepth 100000 in
theorem s53_6 {x : Int32} : rn sc d 53 6 [l0, l1, l2, l3, l4] (.int x :: st) M Q = rn sc d 53 8 [l0, l1, l2, l3, some (.int x)] st M Q := ru_1 rfl rfl rfl rfl rfl
set_option maxRecDepth 100000 in
theorem s53_8 {x : Int32} : rn sc d 53 8 [l0, some (.int x), l2, l3, l4] st M Q = rn sc d 53 9 [l0, some (.int x), l2, l3, l4] (.int x :: st) M Q := ru_1 rfl rfl rfl rfl rfl
set_option maxRecDepth 100000 in
theorem s53_9 {x : Int32} : rn sc d 53 9 [l0, l1, l2, l3, l4] (.int x :: st) M Q = if x < 0 then rn sc d 53 36 [l0, l1, l2, l3, l4] st M Q else rn sc d 53 12 [l0, l1, l2, l3, l4] st M Q := ru_if pc_lt rfl (by decide)
set_option maxRecDepth 100000 in
theorem s53_12 {x : Int32} : rn sc d 53 12 [l0, some (.int x), l2, l3, l4] st M Q = rn sc d 53 13 [l0, some (.int x), l2, l3, l4] (.int x :: st) M Q := ru_1 rfl rfl rfl rfl rfl
set_option maxRecDepth 100000 in
theorem s53_13 {x : Int32} : rn sc d 53 13 [l0, l1, some (.int x), l3, l4] st M Q = rn sc d 53 14 [l0, l1, some (.int x), l3, l4] (.int x :: st) M Q := ru_1 rfl rfl rfl rfl rfl
set_option maxRecDepth 100000 in
theorem s53_14 {u v : Int32} : rn sc d 53 14 [l0, l1, l2, l3, l4] (.int v :: .int u :: st) M Q = if v < u then rn sc d 53 36 [l0, l1, l2, l3, l4] st M Q else rn sc d 53 17 [l0, l1, l2, l3, l4] st M Q := ru_ic pc_gt rfl (by decide)
set_option maxRecDepth 100000 in
theorem s53_17 {x : Int32} : rn sc d 53 17 [l0, l1, l2, l3, some (.int x)] st M Q = rn sc d 53 19 [l0, l1, l2, l3, some (.int x)] (.int x :: st) M Q := ru_1 rfl rfl rfl rfl rfl
set_option maxRecDepth 100000 in
theorem s53_19 {x : Int32} : rn sc d 53 19 [l0, l1, l2, l3, l4] (.int x :: st) M Q = if x < 0 then rn sc d 53 36 [l0, l1, l2, l3, l4] st M Q else rn sc d 53 22 [l0, l1, l2, l3, l4] st M Q := ru_if pc_lt rfl (by decide)
set_option maxRecDepth 100000 in
theorem s53_22 {x : Int32} : rn sc d 53 22 [l0, some (.int x), l2, l3, l4] st M Q = rn sc d 53 23 [l0, some (.int x), l2, l3, l4] (.int x :: st) M Q := ru_1 rfl rfl rfl rfl rfl
set_option maxRecDepth 100000 in
theorem s53_23 {a : Nat} : rn sc d 53 23 [l0, l1, l2, some (.ref a), l4] st M Q = rn sc d 53 24 [l0, l1, l2, some (.ref a), l4] (.ref a :: st) M Q := ru_1 rfl rfl rfl rfl rfl
set_option maxRecDepth 100000 in
theorem s53_23N : rn sc d 53 23 [l0, l1, l2, some .null, l4] st M Q = rn sc d 53 24 [l0, l1, l2, some .null, l4] (.null :: st) M Q := ru_1 rfl rfl rfl rfl rfl
set_option maxRecDepth 100000 in
theorem s53_24 {a : Nat} : rn sc d 53 24 [l0, l1, l2, l3, l4] (.ref a :: st) M Q = rn_o (hp_f M a 5 1) (fun v => rn sc d 53 27 [l0, l1, l2, l3, l4] (v :: st) M Q) := ru_get rfl rfl
set_option maxRecDepth 100000 in
theorem s53_27 {u v : Int32} : rn sc d 53 27 [l0, l1, l2, l3, l4] (.int v :: .int u :: st) M Q = rn sc d 53 28 [l0, l1, l2, l3, l4] (.int (u + v) :: st) M Q := ru_1 rfl rfl rfl rfl rfl
set_option maxRecDepth 100000 in
theorem s53_28 {x : Int32} : rn sc d 53 28 [l0, l1, l2, l3, some (.int x)] st M Q = rn sc d 53 30 [l0, l1, l2, l3, some (.int x)] (.int x :: st) M Q := ru_1 rfl rfl rfl rfl rfl
set_option maxRecDepth 100000 in
theorem s53_30 {u v : Int32} : rn sc d 53 30 [l0, l1, l2, l3, l4] (.int v :: .int u :: st) M Q = rn sc d 53 31 [l0, l1, l2, l3, l4] (.int (u + v) :: st) M Q := ru_1 rfl rfl rfl rfl rfl
set_option maxRecDepth 100000 in
theorem s53_31 : rn sc d 53 31 [l0, l1, l2, l3, l4] st M Q = rn sc d 53 33 [l0, l1, l2, l3, l4] (.int 64 :: st) M Q := ru_k rfl rfl rfl rfl rfl (by decide)
set_option maxRecDepth 100000 in
theorem s53_33 {u v : Int32} : rn sc d 53 33 [l0, l1, l2, l3, l4] (.int v :: .int u :: st) M Q = if u ≤ v then rn sc d 53 38 [l0, l1, l2, l3, l4] st M Q else rn sc d 53 36 [l0, l1, l2, l3, l4] st M Q := ru_ic pc_le rfl (by decide)
set_option maxRecDepth 100000 in
theorem s53_36 : rn sc d 53 36 [l0, l1, l2, l3, l4] st M Q = rn sc d 53 37 [l0, l1, l2, l3, l4] (.int 0 :: st) M Q := ru_k rfl rfl rfl rfl rfl (by decide)
set_option maxRecDepth 100000 in
theorem s53_37 {v : Int32} (h : narrow .boolean (.int v) = .int v) : rn sc d 53 37 [l0, l1, l2, l3, l4] [.int v] M Q = Q (some (.int v)) M := ru_rz rfl rfl h
set_option maxRecDepth 100000 in
theorem s53_38 {a : Nat} : rn sc d 53 38 [some (.ref a), l1, l2, l3, l4] st M Q = rn sc d 53 39 [some (.ref a), l1, l2, l3, l4] (.ref a :: st) M Q := ru_1 rfl rfl rfl rfl rfl
set_option maxRecDepth 100000 in
theorem s53_39 {a : Nat} : rn sc d 53 39 [l0, l1, l2, l3, l4] (.ref a :: st) M Q = rn_o (hp_f M a 5 0) (fun v => rn sc d 53 42 [l0, l1, l2, l3, l4] (v :: st) M Q) := ru_get rfl rfl
set_option maxRecDepth 100000 in
theorem s53_42 {x : Int32} : rn sc d 53 42 [l0, l1, some (.int x), l3, l4] st M Q = rn sc d 53 43 [l0, l1, some (.int x), l3, l4] (.int x :: st) M Q := ru_1 rfl rfl rfl rfl rfl
set_option maxRecDepth 100000 in
theorem s53_43 {a : Nat} : rn sc d 53 43 [some (.ref a), l1, l2, l3, l4] st M Q = rn sc d 53 44 [some (.ref a), l1, l2, l3, l4] (.ref a :: st) M Q := ru_1 rfl rfl rfl rfl rfl
set_option maxRecDepth 100000 in
theorem s53_44 {a : Nat} : rn sc d 53 44 [l0, l1, l2, l3, l4] (.ref a :: st) M Q = rn_o (hp_f M a 5 0) (fun v => rn sc d 53 47 [l0, l1, l2, l3, l4] (v :: st) M Q) := ru_get rfl rfl
set_option maxRecDepth 100000 in
theorem s53_47 {x : Int32} : rn sc d 53 47 [l0, some (.int x), l2, l3, l4] st M Q = rn sc d 53 48 [l0, some (.int x), l2, l3, l4] (.int x :: st) M Q := ru_1 rfl rfl rfl rfl rfl
set_option maxRecDepth 100000 in
theorem s53_48 {a : Nat} : rn sc d 53 48 [l0, l1, l2, some (.ref a), l4] st M Q = rn sc d 53 49 [l0, l1, l2, some (.ref a), l4] (.ref a :: st) M Q := ru_1 rfl rfl rfl rfl rfl
set_option maxRecDepth 100000 in
theorem s53_48N : rn sc d 53 48 [l0, l1, l2, some .null, l4] st M Q = rn sc d 53 49 [l0, l1, l2, some .null, l4] (.null :: st) M Q := ru_1 rfl rfl rfl rfl rfl
set_option maxRecDepth 100000 in
theorem s53_49 {a : Nat} : rn sc d 53 49 [l0, l1, l2, l3, l4] (.ref a :: st) M Q = rn_o (hp_f M a 5 1) (fun v => rn sc d 53 52 [l0, l1, l2, l3, l4] (v :: st) M Q) := ru_get rfl rfl
set_option maxRecDepth 100000 in
theorem s53_52 {u v : Int32} : rn sc d 53 52 [l0, l1, l2, l3, l4] (.int v :: .int u :: st) M Q = rn sc d 53 53 [l0, l1, l2, l3, l4] (.int (u + v) :: st) M Q := ru_1 rfl rfl rfl rfl rfl
set_option maxRecDepth 100000 in
theorem s53_53 {x : Int32} : rn sc d 53 53 [l0, l1, l2, l3, some (.int x)] st M Q = rn sc d 53 55 [l0, l1, l2, l3, some (.int x)] (.int x :: st) M Q := ru_1 rfl rfl rfl rfl rfl
set_option maxRecDepth 100000 in
theorem s53_55 {a0 a1 : Nat} {sp dp n : Int32} (hw : xm_wt st ≤ 8) (he : (hp_cp M a0 sp a1 dp n).isSome = true) : rn sc (d + 1) 53 55 [l0, l1, l2, l3, l4] (.int n :: .int dp :: .ref a1 :: .int sp :: .ref a0 :: st) M Q = rn_o (hp_cp M a0 sp a1 dp n) (fun M' => rn sc (d + 1) 53 58 [l0, l1, l2, l3, l4] st M' Q) := ru_cp1 rfl rfl rfl hw he
set_option maxRecDepth 100000 in
theorem s53_58 {a : Nat} : rn sc d 53 58 [l0, l1, l2, some (.ref a), l4] st M Q = rn sc d 53 59 [l0, l1, l2, some (.ref a), l4] (.ref a :: st) M Q := ru_1 rfl rfl rfl rfl rfl
set_option maxRecDepth 100000 in
theorem s53_58N : rn sc d 53 58 [l0, l1, l2, some .null, l4] st M Q = rn sc d 53 59 [l0, l1, l2, some .null, l4] (.null :: st) M Q := ru_1 rfl rfl rfl rfl rfl
set_option maxRecDepth 100000 in
theorem s53_59 {a : Nat} : rn sc d 53 59 [l0, l1, l2, l3, l4] (.ref a :: st) M Q = rn_o (hp_f M a 5 0) (fun v => rn sc d 53 62 [l0, l1, l2, l3, l4] (v :: st) M Q) := ru_get rfl rfl
set_option maxRecDepth 100000 in
theorem s53_62 : rn sc d 53 62 [l0, l1, l2, l3, l4] st M Q = rn sc d 53 63 [l0, l1, l2, l3, l4] (.int 0 :: st) M Q := ru_k rfl rfl rfl rfl rfl (by decide)
set_option maxRecDepth 100000 in
theorem s53_63 {a : Nat} : rn sc d 53 63 [some (.ref a), l1, l2, l3, l4] st M Q = rn sc d 53 64 [some (.ref a), l1, l2, l3, l4] (.ref a :: st) M Q := ru_1 rfl rfl rfl rfl rfl
set_option maxRecDepth 100000 in
theorem s53_64 {a : Nat} : rn sc d 53 64 [l0, l1, l2, l3, l4] (.ref a :: st) M Q = rn_o (hp_f M a 5 0) (fun v => rn sc d 53 67 [l0, l1, l2, l3, l4] (v :: st) M Q) := ru_get rfl rfl
set_option maxRecDepth 100000 in
theorem s53_67 {x : Int32} : rn sc d 53 67 [l0, some (.int x), l2, l3, l4] st M Q = rn sc d 53 68 [l0, some (.int x), l2, l3, l4] (.int x :: st) M Q := ru_1 rfl rfl rfl rfl rfl
set_option maxRecDepth 100000 in
theorem s53_68 {a : Nat} : rn sc d 53 68 [l0, l1, l2, some (.ref a), l4] st M Q = rn sc d 53 69 [l0, l1, l2, some (.ref a), l4] (.ref a :: st) M Q := ru_1 rfl rfl rfl rfl rfl
set_option maxRecDepth 100000 in
theorem s53_68N : rn sc d 53 68 [l0, l1, l2, some .null, l4] st M Q = rn sc d 53 69 [l0, l1, l2, some .null, l4] (.null :: st) M Q := ru_1 rfl rfl rfl rfl rfl
set_option maxRecDepth 100000 in
theorem s53_69 {a : Nat} : rn sc d 53 69 [l0, l1, l2, l3, l4] (.ref a :: st) M Q = rn_o (hp_f M a 5 1) (fun v => rn sc d 53 72 [l0, l1, l2, l3, l4] (v :: st) M Q) := ru_get rfl rfl
set_option maxRecDepth 100000 in
theorem s53_72 {a0 a1 : Nat} {sp dp n : Int32} (hw : xm_wt st ≤ 8) (he : (hp_cp M a0 sp a1 dp n).isSome = true) : rn sc (d + 1) 53 72 [l0, l1, l2, l3, l4] (.int n :: .int dp :: .ref a1 :: .int sp :: .ref a0 :: st) M Q = rn_o (hp_cp M a0 sp a1 dp n) (fun M' => rn sc (d + 1) 53 75 [l0, l1, l2, l3, l4] st M' Q) := ru_cp1 rfl rfl rfl hw he
set_option maxRecDepth 100000 in
theorem s53_75 {a : Nat} : rn sc d 53 75 [some (.ref a), l1, l2, l3, l4] st M Q = rn sc d 53 76 [some (.ref a), l1, l2, l3, l4] (.ref a :: st) M Q := ru_1 rfl rfl rfl rfl rfl
set_option maxRecDepth 100000 in
theorem s53_76 {x : Int32} : rn sc d 53 76 [l0, some (.int x), l2, l3, l4] st M Q = rn sc d 53 77 [l0, some (.int x), l2, l3, l4] (.int x :: st) M Q := ru_1 rfl rfl rfl rfl rfl
set_option maxRecDepth 100000 in
theorem s53_77 {a : Nat} : rn sc d 53 77 [l0, l1, l2, some (.ref a), l4] st M Q = rn sc d 53 78 [l0, l1, l2, some (.ref a), l4] (.ref a :: st) M Q := ru_1 rfl rfl rfl rfl rfl
set_option maxRecDepth 100000 in
theorem s53_77N : rn sc d 53 77 [l0, l1, l2, some .null, l4] st M Q = rn sc d 53 78 [l0, l1, l2, some .null, l4] (.null :: st) M Q := ru_1 rfl rfl rfl rfl rfl
set_option maxRecDepth 100000 in
theorem s53_78 {a : Nat} : rn sc d 53 78 [l0, l1, l2, l3, l4] (.ref a :: st) M Q = rn_o (hp_f M a 5 1) (fun v => rn sc d 53 81 [l0, l1, l2, l3, l4] (v :: st) M Q) := ru_get rfl rfl
set_option maxRecDepth 100000 in
theorem s53_81 {u v : Int32} : rn sc d 53 81 [l0, l1, l2, l3, l4] (.int v :: .int u :: st) M Q = rn sc d 53 82 [l0, l1, l2, l3, l4] (.int (u + v) :: st) M Q := ru_1 rfl rfl rfl rfl rfl
set_option maxRecDepth 100000 in
theorem s53_82 {x : Int32} : rn sc d 53 82 [l0, l1, l2, l3, some (.int x)] st M Q = rn sc d 53 84 [l0, l1, l2, l3, some (.int x)] (.int x :: st) M Q := ru_1 rfl rfl rfl rfl rfl
set_option maxRecDepth 100000 in
theorem s53_84 {u v : Int32} : rn sc d 53 84 [l0, l1, l2, l3, l4] (.int v :: .int u :: st) M Q = rn sc d 53 85 [l0, l1, l2, l3, l4] (.int (u + v) :: st) M Q := ru_1 rfl rfl rfl rfl rfl
set_option maxRecDepth 100000 in
theorem s53_85 {a : Nat} {v : Value} : rn sc d 53 85 [l0, l1, l2, l3, l4] (v :: .ref a :: st) M Q = rn_o (hp_pf M a 5 1 v) (fun M' => rn sc d 53 88 [l0, l1, l2, l3, l4] st M' Q) := ru_put rfl rfl rfl
set_option maxRecDepth 100000 in
theorem s53_88 : rn sc d 53 88 [l0, l1, l2, l3, l4] st M Q = rn sc d 53 89 [l0, l1, l2, l3, l4] (.int 1 :: st) M Q := ru_k rfl rfl rfl rfl rfl (by decide)
set_option maxRecDepth 100000 in
theorem s53_89 {v : Int32} (h : narrow .boolean (.int v) = .int v) : rn sc d 53 89 [l0, l1, l2, l3, l4] [.int v] M Q = Q (some (.int v)) M := ru_rz rfl rfl h
end
