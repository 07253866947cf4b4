section
variable {sc : xm_Sc} {d : Nat} {st : List Value} {M : xm_M} {Q : Option Value → xm_M → Prop} {l0 l1 l2 l3 l4 l5 l6 l7 l8 : Option Value}
set_option maxRecDepth 100000 in
theorem s54_0 {a : Nat} : rn sc d 54 0 [some (.ref a)] st M Q = rn sc d 54 1 [some (.ref a)] (.ref a :: st) M Q := ru_1 rfl rfl rfl rfl rfl
set_option maxRecDepth 100000 in
theorem s54_1 {a : Nat} (hw : xm_wt st ≤ 8) : rn sc (d + 1) 54 1 [l0] (.ref a :: st) M Q = rn sc (d + 1) 54 4 [l0] st M Q := ru_oi1 rfl rfl rfl hw
set_option maxRecDepth 100000 in
theorem s54_4 {a : Nat} : rn sc d 54 4 [some (.ref a)] st M Q = rn sc d 54 5 [some (.ref a)] (.ref a :: st) M Q := ru_1 rfl rfl rfl rfl rfl
set_option maxRecDepth 100000 in
theorem s54_5 : rn sc d 54 5 [l0] st M Q = rn sc d 54 7 [l0] (.int 64 :: st) M Q := ru_k rfl rfl rfl rfl rfl (by decide)
set_option maxRecDepth 100000 in
theorem s54_7 : rn sc d 54 7 [l0] (.int 64 :: st) M Q = rn sc d 54 9 [l0] (.ref M.1 :: st) (xm_new M 64 (.inl (1, 64, .inl (fun _ => 0)))) Q := ru_newb rfl (by decide)
set_option maxRecDepth 100000 in
theorem s54_9 {a : Nat} {v : Value} : rn sc d 54 9 [l0] (v :: .ref a :: st) M Q = rn_o (hp_pf M a 7 1 v) (fun M' => rn sc d 54 12 [l0] st M' Q) := ru_put rfl rfl rfl
set_option maxRecDepth 100000 in
theorem s54_12 {a : Nat} : rn sc d 54 12 [some (.ref a)] st M Q = rn sc d 54 13 [some (.ref a)] (.ref a :: st) M Q := ru_1 rfl rfl rfl rfl rfl
set_option maxRecDepth 100000 in
theorem s54_13 : rn sc d 54 13 [l0] st M Q = rn sc d 54 16 [l0] (.int 512 :: st) M Q := ru_k rfl rfl rfl rfl rfl (by decide)
set_option maxRecDepth 100000 in
theorem s54_16 : rn sc d 54 16 [l0] (.int 512 :: st) M Q = rn sc d 54 18 [l0] (.ref M.1 :: st) (xm_new M 512 (.inl (1, 512, .inl (fun _ => 0)))) Q := ru_newb rfl (by decide)
set_option maxRecDepth 100000 in
theorem s54_18 {a : Nat} {v : Value} : rn sc d 54 18 [l0] (v :: .ref a :: st) M Q = rn_o (hp_pf M a 7 3 v) (fun M' => rn sc d 54 21 [l0] st M' Q) := ru_put rfl rfl rfl
set_option maxRecDepth 100000 in
theorem s54_21 {a : Nat} : rn sc d 54 21 [some (.ref a)] st M Q = rn sc d 54 22 [some (.ref a)] (.ref a :: st) M Q := ru_1 rfl rfl rfl rfl rfl
set_option maxRecDepth 100000 in
theorem s54_22 : rn sc d 54 22 [l0] st M Q = rn sc d 54 24 [l0] (.int 8 :: st) M Q := ru_k rfl rfl rfl rfl rfl (by decide)
set_option maxRecDepth 100000 in
theorem s54_24 : rn sc d 54 24 [l0] (.int 8 :: st) M Q = rn sc d 54 26 [l0] (.ref M.1 :: st) (xm_new M 8 (.inl (0, 8, .inl (fun _ => 0)))) Q := ru_newi rfl (by decide)
set_option maxRecDepth 100000 in
theorem s54_26 {a : Nat} {v : Value} : rn sc d 54 26 [l0] (v :: .ref a :: st) M Q = rn_o (hp_pf M a 7 4 v) (fun M' => rn sc d 54 29 [l0] st M' Q) := ru_put rfl rfl rfl
set_option maxRecDepth 100000 in
theorem s54_29 {a : Nat} : rn sc d 54 29 [some (.ref a)] st M Q = rn sc d 54 30 [some (.ref a)] (.ref a :: st) M Q := ru_1 rfl rfl rfl rfl rfl
set_option maxRecDepth 100000 in
theorem s54_30 : rn sc d 54 30 [l0] st M Q = rn sc d 54 32 [l0] (.int 64 :: st) M Q := ru_k rfl rfl rfl rfl rfl (by decide)
set_option maxRecDepth 100000 in
theorem s54_32 : rn sc d 54 32 [l0] (.int 64 :: st) M Q = rn sc d 54 34 [l0] (.ref M.1 :: st) (xm_new M 64 (.inl (0, 64, .inl (fun _ => 0)))) Q := ru_newi rfl (by decide)
set_option maxRecDepth 100000 in
theorem s54_34 {a : Nat} {v : Value} : rn sc d 54 34 [l0] (v :: .ref a :: st) M Q = rn_o (hp_pf M a 7 6 v) (fun M' => rn sc d 54 37 [l0] st M' Q) := ru_put rfl rfl rfl
set_option maxRecDepth 100000 in
theorem s54_37 {a : Nat} : rn sc d 54 37 [some (.ref a)] st M Q = rn sc d 54 38 [some (.ref a)] (.ref a :: st) M Q := ru_1 rfl rfl rfl rfl rfl
set_option maxRecDepth 100000 in
theorem s54_38 : rn sc d 54 38 [l0] st M Q = rn sc d 54 40 [l0] (.int 64 :: st) M Q := ru_k rfl rfl rfl rfl rfl (by decide)
set_option maxRecDepth 100000 in
theorem s54_40 : rn sc d 54 40 [l0] (.int 64 :: st) M Q = rn sc d 54 42 [l0] (.ref M.1 :: st) (xm_new M 64 (.inl (0, 64, .inl (fun _ => 0)))) Q := ru_newi rfl (by decide)
set_option maxRecDepth 100000 in
theorem s54_42 {a : Nat} {v : Value} : rn sc d 54 42 [l0] (v :: .ref a :: st) M Q = rn_o (hp_pf M a 7 7 v) (fun M' => rn sc d 54 45 [l0] st M' Q) := ru_put rfl rfl rfl
set_option maxRecDepth 100000 in
theorem s54_45 {a : Nat} : rn sc d 54 45 [some (.ref a)] st M Q = rn sc d 54 46 [some (.ref a)] (.ref a :: st) M Q := ru_1 rfl rfl rfl rfl rfl
set_option maxRecDepth 100000 in
theorem s54_46 : rn sc d 54 46 [l0] st M Q = rn sc d 54 48 [l0] (.int 64 :: st) M Q := ru_k rfl rfl rfl rfl rfl (by decide)
set_option maxRecDepth 100000 in
theorem s54_48 : rn sc d 54 48 [l0] (.int 64 :: st) M Q = rn sc d 54 50 [l0] (.ref M.1 :: st) (xm_new M 64 (.inl (0, 64, .inl (fun _ => 0)))) Q := ru_newi rfl (by decide)
set_option maxRecDepth 100000 in
theorem s54_50 {a : Nat} {v : Value} : rn sc d 54 50 [l0] (v :: .ref a :: st) M Q = rn_o (hp_pf M a 7 8 v) (fun M' => rn sc d 54 53 [l0] st M' Q) := ru_put rfl rfl rfl
set_option maxRecDepth 100000 in
theorem s54_53 {a : Nat} : rn sc d 54 53 [some (.ref a)] st M Q = rn sc d 54 54 [some (.ref a)] (.ref a :: st) M Q := ru_1 rfl rfl rfl rfl rfl
set_option maxRecDepth 100000 in
theorem s54_54 : rn sc d 54 54 [l0] st M Q = rn sc d 54 57 [l0] (.int 4096 :: st) M Q := ru_k rfl rfl rfl rfl rfl (by decide)
set_option maxRecDepth 100000 in
theorem s54_57 : rn sc d 54 57 [l0] (.int 4096 :: st) M Q = rn sc d 54 59 [l0] (.ref M.1 :: st) (xm_new M 4096 (.inl (1, 4096, .inl (fun _ => 0)))) Q := ru_newb rfl (by decide)
set_option maxRecDepth 100000 in
theorem s54_59 {a : Nat} {v : Value} : rn sc d 54 59 [l0] (v :: .ref a :: st) M Q = rn_o (hp_pf M a 7 9 v) (fun M' => rn sc d 54 62 [l0] st M' Q) := ru_put rfl rfl rfl
set_option maxRecDepth 100000 in
theorem s54_62 {a : Nat} : rn sc d 54 62 [some (.ref a)] st M Q = rn sc d 54 63 [some (.ref a)] (.ref a :: st) M Q := ru_1 rfl rfl rfl rfl rfl
set_option maxRecDepth 100000 in
theorem s54_63 : rn sc d 54 63 [l0] st M Q = rn sc d 54 65 [l0] (.int 64 :: st) M Q := ru_k rfl rfl rfl rfl rfl (by decide)
set_option maxRecDepth 100000 in
theorem s54_65 : rn sc d 54 65 [l0] (.int 64 :: st) M Q = rn sc d 54 67 [l0] (.ref M.1 :: st) (xm_new M 64 (.inl (0, 64, .inl (fun _ => 0)))) Q := ru_newi rfl (by decide)
set_option maxRecDepth 100000 in
theorem s54_67 {a : Nat} {v : Value} : rn sc d 54 67 [l0] (v :: .ref a :: st) M Q = rn_o (hp_pf M a 7 10 v) (fun M' => rn sc d 54 70 [l0] st M' Q) := ru_put rfl rfl rfl
set_option maxRecDepth 100000 in
theorem s54_70 {a : Nat} : rn sc d 54 70 [some (.ref a)] st M Q = rn sc d 54 71 [some (.ref a)] (.ref a :: st) M Q := ru_1 rfl rfl rfl rfl rfl
set_option maxRecDepth 100000 in
theorem s54_71 : rn sc d 54 71 [l0] st M Q = rn sc d 54 73 [l0] (.int 64 :: st) M Q := ru_k rfl rfl rfl rfl rfl (by decide)
set_option maxRecDepth 100000 in
theorem s54_73 : rn sc d 54 73 [l0] (.int 64 :: st) M Q = rn sc d 54 75 [l0] (.ref M.1 :: st) (xm_new M 64 (.inl (1, 64, .inl (fun _ => 0)))) Q := ru_newb rfl (by decide)
set_option maxRecDepth 100000 in
theorem s54_75 {a : Nat} {v : Value} : rn sc d 54 75 [l0] (v :: .ref a :: st) M Q = rn_o (hp_pf M a 7 15 v) (fun M' => rn sc d 54 78 [l0] st M' Q) := ru_put rfl rfl rfl
set_option maxRecDepth 100000 in
theorem s54_78 {a : Nat} : rn sc d 54 78 [some (.ref a)] st M Q = rn sc d 54 79 [some (.ref a)] (.ref a :: st) M Q := ru_1 rfl rfl rfl rfl rfl
set_option maxRecDepth 100000 in
theorem s54_79 : rn sc d 54 79 [l0] st M Q = rn sc d 54 82 [l0] (.int 3000 :: st) M Q := ru_k rfl rfl rfl rfl rfl (by decide)
set_option maxRecDepth 100000 in
theorem s54_82 : rn sc d 54 82 [l0] (.int 3000 :: st) M Q = rn sc d 54 84 [l0] (.ref M.1 :: st) (xm_new M 3000 (.inl (0, 3000, .inl (fun _ => 0)))) Q := ru_newi rfl (by decide)
set_option maxRecDepth 100000 in
theorem s54_84 {a : Nat} {v : Value} : rn sc d 54 84 [l0] (v :: .ref a :: st) M Q = rn_o (hp_pf M a 7 17 v) (fun M' => rn sc d 54 87 [l0] st M' Q) := ru_put rfl rfl rfl
set_option maxRecDepth 100000 in
theorem s54_87 {a : Nat} : rn sc d 54 87 [some (.ref a)] st M Q = rn sc d 54 88 [some (.ref a)] (.ref a :: st) M Q := ru_1 rfl rfl rfl rfl rfl
set_option maxRecDepth 100000 in
theorem s54_88 : rn sc d 54 88 [l0] st M Q = rn sc d 54 91 [l0] (.int 3000 :: st) M Q := ru_k rfl rfl rfl rfl rfl (by decide)
set_option maxRecDepth 100000 in
theorem s54_91 : rn sc d 54 91 [l0] (.int 3000 :: st) M Q = rn sc d 54 93 [l0] (.ref M.1 :: st) (xm_new M 3000 (.inl (0, 3000, .inl (fun _ => 0)))) Q := ru_newi rfl (by decide)
set_option maxRecDepth 100000 in
theorem s54_93 {a : Nat} {v : Value} : rn sc d 54 93 [l0] (v :: .ref a :: st) M Q = rn_o (hp_pf M a 7 18 v) (fun M' => rn sc d 54 96 [l0] st M' Q) := ru_put rfl rfl rfl
set_option maxRecDepth 100000 in
theorem s54_96 {a : Nat} : rn sc d 54 96 [some (.ref a)] st M Q = rn sc d 54 97 [some (.ref a)] (.ref a :: st) M Q := ru_1 rfl rfl rfl rfl rfl
set_option maxRecDepth 100000 in
theorem s54_97 : rn sc d 54 97 [l0] st M Q = rn sc d 54 100 [l0] (.int 3000 :: st) M Q := ru_k rfl rfl rfl rfl rfl (by decide)
set_option maxRecDepth 100000 in
theorem s54_100 : rn sc d 54 100 [l0] (.int 3000 :: st) M Q = rn sc d 54 102 [l0] (.ref M.1 :: st) (xm_new M 3000 (.inl (0, 3000, .inl (fun _ => 0)))) Q := ru_newi rfl (by decide)
set_option maxRecDepth 100000 in
theorem s54_102 {a : Nat} {v : Value} : rn sc d 54 102 [l0] (v :: .ref a :: st) M Q = rn_o (hp_pf M a 7 19 v) (fun M' => rn sc d 54 105 [l0] st M' Q) := ru_put rfl rfl rfl
set_option maxRecDepth 100000 in
theorem s54_105 {a : Nat} : rn sc d 54 105 [some (.ref a)] st M Q = rn sc d 54 106 [some (.ref a)] (.ref a :: st) M Q := ru_1 rfl rfl rfl rfl rfl
set_option maxRecDepth 100000 in
theorem s54_106 : rn sc d 54 106 [l0] st M Q = rn sc d 54 109 [l0] (.int 3000 :: st) M Q := ru_k rfl rfl rfl rfl rfl (by decide)
set_option maxRecDepth 100000 in
theorem s54_109 : rn sc d 54 109 [l0] (.int 3000 :: st) M Q = rn sc d 54 111 [l0] (.ref M.1 :: st) (xm_new M 3000 (.inl (0, 3000, .inl (fun _ => 0)))) Q := ru_newi rfl (by decide)
set_option maxRecDepth 100000 in
theorem s54_111 {a : Nat} {v : Value} : rn sc d 54 111 [l0] (v :: .ref a :: st) M Q = rn_o (hp_pf M a 7 20 v) (fun M' => rn sc d 54 114 [l0] st M' Q) := ru_put rfl rfl rfl
set_option maxRecDepth 100000 in
theorem s54_114 {a : Nat} : rn sc d 54 114 [some (.ref a)] st M Q = rn sc d 54 115 [some (.ref a)] (.ref a :: st) M Q := ru_1 rfl rfl rfl rfl rfl
set_option maxRecDepth 100000 in
theorem s54_115 : rn sc d 54 115 [l0] st M Q = rn sc d 54 118 [l0] (.int 3000 :: st) M Q := ru_k rfl rfl rfl rfl rfl (by decide)
set_option maxRecDepth 100000 in
theorem s54_118 : rn sc d 54 118 [l0] (.int 3000 :: st) M Q = rn sc d 54 120 [l0] (.ref M.1 :: st) (xm_new M 3000 (.inl (0, 3000, .inl (fun _ => 0)))) Q := ru_newi rfl (by decide)
set_option maxRecDepth 100000 in
theorem s54_120 {a : Nat} {v : Value} : rn sc d 54 120 [l0] (v :: .ref a :: st) M Q = rn_o (hp_pf M a 7 21 v) (fun M' => rn sc d 54 123 [l0] st M' Q) := ru_put rfl rfl rfl
set_option maxRecDepth 100000 in
theorem s54_123 {a : Nat} : rn sc d 54 123 [some (.ref a)] st M Q = rn sc d 54 124 [some (.ref a)] (.ref a :: st) M Q := ru_1 rfl rfl rfl rfl rfl
set_option maxRecDepth 100000 in
theorem s54_124 : rn sc d 54 124 [l0] st M Q = rn sc d 54 127 [l0] (.int 3000 :: st) M Q := ru_k rfl rfl rfl rfl rfl (by decide)
set_option maxRecDepth 100000 in
theorem s54_127 : rn sc d 54 127 [l0] (.int 3000 :: st) M Q = rn sc d 54 129 [l0] (.ref M.1 :: st) (xm_new M 3000 (.inl (0, 3000, .inl (fun _ => 0)))) Q := ru_newi rfl (by decide)
set_option maxRecDepth 100000 in
theorem s54_129 {a : Nat} {v : Value} : rn sc d 54 129 [l0] (v :: .ref a :: st) M Q = rn_o (hp_pf M a 7 22 v) (fun M' => rn sc d 54 132 [l0] st M' Q) := ru_put rfl rfl rfl
set_option maxRecDepth 100000 in
theorem s54_132 {a : Nat} : rn sc d 54 132 [some (.ref a)] st M Q = rn sc d 54 133 [some (.ref a)] (.ref a :: st) M Q := ru_1 rfl rfl rfl rfl rfl
set_option maxRecDepth 100000 in
theorem s54_133 : rn sc d 54 133 [l0] st M Q = rn sc d 54 136 [l0] (.int 3000 :: st) M Q := ru_k rfl rfl rfl rfl rfl (by decide)
set_option maxRecDepth 100000 in
theorem s54_136 : rn sc d 54 136 [l0] (.int 3000 :: st) M Q = rn sc d 54 138 [l0] (.ref M.1 :: st) (xm_new M 3000 (.inl (2, 3000, .inl (fun _ => 0)))) Q := ru_newz rfl (by decide)
set_option maxRecDepth 100000 in
theorem s54_138 {a : Nat} {v : Value} : rn sc d 54 138 [l0] (v :: .ref a :: st) M Q = rn_o (hp_pf M a 7 23 v) (fun M' => rn sc d 54 141 [l0] st M' Q) := ru_put rfl rfl rfl
set_option maxRecDepth 100000 in
theorem s54_141 {a : Nat} : rn sc d 54 141 [some (.ref a)] st M Q = rn sc d 54 142 [some (.ref a)] (.ref a :: st) M Q := ru_1 rfl rfl rfl rfl rfl
set_option maxRecDepth 100000 in
theorem s54_142 : rn sc d 54 142 [l0] st M Q = rn sc d 54 145 [l0] (.int 3000 :: st) M Q := ru_k rfl rfl rfl rfl rfl (by decide)
set_option maxRecDepth 100000 in
theorem s54_145 : rn sc d 54 145 [l0] (.int 3000 :: st) M Q = rn sc d 54 147 [l0] (.ref M.1 :: st) (xm_new M 3000 (.inl (0, 3000, .inl (fun _ => 0)))) Q := ru_newi rfl (by decide)
set_option maxRecDepth 100000 in
theorem s54_147 {a : Nat} {v : Value} : rn sc d 54 147 [l0] (v :: .ref a :: st) M Q = rn_o (hp_pf M a 7 24 v) (fun M' => rn sc d 54 150 [l0] st M' Q) := ru_put rfl rfl rfl
set_option maxRecDepth 100000 in
theorem s54_150 {a : Nat} : rn sc d 54 150 [some (.ref a)] st M Q = rn sc d 54 151 [some (.ref a)] (.ref a :: st) M Q := ru_1 rfl rfl rfl rfl rfl
set_option maxRecDepth 100000 in
theorem s54_151 : rn sc d 54 151 [l0] st M Q = rn sc d 54 154 [l0] (.int 3000 :: st) M Q := ru_k rfl rfl rfl rfl rfl (by decide)
set_option maxRecDepth 100000 in
theorem s54_154 : rn sc d 54 154 [l0] (.int 3000 :: st) M Q = rn sc d 54 156 [l0] (.ref M.1 :: st) (xm_new M 3000 (.inl (0, 3000, .inl (fun _ => 0)))) Q := ru_newi rfl (by decide)
set_option maxRecDepth 100000 in
theorem s54_156 {a : Nat} {v : Value} : rn sc d 54 156 [l0] (v :: .ref a :: st) M Q = rn_o (hp_pf M a 7 30 v) (fun M' => rn sc d 54 159 [l0] st M' Q) := ru_put rfl rfl rfl
set_option maxRecDepth 100000 in
theorem s54_159 : rn sc d 54 159 [l0] [] M Q = Q none M := rn_ret rfl rfl rfl
set_option maxRecDepth 100000 in
theorem s55_0 {a : Nat} : rn sc d 55 0 [some (.ref a), l1] st M Q = rn sc d 55 1 [some (.ref a), l1] (.ref a :: st) M Q := ru_1 rfl rfl rfl rfl rfl
set_option maxRecDepth 100000 in
theorem s55_1 : rn sc d 55 1 [l0, l1] st M Q = rn sc d 55 2 [l0, l1] (.int 0 :: st) M Q := ru_k rfl rfl rfl rfl rfl (by decide)
set_option maxRecDepth 100000 in
theorem s55_2 {a : Nat} {v : Value} : rn sc d 55 2 [l0, l1] (v :: .ref a :: st) M Q = rn_o (hp_pf M a 7 0 v) (fun M' => rn sc d 55 5 [l0, l1] st M' Q) := ru_put rfl rfl rfl
set_option maxRecDepth 100000 in
theorem s55_5 {a : Nat} : rn sc d 55 5 [some (.ref a), l1] st M Q = rn sc d 55 6 [some (.ref a), l1] (.ref a :: st) M Q := ru_1 rfl rfl rfl rfl rfl
set_option maxRecDepth 100000 in
theorem s55_6 {a : Nat} : rn sc d 55 6 [l0, l1] (.ref a :: st) M Q = rn_o (hp_f M a 7 2) (fun v => rn sc d 55 9 [l0, l1] (v :: st) M Q) := ru_get rfl rfl
set_option maxRecDepth 100000 in
theorem s55_9 : rn sc d 55 9 [l0, l1] st M Q = rn sc d 55 11 [l0, l1] (.int 64 :: st) M Q := ru_k rfl rfl rfl rfl rfl (by decide)
set_option maxRecDepth 100000 in
theorem s55_11 {u v : Int32} : rn sc d 55 11 [l0, l1] (.int v :: .int u :: st) M Q = if ¬ u = v then rn sc d 55 16 [l0, l1] st M Q else rn sc d 55 14 [l0, l1] st M Q := ru_ic pc_ne rfl (by decide)
set_option maxRecDepth 100000 in
theorem s55_14 : rn sc d 55 14 [l0, l1] st M Q = rn sc d 55 15 [l0, l1] (.int (-1) :: st) M Q := ru_k rfl rfl rfl rfl rfl (by decide)
set_option maxRecDepth 100000 in
theorem s55_15 {v : Int32} : rn sc d 55 15 [l0, l1] [.int v] M Q = Q (some (.int v)) M := ru_ri rfl rfl
set_option maxRecDepth 100000 in
theorem s55_16 {a : Nat} : rn sc d 55 16 [some (.ref a), l1] st M Q = rn sc d 55 17 [some (.ref a), l1] (.ref a :: st) M Q := ru_1 rfl rfl rfl rfl rfl
set_option maxRecDepth 100000 in
theorem s55_17 {a : Nat} : rn sc d 55 17 [l0, l1] (.ref a :: st) M Q = rn_o (hp_f M a 7 1) (fun v => rn sc d 55 20 [l0, l1] (v :: st) M Q) := ru_get rfl rfl
set_option maxRecDepth 100000 in
theorem s55_20 {a : Nat} : rn sc d 55 20 [some (.ref a), l1] st M Q = rn sc d 55 21 [some (.ref a), l1] (.ref a :: st) M Q := ru_1 rfl rfl rfl rfl rfl
set_option maxRecDepth 100000 in
theorem s55_21 {a : Nat} : rn sc d 55 21 [l0, l1] (.ref a :: st) M Q = rn_o (hp_f M a 7 2) (fun v => rn sc d 55 24 [l0, l1] (v :: st) M Q) := ru_get rfl rfl
set_option maxRecDepth 100000 in
theorem s55_24 {x : Int32} : rn sc d 55 24 [l0, some (.int x)] st M Q = rn sc d 55 25 [l0, some (.int x)] (.int x :: st) M Q := ru_1 rfl rfl rfl rfl rfl
set_option maxRecDepth 100000 in
theorem s55_25 {u : Int32} : rn sc d 55 25 [l0, l1] (.int u :: st) M Q = rn sc d 55 26 [l0, l1] (.int u.toInt8.toInt32 :: st) M Q := ru_1 rfl rfl rfl rfl rfl
set_option maxRecDepth 100000 in
theorem s55_26 {a : Nat} {j x : Int32} : rn sc d 55 26 [l0, l1] (.int x :: .int j :: .ref a :: st) M Q = rn_o (hp_pb M a j x) (fun M' => rn sc d 55 27 [l0, l1] st M' Q) := ru_bast rfl
set_option maxRecDepth 100000 in
theorem s55_27 {a : Nat} : rn sc d 55 27 [some (.ref a), l1] st M Q = rn sc d 55 28 [some (.ref a), l1] (.ref a :: st) M Q := ru_1 rfl rfl rfl rfl rfl
set_option maxRecDepth 100000 in
theorem s55_28 {a : Nat} : rn sc d 55 28 [l0, l1] (.ref a :: st) M Q = rn sc d 55 29 [l0, l1] (.ref a :: .ref a :: st) M Q := ru_1 rfl rfl rfl rfl rfl
set_option maxRecDepth 100000 in
theorem s55_28I {x : Int32} : rn sc d 55 28 [l0, l1] (.int x :: st) M Q = rn sc d 55 29 [l0, l1] (.int x :: .int x :: st) M Q := ru_1 rfl rfl rfl rfl rfl
set_option maxRecDepth 100000 in
theorem s55_29 {a : Nat} : rn sc d 55 29 [l0, l1] (.ref a :: st) M Q = rn_o (hp_f M a 7 2) (fun v => rn sc d 55 32 [l0, l1] (v :: st) M Q) := ru_get rfl rfl
set_option maxRecDepth 100000 in
theorem s55_32 : rn sc d 55 32 [l0, l1] st M Q = rn sc d 55 33 [l0, l1] (.int 1 :: st) M Q := ru_k rfl rfl rfl rfl rfl (by decide)
set_option maxRecDepth 100000 in
theorem s55_33 {u v : Int32} : rn sc d 55 33 [l0, l1] (.int v :: .int u :: st) M Q = rn sc d 55 34 [l0, l1] (.int (u + v) :: st) M Q := ru_1 rfl rfl rfl rfl rfl
set_option maxRecDepth 100000 in
theorem s55_34 {a : Nat} {v : Value} : rn sc d 55 34 [l0, l1] (v :: .ref a :: st) M Q = rn_o (hp_pf M a 7 2 v) (fun M' => rn sc d 55 37 [l0, l1] st M' Q) := ru_put rfl rfl rfl
set_option maxRecDepth 100000 in
theorem s55_37 {a : Nat} : rn sc d 55 37 [some (.ref a), l1] st M Q = rn sc d 55 38 [some (.ref a), l1] (.ref a :: st) M Q := ru_1 rfl rfl rfl rfl rfl
set_option maxRecDepth 100000 in
theorem s55_38 {a : Nat} : rn sc d 55 38 [l0, l1] (.ref a :: st) M Q = rn_o (hp_f M a 7 2) (fun v => rn sc d 55 41 [l0, l1] (v :: st) M Q) := ru_get rfl rfl
set_option maxRecDepth 100000 in
theorem s55_41 {v : Int32} : rn sc d 55 41 [l0, l1] [.int v] M Q = Q (some (.int v)) M := ru_ri rfl rfl
set_option maxRecDepth 100000 in
theorem s56_0 {a : Nat} : rn sc d 56 0 [some (.ref a), l1, l2] st M Q = rn sc d 56 1 [some (.ref a), l1, l2] (.ref a :: st) M Q := ru_1 rfl rfl rfl rfl rfl
set_option maxRecDepth 100000 in
theorem s56_1 : rn sc d 56 1 [l0, l1, l2] st M Q = rn sc d 56 2 [l0, l1, l2] (.int 0 :: st) M Q := ru_k rfl rfl rfl rfl rfl (by decide)
set_option maxRecDepth 100000 in
theorem s56_2 {a : Nat} {v : Value} : rn sc d 56 2 [l0, l1, l2] (v :: .ref a :: st) M Q = rn_o (hp_pf M a 7 0 v) (fun M' => rn sc d 56 5 [l0, l1, l2] st M' Q) := ru_put rfl rfl rfl
set_option maxRecDepth 100000 in
theorem s56_5 {x : Int32} : rn sc d 56 5 [l0, some (.int x), l2] st M Q = rn sc d 56 6 [l0, some (.int x), l2] (.int x :: st) M Q := ru_1 rfl rfl rfl rfl rfl
set_option maxRecDepth 100000 in
theorem s56_6 {x0 : Int32} (hw : xm_wt st ≤ 8) : rn sc (d + 1) 56 6 [l0, l1, l2] (.int x0 :: st) M Q = rn sc d 57 0 [some (.int x0)] [] M (fun r M' => rn sc (d + 1) 56 9 [l0, l1, l2] (r.toList ++ st) M' Q) := ru_d (ru_st (as := [.int x0]) rfl rfl rfl (Nat.le_of_ble_eq_true rfl) hw rfl)
set_option maxRecDepth 100000 in
theorem s56_9 {x : Int32} : rn sc d 56 9 [l0, l1, l2] (.int x :: st) M Q = if ¬ x = 0 then rn sc d 56 14 [l0, l1, l2] st M Q else rn sc d 56 12 [l0, l1, l2] st M Q := ru_if pc_ne rfl (by decide)
set_option maxRecDepth 100000 in
theorem s56_12 : rn sc d 56 12 [l0, l1, l2] st M Q = rn sc d 56 13 [l0, l1, l2] (.int 0 :: st) M Q := ru_k rfl rfl rfl rfl rfl (by decide)
set_option maxRecDepth 100000 in
theorem s56_13 {v : Int32} (h : narrow .boolean (.int v) = .int v) : rn sc d 56 13 [l0, l1, l2] [.int v] M Q = Q (some (.int v)) M := ru_rz rfl rfl h
set_option maxRecDepth 100000 in
theorem s56_14 : rn sc d 56 14 [l0, l1, l2] st M Q = rn sc d 56 15 [l0, l1, l2] (.int 0 :: st) M Q := ru_k rfl rfl rfl rfl rfl (by decide)
set_option maxRecDepth 100000 in
theorem s56_15 {x : Int32} : rn sc d 56 15 [l0, l1, l2] (.int x :: st) M Q = rn sc d 56 16 [l0, l1, some (.int x)] st M Q := ru_1 rfl rfl rfl rfl rfl
set_option maxRecDepth 100000 in
theorem s56_16 {x : Int32} : rn sc d 56 16 [l0, l1, some (.int x)] st M Q = rn sc d 56 17 [l0, l1, some (.int x)] (.int x :: st) M Q := ru_1 rfl rfl rfl rfl rfl
set_option maxRecDepth 100000 in
theorem s56_17 {a : Nat} : rn sc d 56 17 [some (.ref a), l1, l2] st M Q = rn sc d 56 18 [some (.ref a), l1, l2] (.ref a :: st) M Q := ru_1 rfl rfl rfl rfl rfl
set_option maxRecDepth 100000 in
theorem s56_18 {a : Nat} : rn sc d 56 18 [l0, l1, l2] (.ref a :: st) M Q = rn_o (hp_f M a 7 2) (fun v => rn sc d 56 21 [l0, l1, l2] (v :: st) M Q) := ru_get rfl rfl
set_option maxRecDepth 100000 in
theorem s56_21 {u v : Int32} : rn sc d 56 21 [l0, l1, l2] (.int v :: .int u :: st) M Q = if v ≤ u then rn sc d 56 47 [l0, l1, l2] st M Q else rn sc d 56 24 [l0, l1, l2] st M Q := ru_ic pc_ge rfl (by decide)
set_option maxRecDepth 100000 in
theorem s56_24 {a : Nat} : rn sc d 56 24 [some (.ref a), l1, l2] st M Q = rn sc d 56 25 [some (.ref a), l1, l2] (.ref a :: st) M Q := ru_1 rfl rfl rfl rfl rfl
set_option maxRecDepth 100000 in
theorem s56_25 {a : Nat} : rn sc d 56 25 [l0, l1, l2] (.ref a :: st) M Q = rn_o (hp_f M a 7 3) (fun v => rn sc d 56 28 [l0, l1, l2] (v :: st) M Q) := ru_get rfl rfl
set_option maxRecDepth 100000 in
theorem s56_28 : rn sc d 56 28 [l0, l1, l2] st M Q = rn sc d 56 30 [l0, l1, l2] (.int 64 :: st) M Q := ru_k rfl rfl rfl rfl rfl (by decide)
set_option maxRecDepth 100000 in
theorem s56_30 {x : Int32} : rn sc d 56 30 [l0, some (.int x), l2] st M Q = rn sc d 56 31 [l0, some (.int x), l2] (.int x :: st) M Q := ru_1 rfl rfl rfl rfl rfl
set_option maxRecDepth 100000 in
theorem s56_31 {u v : Int32} : rn sc d 56 31 [l0, l1, l2] (.int v :: .int u :: st) M Q = rn sc d 56 32 [l0, l1, l2] (.int (u * v) :: st) M Q := ru_1 rfl rfl rfl rfl rfl
set_option maxRecDepth 100000 in
theorem s56_32 {x : Int32} : rn sc d 56 32 [l0, l1, some (.int x)] st M Q = rn sc d 56 33 [l0, l1, some (.int x)] (.int x :: st) M Q := ru_1 rfl rfl rfl rfl rfl
set_option maxRecDepth 100000 in
theorem s56_33 {u v : Int32} : rn sc d 56 33 [l0, l1, l2] (.int v :: .int u :: st) M Q = rn sc d 56 34 [l0, l1, l2] (.int (u + v) :: st) M Q := ru_1 rfl rfl rfl rfl rfl
set_option maxRecDepth 100000 in
theorem s56_34 {a : Nat} : rn sc d 56 34 [some (.ref a), l1, l2] st M Q = rn sc d 56 35 [some (.ref a), l1, l2] (.ref a :: st) M Q := ru_1 rfl rfl rfl rfl rfl
set_option maxRecDepth 100000 in
theorem s56_35 {a : Nat} : rn sc d 56 35 [l0, l1, l2] (.ref a :: st) M Q = rn_o (hp_f M a 7 1) (fun v => rn sc d 56 38 [l0, l1, l2] (v :: st) M Q) := ru_get rfl rfl
set_option maxRecDepth 100000 in
theorem s56_38 {x : Int32} : rn sc d 56 38 [l0, l1, some (.int x)] st M Q = rn sc d 56 39 [l0, l1, some (.int x)] (.int x :: st) M Q := ru_1 rfl rfl rfl rfl rfl
set_option maxRecDepth 100000 in
theorem s56_39 {a : Nat} {j : Int32} : rn sc d 56 39 [l0, l1, l2] (.int j :: .ref a :: st) M Q = rn_o (hp_b M a j) (fun v => rn sc d 56 40 [l0, l1, l2] (.int v :: st) M Q) := ru_bald rfl
set_option maxRecDepth 100000 in
theorem s56_40 {a : Nat} {j x : Int32} : rn sc d 56 40 [l0, l1, l2] (.int x :: .int j :: .ref a :: st) M Q = rn_o (hp_pb M a j x) (fun M' => rn sc d 56 41 [l0, l1, l2] st M' Q) := ru_bast rfl
set_option maxRecDepth 100000 in
theorem s56_41 {x : Int32} : rn sc d 56 41 [l0, l1, some (.int x)] st M Q = rn sc d 56 44 [l0, l1, some (.int (x + 1))] st M Q := ru_1 rfl rfl rfl rfl rfl
set_option maxRecDepth 100000 in
theorem s56_44 : rn sc d 56 44 [l0, l1, l2] st M Q = rn sc d 56 16 [l0, l1, l2] st M Q := ru_go rfl (by decide)
set_option maxRecDepth 100000 in
theorem s56_47 {a : Nat} : rn sc d 56 47 [some (.ref a), l1, l2] st M Q = rn sc d 56 48 [some (.ref a), l1, l2] (.ref a :: st) M Q := ru_1 rfl rfl rfl rfl rfl
set_option maxRecDepth 100000 in
theorem s56_48 {a : Nat} : rn sc d 56 48 [l0, l1, l2] (.ref a :: st) M Q = rn_o (hp_f M a 7 4) (fun v => rn sc d 56 51 [l0, l1, l2] (v :: st) M Q) := ru_get rfl rfl
set_option maxRecDepth 100000 in
theorem s56_51 {x : Int32} : rn sc d 56 51 [l0, some (.int x), l2] st M Q = rn sc d 56 52 [l0, some (.int x), l2] (.int x :: st) M Q := ru_1 rfl rfl rfl rfl rfl
set_option maxRecDepth 100000 in
theorem s56_52 {a : Nat} : rn sc d 56 52 [some (.ref a), l1, l2] st M Q = rn sc d 56 53 [some (.ref a), l1, l2] (.ref a :: st) M Q := ru_1 rfl rfl rfl rfl rfl
set_option maxRecDepth 100000 in
theorem s56_53 {a : Nat} : rn sc d 56 53 [l0, l1, l2] (.ref a :: st) M Q = rn_o (hp_f M a 7 2) (fun v => rn sc d 56 56 [l0, l1, l2] (v :: st) M Q) := ru_get rfl rfl
set_option maxRecDepth 100000 in
theorem s56_56 {a : Nat} {j x : Int32} : rn sc d 56 56 [l0, l1, l2] (.int x :: .int j :: .ref a :: st) M Q = rn_o (hp_pi M a j x) (fun M' => rn sc d 56 57 [l0, l1, l2] st M' Q) := ru_iast rfl
set_option maxRecDepth 100000 in
theorem s56_57 {a : Nat} : rn sc d 56 57 [some (.ref a), l1, l2] st M Q = rn sc d 56 58 [some (.ref a), l1, l2] (.ref a :: st) M Q := ru_1 rfl rfl rfl rfl rfl
set_option maxRecDepth 100000 in
theorem s56_58 : rn sc d 56 58 [l0, l1, l2] st M Q = rn sc d 56 59 [l0, l1, l2] (.int 0 :: st) M Q := ru_k rfl rfl rfl rfl rfl (by decide)
set_option maxRecDepth 100000 in
theorem s56_59 {a : Nat} {v : Value} : rn sc d 56 59 [l0, l1, l2] (v :: .ref a :: st) M Q = rn_o (hp_pf M a 7 2 v) (fun M' => rn sc d 56 62 [l0, l1, l2] st M' Q) := ru_put rfl rfl rfl
set_option maxRecDepth 100000 in
theorem s56_62 : rn sc d 56 62 [l0, l1, l2] st M Q = rn sc d 56 63 [l0, l1, l2] (.int 1 :: st) M Q := ru_k rfl rfl rfl rfl rfl (by decide)
set_option maxRecDepth 100000 in
theorem s56_63 {v : Int32} (h : narrow .boolean (.int v) = .int v) : rn sc d 56 63 [l0, l1, l2] [.int v] M Q = Q (some (.int v)) M := ru_rz rfl rfl h
set_option maxRecDepth 100000 in
theorem s57_0 {x : Int32} : rn sc d 57 0 [some (.int x)] st M Q = rn sc d 57 1 [some (.int x)] (.int x :: st) M Q := ru_1 rfl rfl rfl rfl rfl
set_option maxRecDepth 100000 in
theorem s57_1 {x : Int32} : rn sc d 57 1 [l0] (.int x :: st) M Q = if x < 0 then rn sc d 57 14 [l0] st M Q else rn sc d 57 4 [l0] st M Q := ru_if pc_lt rfl (by decide)
set_option maxRecDepth 100000 in
theorem s57_4 {x : Int32} : rn sc d 57 4 [some (.int x)] st M Q = rn sc d 57 5 [some (.int x)] (.int x :: st) M Q := ru_1 rfl rfl rfl rfl rfl
set_option maxRecDepth 100000 in
theorem s57_5 : rn sc d 57 5 [l0] st M Q = rn sc d 57 7 [l0] (.int 8 :: st) M Q := ru_k rfl rfl rfl rfl rfl (by decide)
set_option maxRecDepth 100000 in
theorem s57_7 {u v : Int32} : rn sc d 57 7 [l0] (.int v :: .int u :: st) M Q = if v ≤ u then rn sc d 57 14 [l0] st M Q else rn sc d 57 10 [l0] st M Q := ru_ic pc_ge rfl (by decide)
set_option maxRecDepth 100000 in
theorem s57_10 : rn sc d 57 10 [l0] st M Q = rn sc d 57 11 [l0] (.int 1 :: st) M Q := ru_k rfl rfl rfl rfl rfl (by decide)
set_option maxRecDepth 100000 in
theorem s57_11 : rn sc d 57 11 [l0] st M Q = rn sc d 57 15 [l0] st M Q := ru_go rfl (by decide)
set_option maxRecDepth 100000 in
theorem s57_14 : rn sc d 57 14 [l0] st M Q = rn sc d 57 15 [l0] (.int 0 :: st) M Q := ru_k rfl rfl rfl rfl rfl (by decide)
set_option maxRecDepth 100000 in
theorem s57_15 {v : Int32} (h : narrow .boolean (.int v) = .int v) : rn sc d 57 15 [l0] [.int v] M Q = Q (some (.int v)) M := ru_rz rfl rfl h
set_option maxRecDepth 100000 in
theorem s58_0 {a : Nat} : rn sc d 58 0 [some (.ref a), l1, l2] st M Q = rn sc d 58 1 [some (.ref a), l1, l2] (.ref a :: st) M Q := ru_1 rfl rfl rfl rfl rfl
set_option maxRecDepth 100000 in
theorem s58_1 : rn sc d 58 1 [l0, l1, l2] st M Q = rn sc d 58 2 [l0, l1, l2] (.int 0 :: st) M Q := ru_k rfl rfl rfl rfl rfl (by decide)
set_option maxRecDepth 100000 in
theorem s58_2 {a : Nat} {v : Value} : rn sc d 58 2 [l0, l1, l2] (v :: .ref a :: st) M Q = rn_o (hp_pf M a 7 0 v) (fun M' => rn sc d 58 5 [l0, l1, l2] st M' Q) := ru_put rfl rfl rfl
set_option maxRecDepth 100000 in
theorem s58_5 {x : Int32} : rn sc d 58 5 [l0, some (.int x), l2] st M Q = rn sc d 58 6 [l0, some (.int x), l2] (.int x :: st) M Q := ru_1 rfl rfl rfl rfl rfl
set_option maxRecDepth 100000 in
theorem s58_6 {x0 : Int32} (hw : xm_wt st ≤ 8) : rn sc (d + 1) 58 6 [l0, l1, l2] (.int x0 :: st) M Q = rn sc d 57 0 [some (.int x0)] [] M (fun r M' => rn sc (d + 1) 58 9 [l0, l1, l2] (r.toList ++ st) M' Q) := ru_d (ru_st (as := [.int x0]) rfl rfl rfl (Nat.le_of_ble_eq_true rfl) hw rfl)
set_option maxRecDepth 100000 in
theorem s58_9 {x : Int32} : rn sc d 58 9 [l0, l1, l2] (.int x :: st) M Q = if x = 0 then rn sc d 58 44 [l0, l1, l2] st M Q else rn sc d 58 12 [l0, l1, l2] st M Q := ru_if pc_eq rfl (by decide)
set_option maxRecDepth 100000 in
theorem s58_12 {x : Int32} : rn sc d 58 12 [l0, l1, some (.int x)] st M Q = rn sc d 58 13 [l0, l1, some (.int x)] (.int x :: st) M Q := ru_1 rfl rfl rfl rfl rfl
set_option maxRecDepth 100000 in
theorem s58_13 {x : Int32} : rn sc d 58 13 [l0, l1, l2] (.int x :: st) M Q = if x < 0 then rn sc d 58 44 [l0, l1, l2] st M Q else rn sc d 58 16 [l0, l1, l2] st M Q := ru_if pc_lt rfl (by decide)
set_option maxRecDepth 100000 in
theorem s58_16 {x : Int32} : rn sc d 58 16 [l0, l1, some (.int x)] st M Q = rn sc d 58 17 [l0, l1, some (.int x)] (.int x :: st) M Q := ru_1 rfl rfl rfl rfl rfl
set_option maxRecDepth 100000 in
theorem s58_17 {a : Nat} : rn sc d 58 17 [some (.ref a), l1, l2] st M Q = rn sc d 58 18 [some (.ref a), l1, l2] (.ref a :: st) M Q := ru_1 rfl rfl rfl rfl rfl
set_option maxRecDepth 100000 in
theorem s58_18 {a : Nat} : rn sc d 58 18 [l0, l1, l2] (.ref a :: st) M Q = rn_o (hp_f M a 7 4) (fun v => rn sc d 58 21 [l0, l1, l2] (v :: st) M Q) := ru_get rfl rfl
set_option maxRecDepth 100000 in
theorem s58_21 {x : Int32} : rn sc d 58 21 [l0, some (.int x), l2] st M Q = rn sc d 58 22 [l0, some (.int x), l2] (.int x :: st) M Q := ru_1 rfl rfl rfl rfl rfl
set_option maxRecDepth 100000 in
theorem s58_22 {a : Nat} {j : Int32} : rn sc d 58 22 [l0, l1, l2] (.int j :: .ref a :: st) M Q = rn_o (hp_i sc M a j) (fun v => rn sc d 58 23 [l0, l1, l2] (.int v :: st) M Q) := ru_iald rfl
set_option maxRecDepth 100000 in
theorem s58_23 {u v : Int32} : rn sc d 58 23 [l0, l1, l2] (.int v :: .int u :: st) M Q = if v ≤ u then rn sc d 58 44 [l0, l1, l2] st M Q else rn sc d 58 26 [l0, l1, l2] st M Q := ru_ic pc_ge rfl (by decide)
set_option maxRecDepth 100000 in
theorem s58_26 {a : Nat} : rn sc d 58 26 [some (.ref a), l1, l2] st M Q = rn sc d 58 27 [some (.ref a), l1, l2] (.ref a :: st) M Q := ru_1 rfl rfl rfl rfl rfl
set_option maxRecDepth 100000 in
theorem s58_27 {a : Nat} : rn sc d 58 27 [l0, l1, l2] (.ref a :: st) M Q = rn_o (hp_f M a 7 3) (fun v => rn sc d 58 30 [l0, l1, l2] (v :: st) M Q) := ru_get rfl rfl
set_option maxRecDepth 100000 in
theorem s58_30 : rn sc d 58 30 [l0, l1, l2] st M Q = rn sc d 58 32 [l0, l1, l2] (.int 64 :: st) M Q := ru_k rfl rfl rfl rfl rfl (by decide)
set_option maxRecDepth 100000 in
theorem s58_32 {x : Int32} : rn sc d 58 32 [l0, some (.int x), l2] st M Q = rn sc d 58 33 [l0, some (.int x), l2] (.int x :: st) M Q := ru_1 rfl rfl rfl rfl rfl
set_option maxRecDepth 100000 in
theorem s58_33 {u v : Int32} : rn sc d 58 33 [l0, l1, l2] (.int v :: .int u :: st) M Q = rn sc d 58 34 [l0, l1, l2] (.int (u * v) :: st) M Q := ru_1 rfl rfl rfl rfl rfl
set_option maxRecDepth 100000 in
theorem s58_34 {x : Int32} : rn sc d 58 34 [l0, l1, some (.int x)] st M Q = rn sc d 58 35 [l0, l1, some (.int x)] (.int x :: st) M Q := ru_1 rfl rfl rfl rfl rfl
set_option maxRecDepth 100000 in
theorem s58_35 {u v : Int32} : rn sc d 58 35 [l0, l1, l2] (.int v :: .int u :: st) M Q = rn sc d 58 36 [l0, l1, l2] (.int (u + v) :: st) M Q := ru_1 rfl rfl rfl rfl rfl
set_option maxRecDepth 100000 in
theorem s58_36 {a : Nat} {j : Int32} : rn sc d 58 36 [l0, l1, l2] (.int j :: .ref a :: st) M Q = rn_o (hp_b M a j) (fun v => rn sc d 58 37 [l0, l1, l2] (.int v :: st) M Q) := ru_bald rfl
set_option maxRecDepth 100000 in
theorem s58_37 : rn sc d 58 37 [l0, l1, l2] st M Q = rn sc d 58 40 [l0, l1, l2] (.int 255 :: st) M Q := ru_k rfl rfl rfl rfl rfl (by decide)
set_option maxRecDepth 100000 in
theorem s58_40 {u v : Int32} : rn sc d 58 40 [l0, l1, l2] (.int v :: .int u :: st) M Q = rn sc d 58 41 [l0, l1, l2] (.int (u &&& v) :: st) M Q := ru_1 rfl rfl rfl rfl rfl
set_option maxRecDepth 100000 in
theorem s58_41 : rn sc d 58 41 [l0, l1, l2] st M Q = rn sc d 58 45 [l0, l1, l2] st M Q := ru_go rfl (by decide)
set_option maxRecDepth 100000 in
theorem s58_44 : rn sc d 58 44 [l0, l1, l2] st M Q = rn sc d 58 45 [l0, l1, l2] (.int (-1) :: st) M Q := ru_k rfl rfl rfl rfl rfl (by decide)
set_option maxRecDepth 100000 in
theorem s58_45 {v : Int32} : rn sc d 58 45 [l0, l1, l2] [.int v] M Q = Q (some (.int v)) M := ru_ri rfl rfl
set_option maxRecDepth 100000 in
theorem s59_0 {a : Nat} : rn sc d 59 0 [some (.ref a), l1] st M Q = rn sc d 59 1 [some (.ref a), l1] (.ref a :: st) M Q := ru_1 rfl rfl rfl rfl rfl
set_option maxRecDepth 100000 in
theorem s59_1 : rn sc d 59 1 [l0, l1] st M Q = rn sc d 59 2 [l0, l1] (.int 0 :: st) M Q := ru_k rfl rfl rfl rfl rfl (by decide)
set_option maxRecDepth 100000 in
theorem s59_2 {a : Nat} {v : Value} : rn sc d 59 2 [l0, l1] (v :: .ref a :: st) M Q = rn_o (hp_pf M a 7 0 v) (fun M' => rn sc d 59 5 [l0, l1] st M' Q) := ru_put rfl rfl rfl
set_option maxRecDepth 100000 in
theorem s59_5 {x : Int32} : rn sc d 59 5 [l0, some (.int x)] st M Q = rn sc d 59 6 [l0, some (.int x)] (.int x :: st) M Q := ru_1 rfl rfl rfl rfl rfl
set_option maxRecDepth 100000 in
theorem s59_6 {x0 : Int32} (hw : xm_wt st ≤ 8) : rn sc (d + 1) 59 6 [l0, l1] (.int x0 :: st) M Q = rn sc d 57 0 [some (.int x0)] [] M (fun r M' => rn sc (d + 1) 59 9 [l0, l1] (r.toList ++ st) M' Q) := ru_d (ru_st (as := [.int x0]) rfl rfl rfl (Nat.le_of_ble_eq_true rfl) hw rfl)
set_option maxRecDepth 100000 in
theorem s59_9 {x : Int32} : rn sc d 59 9 [l0, l1] (.int x :: st) M Q = if x = 0 then rn sc d 59 21 [l0, l1] st M Q else rn sc d 59 12 [l0, l1] st M Q := ru_if pc_eq rfl (by decide)
set_option maxRecDepth 100000 in
theorem s59_12 {a : Nat} : rn sc d 59 12 [some (.ref a), l1] st M Q = rn sc d 59 13 [some (.ref a), l1] (.ref a :: st) M Q := ru_1 rfl rfl rfl rfl rfl
set_option maxRecDepth 100000 in
theorem s59_13 {a : Nat} : rn sc d 59 13 [l0, l1] (.ref a :: st) M Q = rn_o (hp_f M a 7 4) (fun v => rn sc d 59 16 [l0, l1] (v :: st) M Q) := ru_get rfl rfl
set_option maxRecDepth 100000 in
theorem s59_16 {x : Int32} : rn sc d 59 16 [l0, some (.int x)] st M Q = rn sc d 59 17 [l0, some (.int x)] (.int x :: st) M Q := ru_1 rfl rfl rfl rfl rfl
set_option maxRecDepth 100000 in
theorem s59_17 {a : Nat} {j : Int32} : rn sc d 59 17 [l0, l1] (.int j :: .ref a :: st) M Q = rn_o (hp_i sc M a j) (fun v => rn sc d 59 18 [l0, l1] (.int v :: st) M Q) := ru_iald rfl
set_option maxRecDepth 100000 in
theorem s59_18 : rn sc d 59 18 [l0, l1] st M Q = rn sc d 59 22 [l0, l1] st M Q := ru_go rfl (by decide)
set_option maxRecDepth 100000 in
theorem s59_21 : rn sc d 59 21 [l0, l1] st M Q = rn sc d 59 22 [l0, l1] (.int (-1) :: st) M Q := ru_k rfl rfl rfl rfl rfl (by decide)
set_option maxRecDepth 100000 in
theorem s59_22 {v : Int32} : rn sc d 59 22 [l0, l1] [.int v] M Q = Q (some (.int v)) M := ru_ri rfl rfl
set_option maxRecDepth 100000 in
theorem s60_0 {a : Nat} : rn sc d 60 0 [some (.ref a), l1, l2, l3, l4, l5, l6] st M Q = rn sc d 60 1 [some (.ref a), l1, l2, l3, l4, l5, l6] (.ref a :: st) M Q := ru_1 rfl rfl rfl rfl rfl
set_option maxRecDepth 100000 in
theorem s60_1 : rn sc d 60 1 [l0, l1, l2, l3, l4, l5, l6] st M Q = rn sc d 60 2 [l0, l1, l2, l3, l4, l5, l6] (.int 0 :: st) M Q := ru_k rfl rfl rfl rfl rfl (by decide)
set_option maxRecDepth 100000 in
theorem s60_2 {a : Nat} {v : Value} : rn sc d 60 2 [l0, l1, l2, l3, l4, l5, l6] (v :: .ref a :: st) M Q = rn_o (hp_pf M a 7 0 v) (fun M' => rn sc d 60 5 [l0, l1, l2, l3, l4, l5, l6] st M' Q) := ru_put rfl rfl rfl
set_option maxRecDepth 100000 in
theorem s60_5 {a : Nat} : rn sc d 60 5 [some (.ref a), l1, l2, l3, l4, l5, l6] st M Q = rn sc d 60 6 [some (.ref a), l1, l2, l3, l4, l5, l6] (.ref a :: st) M Q := ru_1 rfl rfl rfl rfl rfl
set_option maxRecDepth 100000 in
theorem s60_6 {x : Int32} : rn sc d 60 6 [l0, some (.int x), l2, l3, l4, l5, l6] st M Q = rn sc d 60 7 [l0, some (.int x), l2, l3, l4, l5, l6] (.int x :: st) M Q := ru_1 rfl rfl rfl rfl rfl
set_option maxRecDepth 100000 in
theorem s60_7 {x : Int32} : rn sc d 60 7 [l0, l1, some (.int x), l3, l4, l5, l6] st M Q = rn sc d 60 8 [l0, l1, some (.int x), l3, l4, l5, l6] (.int x :: st) M Q := ru_1 rfl rfl rfl rfl rfl
set_option maxRecDepth 100000 in
theorem s60_8 {x : Int32} : rn sc d 60 8 [l0, l1, l2, some (.int x), l4, l5, l6] st M Q = rn sc d 60 9 [l0, l1, l2, some (.int x), l4, l5, l6] (.int x :: st) M Q := ru_1 rfl rfl rfl rfl rfl
set_option maxRecDepth 100000 in
theorem s60_9 {a : Nat} {x0 : Int32} {x1 : Int32} {x2 : Int32} (hw : xm_wt st ≤ 8) (hq : hp_is M a 7) : rn sc (d + 1) 60 9 [l0, l1, l2, l3, l4, l5, l6] (.int x2 :: .int x1 :: .int x0 :: .ref a :: st) M Q = rn sc d 61 0 [some (.ref a), some (.int x0), some (.int x1), some (.int x2)] [] M (fun r M' => rn sc (d + 1) 60 12 [l0, l1, l2, l3, l4, l5, l6] (r.toList ++ st) M' Q) := ru_d (ru_iv (as := [.int x2, .int x1, .int x0]) rfl rfl rfl (Nat.le_of_ble_eq_true rfl) hw rfl hq)
set_option maxRecDepth 100000 in
theorem s60_12 {x : Int32} : rn sc d 60 12 [l0, l1, l2, l3, l4, l5, l6] (.int x :: st) M Q = if ¬ x = 0 then rn sc d 60 17 [l0, l1, l2, l3, l4, l5, l6] st M Q else rn sc d 60 15 [l0, l1, l2, l3, l4, l5, l6] st M Q := ru_if pc_ne rfl (by decide)
set_option maxRecDepth 100000 in
theorem s60_15 : rn sc d 60 15 [l0, l1, l2, l3, l4, l5, l6] st M Q = rn sc d 60 16 [l0, l1, l2, l3, l4, l5, l6] (.int (-1) :: st) M Q := ru_k rfl rfl rfl rfl rfl (by decide)
set_option maxRecDepth 100000 in
theorem s60_16 {v : Int32} : rn sc d 60 16 [l0, l1, l2, l3, l4, l5, l6] [.int v] M Q = Q (some (.int v)) M := ru_ri rfl rfl
set_option maxRecDepth 100000 in
theorem s60_17 {x : Int32} : rn sc d 60 17 [l0, some (.int x), l2, l3, l4, l5, l6] st M Q = rn sc d 60 18 [l0, some (.int x), l2, l3, l4, l5, l6] (.int x :: st) M Q := ru_1 rfl rfl rfl rfl rfl
set_option maxRecDepth 100000 in
theorem s60_18 : rn sc d 60 18 [l0, l1, l2, l3, l4, l5, l6] st M Q = rn sc d 60 19 [l0, l1, l2, l3, l4, l5, l6] (.int 4 :: st) M Q := ru_k rfl rfl rfl rfl rfl (by decide)
set_option maxRecDepth 100000 in
theorem s60_19 {u v : Int32} : rn sc d 60 19 [l0, l1, l2, l3, l4, l5, l6] (.int v :: .int u :: st) M Q = if u ≤ v then rn sc d 60 28 [l0, l1, l2, l3, l4, l5, l6] st M Q else rn sc d 60 22 [l0, l1, l2, l3, l4, l5, l6] st M Q := ru_ic pc_le rfl (by decide)
set_option maxRecDepth 100000 in
theorem s60_22 {x : Int32} : rn sc d 60 22 [l0, some (.int x), l2, l3, l4, l5, l6] st M Q = rn sc d 60 23 [l0, some (.int x), l2, l3, l4, l5, l6] (.int x :: st) M Q := ru_1 rfl rfl rfl rfl rfl
set_option maxRecDepth 100000 in
theorem s60_23 : rn sc d 60 23 [l0, l1, l2, l3, l4, l5, l6] st M Q = rn sc d 60 25 [l0, l1, l2, l3, l4, l5, l6] (.int 10 :: st) M Q := ru_k rfl rfl rfl rfl rfl (by decide)
set_option maxRecDepth 100000 in
theorem s60_25 {u v : Int32} : rn sc d 60 25 [l0, l1, l2, l3, l4, l5, l6] (.int v :: .int u :: st) M Q = if u < v then rn sc d 60 34 [l0, l1, l2, l3, l4, l5, l6] st M Q else rn sc d 60 28 [l0, l1, l2, l3, l4, l5, l6] st M Q := ru_ic pc_lt rfl (by decide)
set_option maxRecDepth 100000 in
theorem s60_28 {x : Int32} : rn sc d 60 28 [l0, some (.int x), l2, l3, l4, l5, l6] st M Q = rn sc d 60 29 [l0, some (.int x), l2, l3, l4, l5, l6] (.int x :: st) M Q := ru_1 rfl rfl rfl rfl rfl
set_option maxRecDepth 100000 in
theorem s60_29 : rn sc d 60 29 [l0, l1, l2, l3, l4, l5, l6] st M Q = rn sc d 60 31 [l0, l1, l2, l3, l4, l5, l6] (.int 15 :: st) M Q := ru_k rfl rfl rfl rfl rfl (by decide)
set_option maxRecDepth 100000 in
theorem s60_31 {u v : Int32} : rn sc d 60 31 [l0, l1, l2, l3, l4, l5, l6] (.int v :: .int u :: st) M Q = if u ≤ v then rn sc d 60 38 [l0, l1, l2, l3, l4, l5, l6] st M Q else rn sc d 60 34 [l0, l1, l2, l3, l4, l5, l6] st M Q := ru_ic pc_le rfl (by decide)
set_option maxRecDepth 100000 in
theorem s60_34 : rn sc d 60 34 [l0, l1, l2, l3, l4, l5, l6] st M Q = rn sc d 60 35 [l0, l1, l2, l3, l4, l5, l6] (.int 1 :: st) M Q := ru_k rfl rfl rfl rfl rfl (by decide)
set_option maxRecDepth 100000 in
theorem s60_35 : rn sc d 60 35 [l0, l1, l2, l3, l4, l5, l6] st M Q = rn sc d 60 39 [l0, l1, l2, l3, l4, l5, l6] st M Q := ru_go rfl (by decide)
set_option maxRecDepth 100000 in
theorem s60_38 : rn sc d 60 38 [l0, l1, l2, l3, l4, l5, l6] st M Q = rn sc d 60 39 [l0, l1, l2, l3, l4, l5, l6] (.int 0 :: st) M Q := ru_k rfl rfl rfl rfl rfl (by decide)
set_option maxRecDepth 100000 in
theorem s60_39 {x : Int32} : rn sc d 60 39 [l0, l1, l2, l3, l4, l5, l6] (.int x :: st) M Q = rn sc d 60 41 [l0, l1, l2, l3, some (.int x), l5, l6] st M Q := ru_1 rfl rfl rfl rfl rfl
set_option maxRecDepth 100000 in
theorem s60_41 {x : Int32} : rn sc d 60 41 [l0, some (.int x), l2, l3, l4, l5, l6] st M Q = rn sc d 60 42 [l0, some (.int x), l2, l3, l4, l5, l6] (.int x :: st) M Q := ru_1 rfl rfl rfl rfl rfl
set_option maxRecDepth 100000 in
theorem s60_42 : rn sc d 60 42 [l0, l1, l2, l3, l4, l5, l6] st M Q = rn sc d 60 44 [l0, l1, l2, l3, l4, l5, l6] (.int 16 :: st) M Q := ru_k rfl rfl rfl rfl rfl (by decide)
set_option maxRecDepth 100000 in
theorem s60_44 {u v : Int32} : rn sc d 60 44 [l0, l1, l2, l3, l4, l5, l6] (.int v :: .int u :: st) M Q = if u ≤ v then rn sc d 60 57 [l0, l1, l2, l3, l4, l5, l6] st M Q else rn sc d 60 47 [l0, l1, l2, l3, l4, l5, l6] st M Q := ru_ic pc_le rfl (by decide)
set_option maxRecDepth 100000 in
theorem s60_47 {x : Int32} : rn sc d 60 47 [l0, some (.int x), l2, l3, l4, l5, l6] st M Q = rn sc d 60 48 [l0, some (.int x), l2, l3, l4, l5, l6] (.int x :: st) M Q := ru_1 rfl rfl rfl rfl rfl
set_option maxRecDepth 100000 in
theorem s60_48 : rn sc d 60 48 [l0, l1, l2, l3, l4, l5, l6] st M Q = rn sc d 60 50 [l0, l1, l2, l3, l4, l5, l6] (.int 21 :: st) M Q := ru_k rfl rfl rfl rfl rfl (by decide)
set_option maxRecDepth 100000 in
theorem s60_50 {u v : Int32} : rn sc d 60 50 [l0, l1, l2, l3, l4, l5, l6] (.int v :: .int u :: st) M Q = if v ≤ u then rn sc d 60 57 [l0, l1, l2, l3, l4, l5, l6] st M Q else rn sc d 60 53 [l0, l1, l2, l3, l4, l5, l6] st M Q := ru_ic pc_ge rfl (by decide)
set_option maxRecDepth 100000 in
theorem s60_53 : rn sc d 60 53 [l0, l1, l2, l3, l4, l5, l6] st M Q = rn sc d 60 54 [l0, l1, l2, l3, l4, l5, l6] (.int 1 :: st) M Q := ru_k rfl rfl rfl rfl rfl (by decide)
set_option maxRecDepth 100000 in
theorem s60_54 : rn sc d 60 54 [l0, l1, l2, l3, l4, l5, l6] st M Q = rn sc d 60 58 [l0, l1, l2, l3, l4, l5, l6] st M Q := ru_go rfl (by decide)
set_option maxRecDepth 100000 in
theorem s60_57 : rn sc d 60 57 [l0, l1, l2, l3, l4, l5, l6] st M Q = rn sc d 60 58 [l0, l1, l2, l3, l4, l5, l6] (.int 0 :: st) M Q := ru_k rfl rfl rfl rfl rfl (by decide)
set_option maxRecDepth 100000 in
theorem s60_58 {x : Int32} : rn sc d 60 58 [l0, l1, l2, l3, l4, l5, l6] (.int x :: st) M Q = rn sc d 60 60 [l0, l1, l2, l3, l4, some (.int x), l6] st M Q := ru_1 rfl rfl rfl rfl rfl
set_option maxRecDepth 100000 in
theorem s60_60 {a : Nat} : rn sc d 60 60 [some (.ref a), l1, l2, l3, l4, l5, l6] st M Q = rn sc d 60 61 [some (.ref a), l1, l2, l3, l4, l5, l6] (.ref a :: st) M Q := ru_1 rfl rfl rfl rfl rfl
set_option maxRecDepth 100000 in
theorem s60_61 {a : Nat} : rn sc d 60 61 [l0, l1, l2, l3, l4, l5, l6] (.ref a :: st) M Q = rn_o (hp_f M a 7 6) (fun v => rn sc d 60 64 [l0, l1, l2, l3, l4, l5, l6] (v :: st) M Q) := ru_get rfl rfl
set_option maxRecDepth 100000 in
theorem s60_64 {a : Nat} : rn sc d 60 64 [some (.ref a), l1, l2, l3, l4, l5, l6] st M Q = rn sc d 60 65 [some (.ref a), l1, l2, l3, l4, l5, l6] (.ref a :: st) M Q := ru_1 rfl rfl rfl rfl rfl
set_option maxRecDepth 100000 in
theorem s60_65 {a : Nat} : rn sc d 60 65 [l0, l1, l2, l3, l4, l5, l6] (.ref a :: st) M Q = rn_o (hp_f M a 7 5) (fun v => rn sc d 60 68 [l0, l1, l2, l3, l4, l5, l6] (v :: st) M Q) := ru_get rfl rfl
set_option maxRecDepth 100000 in
theorem s60_68 {x : Int32} : rn sc d 60 68 [l0, some (.int x), l2, l3, l4, l5, l6] st M Q = rn sc d 60 69 [l0, some (.int x), l2, l3, l4, l5, l6] (.int x :: st) M Q := ru_1 rfl rfl rfl rfl rfl
set_option maxRecDepth 100000 in
theorem s60_69 {a : Nat} {j x : Int32} : rn sc d 60 69 [l0, l1, l2, l3, l4, l5, l6] (.int x :: .int j :: .ref a :: st) M Q = rn_o (hp_pi M a j x) (fun M' => rn sc d 60 70 [l0, l1, l2, l3, l4, l5, l6] st M' Q) := ru_iast rfl
set_option maxRecDepth 100000 in
theorem s60_70 {a : Nat} : rn sc d 60 70 [some (.ref a), l1, l2, l3, l4, l5, l6] st M Q = rn sc d 60 71 [some (.ref a), l1, l2, l3, l4, l5, l6] (.ref a :: st) M Q := ru_1 rfl rfl rfl rfl rfl
set_option maxRecDepth 100000 in
theorem s60_71 {a : Nat} : rn sc d 60 71 [l0, l1, l2, l3, l4, l5, l6] (.ref a :: st) M Q = rn_o (hp_f M a 7 7) (fun v => rn sc d 60 74 [l0, l1, l2, l3, l4, l5, l6] (v :: st) M Q) := ru_get rfl rfl
set_option maxRecDepth 100000 in
theorem s60_74 {a : Nat} : rn sc d 60 74 [some (.ref a), l1, l2, l3, l4, l5, l6] st M Q = rn sc d 60 75 [some (.ref a), l1, l2, l3, l4, l5, l6] (.ref a :: st) M Q := ru_1 rfl rfl rfl rfl rfl
set_option maxRecDepth 100000 in
theorem s60_75 {a : Nat} : rn sc d 60 75 [l0, l1, l2, l3, l4, l5, l6] (.ref a :: st) M Q = rn_o (hp_f M a 7 5) (fun v => rn sc d 60 78 [l0, l1, l2, l3, l4, l5, l6] (v :: st) M Q) := ru_get rfl rfl
set_option maxRecDepth 100000 in
theorem s60_78 {x : Int32} : rn sc d 60 78 [l0, l1, l2, l3, some (.int x), l5, l6] st M Q = rn sc d 60 80 [l0, l1, l2, l3, some (.int x), l5, l6] (.int x :: st) M Q := ru_1 rfl rfl rfl rfl rfl
set_option maxRecDepth 100000 in
theorem s60_80 {x : Int32} : rn sc d 60 80 [l0, l1, l2, l3, l4, l5, l6] (.int x :: st) M Q = if x = 0 then rn sc d 60 87 [l0, l1, l2, l3, l4, l5, l6] st M Q else rn sc d 60 83 [l0, l1, l2, l3, l4, l5, l6] st M Q := ru_if pc_eq rfl (by decide)
set_option maxRecDepth 100000 in
theorem s60_83 {x : Int32} : rn sc d 60 83 [l0, l1, some (.int x), l3, l4, l5, l6] st M Q = rn sc d 60 84 [l0, l1, some (.int x), l3, l4, l5, l6] (.int x :: st) M Q := ru_1 rfl rfl rfl rfl rfl
set_option maxRecDepth 100000 in
theorem s60_84 : rn sc d 60 84 [l0, l1, l2, l3, l4, l5, l6] st M Q = rn sc d 60 88 [l0, l1, l2, l3, l4, l5, l6] st M Q := ru_go rfl (by decide)
set_option maxRecDepth 100000 in
theorem s60_87 : rn sc d 60 87 [l0, l1, l2, l3, l4, l5, l6] st M Q = rn sc d 60 88 [l0, l1, l2, l3, l4, l5, l6] (.int 0 :: st) M Q := ru_k rfl rfl rfl rfl rfl (by decide)
set_option maxRecDepth 100000 in
theorem s60_88 {a : Nat} {j x : Int32} : rn sc d 60 88 [l0, l1, l2, l3, l4, l5, l6] (.int x :: .int j :: .ref a :: st) M Q = rn_o (hp_pi M a j x) (fun M' => rn sc d 60 89 [l0, l1, l2, l3, l4, l5, l6] st M' Q) := ru_iast rfl
set_option maxRecDepth 100000 in
theorem s60_89 {a : Nat} : rn sc d 60 89 [some (.ref a), l1, l2, l3, l4, l5, l6] st M Q = rn sc d 60 90 [some (.ref a), l1, l2, l3, l4, l5, l6] (.ref a :: st) M Q := ru_1 rfl rfl rfl rfl rfl
set_option maxRecDepth 100000 in
theorem s60_90 {a : Nat} : rn sc d 60 90 [l0, l1, l2, l3, l4, l5, l6] (.ref a :: st) M Q = rn_o (hp_f M a 7 8) (fun v => rn sc d 60 93 [l0, l1, l2, l3, l4, l5, l6] (v :: st) M Q) := ru_get rfl rfl
set_option maxRecDepth 100000 in
theorem s60_93 {a : Nat} : rn sc d 60 93 [some (.ref a), l1, l2, l3, l4, l5, l6] st M Q = rn sc d 60 94 [some (.ref a), l1, l2, l3, l4, l5, l6] (.ref a :: st) M Q := ru_1 rfl rfl rfl rfl rfl
set_option maxRecDepth 100000 in
theorem s60_94 {a : Nat} : rn sc d 60 94 [l0, l1, l2, l3, l4, l5, l6] (.ref a :: st) M Q = rn_o (hp_f M a 7 5) (fun v => rn sc d 60 97 [l0, l1, l2, l3, l4, l5, l6] (v :: st) M Q) := ru_get rfl rfl
set_option maxRecDepth 100000 in
theorem s60_97 {x : Int32} : rn sc d 60 97 [l0, l1, l2, l3, l4, some (.int x), l6] st M Q = rn sc d 60 99 [l0, l1, l2, l3, l4, some (.int x), l6] (.int x :: st) M Q := ru_1 rfl rfl rfl rfl rfl
set_option maxRecDepth 100000 in
theorem s60_99 {x : Int32} : rn sc d 60 99 [l0, l1, l2, l3, l4, l5, l6] (.int x :: st) M Q = if x = 0 then rn sc d 60 106 [l0, l1, l2, l3, l4, l5, l6] st M Q else rn sc d 60 102 [l0, l1, l2, l3, l4, l5, l6] st M Q := ru_if pc_eq rfl (by decide)
set_option maxRecDepth 100000 in
theorem s60_102 {x : Int32} : rn sc d 60 102 [l0, l1, l2, some (.int x), l4, l5, l6] st M Q = rn sc d 60 103 [l0, l1, l2, some (.int x), l4, l5, l6] (.int x :: st) M Q := ru_1 rfl rfl rfl rfl rfl
set_option maxRecDepth 100000 in
theorem s60_103 : rn sc d 60 103 [l0, l1, l2, l3, l4, l5, l6] st M Q = rn sc d 60 107 [l0, l1, l2, l3, l4, l5, l6] st M Q := ru_go rfl (by decide)
set_option maxRecDepth 100000 in
theorem s60_106 : rn sc d 60 106 [l0, l1, l2, l3, l4, l5, l6] st M Q = rn sc d 60 107 [l0, l1, l2, l3, l4, l5, l6] (.int 0 :: st) M Q := ru_k rfl rfl rfl rfl rfl (by decide)
set_option maxRecDepth 100000 in
theorem s60_107 {a : Nat} {j x : Int32} : rn sc d 60 107 [l0, l1, l2, l3, l4, l5, l6] (.int x :: .int j :: .ref a :: st) M Q = rn_o (hp_pi M a j x) (fun M' => rn sc d 60 108 [l0, l1, l2, l3, l4, l5, l6] st M' Q) := ru_iast rfl
set_option maxRecDepth 100000 in
theorem s60_108 {a : Nat} : rn sc d 60 108 [some (.ref a), l1, l2, l3, l4, l5, l6] st M Q = rn sc d 60 109 [some (.ref a), l1, l2, l3, l4, l5, l6] (.ref a :: st) M Q := ru_1 rfl rfl rfl rfl rfl
set_option maxRecDepth 100000 in
theorem s60_109 {a : Nat} : rn sc d 60 109 [l0, l1, l2, l3, l4, l5, l6] (.ref a :: st) M Q = rn_o (hp_f M a 7 10) (fun v => rn sc d 60 112 [l0, l1, l2, l3, l4, l5, l6] (v :: st) M Q) := ru_get rfl rfl
set_option maxRecDepth 100000 in
theorem s60_112 {a : Nat} : rn sc d 60 112 [some (.ref a), l1, l2, l3, l4, l5, l6] st M Q = rn sc d 60 113 [some (.ref a), l1, l2, l3, l4, l5, l6] (.ref a :: st) M Q := ru_1 rfl rfl rfl rfl rfl
set_option maxRecDepth 100000 in
theorem s60_113 {a : Nat} : rn sc d 60 113 [l0, l1, l2, l3, l4, l5, l6] (.ref a :: st) M Q = rn_o (hp_f M a 7 5) (fun v => rn sc d 60 116 [l0, l1, l2, l3, l4, l5, l6] (v :: st) M Q) := ru_get rfl rfl
set_option maxRecDepth 100000 in
theorem s60_116 : rn sc d 60 116 [l0, l1, l2, l3, l4, l5, l6] st M Q = rn sc d 60 117 [l0, l1, l2, l3, l4, l5, l6] (.int 0 :: st) M Q := ru_k rfl rfl rfl rfl rfl (by decide)
set_option maxRecDepth 100000 in
theorem s60_117 {a : Nat} {j x : Int32} : rn sc d 60 117 [l0, l1, l2, l3, l4, l5, l6] (.int x :: .int j :: .ref a :: st) M Q = rn_o (hp_pi M a j x) (fun M' => rn sc d 60 118 [l0, l1, l2, l3, l4, l5, l6] st M' Q) := ru_iast rfl
set_option maxRecDepth 100000 in
theorem s60_118 {x : Int32} : rn sc d 60 118 [l0, some (.int x), l2, l3, l4, l5, l6] st M Q = rn sc d 60 119 [l0, some (.int x), l2, l3, l4, l5, l6] (.int x :: st) M Q := ru_1 rfl rfl rfl rfl rfl
set_option maxRecDepth 100000 in
theorem s60_119 : rn sc d 60 119 [l0, l1, l2, l3, l4, l5, l6] st M Q = rn sc d 60 120 [l0, l1, l2, l3, l4, l5, l6] (.int 5 :: st) M Q := ru_k rfl rfl rfl rfl rfl (by decide)
set_option maxRecDepth 100000 in
theorem s60_120 {u v : Int32} : rn sc d 60 120 [l0, l1, l2, l3, l4, l5, l6] (.int v :: .int u :: st) M Q = if v ≤ u then rn sc d 60 181 [l0, l1, l2, l3, l4, l5, l6] st M Q else rn sc d 60 123 [l0, l1, l2, l3, l4, l5, l6] st M Q := ru_ic pc_ge rfl (by decide)
set_option maxRecDepth 100000 in
theorem s60_123 : rn sc d 60 123 [l0, l1, l2, l3, l4, l5, l6] st M Q = rn sc d 60 124 [l0, l1, l2, l3, l4, l5, l6] (.int 0 :: st) M Q := ru_k rfl rfl rfl rfl rfl (by decide)
set_option maxRecDepth 100000 in
theorem s60_124 {x : Int32} : rn sc d 60 124 [l0, l1, l2, l3, l4, l5, l6] (.int x :: st) M Q = rn sc d 60 126 [l0, l1, l2, l3, l4, l5, some (.int x)] st M Q := ru_1 rfl rfl rfl rfl rfl
set_option maxRecDepth 100000 in
theorem s60_126 {x : Int32} : rn sc d 60 126 [l0, l1, l2, l3, l4, l5, some (.int x)] st M Q = rn sc d 60 128 [l0, l1, l2, l3, l4, l5, some (.int x)] (.int x :: st) M Q := ru_1 rfl rfl rfl rfl rfl
set_option maxRecDepth 100000 in
theorem s60_128 {a : Nat} : rn sc d 60 128 [some (.ref a), l1, l2, l3, l4, l5, l6] st M Q = rn sc d 60 129 [some (.ref a), l1, l2, l3, l4, l5, l6] (.ref a :: st) M Q := ru_1 rfl rfl rfl rfl rfl
set_option maxRecDepth 100000 in
theorem s60_129 {a : Nat} : rn sc d 60 129 [l0, l1, l2, l3, l4, l5, l6] (.ref a :: st) M Q = rn_o (hp_f M a 7 2) (fun v => rn sc d 60 132 [l0, l1, l2, l3, l4, l5, l6] (v :: st) M Q) := ru_get rfl rfl
set_option maxRecDepth 100000 in
theorem s60_132 {u v : Int32} : rn sc d 60 132 [l0, l1, l2, l3, l4, l5, l6] (.int v :: .int u :: st) M Q = if v ≤ u then rn sc d 60 163 [l0, l1, l2, l3, l4, l5, l6] st M Q else rn sc d 60 135 [l0, l1, l2, l3, l4, l5, l6] st M Q := ru_ic pc_ge rfl (by decide)
set_option maxRecDepth 100000 in
theorem s60_135 {a : Nat} : rn sc d 60 135 [some (.ref a), l1, l2, l3, l4, l5, l6] st M Q = rn sc d 60 136 [some (.ref a), l1, l2, l3, l4, l5, l6] (.ref a :: st) M Q := ru_1 rfl rfl rfl rfl rfl
set_option maxRecDepth 100000 in
theorem s60_136 {a : Nat} : rn sc d 60 136 [l0, l1, l2, l3, l4, l5, l6] (.ref a :: st) M Q = rn_o (hp_f M a 7 9) (fun v => rn sc d 60 139 [l0, l1, l2, l3, l4, l5, l6] (v :: st) M Q) := ru_get rfl rfl
set_option maxRecDepth 100000 in
theorem s60_139 : rn sc d 60 139 [l0, l1, l2, l3, l4, l5, l6] st M Q = rn sc d 60 141 [l0, l1, l2, l3, l4, l5, l6] (.int 64 :: st) M Q := ru_k rfl rfl rfl rfl rfl (by decide)
set_option maxRecDepth 100000 in
theorem s60_141 {a : Nat} : rn sc d 60 141 [some (.ref a), l1, l2, l3, l4, l5, l6] st M Q = rn sc d 60 142 [some (.ref a), l1, l2, l3, l4, l5, l6] (.ref a :: st) M Q := ru_1 rfl rfl rfl rfl rfl
set_option maxRecDepth 100000 in
theorem s60_142 {a : Nat} : rn sc d 60 142 [l0, l1, l2, l3, l4, l5, l6] (.ref a :: st) M Q = rn_o (hp_f M a 7 5) (fun v => rn sc d 60 145 [l0, l1, l2, l3, l4, l5, l6] (v :: st) M Q) := ru_get rfl rfl
set_option maxRecDepth 100000 in
theorem s60_145 {u v : Int32} : rn sc d 60 145 [l0, l1, l2, l3, l4, l5, l6] (.int v :: .int u :: st) M Q = rn sc d 60 146 [l0, l1, l2, l3, l4, l5, l6] (.int (u * v) :: st) M Q := ru_1 rfl rfl rfl rfl rfl
set_option maxRecDepth 100000 in
theorem s60_146 {x : Int32} : rn sc d 60 146 [l0, l1, l2, l3, l4, l5, some (.int x)] st M Q = rn sc d 60 148 [l0, l1, l2, l3, l4, l5, some (.int x)] (.int x :: st) M Q := ru_1 rfl rfl rfl rfl rfl
set_option maxRecDepth 100000 in
theorem s60_148 {u v : Int32} : rn sc d 60 148 [l0, l1, l2, l3, l4, l5, l6] (.int v :: .int u :: st) M Q = rn sc d 60 149 [l0, l1, l2, l3, l4, l5, l6] (.int (u + v) :: st) M Q := ru_1 rfl rfl rfl rfl rfl
set_option maxRecDepth 100000 in
theorem s60_149 {a : Nat} : rn sc d 60 149 [some (.ref a), l1, l2, l3, l4, l5, l6] st M Q = rn sc d 60 150 [some (.ref a), l1, l2, l3, l4, l5, l6] (.ref a :: st) M Q := ru_1 rfl rfl rfl rfl rfl
set_option maxRecDepth 100000 in
theorem s60_150 {a : Nat} : rn sc d 60 150 [l0, l1, l2, l3, l4, l5, l6] (.ref a :: st) M Q = rn_o (hp_f M a 7 1) (fun v => rn sc d 60 153 [l0, l1, l2, l3, l4, l5, l6] (v :: st) M Q) := ru_get rfl rfl
set_option maxRecDepth 100000 in
theorem s60_153 {x : Int32} : rn sc d 60 153 [l0, l1, l2, l3, l4, l5, some (.int x)] st M Q = rn sc d 60 155 [l0, l1, l2, l3, l4, l5, some (.int x)] (.int x :: st) M Q := ru_1 rfl rfl rfl rfl rfl
set_option maxRecDepth 100000 in
theorem s60_155 {a : Nat} {j : Int32} : rn sc d 60 155 [l0, l1, l2, l3, l4, l5, l6] (.int j :: .ref a :: st) M Q = rn_o (hp_b M a j) (fun v => rn sc d 60 156 [l0, l1, l2, l3, l4, l5, l6] (.int v :: st) M Q) := ru_bald rfl
set_option maxRecDepth 100000 in
theorem s60_156 {a : Nat} {j x : Int32} : rn sc d 60 156 [l0, l1, l2, l3, l4, l5, l6] (.int x :: .int j :: .ref a :: st) M Q = rn_o (hp_pb M a j x) (fun M' => rn sc d 60 157 [l0, l1, l2, l3, l4, l5, l6] st M' Q) := ru_bast rfl
set_option maxRecDepth 100000 in
theorem s60_157 {x : Int32} : rn sc d 60 157 [l0, l1, l2, l3, l4, l5, some (.int x)] st M Q = rn sc d 60 160 [l0, l1, l2, l3, l4, l5, some (.int (x + 1))] st M Q := ru_1 rfl rfl rfl rfl rfl
set_option maxRecDepth 100000 in
theorem s60_160 : rn sc d 60 160 [l0, l1, l2, l3, l4, l5, l6] st M Q = rn sc d 60 126 [l0, l1, l2, l3, l4, l5, l6] st M Q := ru_go rfl (by decide)
set_option maxRecDepth 100000 in
theorem s60_163 {a : Nat} : rn sc d 60 163 [some (.ref a), l1, l2, l3, l4, l5, l6] st M Q = rn sc d 60 164 [some (.ref a), l1, l2, l3, l4, l5, l6] (.ref a :: st) M Q := ru_1 rfl rfl rfl rfl rfl
set_option maxRecDepth 100000 in
theorem s60_164 {a : Nat} : rn sc d 60 164 [l0, l1, l2, l3, l4, l5, l6] (.ref a :: st) M Q = rn_o (hp_f M a 7 10) (fun v => rn sc d 60 167 [l0, l1, l2, l3, l4, l5, l6] (v :: st) M Q) := ru_get rfl rfl
set_option maxRecDepth 100000 in
theorem s60_167 {a : Nat} : rn sc d 60 167 [some (.ref a), l1, l2, l3, l4, l5, l6] st M Q = rn sc d 60 168 [some (.ref a), l1, l2, l3, l4, l5, l6] (.ref a :: st) M Q := ru_1 rfl rfl rfl rfl rfl
set_option maxRecDepth 100000 in
theorem s60_168 {a : Nat} : rn sc d 60 168 [l0, l1, l2, l3, l4, l5, l6] (.ref a :: st) M Q = rn_o (hp_f M a 7 5) (fun v => rn sc d 60 171 [l0, l1, l2, l3, l4, l5, l6] (v :: st) M Q) := ru_get rfl rfl
set_option maxRecDepth 100000 in
theorem s60_171 {a : Nat} : rn sc d 60 171 [some (.ref a), l1, l2, l3, l4, l5, l6] st M Q = rn sc d 60 172 [some (.ref a), l1, l2, l3, l4, l5, l6] (.ref a :: st) M Q := ru_1 rfl rfl rfl rfl rfl
set_option maxRecDepth 100000 in
theorem s60_172 {a : Nat} : rn sc d 60 172 [l0, l1, l2, l3, l4, l5, l6] (.ref a :: st) M Q = rn_o (hp_f M a 7 2) (fun v => rn sc d 60 175 [l0, l1, l2, l3, l4, l5, l6] (v :: st) M Q) := ru_get rfl rfl
set_option maxRecDepth 100000 in
theorem s60_175 {a : Nat} {j x : Int32} : rn sc d 60 175 [l0, l1, l2, l3, l4, l5, l6] (.int x :: .int j :: .ref a :: st) M Q = rn_o (hp_pi M a j x) (fun M' => rn sc d 60 176 [l0, l1, l2, l3, l4, l5, l6] st M' Q) := ru_iast rfl
set_option maxRecDepth 100000 in
theorem s60_176 {a : Nat} : rn sc d 60 176 [some (.ref a), l1, l2, l3, l4, l5, l6] st M Q = rn sc d 60 177 [some (.ref a), l1, l2, l3, l4, l5, l6] (.ref a :: st) M Q := ru_1 rfl rfl rfl rfl rfl
set_option maxRecDepth 100000 in
theorem s60_177 : rn sc d 60 177 [l0, l1, l2, l3, l4, l5, l6] st M Q = rn sc d 60 178 [l0, l1, l2, l3, l4, l5, l6] (.int 0 :: st) M Q := ru_k rfl rfl rfl rfl rfl (by decide)
set_option maxRecDepth 100000 in
theorem s60_178 {a : Nat} {v : Value} : rn sc d 60 178 [l0, l1, l2, l3, l4, l5, l6] (v :: .ref a :: st) M Q = rn_o (hp_pf M a 7 2 v) (fun M' => rn sc d 60 181 [l0, l1, l2, l3, l4, l5, l6] st M' Q) := ru_put rfl rfl rfl
set_option maxRecDepth 100000 in
theorem s60_181 {a : Nat} : rn sc d 60 181 [some (.ref a), l1, l2, l3, l4, l5, l6] st M Q = rn sc d 60 182 [some (.ref a), l1, l2, l3, l4, l5, l6] (.ref a :: st) M Q := ru_1 rfl rfl rfl rfl rfl
set_option maxRecDepth 100000 in
theorem s60_182 {a : Nat} : rn sc d 60 182 [l0, l1, l2, l3, l4, l5, l6] (.ref a :: st) M Q = rn sc d 60 183 [l0, l1, l2, l3, l4, l5, l6] (.ref a :: .ref a :: st) M Q := ru_1 rfl rfl rfl rfl rfl
set_option maxRecDepth 100000 in
theorem s60_182I {x : Int32} : rn sc d 60 182 [l0, l1, l2, l3, l4, l5, l6] (.int x :: st) M Q = rn sc d 60 183 [l0, l1, l2, l3, l4, l5, l6] (.int x :: .int x :: st) M Q := ru_1 rfl rfl rfl rfl rfl
set_option maxRecDepth 100000 in
theorem s60_183 {a : Nat} : rn sc d 60 183 [l0, l1, l2, l3, l4, l5, l6] (.ref a :: st) M Q = rn_o (hp_f M a 7 5) (fun v => rn sc d 60 186 [l0, l1, l2, l3, l4, l5, l6] (v :: st) M Q) := ru_get rfl rfl
set_option maxRecDepth 100000 in
theorem s60_186 : rn sc d 60 186 [l0, l1, l2, l3, l4, l5, l6] st M Q = rn sc d 60 187 [l0, l1, l2, l3, l4, l5, l6] (.int 1 :: st) M Q := ru_k rfl rfl rfl rfl rfl (by decide)
set_option maxRecDepth 100000 in
theorem s60_187 {u v : Int32} : rn sc d 60 187 [l0, l1, l2, l3, l4, l5, l6] (.int v :: .int u :: st) M Q = rn sc d 60 188 [l0, l1, l2, l3, l4, l5, l6] (.int (u + v) :: st) M Q := ru_1 rfl rfl rfl rfl rfl
set_option maxRecDepth 100000 in
theorem s60_188 {a : Nat} {v : Value} : rn sc d 60 188 [l0, l1, l2, l3, l4, l5, l6] (v :: .ref a :: st) M Q = rn_o (hp_pf M a 7 5 v) (fun M' => rn sc d 60 191 [l0, l1, l2, l3, l4, l5, l6] st M' Q) := ru_put rfl rfl rfl
set_option maxRecDepth 100000 in
theorem s60_191 {a : Nat} : rn sc d 60 191 [some (.ref a), l1, l2, l3, l4, l5, l6] st M Q = rn sc d 60 192 [some (.ref a), l1, l2, l3, l4, l5, l6] (.ref a :: st) M Q := ru_1 rfl rfl rfl rfl rfl
set_option maxRecDepth 100000 in
theorem s60_192 {a : Nat} : rn sc d 60 192 [l0, l1, l2, l3, l4, l5, l6] (.ref a :: st) M Q = rn_o (hp_f M a 7 5) (fun v => rn sc d 60 195 [l0, l1, l2, l3, l4, l5, l6] (v :: st) M Q) := ru_get rfl rfl
set_option maxRecDepth 100000 in
theorem s60_195 : rn sc d 60 195 [l0, l1, l2, l3, l4, l5, l6] st M Q = rn sc d 60 196 [l0, l1, l2, l3, l4, l5, l6] (.int 1 :: st) M Q := ru_k rfl rfl rfl rfl rfl (by decide)
set_option maxRecDepth 100000 in
theorem s60_196 {u v : Int32} : rn sc d 60 196 [l0, l1, l2, l3, l4, l5, l6] (.int v :: .int u :: st) M Q = rn sc d 60 197 [l0, l1, l2, l3, l4, l5, l6] (.int (u - v) :: st) M Q := ru_1 rfl rfl rfl rfl rfl
set_option maxRecDepth 100000 in
theorem s60_197 {v : Int32} : rn sc d 60 197 [l0, l1, l2, l3, l4, l5, l6] [.int v] M Q = Q (some (.int v)) M := ru_ri rfl rfl
set_option maxRecDepth 100000 in
theorem s61_0 {x : Int32} : rn sc d 61 0 [l0, some (.int x), l2, l3] st M Q = rn sc d 61 1 [l0, some (.int x), l2, l3] (.int x :: st) M Q := ru_1 rfl rfl rfl rfl rfl
set_option maxRecDepth 100000 in
theorem s61_1 {x : Int32} : rn sc d 61 1 [l0, l1, l2, l3] (.int x :: st) M Q = if x < 0 then rn sc d 61 19 [l0, l1, l2, l3] st M Q else rn sc d 61 4 [l0, l1, l2, l3] st M Q := ru_if pc_lt rfl (by decide)
set_option maxRecDepth 100000 in
theorem s61_4 {x : Int32} : rn sc d 61 4 [l0, some (.int x), l2, l3] st M Q = rn sc d 61 5 [l0, some (.int x), l2, l3] (.int x :: st) M Q := ru_1 rfl rfl rfl rfl rfl
set_option maxRecDepth 100000 in
theorem s61_5 : rn sc d 61 5 [l0, l1, l2, l3] st M Q = rn sc d 61 7 [l0, l1, l2, l3] (.int 23 :: st) M Q := ru_k rfl rfl rfl rfl rfl (by decide)
set_option maxRecDepth 100000 in
theorem s61_7 {u v : Int32} : rn sc d 61 7 [l0, l1, l2, l3] (.int v :: .int u :: st) M Q = if v < u then rn sc d 61 19 [l0, l1, l2, l3] st M Q else rn sc d 61 10 [l0, l1, l2, l3] st M Q := ru_ic pc_gt rfl (by decide)
set_option maxRecDepth 100000 in
theorem s61_10 {a : Nat} : rn sc d 61 10 [some (.ref a), l1, l2, l3] st M Q = rn sc d 61 11 [some (.ref a), l1, l2, l3] (.ref a :: st) M Q := ru_1 rfl rfl rfl rfl rfl
set_option maxRecDepth 100000 in
theorem s61_11 {a : Nat} : rn sc d 61 11 [l0, l1, l2, l3] (.ref a :: st) M Q = rn_o (hp_f M a 7 5) (fun v => rn sc d 61 14 [l0, l1, l2, l3] (v :: st) M Q) := ru_get rfl rfl
set_option maxRecDepth 100000 in
theorem s61_14 : rn sc d 61 14 [l0, l1, l2, l3] st M Q = rn sc d 61 16 [l0, l1, l2, l3] (.int 64 :: st) M Q := ru_k rfl rfl rfl rfl rfl (by decide)
set_option maxRecDepth 100000 in
theorem s61_16 {u v : Int32} : rn sc d 61 16 [l0, l1, l2, l3] (.int v :: .int u :: st) M Q = if ¬ u = v then rn sc d 61 21 [l0, l1, l2, l3] st M Q else rn sc d 61 19 [l0, l1, l2, l3] st M Q := ru_ic pc_ne rfl (by decide)
set_option maxRecDepth 100000 in
theorem s61_19 : rn sc d 61 19 [l0, l1, l2, l3] st M Q = rn sc d 61 20 [l0, l1, l2, l3] (.int 0 :: st) M Q := ru_k rfl rfl rfl rfl rfl (by decide)
set_option maxRecDepth 100000 in
theorem s61_20 {v : Int32} (h : narrow .boolean (.int v) = .int v) : rn sc d 61 20 [l0, l1, l2, l3] [.int v] M Q = Q (some (.int v)) M := ru_rz rfl rfl h
set_option maxRecDepth 100000 in
theorem s61_21 {x : Int32} : rn sc d 61 21 [l0, some (.int x), l2, l3] st M Q = rn sc d 61 22 [l0, some (.int x), l2, l3] (.int x :: st) M Q := ru_1 rfl rfl rfl rfl rfl
set_option maxRecDepth 100000 in
theorem s61_22_5 : rn sc d 61 22 [l0, l1, l2, l3] (.int 5 :: st) M Q = rn sc d 61 112 [l0, l1, l2, l3] st M Q := ru_sw rfl rfl rfl rfl rfl (by decide) sw_t
set_option maxRecDepth 100000 in
theorem s61_22_6 : rn sc d 61 22 [l0, l1, l2, l3] (.int 6 :: st) M Q = rn sc d 61 112 [l0, l1, l2, l3] st M Q := ru_sw rfl rfl rfl rfl rfl (by decide) sw_t
set_option maxRecDepth 100000 in
theorem s61_22_7 : rn sc d 61 22 [l0, l1, l2, l3] (.int 7 :: st) M Q = rn sc d 61 112 [l0, l1, l2, l3] st M Q := ru_sw rfl rfl rfl rfl rfl (by decide) sw_t
set_option maxRecDepth 100000 in
theorem s61_22_8 : rn sc d 61 22 [l0, l1, l2, l3] (.int 8 :: st) M Q = rn sc d 61 112 [l0, l1, l2, l3] st M Q := ru_sw rfl rfl rfl rfl rfl (by decide) sw_t
set_option maxRecDepth 100000 in
theorem s61_22_9 : rn sc d 61 22 [l0, l1, l2, l3] (.int 9 :: st) M Q = rn sc d 61 112 [l0, l1, l2, l3] st M Q := ru_sw rfl rfl rfl rfl rfl (by decide) sw_t
set_option maxRecDepth 100000 in
theorem s61_22_10 : rn sc d 61 22 [l0, l1, l2, l3] (.int 10 :: st) M Q = rn sc d 61 192 [l0, l1, l2, l3] st M Q := ru_sw rfl rfl rfl rfl rfl (by decide) sw_t
set_option maxRecDepth 100000 in
theorem s61_22_11 : rn sc d 61 22 [l0, l1, l2, l3] (.int 11 :: st) M Q = rn sc d 61 192 [l0, l1, l2, l3] st M Q := ru_sw rfl rfl rfl rfl rfl (by decide) sw_t
set_option maxRecDepth 100000 in
theorem s61_22_12 : rn sc d 61 22 [l0, l1, l2, l3] (.int 12 :: st) M Q = rn sc d 61 192 [l0, l1, l2, l3] st M Q := ru_sw rfl rfl rfl rfl rfl (by decide) sw_t
set_option maxRecDepth 100000 in
theorem s61_22_13 : rn sc d 61 22 [l0, l1, l2, l3] (.int 13 :: st) M Q = rn sc d 61 192 [l0, l1, l2, l3] st M Q := ru_sw rfl rfl rfl rfl rfl (by decide) sw_t
set_option maxRecDepth 100000 in
theorem s61_22_14 : rn sc d 61 22 [l0, l1, l2, l3] (.int 14 :: st) M Q = rn sc d 61 192 [l0, l1, l2, l3] st M Q := ru_sw rfl rfl rfl rfl rfl (by decide) sw_t
set_option maxRecDepth 100000 in
theorem s61_22_15 : rn sc d 61 22 [l0, l1, l2, l3] (.int 15 :: st) M Q = rn sc d 61 192 [l0, l1, l2, l3] st M Q := ru_sw rfl rfl rfl rfl rfl (by decide) sw_t
set_option maxRecDepth 100000 in
theorem s61_22_16 : rn sc d 61 22 [l0, l1, l2, l3] (.int 16 :: st) M Q = rn sc d 61 122 [l0, l1, l2, l3] st M Q := ru_sw rfl rfl rfl rfl rfl (by decide) sw_t
set_option maxRecDepth 100000 in
theorem s61_22_17 : rn sc d 61 22 [l0, l1, l2, l3] (.int 17 :: st) M Q = rn sc d 61 128 [l0, l1, l2, l3] st M Q := ru_sw rfl rfl rfl rfl rfl (by decide) sw_t
set_option maxRecDepth 100000 in
theorem s61_22_18 : rn sc d 61 22 [l0, l1, l2, l3] (.int 18 :: st) M Q = rn sc d 61 128 [l0, l1, l2, l3] st M Q := ru_sw rfl rfl rfl rfl rfl (by decide) sw_t
set_option maxRecDepth 100000 in
theorem s61_22_19 : rn sc d 61 22 [l0, l1, l2, l3] (.int 19 :: st) M Q = rn sc d 61 150 [l0, l1, l2, l3] st M Q := ru_sw rfl rfl rfl rfl rfl (by decide) sw_t
set_option maxRecDepth 100000 in
theorem s61_22_20 : rn sc d 61 22 [l0, l1, l2, l3] (.int 20 :: st) M Q = rn sc d 61 150 [l0, l1, l2, l3] st M Q := ru_sw rfl rfl rfl rfl rfl (by decide) sw_t
set_option maxRecDepth 100000 in
theorem s61_22_21 : rn sc d 61 22 [l0, l1, l2, l3] (.int 21 :: st) M Q = rn sc d 61 171 [l0, l1, l2, l3] st M Q := ru_sw rfl rfl rfl rfl rfl (by decide) sw_t
set_option maxRecDepth 100000 in
theorem s61_22_22 : rn sc d 61 22 [l0, l1, l2, l3] (.int 22 :: st) M Q = rn sc d 61 171 [l0, l1, l2, l3] st M Q := ru_sw rfl rfl rfl rfl rfl (by decide) sw_t
set_option maxRecDepth 100000 in
theorem s61_22_23 : rn sc d 61 22 [l0, l1, l2, l3] (.int 23 :: st) M Q = rn sc d 61 176 [l0, l1, l2, l3] st M Q := ru_sw rfl rfl rfl rfl rfl (by decide) sw_t
set_option maxRecDepth 100000 in
theorem s61_22_d {x : Int32} (h : x.toInt < 5 ∨ 23 < x.toInt) : rn sc d 61 22 [l0, l1, l2, l3] (.int x :: st) M Q = rn sc d 61 192 [l0, l1, l2, l3] st M Q := ru_sw rfl rfl rfl rfl rfl (sw_td h (by decide)) sw_t
set_option maxRecDepth 100000 in
theorem s61_112 {x : Int32} : rn sc d 61 112 [l0, l1, some (.int x), l3] st M Q = rn sc d 61 113 [l0, l1, some (.int x), l3] (.int x :: st) M Q := ru_1 rfl rfl rfl rfl rfl
set_option maxRecDepth 100000 in
theorem s61_113 {x : Int32} : rn sc d 61 113 [l0, l1, l2, l3] (.int x :: st) M Q = if x < 0 then rn sc d 61 120 [l0, l1, l2, l3] st M Q else rn sc d 61 116 [l0, l1, l2, l3] st M Q := ru_if pc_lt rfl (by decide)
set_option maxRecDepth 100000 in
theorem s61_116 : rn sc d 61 116 [l0, l1, l2, l3] st M Q = rn sc d 61 117 [l0, l1, l2, l3] (.int 1 :: st) M Q := ru_k rfl rfl rfl rfl rfl (by decide)
set_option maxRecDepth 100000 in
theorem s61_117 : rn sc d 61 117 [l0, l1, l2, l3] st M Q = rn sc d 61 121 [l0, l1, l2, l3] st M Q := ru_go rfl (by decide)
set_option maxRecDepth 100000 in
theorem s61_120 : rn sc d 61 120 [l0, l1, l2, l3] st M Q = rn sc d 61 121 [l0, l1, l2, l3] (.int 0 :: st) M Q := ru_k rfl rfl rfl rfl rfl (by decide)
set_option maxRecDepth 100000 in
theorem s61_121 {v : Int32} (h : narrow .boolean (.int v) = .int v) : rn sc d 61 121 [l0, l1, l2, l3] [.int v] M Q = Q (some (.int v)) M := ru_rz rfl rfl h
set_option maxRecDepth 100000 in
theorem s61_122 {a : Nat} : rn sc d 61 122 [some (.ref a), l1, l2, l3] st M Q = rn sc d 61 123 [some (.ref a), l1, l2, l3] (.ref a :: st) M Q := ru_1 rfl rfl rfl rfl rfl
set_option maxRecDepth 100000 in
theorem s61_123 {x : Int32} : rn sc d 61 123 [l0, l1, some (.int x), l3] st M Q = rn sc d 61 124 [l0, l1, some (.int x), l3] (.int x :: st) M Q := ru_1 rfl rfl rfl rfl rfl
set_option maxRecDepth 100000 in
theorem s61_124 {a : Nat} {x0 : Int32} (hw : xm_wt st ≤ 8) (hq : hp_is M a 7) : rn sc (d + 1) 61 124 [l0, l1, l2, l3] (.int x0 :: .ref a :: st) M Q = rn sc d 62 0 [some (.ref a), some (.int x0)] [] M (fun r M' => rn sc (d + 1) 61 127 [l0, l1, l2, l3] (r.toList ++ st) M' Q) := ru_d (ru_iv (as := [.int x0]) rfl rfl rfl (Nat.le_of_ble_eq_true rfl) hw rfl hq)
set_option maxRecDepth 100000 in
theorem s61_127 {v : Int32} (h : narrow .boolean (.int v) = .int v) : rn sc d 61 127 [l0, l1, l2, l3] [.int v] M Q = Q (some (.int v)) M := ru_rz rfl rfl h
set_option maxRecDepth 100000 in
theorem s61_128 {a : Nat} : rn sc d 61 128 [some (.ref a), l1, l2, l3] st M Q = rn sc d 61 129 [some (.ref a), l1, l2, l3] (.ref a :: st) M Q := ru_1 rfl rfl rfl rfl rfl
set_option maxRecDepth 100000 in
theorem s61_129 {x : Int32} : rn sc d 61 129 [l0, l1, some (.int x), l3] st M Q = rn sc d 61 130 [l0, l1, some (.int x), l3] (.int x :: st) M Q := ru_1 rfl rfl rfl rfl rfl
set_option maxRecDepth 100000 in
theorem s61_130 {a : Nat} {x0 : Int32} (hw : xm_wt st ≤ 8) (hq : hp_is M a 7) : rn sc (d + 1) 61 130 [l0, l1, l2, l3] (.int x0 :: .ref a :: st) M Q = rn sc d 62 0 [some (.ref a), some (.int x0)] [] M (fun r M' => rn sc (d + 1) 61 133 [l0, l1, l2, l3] (r.toList ++ st) M' Q) := ru_d (ru_iv (as := [.int x0]) rfl rfl rfl (Nat.le_of_ble_eq_true rfl) hw rfl hq)
set_option maxRecDepth 100000 in
theorem s61_133 {x : Int32} : rn sc d 61 133 [l0, l1, l2, l3] (.int x :: st) M Q = if x = 0 then rn sc d 61 148 [l0, l1, l2, l3] st M Q else rn sc d 61 136 [l0, l1, l2, l3] st M Q := ru_if pc_eq rfl (by decide)
set_option maxRecDepth 100000 in
theorem s61_136 {a : Nat} : rn sc d 61 136 [some (.ref a), l1, l2, l3] st M Q = rn sc d 61 137 [some (.ref a), l1, l2, l3] (.ref a :: st) M Q := ru_1 rfl rfl rfl rfl rfl
set_option maxRecDepth 100000 in
theorem s61_137 {x : Int32} : rn sc d 61 137 [l0, l1, l2, some (.int x)] st M Q = rn sc d 61 138 [l0, l1, l2, some (.int x)] (.int x :: st) M Q := ru_1 rfl rfl rfl rfl rfl
set_option maxRecDepth 100000 in
theorem s61_138 {a : Nat} {x0 : Int32} (hw : xm_wt st ≤ 8) (hq : hp_is M a 7) : rn sc (d + 1) 61 138 [l0, l1, l2, l3] (.int x0 :: .ref a :: st) M Q = rn sc d 62 0 [some (.ref a), some (.int x0)] [] M (fun r M' => rn sc (d + 1) 61 141 [l0, l1, l2, l3] (r.toList ++ st) M' Q) := ru_d (ru_iv (as := [.int x0]) rfl rfl rfl (Nat.le_of_ble_eq_true rfl) hw rfl hq)
set_option maxRecDepth 100000 in
theorem s61_141 {x : Int32} : rn sc d 61 141 [l0, l1, l2, l3] (.int x :: st) M Q = if x = 0 then rn sc d 61 148 [l0, l1, l2, l3] st M Q else rn sc d 61 144 [l0, l1, l2, l3] st M Q := ru_if pc_eq rfl (by decide)
set_option maxRecDepth 100000 in
theorem s61_144 : rn sc d 61 144 [l0, l1, l2, l3] st M Q = rn sc d 61 145 [l0, l1, l2, l3] (.int 1 :: st) M Q := ru_k rfl rfl rfl rfl rfl (by decide)
set_option maxRecDepth 100000 in
theorem s61_145 : rn sc d 61 145 [l0, l1, l2, l3] st M Q = rn sc d 61 149 [l0, l1, l2, l3] st M Q := ru_go rfl (by decide)
set_option maxRecDepth 100000 in
theorem s61_148 : rn sc d 61 148 [l0, l1, l2, l3] st M Q = rn sc d 61 149 [l0, l1, l2, l3] (.int 0 :: st) M Q := ru_k rfl rfl rfl rfl rfl (by decide)
set_option maxRecDepth 100000 in
theorem s61_149 {v : Int32} (h : narrow .boolean (.int v) = .int v) : rn sc d 61 149 [l0, l1, l2, l3] [.int v] M Q = Q (some (.int v)) M := ru_rz rfl rfl h
set_option maxRecDepth 100000 in
theorem s61_150 {a : Nat} : rn sc d 61 150 [some (.ref a), l1, l2, l3] st M Q = rn sc d 61 151 [some (.ref a), l1, l2, l3] (.ref a :: st) M Q := ru_1 rfl rfl rfl rfl rfl
set_option maxRecDepth 100000 in
theorem s61_151 {x : Int32} : rn sc d 61 151 [l0, l1, some (.int x), l3] st M Q = rn sc d 61 152 [l0, l1, some (.int x), l3] (.int x :: st) M Q := ru_1 rfl rfl rfl rfl rfl
set_option maxRecDepth 100000 in
theorem s61_152 {a : Nat} {x0 : Int32} (hw : xm_wt st ≤ 8) (hq : hp_is M a 7) : rn sc (d + 1) 61 152 [l0, l1, l2, l3] (.int x0 :: .ref a :: st) M Q = rn sc d 62 0 [some (.ref a), some (.int x0)] [] M (fun r M' => rn sc (d + 1) 61 155 [l0, l1, l2, l3] (r.toList ++ st) M' Q) := ru_d (ru_iv (as := [.int x0]) rfl rfl rfl (Nat.le_of_ble_eq_true rfl) hw rfl hq)
set_option maxRecDepth 100000 in
theorem s61_155 {x : Int32} : rn sc d 61 155 [l0, l1, l2, l3] (.int x :: st) M Q = if x = 0 then rn sc d 61 169 [l0, l1, l2, l3] st M Q else rn sc d 61 158 [l0, l1, l2, l3] st M Q := ru_if pc_eq rfl (by decide)
set_option maxRecDepth 100000 in
theorem s61_158 {x : Int32} : rn sc d 61 158 [l0, l1, l2, some (.int x)] st M Q = rn sc d 61 159 [l0, l1, l2, some (.int x)] (.int x :: st) M Q := ru_1 rfl rfl rfl rfl rfl
set_option maxRecDepth 100000 in
theorem s61_159 {x0 : Int32} (hw : xm_wt st ≤ 8) : rn sc (d + 1) 61 159 [l0, l1, l2, l3] (.int x0 :: st) M Q = rn sc d 57 0 [some (.int x0)] [] M (fun r M' => rn sc (d + 1) 61 162 [l0, l1, l2, l3] (r.toList ++ st) M' Q) := ru_d (ru_st (as := [.int x0]) rfl rfl rfl (Nat.le_of_ble_eq_true rfl) hw rfl)
set_option maxRecDepth 100000 in
theorem s61_162 {x : Int32} : rn sc d 61 162 [l0, l1, l2, l3] (.int x :: st) M Q = if x = 0 then rn sc d 61 169 [l0, l1, l2, l3] st M Q else rn sc d 61 165 [l0, l1, l2, l3] st M Q := ru_if pc_eq rfl (by decide)
set_option maxRecDepth 100000 in
theorem s61_165 : rn sc d 61 165 [l0, l1, l2, l3] st M Q = rn sc d 61 166 [l0, l1, l2, l3] (.int 1 :: st) M Q := ru_k rfl rfl rfl rfl rfl (by decide)
set_option maxRecDepth 100000 in
theorem s61_166 : rn sc d 61 166 [l0, l1, l2, l3] st M Q = rn sc d 61 170 [l0, l1, l2, l3] st M Q := ru_go rfl (by decide)
set_option maxRecDepth 100000 in
theorem s61_169 : rn sc d 61 169 [l0, l1, l2, l3] st M Q = rn sc d 61 170 [l0, l1, l2, l3] (.int 0 :: st) M Q := ru_k rfl rfl rfl rfl rfl (by decide)
set_option maxRecDepth 100000 in
theorem s61_170 {v : Int32} (h : narrow .boolean (.int v) = .int v) : rn sc d 61 170 [l0, l1, l2, l3] [.int v] M Q = Q (some (.int v)) M := ru_rz rfl rfl h
set_option maxRecDepth 100000 in
theorem s61_171 {x : Int32} : rn sc d 61 171 [l0, l1, some (.int x), l3] st M Q = rn sc d 61 172 [l0, l1, some (.int x), l3] (.int x :: st) M Q := ru_1 rfl rfl rfl rfl rfl
set_option maxRecDepth 100000 in
theorem s61_172 {x0 : Int32} (hw : xm_wt st ≤ 8) : rn sc (d + 1) 61 172 [l0, l1, l2, l3] (.int x0 :: st) M Q = rn sc d 57 0 [some (.int x0)] [] M (fun r M' => rn sc (d + 1) 61 175 [l0, l1, l2, l3] (r.toList ++ st) M' Q) := ru_d (ru_st (as := [.int x0]) rfl rfl rfl (Nat.le_of_ble_eq_true rfl) hw rfl)
set_option maxRecDepth 100000 in
theorem s61_175 {v : Int32} (h : narrow .boolean (.int v) = .int v) : rn sc d 61 175 [l0, l1, l2, l3] [.int v] M Q = Q (some (.int v)) M := ru_rz rfl rfl h
set_option maxRecDepth 100000 in
theorem s61_176 {x : Int32} : rn sc d 61 176 [l0, l1, some (.int x), l3] st M Q = rn sc d 61 177 [l0, l1, some (.int x), l3] (.int x :: st) M Q := ru_1 rfl rfl rfl rfl rfl
set_option maxRecDepth 100000 in
theorem s61_177 {x : Int32} : rn sc d 61 177 [l0, l1, l2, l3] (.int x :: st) M Q = if x < 0 then rn sc d 61 190 [l0, l1, l2, l3] st M Q else rn sc d 61 180 [l0, l1, l2, l3] st M Q := ru_if pc_lt rfl (by decide)
set_option maxRecDepth 100000 in
theorem s61_180 {x : Int32} : rn sc d 61 180 [l0, l1, some (.int x), l3] st M Q = rn sc d 61 181 [l0, l1, some (.int x), l3] (.int x :: st) M Q := ru_1 rfl rfl rfl rfl rfl
set_option maxRecDepth 100000 in
theorem s61_181 : rn sc d 61 181 [l0, l1, l2, l3] st M Q = rn sc d 61 183 [l0, l1, l2, l3] (.int 64 :: st) M Q := ru_k rfl rfl rfl rfl rfl (by decide)
set_option maxRecDepth 100000 in
theorem s61_183 {u v : Int32} : rn sc d 61 183 [l0, l1, l2, l3] (.int v :: .int u :: st) M Q = if v ≤ u then rn sc d 61 190 [l0, l1, l2, l3] st M Q else rn sc d 61 186 [l0, l1, l2, l3] st M Q := ru_ic pc_ge rfl (by decide)
set_option maxRecDepth 100000 in
theorem s61_186 : rn sc d 61 186 [l0, l1, l2, l3] st M Q = rn sc d 61 187 [l0, l1, l2, l3] (.int 1 :: st) M Q := ru_k rfl rfl rfl rfl rfl (by decide)
set_option maxRecDepth 100000 in
theorem s61_187 : rn sc d 61 187 [l0, l1, l2, l3] st M Q = rn sc d 61 191 [l0, l1, l2, l3] st M Q := ru_go rfl (by decide)
set_option maxRecDepth 100000 in
theorem s61_190 : rn sc d 61 190 [l0, l1, l2, l3] st M Q = rn sc d 61 191 [l0, l1, l2, l3] (.int 0 :: st) M Q := ru_k rfl rfl rfl rfl rfl (by decide)
set_option maxRecDepth 100000 in
theorem s61_191 {v : Int32} (h : narrow .boolean (.int v) = .int v) : rn sc d 61 191 [l0, l1, l2, l3] [.int v] M Q = Q (some (.int v)) M := ru_rz rfl rfl h
set_option maxRecDepth 100000 in
theorem s61_192 : rn sc d 61 192 [l0, l1, l2, l3] st M Q = rn sc d 61 193 [l0, l1, l2, l3] (.int 1 :: st) M Q := ru_k rfl rfl rfl rfl rfl (by decide)
set_option maxRecDepth 100000 in
theorem s61_193 {v : Int32} (h : narrow .boolean (.int v) = .int v) : rn sc d 61 193 [l0, l1, l2, l3] [.int v] M Q = Q (some (.int v)) M := ru_rz rfl rfl h
set_option maxRecDepth 100000 in
theorem s62_0 {x : Int32} : rn sc d 62 0 [l0, some (.int x)] st M Q = rn sc d 62 1 [l0, some (.int x)] (.int x :: st) M Q := ru_1 rfl rfl rfl rfl rfl
set_option maxRecDepth 100000 in
theorem s62_1 {x : Int32} : rn sc d 62 1 [l0, l1] (.int x :: st) M Q = if x < 0 then rn sc d 62 16 [l0, l1] st M Q else rn sc d 62 4 [l0, l1] st M Q := ru_if pc_lt rfl (by decide)
set_option maxRecDepth 100000 in
theorem s62_4 {x : Int32} : rn sc d 62 4 [l0, some (.int x)] st M Q = rn sc d 62 5 [l0, some (.int x)] (.int x :: st) M Q := ru_1 rfl rfl rfl rfl rfl
set_option maxRecDepth 100000 in
theorem s62_5 {a : Nat} : rn sc d 62 5 [some (.ref a), l1] st M Q = rn sc d 62 6 [some (.ref a), l1] (.ref a :: st) M Q := ru_1 rfl rfl rfl rfl rfl
set_option maxRecDepth 100000 in
theorem s62_6 {a : Nat} : rn sc d 62 6 [l0, l1] (.ref a :: st) M Q = rn_o (hp_f M a 7 5) (fun v => rn sc d 62 9 [l0, l1] (v :: st) M Q) := ru_get rfl rfl
set_option maxRecDepth 100000 in
theorem s62_9 {u v : Int32} : rn sc d 62 9 [l0, l1] (.int v :: .int u :: st) M Q = if v ≤ u then rn sc d 62 16 [l0, l1] st M Q else rn sc d 62 12 [l0, l1] st M Q := ru_ic pc_ge rfl (by decide)
set_option maxRecDepth 100000 in
theorem s62_12 : rn sc d 62 12 [l0, l1] st M Q = rn sc d 62 13 [l0, l1] (.int 1 :: st) M Q := ru_k rfl rfl rfl rfl rfl (by decide)
set_option maxRecDepth 100000 in
theorem s62_13 : rn sc d 62 13 [l0, l1] st M Q = rn sc d 62 17 [l0, l1] st M Q := ru_go rfl (by decide)
set_option maxRecDepth 100000 in
theorem s62_16 : rn sc d 62 16 [l0, l1] st M Q = rn sc d 62 17 [l0, l1] (.int 0 :: st) M Q := ru_k rfl rfl rfl rfl rfl (by decide)
set_option maxRecDepth 100000 in
theorem s62_17 {v : Int32} (h : narrow .boolean (.int v) = .int v) : rn sc d 62 17 [l0, l1] [.int v] M Q = Q (some (.int v)) M := ru_rz rfl rfl h
set_option maxRecDepth 100000 in
theorem s63_0 {a : Nat} : rn sc d 63 0 [some (.ref a)] st M Q = rn sc d 63 1 [some (.ref a)] (.ref a :: st) M Q := ru_1 rfl rfl rfl rfl rfl
set_option maxRecDepth 100000 in
theorem s63_1 : rn sc d 63 1 [l0] st M Q = rn sc d 63 2 [l0] (.int 0 :: st) M Q := ru_k rfl rfl rfl rfl rfl (by decide)
set_option maxRecDepth 100000 in
theorem s63_2 {a : Nat} {v : Value} : rn sc d 63 2 [l0] (v :: .ref a :: st) M Q = rn_o (hp_pf M a 7 0 v) (fun M' => rn sc d 63 5 [l0] st M' Q) := ru_put rfl rfl rfl
set_option maxRecDepth 100000 in
theorem s63_5 {a : Nat} : rn sc d 63 5 [some (.ref a)] st M Q = rn sc d 63 6 [some (.ref a)] (.ref a :: st) M Q := ru_1 rfl rfl rfl rfl rfl
set_option maxRecDepth 100000 in
theorem s63_6 : rn sc d 63 6 [l0] st M Q = rn sc d 63 7 [l0] (.int 0 :: st) M Q := ru_k rfl rfl rfl rfl rfl (by decide)
set_option maxRecDepth 100000 in
theorem s63_7 {a : Nat} {v : Value} : rn sc d 63 7 [l0] (v :: .ref a :: st) M Q = rn_o (hp_pf M a 7 5 v) (fun M' => rn sc d 63 10 [l0] st M' Q) := ru_put rfl rfl rfl
set_option maxRecDepth 100000 in
theorem s63_10 : rn sc d 63 10 [l0] [] M Q = Q none M := rn_ret rfl rfl rfl
set_option maxRecDepth 100000 in
theorem s64_0 {a : Nat} : rn sc d 64 0 [some (.ref a), l1, l2] st M Q = rn sc d 64 1 [some (.ref a), l1, l2] (.ref a :: st) M Q := ru_1 rfl rfl rfl rfl rfl
set_option maxRecDepth 100000 in
theorem s64_1 : rn sc d 64 1 [l0, l1, l2] st M Q = rn sc d 64 2 [l0, l1, l2] (.int 0 :: st) M Q := ru_k rfl rfl rfl rfl rfl (by decide)
set_option maxRecDepth 100000 in
theorem s64_2 {a : Nat} {v : Value} : rn sc d 64 2 [l0, l1, l2] (v :: .ref a :: st) M Q = rn_o (hp_pf M a 7 0 v) (fun M' => rn sc d 64 5 [l0, l1, l2] st M' Q) := ru_put rfl rfl rfl
set_option maxRecDepth 100000 in
theorem s64_5 {a : Nat} : rn sc d 64 5 [some (.ref a), l1, l2] st M Q = rn sc d 64 6 [some (.ref a), l1, l2] (.ref a :: st) M Q := ru_1 rfl rfl rfl rfl rfl
set_option maxRecDepth 100000 in
theorem s64_6 {x : Int32} : rn sc d 64 6 [l0, some (.int x), l2] st M Q = rn sc d 64 7 [l0, some (.int x), l2] (.int x :: st) M Q := ru_1 rfl rfl rfl rfl rfl
set_option maxRecDepth 100000 in
theorem s64_7 {a : Nat} {x0 : Int32} (hw : xm_wt st ≤ 8) (hq : hp_is M a 7) : rn sc (d + 1) 64 7 [l0, l1, l2] (.int x0 :: .ref a :: st) M Q = rn sc d 62 0 [some (.ref a), some (.int x0)] [] M (fun r M' => rn sc (d + 1) 64 10 [l0, l1, l2] (r.toList ++ st) M' Q) := ru_d (ru_iv (as := [.int x0]) rfl rfl rfl (Nat.le_of_ble_eq_true rfl) hw rfl hq)
set_option maxRecDepth 100000 in
theorem s64_10 {x : Int32} : rn sc d 64 10 [l0, l1, l2] (.int x :: st) M Q = if ¬ x = 0 then rn sc d 64 15 [l0, l1, l2] st M Q else rn sc d 64 13 [l0, l1, l2] st M Q := ru_if pc_ne rfl (by decide)
set_option maxRecDepth 100000 in
theorem s64_13 : rn sc d 64 13 [l0, l1, l2] st M Q = rn sc d 64 14 [l0, l1, l2] (.int (-1) :: st) M Q := ru_k rfl rfl rfl rfl rfl (by decide)
set_option maxRecDepth 100000 in
theorem s64_14 {v : Int32} : rn sc d 64 14 [l0, l1, l2] [.int v] M Q = Q (some (.int v)) M := ru_ri rfl rfl
set_option maxRecDepth 100000 in
theorem s64_15 {x : Int32} : rn sc d 64 15 [l0, l1, some (.int x)] st M Q = rn sc d 64 16 [l0, l1, some (.int x)] (.int x :: st) M Q := ru_1 rfl rfl rfl rfl rfl
set_option maxRecDepth 100000 in
theorem s64_16 {x : Int32} : rn sc d 64 16 [l0, l1, l2] (.int x :: st) M Q = if ¬ x = 0 then rn sc d 64 28 [l0, l1, l2] st M Q else rn sc d 64 19 [l0, l1, l2] st M Q := ru_if pc_ne rfl (by decide)
set_option maxRecDepth 100000 in
theorem s64_19 {a : Nat} : rn sc d 64 19 [some (.ref a), l1, l2] st M Q = rn sc d 64 20 [some (.ref a), l1, l2] (.ref a :: st) M Q := ru_1 rfl rfl rfl rfl rfl
set_option maxRecDepth 100000 in
theorem s64_20 {a : Nat} : rn sc d 64 20 [l0, l1, l2] (.ref a :: st) M Q = rn_o (hp_f M a 7 6) (fun v => rn sc d 64 23 [l0, l1, l2] (v :: st) M Q) := ru_get rfl rfl
set_option maxRecDepth 100000 in
theorem s64_23 {x : Int32} : rn sc d 64 23 [l0, some (.int x), l2] st M Q = rn sc d 64 24 [l0, some (.int x), l2] (.int x :: st) M Q := ru_1 rfl rfl rfl rfl rfl
set_option maxRecDepth 100000 in
theorem s64_24 {a : Nat} {j : Int32} : rn sc d 64 24 [l0, l1, l2] (.int j :: .ref a :: st) M Q = rn_o (hp_i sc M a j) (fun v => rn sc d 64 25 [l0, l1, l2] (.int v :: st) M Q) := ru_iald rfl
set_option maxRecDepth 100000 in
theorem s64_25 : rn sc d 64 25 [l0, l1, l2] st M Q = rn sc d 64 71 [l0, l1, l2] st M Q := ru_go rfl (by decide)
set_option maxRecDepth 100000 in
theorem s64_28 {x : Int32} : rn sc d 64 28 [l0, l1, some (.int x)] st M Q = rn sc d 64 29 [l0, l1, some (.int x)] (.int x :: st) M Q := ru_1 rfl rfl rfl rfl rfl
set_option maxRecDepth 100000 in
theorem s64_29 : rn sc d 64 29 [l0, l1, l2] st M Q = rn sc d 64 30 [l0, l1, l2] (.int 1 :: st) M Q := ru_k rfl rfl rfl rfl rfl (by decide)
set_option maxRecDepth 100000 in
theorem s64_30 {u v : Int32} : rn sc d 64 30 [l0, l1, l2] (.int v :: .int u :: st) M Q = if ¬ u = v then rn sc d 64 42 [l0, l1, l2] st M Q else rn sc d 64 33 [l0, l1, l2] st M Q := ru_ic pc_ne rfl (by decide)
set_option maxRecDepth 100000 in
theorem s64_33 {a : Nat} : rn sc d 64 33 [some (.ref a), l1, l2] st M Q = rn sc d 64 34 [some (.ref a), l1, l2] (.ref a :: st) M Q := ru_1 rfl rfl rfl rfl rfl
set_option maxRecDepth 100000 in
theorem s64_34 {a : Nat} : rn sc d 64 34 [l0, l1, l2] (.ref a :: st) M Q = rn_o (hp_f M a 7 7) (fun v => rn sc d 64 37 [l0, l1, l2] (v :: st) M Q) := ru_get rfl rfl
set_option maxRecDepth 100000 in
theorem s64_37 {x : Int32} : rn sc d 64 37 [l0, some (.int x), l2] st M Q = rn sc d 64 38 [l0, some (.int x), l2] (.int x :: st) M Q := ru_1 rfl rfl rfl rfl rfl
set_option maxRecDepth 100000 in
theorem s64_38 {a : Nat} {j : Int32} : rn sc d 64 38 [l0, l1, l2] (.int j :: .ref a :: st) M Q = rn_o (hp_i sc M a j) (fun v => rn sc d 64 39 [l0, l1, l2] (.int v :: st) M Q) := ru_iald rfl
set_option maxRecDepth 100000 in
theorem s64_39 : rn sc d 64 39 [l0, l1, l2] st M Q = rn sc d 64 71 [l0, l1, l2] st M Q := ru_go rfl (by decide)
set_option maxRecDepth 100000 in
theorem s64_42 {x : Int32} : rn sc d 64 42 [l0, l1, some (.int x)] st M Q = rn sc d 64 43 [l0, l1, some (.int x)] (.int x :: st) M Q := ru_1 rfl rfl rfl rfl rfl
set_option maxRecDepth 100000 in
theorem s64_43 : rn sc d 64 43 [l0, l1, l2] st M Q = rn sc d 64 44 [l0, l1, l2] (.int 2 :: st) M Q := ru_k rfl rfl rfl rfl rfl (by decide)
set_option maxRecDepth 100000 in
theorem s64_44 {u v : Int32} : rn sc d 64 44 [l0, l1, l2] (.int v :: .int u :: st) M Q = if ¬ u = v then rn sc d 64 56 [l0, l1, l2] st M Q else rn sc d 64 47 [l0, l1, l2] st M Q := ru_ic pc_ne rfl (by decide)
set_option maxRecDepth 100000 in
theorem s64_47 {a : Nat} : rn sc d 64 47 [some (.ref a), l1, l2] st M Q = rn sc d 64 48 [some (.ref a), l1, l2] (.ref a :: st) M Q := ru_1 rfl rfl rfl rfl rfl
set_option maxRecDepth 100000 in
theorem s64_48 {a : Nat} : rn sc d 64 48 [l0, l1, l2] (.ref a :: st) M Q = rn_o (hp_f M a 7 8) (fun v => rn sc d 64 51 [l0, l1, l2] (v :: st) M Q) := ru_get rfl rfl
set_option maxRecDepth 100000 in
theorem s64_51 {x : Int32} : rn sc d 64 51 [l0, some (.int x), l2] st M Q = rn sc d 64 52 [l0, some (.int x), l2] (.int x :: st) M Q := ru_1 rfl rfl rfl rfl rfl
set_option maxRecDepth 100000 in
theorem s64_52 {a : Nat} {j : Int32} : rn sc d 64 52 [l0, l1, l2] (.int j :: .ref a :: st) M Q = rn_o (hp_i sc M a j) (fun v => rn sc d 64 53 [l0, l1, l2] (.int v :: st) M Q) := ru_iald rfl
set_option maxRecDepth 100000 in
theorem s64_53 : rn sc d 64 53 [l0, l1, l2] st M Q = rn sc d 64 71 [l0, l1, l2] st M Q := ru_go rfl (by decide)
set_option maxRecDepth 100000 in
theorem s64_56 {x : Int32} : rn sc d 64 56 [l0, l1, some (.int x)] st M Q = rn sc d 64 57 [l0, l1, some (.int x)] (.int x :: st) M Q := ru_1 rfl rfl rfl rfl rfl
set_option maxRecDepth 100000 in
theorem s64_57 : rn sc d 64 57 [l0, l1, l2] st M Q = rn sc d 64 58 [l0, l1, l2] (.int 3 :: st) M Q := ru_k rfl rfl rfl rfl rfl (by decide)
set_option maxRecDepth 100000 in
theorem s64_58 {u v : Int32} : rn sc d 64 58 [l0, l1, l2] (.int v :: .int u :: st) M Q = if ¬ u = v then rn sc d 64 70 [l0, l1, l2] st M Q else rn sc d 64 61 [l0, l1, l2] st M Q := ru_ic pc_ne rfl (by decide)
set_option maxRecDepth 100000 in
theorem s64_61 {a : Nat} : rn sc d 64 61 [some (.ref a), l1, l2] st M Q = rn sc d 64 62 [some (.ref a), l1, l2] (.ref a :: st) M Q := ru_1 rfl rfl rfl rfl rfl
set_option maxRecDepth 100000 in
theorem s64_62 {a : Nat} : rn sc d 64 62 [l0, l1, l2] (.ref a :: st) M Q = rn_o (hp_f M a 7 10) (fun v => rn sc d 64 65 [l0, l1, l2] (v :: st) M Q) := ru_get rfl rfl
set_option maxRecDepth 100000 in
theorem s64_65 {x : Int32} : rn sc d 64 65 [l0, some (.int x), l2] st M Q = rn sc d 64 66 [l0, some (.int x), l2] (.int x :: st) M Q := ru_1 rfl rfl rfl rfl rfl
set_option maxRecDepth 100000 in
theorem s64_66 {a : Nat} {j : Int32} : rn sc d 64 66 [l0, l1, l2] (.int j :: .ref a :: st) M Q = rn_o (hp_i sc M a j) (fun v => rn sc d 64 67 [l0, l1, l2] (.int v :: st) M Q) := ru_iald rfl
set_option maxRecDepth 100000 in
theorem s64_67 : rn sc d 64 67 [l0, l1, l2] st M Q = rn sc d 64 71 [l0, l1, l2] st M Q := ru_go rfl (by decide)
set_option maxRecDepth 100000 in
theorem s64_70 : rn sc d 64 70 [l0, l1, l2] st M Q = rn sc d 64 71 [l0, l1, l2] (.int (-1) :: st) M Q := ru_k rfl rfl rfl rfl rfl (by decide)
set_option maxRecDepth 100000 in
theorem s64_71 {v : Int32} : rn sc d 64 71 [l0, l1, l2] [.int v] M Q = Q (some (.int v)) M := ru_ri rfl rfl
set_option maxRecDepth 100000 in
theorem s65_0 {a : Nat} : rn sc d 65 0 [some (.ref a), l1, l2, l3, l4, l5, l6] st M Q = rn sc d 65 1 [some (.ref a), l1, l2, l3, l4, l5, l6] (.ref a :: st) M Q := ru_1 rfl rfl rfl rfl rfl
set_option maxRecDepth 100000 in
theorem s65_1 : rn sc d 65 1 [l0, l1, l2, l3, l4, l5, l6] st M Q = rn sc d 65 2 [l0, l1, l2, l3, l4, l5, l6] (.int 0 :: st) M Q := ru_k rfl rfl rfl rfl rfl (by decide)
set_option maxRecDepth 100000 in
theorem s65_2 {a : Nat} {v : Value} : rn sc d 65 2 [l0, l1, l2, l3, l4, l5, l6] (v :: .ref a :: st) M Q = rn_o (hp_pf M a 7 0 v) (fun M' => rn sc d 65 5 [l0, l1, l2, l3, l4, l5, l6] st M' Q) := ru_put rfl rfl rfl
set_option maxRecDepth 100000 in
theorem s65_5 {x : Int32} : rn sc d 65 5 [l0, some (.int x), l2, l3, l4, l5, l6] st M Q = rn sc d 65 6 [l0, some (.int x), l2, l3, l4, l5, l6] (.int x :: st) M Q := ru_1 rfl rfl rfl rfl rfl
set_option maxRecDepth 100000 in
theorem s65_6 {x0 : Int32} (hw : xm_wt st ≤ 8) : rn sc (d + 1) 65 6 [l0, l1, l2, l3, l4, l5, l6] (.int x0 :: st) M Q = rn sc d 57 0 [some (.int x0)] [] M (fun r M' => rn sc (d + 1) 65 9 [l0, l1, l2, l3, l4, l5, l6] (r.toList ++ st) M' Q) := ru_d (ru_st (as := [.int x0]) rfl rfl rfl (Nat.le_of_ble_eq_true rfl) hw rfl)
set_option maxRecDepth 100000 in
theorem s65_9 {x : Int32} : rn sc d 65 9 [l0, l1, l2, l3, l4, l5, l6] (.int x :: st) M Q = if x = 0 then rn sc d 65 20 [l0, l1, l2, l3, l4, l5, l6] st M Q else rn sc d 65 12 [l0, l1, l2, l3, l4, l5, l6] st M Q := ru_if pc_eq rfl (by decide)
set_option maxRecDepth 100000 in
theorem s65_12 {a : Nat} : rn sc d 65 12 [some (.ref a), l1, l2, l3, l4, l5, l6] st M Q = rn sc d 65 13 [some (.ref a), l1, l2, l3, l4, l5, l6] (.ref a :: st) M Q := ru_1 rfl rfl rfl rfl rfl
set_option maxRecDepth 100000 in
theorem s65_13 {x : Int32} : rn sc d 65 13 [l0, l1, some (.int x), l3, l4, l5, l6] st M Q = rn sc d 65 14 [l0, l1, some (.int x), l3, l4, l5, l6] (.int x :: st) M Q := ru_1 rfl rfl rfl rfl rfl
set_option maxRecDepth 100000 in
theorem s65_14 {a : Nat} {x0 : Int32} (hw : xm_wt st ≤ 8) (hq : hp_is M a 7) : rn sc (d + 1) 65 14 [l0, l1, l2, l3, l4, l5, l6] (.int x0 :: .ref a :: st) M Q = rn sc d 62 0 [some (.ref a), some (.int x0)] [] M (fun r M' => rn sc (d + 1) 65 17 [l0, l1, l2, l3, l4, l5, l6] (r.toList ++ st) M' Q) := ru_d (ru_iv (as := [.int x0]) rfl rfl rfl (Nat.le_of_ble_eq_true rfl) hw rfl hq)
set_option maxRecDepth 100000 in
theorem s65_17 {x : Int32} : rn sc d 65 17 [l0, l1, l2, l3, l4, l5, l6] (.int x :: st) M Q = if ¬ x = 0 then rn sc d 65 22 [l0, l1, l2, l3, l4, l5, l6] st M Q else rn sc d 65 20 [l0, l1, l2, l3, l4, l5, l6] st M Q := ru_if pc_ne rfl (by decide)
set_option maxRecDepth 100000 in
theorem s65_20 : rn sc d 65 20 [l0, l1, l2, l3, l4, l5, l6] st M Q = rn sc d 65 21 [l0, l1, l2, l3, l4, l5, l6] (.int (-1) :: st) M Q := ru_k rfl rfl rfl rfl rfl (by decide)
set_option maxRecDepth 100000 in
theorem s65_21 {v : Int32} : rn sc d 65 21 [l0, l1, l2, l3, l4, l5, l6] [.int v] M Q = Q (some (.int v)) M := ru_ri rfl rfl
set_option maxRecDepth 100000 in
theorem s65_22 {a : Nat} : rn sc d 65 22 [some (.ref a), l1, l2, l3, l4, l5, l6] st M Q = rn sc d 65 23 [some (.ref a), l1, l2, l3, l4, l5, l6] (.ref a :: st) M Q := ru_1 rfl rfl rfl rfl rfl
set_option maxRecDepth 100000 in
theorem s65_23 {a : Nat} : rn sc d 65 23 [some (.ref a), l1, l2, l3, l4, l5, l6] st M Q = rn sc d 65 24 [some (.ref a), l1, l2, l3, l4, l5, l6] (.ref a :: st) M Q := ru_1 rfl rfl rfl rfl rfl
set_option maxRecDepth 100000 in
theorem s65_24 {a : Nat} : rn sc d 65 24 [l0, l1, l2, l3, l4, l5, l6] (.ref a :: st) M Q = rn_o (hp_f M a 7 4) (fun v => rn sc d 65 27 [l0, l1, l2, l3, l4, l5, l6] (v :: st) M Q) := ru_get rfl rfl
set_option maxRecDepth 100000 in
theorem s65_27 {x : Int32} : rn sc d 65 27 [l0, some (.int x), l2, l3, l4, l5, l6] st M Q = rn sc d 65 28 [l0, some (.int x), l2, l3, l4, l5, l6] (.int x :: st) M Q := ru_1 rfl rfl rfl rfl rfl
set_option maxRecDepth 100000 in
theorem s65_28 {a : Nat} {j : Int32} : rn sc d 65 28 [l0, l1, l2, l3, l4, l5, l6] (.int j :: .ref a :: st) M Q = rn_o (hp_i sc M a j) (fun v => rn sc d 65 29 [l0, l1, l2, l3, l4, l5, l6] (.int v :: st) M Q) := ru_iald rfl
set_option maxRecDepth 100000 in
theorem s65_29 {a : Nat} {v : Value} : rn sc d 65 29 [l0, l1, l2, l3, l4, l5, l6] (v :: .ref a :: st) M Q = rn_o (hp_pf M a 7 16 v) (fun M' => rn sc d 65 32 [l0, l1, l2, l3, l4, l5, l6] st M' Q) := ru_put rfl rfl rfl
set_option maxRecDepth 100000 in
theorem s65_32 : rn sc d 65 32 [l0, l1, l2, l3, l4, l5, l6] st M Q = rn sc d 65 33 [l0, l1, l2, l3, l4, l5, l6] (.int 0 :: st) M Q := ru_k rfl rfl rfl rfl rfl (by decide)
set_option maxRecDepth 100000 in
theorem s65_33 {x : Int32} : rn sc d 65 33 [l0, l1, l2, l3, l4, l5, l6] (.int x :: st) M Q = rn sc d 65 35 [l0, l1, l2, l3, some (.int x), l5, l6] st M Q := ru_1 rfl rfl rfl rfl rfl
set_option maxRecDepth 100000 in
theorem s65_35 {x : Int32} : rn sc d 65 35 [l0, l1, l2, l3, some (.int x), l5, l6] st M Q = rn sc d 65 37 [l0, l1, l2, l3, some (.int x), l5, l6] (.int x :: st) M Q := ru_1 rfl rfl rfl rfl rfl
set_option maxRecDepth 100000 in
theorem s65_37 {a : Nat} : rn sc d 65 37 [some (.ref a), l1, l2, l3, l4, l5, l6] st M Q = rn sc d 65 38 [some (.ref a), l1, l2, l3, l4, l5, l6] (.ref a :: st) M Q := ru_1 rfl rfl rfl rfl rfl
set_option maxRecDepth 100000 in
theorem s65_38 {a : Nat} : rn sc d 65 38 [l0, l1, l2, l3, l4, l5, l6] (.ref a :: st) M Q = rn_o (hp_f M a 7 16) (fun v => rn sc d 65 41 [l0, l1, l2, l3, l4, l5, l6] (v :: st) M Q) := ru_get rfl rfl
set_option maxRecDepth 100000 in
theorem s65_41 {u v : Int32} : rn sc d 65 41 [l0, l1, l2, l3, l4, l5, l6] (.int v :: .int u :: st) M Q = if v ≤ u then rn sc d 65 69 [l0, l1, l2, l3, l4, l5, l6] st M Q else rn sc d 65 44 [l0, l1, l2, l3, l4, l5, l6] st M Q := ru_ic pc_ge rfl (by decide)
set_option maxRecDepth 100000 in
theorem s65_44 {a : Nat} : rn sc d 65 44 [some (.ref a), l1, l2, l3, l4, l5, l6] st M Q = rn sc d 65 45 [some (.ref a), l1, l2, l3, l4, l5, l6] (.ref a :: st) M Q := ru_1 rfl rfl rfl rfl rfl
set_option maxRecDepth 100000 in
theorem s65_45 {a : Nat} : rn sc d 65 45 [l0, l1, l2, l3, l4, l5, l6] (.ref a :: st) M Q = rn_o (hp_f M a 7 15) (fun v => rn sc d 65 48 [l0, l1, l2, l3, l4, l5, l6] (v :: st) M Q) := ru_get rfl rfl
set_option maxRecDepth 100000 in
theorem s65_48 {x : Int32} : rn sc d 65 48 [l0, l1, l2, l3, some (.int x), l5, l6] st M Q = rn sc d 65 50 [l0, l1, l2, l3, some (.int x), l5, l6] (.int x :: st) M Q := ru_1 rfl rfl rfl rfl rfl
set_option maxRecDepth 100000 in
theorem s65_50 {a : Nat} : rn sc d 65 50 [some (.ref a), l1, l2, l3, l4, l5, l6] st M Q = rn sc d 65 51 [some (.ref a), l1, l2, l3, l4, l5, l6] (.ref a :: st) M Q := ru_1 rfl rfl rfl rfl rfl
set_option maxRecDepth 100000 in
theorem s65_51 {a : Nat} : rn sc d 65 51 [l0, l1, l2, l3, l4, l5, l6] (.ref a :: st) M Q = rn_o (hp_f M a 7 3) (fun v => rn sc d 65 54 [l0, l1, l2, l3, l4, l5, l6] (v :: st) M Q) := ru_get rfl rfl
set_option maxRecDepth 100000 in
theorem s65_54 : rn sc d 65 54 [l0, l1, l2, l3, l4, l5, l6] st M Q = rn sc d 65 56 [l0, l1, l2, l3, l4, l5, l6] (.int 64 :: st) M Q := ru_k rfl rfl rfl rfl rfl (by decide)
set_option maxRecDepth 100000 in
theorem s65_56 {x : Int32} : rn sc d 65 56 [l0, some (.int x), l2, l3, l4, l5, l6] st M Q = rn sc d 65 57 [l0, some (.int x), l2, l3, l4, l5, l6] (.int x :: st) M Q := ru_1 rfl rfl rfl rfl rfl
set_option maxRecDepth 100000 in
theorem s65_57 {u v : Int32} : rn sc d 65 57 [l0, l1, l2, l3, l4, l5, l6] (.int v :: .int u :: st) M Q = rn sc d 65 58 [l0, l1, l2, l3, l4, l5, l6] (.int (u * v) :: st) M Q := ru_1 rfl rfl rfl rfl rfl
set_option maxRecDepth 100000 in
theorem s65_58 {x : Int32} : rn sc d 65 58 [l0, l1, l2, l3, some (.int x), l5, l6] st M Q = rn sc d 65 60 [l0, l1, l2, l3, some (.int x), l5, l6] (.int x :: st) M Q := ru_1 rfl rfl rfl rfl rfl
set_option maxRecDepth 100000 in
theorem s65_60 {u v : Int32} : rn sc d 65 60 [l0, l1, l2, l3, l4, l5, l6] (.int v :: .int u :: st) M Q = rn sc d 65 61 [l0, l1, l2, l3, l4, l5, l6] (.int (u + v) :: st) M Q := ru_1 rfl rfl rfl rfl rfl
set_option maxRecDepth 100000 in
theorem s65_61 {a : Nat} {j : Int32} : rn sc d 65 61 [l0, l1, l2, l3, l4, l5, l6] (.int j :: .ref a :: st) M Q = rn_o (hp_b M a j) (fun v => rn sc d 65 62 [l0, l1, l2, l3, l4, l5, l6] (.int v :: st) M Q) := ru_bald rfl
set_option maxRecDepth 100000 in
theorem s65_62 {a : Nat} {j x : Int32} : rn sc d 65 62 [l0, l1, l2, l3, l4, l5, l6] (.int x :: .int j :: .ref a :: st) M Q = rn_o (hp_pb M a j x) (fun M' => rn sc d 65 63 [l0, l1, l2, l3, l4, l5, l6] st M' Q) := ru_bast rfl
set_option maxRecDepth 100000 in
theorem s65_63 {x : Int32} : rn sc d 65 63 [l0, l1, l2, l3, some (.int x), l5, l6] st M Q = rn sc d 65 66 [l0, l1, l2, l3, some (.int (x + 1)), l5, l6] st M Q := ru_1 rfl rfl rfl rfl rfl
set_option maxRecDepth 100000 in
theorem s65_66 : rn sc d 65 66 [l0, l1, l2, l3, l4, l5, l6] st M Q = rn sc d 65 35 [l0, l1, l2, l3, l4, l5, l6] st M Q := ru_go rfl (by decide)
set_option maxRecDepth 100000 in
theorem s65_69 {a : Nat} : rn sc d 65 69 [some (.ref a), l1, l2, l3, l4, l5, l6] st M Q = rn sc d 65 70 [some (.ref a), l1, l2, l3, l4, l5, l6] (.ref a :: st) M Q := ru_1 rfl rfl rfl rfl rfl
set_option maxRecDepth 100000 in
theorem s65_70 : rn sc d 65 70 [l0, l1, l2, l3, l4, l5, l6] st M Q = rn sc d 65 71 [l0, l1, l2, l3, l4, l5, l6] (.int 1 :: st) M Q := ru_k rfl rfl rfl rfl rfl (by decide)
set_option maxRecDepth 100000 in
theorem s65_71 {a : Nat} {v : Value} : rn sc d 65 71 [l0, l1, l2, l3, l4, l5, l6] (v :: .ref a :: st) M Q = rn_o (hp_pf M a 7 11 v) (fun M' => rn sc d 65 74 [l0, l1, l2, l3, l4, l5, l6] st M' Q) := ru_put rfl rfl rfl
set_option maxRecDepth 100000 in
theorem s65_74 {a : Nat} : rn sc d 65 74 [some (.ref a), l1, l2, l3, l4, l5, l6] st M Q = rn sc d 65 75 [some (.ref a), l1, l2, l3, l4, l5, l6] (.ref a :: st) M Q := ru_1 rfl rfl rfl rfl rfl
set_option maxRecDepth 100000 in
theorem s65_75 : rn sc d 65 75 [l0, l1, l2, l3, l4, l5, l6] st M Q = rn sc d 65 76 [l0, l1, l2, l3, l4, l5, l6] (.int (-1) :: st) M Q := ru_k rfl rfl rfl rfl rfl (by decide)
set_option maxRecDepth 100000 in
theorem s65_76 {a : Nat} {v : Value} : rn sc d 65 76 [l0, l1, l2, l3, l4, l5, l6] (v :: .ref a :: st) M Q = rn_o (hp_pf M a 7 12 v) (fun M' => rn sc d 65 79 [l0, l1, l2, l3, l4, l5, l6] st M' Q) := ru_put rfl rfl rfl
set_option maxRecDepth 100000 in
theorem s65_79 {a : Nat} : rn sc d 65 79 [some (.ref a), l1, l2, l3, l4, l5, l6] st M Q = rn sc d 65 80 [some (.ref a), l1, l2, l3, l4, l5, l6] (.ref a :: st) M Q := ru_1 rfl rfl rfl rfl rfl
set_option maxRecDepth 100000 in
theorem s65_80 : rn sc d 65 80 [l0, l1, l2, l3, l4, l5, l6] st M Q = rn sc d 65 81 [l0, l1, l2, l3, l4, l5, l6] (.int (-1) :: st) M Q := ru_k rfl rfl rfl rfl rfl (by decide)
set_option maxRecDepth 100000 in
theorem s65_81 {a : Nat} {v : Value} : rn sc d 65 81 [l0, l1, l2, l3, l4, l5, l6] (v :: .ref a :: st) M Q = rn_o (hp_pf M a 7 13 v) (fun M' => rn sc d 65 84 [l0, l1, l2, l3, l4, l5, l6] st M' Q) := ru_put rfl rfl rfl
set_option maxRecDepth 100000 in
theorem s65_84 {a : Nat} : rn sc d 65 84 [some (.ref a), l1, l2, l3, l4, l5, l6] st M Q = rn sc d 65 85 [some (.ref a), l1, l2, l3, l4, l5, l6] (.ref a :: st) M Q := ru_1 rfl rfl rfl rfl rfl
set_option maxRecDepth 100000 in
theorem s65_85 : rn sc d 65 85 [l0, l1, l2, l3, l4, l5, l6] st M Q = rn sc d 65 86 [l0, l1, l2, l3, l4, l5, l6] (.int 0 :: st) M Q := ru_k rfl rfl rfl rfl rfl (by decide)
set_option maxRecDepth 100000 in
theorem s65_86 {a : Nat} {v : Value} : rn sc d 65 86 [l0, l1, l2, l3, l4, l5, l6] (v :: .ref a :: st) M Q = rn_o (hp_pf M a 7 14 v) (fun M' => rn sc d 65 89 [l0, l1, l2, l3, l4, l5, l6] st M' Q) := ru_put rfl rfl rfl
set_option maxRecDepth 100000 in
theorem s65_89 {a : Nat} : rn sc d 65 89 [some (.ref a), l1, l2, l3, l4, l5, l6] st M Q = rn sc d 65 90 [some (.ref a), l1, l2, l3, l4, l5, l6] (.ref a :: st) M Q := ru_1 rfl rfl rfl rfl rfl
set_option maxRecDepth 100000 in
theorem s65_90 : rn sc d 65 90 [l0, l1, l2, l3, l4, l5, l6] st M Q = rn sc d 65 91 [l0, l1, l2, l3, l4, l5, l6] (.int 0 :: st) M Q := ru_k rfl rfl rfl rfl rfl (by decide)
set_option maxRecDepth 100000 in
theorem s65_91 {a : Nat} {v : Value} : rn sc d 65 91 [l0, l1, l2, l3, l4, l5, l6] (v :: .ref a :: st) M Q = rn_o (hp_pf M a 7 25 v) (fun M' => rn sc d 65 94 [l0, l1, l2, l3, l4, l5, l6] st M' Q) := ru_put rfl rfl rfl
set_option maxRecDepth 100000 in
theorem s65_94 {a : Nat} : rn sc d 65 94 [some (.ref a), l1, l2, l3, l4, l5, l6] st M Q = rn sc d 65 95 [some (.ref a), l1, l2, l3, l4, l5, l6] (.ref a :: st) M Q := ru_1 rfl rfl rfl rfl rfl
set_option maxRecDepth 100000 in
theorem s65_95 : rn sc d 65 95 [l0, l1, l2, l3, l4, l5, l6] st M Q = rn sc d 65 96 [l0, l1, l2, l3, l4, l5, l6] (.int 0 :: st) M Q := ru_k rfl rfl rfl rfl rfl (by decide)
set_option maxRecDepth 100000 in
theorem s65_96 {a : Nat} {v : Value} : rn sc d 65 96 [l0, l1, l2, l3, l4, l5, l6] (v :: .ref a :: st) M Q = rn_o (hp_pf M a 7 28 v) (fun M' => rn sc d 65 99 [l0, l1, l2, l3, l4, l5, l6] st M' Q) := ru_put rfl rfl rfl
set_option maxRecDepth 100000 in
theorem s65_99 {a : Nat} : rn sc d 65 99 [some (.ref a), l1, l2, l3, l4, l5, l6] st M Q = rn sc d 65 100 [some (.ref a), l1, l2, l3, l4, l5, l6] (.ref a :: st) M Q := ru_1 rfl rfl rfl rfl rfl
set_option maxRecDepth 100000 in
theorem s65_100 : rn sc d 65 100 [l0, l1, l2, l3, l4, l5, l6] st M Q = rn sc d 65 101 [l0, l1, l2, l3, l4, l5, l6] (.int 0 :: st) M Q := ru_k rfl rfl rfl rfl rfl (by decide)
set_option maxRecDepth 100000 in
theorem s65_101 {a : Nat} {v : Value} : rn sc d 65 101 [l0, l1, l2, l3, l4, l5, l6] (v :: .ref a :: st) M Q = rn_o (hp_pf M a 7 29 v) (fun M' => rn sc d 65 104 [l0, l1, l2, l3, l4, l5, l6] st M' Q) := ru_put rfl rfl rfl
set_option maxRecDepth 100000 in
theorem s65_104 {x : Int32} : rn sc d 65 104 [l0, l1, l2, some (.int x), l4, l5, l6] st M Q = rn sc d 65 105 [l0, l1, l2, some (.int x), l4, l5, l6] (.int x :: st) M Q := ru_1 rfl rfl rfl rfl rfl
set_option maxRecDepth 100000 in
theorem s65_105 {x : Int32} : rn sc d 65 105 [l0, l1, l2, l3, l4, l5, l6] (.int x :: st) M Q = if x = 0 then rn sc d 65 112 [l0, l1, l2, l3, l4, l5, l6] st M Q else rn sc d 65 108 [l0, l1, l2, l3, l4, l5, l6] st M Q := ru_if pc_eq rfl (by decide)
set_option maxRecDepth 100000 in
theorem s65_108 : rn sc d 65 108 [l0, l1, l2, l3, l4, l5, l6] st M Q = rn sc d 65 109 [l0, l1, l2, l3, l4, l5, l6] (.int 0 :: st) M Q := ru_k rfl rfl rfl rfl rfl (by decide)
set_option maxRecDepth 100000 in
theorem s65_109 : rn sc d 65 109 [l0, l1, l2, l3, l4, l5, l6] st M Q = rn sc d 65 116 [l0, l1, l2, l3, l4, l5, l6] st M Q := ru_go rfl (by decide)
set_option maxRecDepth 100000 in
theorem s65_112 {a : Nat} : rn sc d 65 112 [some (.ref a), l1, l2, l3, l4, l5, l6] st M Q = rn sc d 65 113 [some (.ref a), l1, l2, l3, l4, l5, l6] (.ref a :: st) M Q := ru_1 rfl rfl rfl rfl rfl
set_option maxRecDepth 100000 in
theorem s65_113 {a : Nat} : rn sc d 65 113 [l0, l1, l2, l3, l4, l5, l6] (.ref a :: st) M Q = rn_o (hp_f M a 7 16) (fun v => rn sc d 65 116 [l0, l1, l2, l3, l4, l5, l6] (v :: st) M Q) := ru_get rfl rfl
set_option maxRecDepth 100000 in
theorem s65_116 {x : Int32} : rn sc d 65 116 [l0, l1, l2, l3, l4, l5, l6] (.int x :: st) M Q = rn sc d 65 118 [l0, l1, l2, l3, some (.int x), l5, l6] st M Q := ru_1 rfl rfl rfl rfl rfl
set_option maxRecDepth 100000 in
theorem s65_118 : rn sc d 65 118 [l0, l1, l2, l3, l4, l5, l6] st M Q = rn sc d 65 119 [l0, l1, l2, l3, l4, l5, l6] (.int (-1) :: st) M Q := ru_k rfl rfl rfl rfl rfl (by decide)
set_option maxRecDepth 100000 in
theorem s65_119 {x : Int32} : rn sc d 65 119 [l0, l1, l2, l3, l4, l5, l6] (.int x :: st) M Q = rn sc d 65 121 [l0, l1, l2, l3, l4, some (.int x), l6] st M Q := ru_1 rfl rfl rfl rfl rfl
set_option maxRecDepth 100000 in
theorem s65_121 : rn sc d 65 121 [l0, l1, l2, l3, l4, l5, l6] st M Q = rn sc d 65 122 [l0, l1, l2, l3, l4, l5, l6] (.int 0 :: st) M Q := ru_k rfl rfl rfl rfl rfl (by decide)
set_option maxRecDepth 100000 in
theorem s65_122 {x : Int32} : rn sc d 65 122 [l0, l1, l2, l3, l4, l5, l6] (.int x :: st) M Q = rn sc d 65 124 [l0, l1, l2, l3, l4, l5, some (.int x)] st M Q := ru_1 rfl rfl rfl rfl rfl
set_option maxRecDepth 100000 in
theorem s65_124 {x : Int32} : rn sc d 65 124 [l0, l1, l2, l3, l4, l5, some (.int x)] st M Q = rn sc d 65 126 [l0, l1, l2, l3, l4, l5, some (.int x)] (.int x :: st) M Q := ru_1 rfl rfl rfl rfl rfl
set_option maxRecDepth 100000 in
theorem s65_126 {x : Int32} : rn sc d 65 126 [l0, l1, l2, l3, some (.int x), l5, l6] st M Q = rn sc d 65 128 [l0, l1, l2, l3, some (.int x), l5, l6] (.int x :: st) M Q := ru_1 rfl rfl rfl rfl rfl
set_option maxRecDepth 100000 in
theorem s65_128 {u v : Int32} : rn sc d 65 128 [l0, l1, l2, l3, l4, l5, l6] (.int v :: .int u :: st) M Q = if v < u then rn sc d 65 166 [l0, l1, l2, l3, l4, l5, l6] st M Q else rn sc d 65 131 [l0, l1, l2, l3, l4, l5, l6] st M Q := ru_ic pc_gt rfl (by decide)
set_option maxRecDepth 100000 in
theorem s65_131 {x : Int32} : rn sc d 65 131 [l0, l1, l2, l3, l4, some (.int x), l6] st M Q = rn sc d 65 133 [l0, l1, l2, l3, l4, some (.int x), l6] (.int x :: st) M Q := ru_1 rfl rfl rfl rfl rfl
set_option maxRecDepth 100000 in
theorem s65_133 : rn sc d 65 133 [l0, l1, l2, l3, l4, l5, l6] st M Q = rn sc d 65 134 [l0, l1, l2, l3, l4, l5, l6] (.int (-1) :: st) M Q := ru_k rfl rfl rfl rfl rfl (by decide)
set_option maxRecDepth 100000 in
theorem s65_134 {u v : Int32} : rn sc d 65 134 [l0, l1, l2, l3, l4, l5, l6] (.int v :: .int u :: st) M Q = if ¬ u = v then rn sc d 65 166 [l0, l1, l2, l3, l4, l5, l6] st M Q else rn sc d 65 137 [l0, l1, l2, l3, l4, l5, l6] st M Q := ru_ic pc_ne rfl (by decide)
set_option maxRecDepth 100000 in
theorem s65_137 {a : Nat} : rn sc d 65 137 [some (.ref a), l1, l2, l3, l4, l5, l6] st M Q = rn sc d 65 138 [some (.ref a), l1, l2, l3, l4, l5, l6] (.ref a :: st) M Q := ru_1 rfl rfl rfl rfl rfl
set_option maxRecDepth 100000 in
theorem s65_138 {a : Nat} : rn sc d 65 138 [l0, l1, l2, l3, l4, l5, l6] (.ref a :: st) M Q = rn_o (hp_f M a 7 28) (fun v => rn sc d 65 141 [l0, l1, l2, l3, l4, l5, l6] (v :: st) M Q) := ru_get rfl rfl
set_option maxRecDepth 100000 in
theorem s65_141 {x : Int32} : rn sc d 65 141 [l0, l1, l2, l3, l4, l5, l6] (.int x :: st) M Q = if ¬ x = 0 then rn sc d 65 166 [l0, l1, l2, l3, l4, l5, l6] st M Q else rn sc d 65 144 [l0, l1, l2, l3, l4, l5, l6] st M Q := ru_if pc_ne rfl (by decide)
set_option maxRecDepth 100000 in
theorem s65_144 {a : Nat} : rn sc d 65 144 [some (.ref a), l1, l2, l3, l4, l5, l6] st M Q = rn sc d 65 145 [some (.ref a), l1, l2, l3, l4, l5, l6] (.ref a :: st) M Q := ru_1 rfl rfl rfl rfl rfl
set_option maxRecDepth 100000 in
theorem s65_145 {a : Nat} : rn sc d 65 145 [l0, l1, l2, l3, l4, l5, l6] (.ref a :: st) M Q = rn_o (hp_f M a 7 29) (fun v => rn sc d 65 148 [l0, l1, l2, l3, l4, l5, l6] (v :: st) M Q) := ru_get rfl rfl
set_option maxRecDepth 100000 in
theorem s65_148 {x : Int32} : rn sc d 65 148 [l0, l1, l2, l3, l4, l5, l6] (.int x :: st) M Q = if ¬ x = 0 then rn sc d 65 166 [l0, l1, l2, l3, l4, l5, l6] st M Q else rn sc d 65 151 [l0, l1, l2, l3, l4, l5, l6] st M Q := ru_if pc_ne rfl (by decide)
set_option maxRecDepth 100000 in
theorem s65_151 {a : Nat} : rn sc d 65 151 [some (.ref a), l1, l2, l3, l4, l5, l6] st M Q = rn sc d 65 152 [some (.ref a), l1, l2, l3, l4, l5, l6] (.ref a :: st) M Q := ru_1 rfl rfl rfl rfl rfl
set_option maxRecDepth 100000 in
theorem s65_152 {x : Int32} : rn sc d 65 152 [l0, l1, some (.int x), l3, l4, l5, l6] st M Q = rn sc d 65 153 [l0, l1, some (.int x), l3, l4, l5, l6] (.int x :: st) M Q := ru_1 rfl rfl rfl rfl rfl
set_option maxRecDepth 100000 in
theorem s65_153 {x : Int32} : rn sc d 65 153 [l0, l1, l2, l3, l4, l5, some (.int x)] st M Q = rn sc d 65 155 [l0, l1, l2, l3, l4, l5, some (.int x)] (.int x :: st) M Q := ru_1 rfl rfl rfl rfl rfl
set_option maxRecDepth 100000 in
theorem s65_155 {a : Nat} {x0 : Int32} {x1 : Int32} (hw : xm_wt st ≤ 8) (hq : hp_is M a 7) : rn sc (d + 1) 65 155 [l0, l1, l2, l3, l4, l5, l6] (.int x1 :: .int x0 :: .ref a :: st) M Q = rn sc d 66 0 [some (.ref a), some (.int x0), some (.int x1), none, none] [] M (fun r M' => rn sc (d + 1) 65 158 [l0, l1, l2, l3, l4, l5, l6] (r.toList ++ st) M' Q) := ru_d (ru_iv (as := [.int x1, .int x0]) rfl rfl rfl (Nat.le_of_ble_eq_true rfl) hw rfl hq)
set_option maxRecDepth 100000 in
theorem s65_158 {x : Int32} : rn sc d 65 158 [l0, l1, l2, l3, l4, l5, l6] (.int x :: st) M Q = rn sc d 65 160 [l0, l1, l2, l3, l4, some (.int x), l6] st M Q := ru_1 rfl rfl rfl rfl rfl
set_option maxRecDepth 100000 in
theorem s65_160 {x : Int32} : rn sc d 65 160 [l0, l1, l2, l3, l4, l5, some (.int x)] st M Q = rn sc d 65 163 [l0, l1, l2, l3, l4, l5, some (.int (x + 1))] st M Q := ru_1 rfl rfl rfl rfl rfl
set_option maxRecDepth 100000 in
theorem s65_163 : rn sc d 65 163 [l0, l1, l2, l3, l4, l5, l6] st M Q = rn sc d 65 124 [l0, l1, l2, l3, l4, l5, l6] st M Q := ru_go rfl (by decide)
set_option maxRecDepth 100000 in
theorem s65_166 {x : Int32} : rn sc d 65 166 [l0, l1, l2, l3, l4, some (.int x), l6] st M Q = rn sc d 65 168 [l0, l1, l2, l3, l4, some (.int x), l6] (.int x :: st) M Q := ru_1 rfl rfl rfl rfl rfl
set_option maxRecDepth 100000 in
theorem s65_168 : rn sc d 65 168 [l0, l1, l2, l3, l4, l5, l6] st M Q = rn sc d 65 169 [l0, l1, l2, l3, l4, l5, l6] (.int (-1) :: st) M Q := ru_k rfl rfl rfl rfl rfl (by decide)
set_option maxRecDepth 100000 in
theorem s65_169 {u v : Int32} : rn sc d 65 169 [l0, l1, l2, l3, l4, l5, l6] (.int v :: .int u :: st) M Q = if u = v then rn sc d 65 202 [l0, l1, l2, l3, l4, l5, l6] st M Q else rn sc d 65 172 [l0, l1, l2, l3, l4, l5, l6] st M Q := ru_ic pc_eq rfl (by decide)
set_option maxRecDepth 100000 in
theorem s65_172 {a : Nat} : rn sc d 65 172 [some (.ref a), l1, l2, l3, l4, l5, l6] st M Q = rn sc d 65 173 [some (.ref a), l1, l2, l3, l4, l5, l6] (.ref a :: st) M Q := ru_1 rfl rfl rfl rfl rfl
set_option maxRecDepth 100000 in
theorem s65_173 {a : Nat} : rn sc d 65 173 [some (.ref a), l1, l2, l3, l4, l5, l6] st M Q = rn sc d 65 174 [some (.ref a), l1, l2, l3, l4, l5, l6] (.ref a :: st) M Q := ru_1 rfl rfl rfl rfl rfl
set_option maxRecDepth 100000 in
theorem s65_174 {a : Nat} : rn sc d 65 174 [l0, l1, l2, l3, l4, l5, l6] (.ref a :: st) M Q = rn_o (hp_f M a 7 18) (fun v => rn sc d 65 177 [l0, l1, l2, l3, l4, l5, l6] (v :: st) M Q) := ru_get rfl rfl
set_option maxRecDepth 100000 in
theorem s65_177 {x : Int32} : rn sc d 65 177 [l0, l1, l2, l3, l4, some (.int x), l6] st M Q = rn sc d 65 179 [l0, l1, l2, l3, l4, some (.int x), l6] (.int x :: st) M Q := ru_1 rfl rfl rfl rfl rfl
set_option maxRecDepth 100000 in
theorem s65_179 {a : Nat} {j : Int32} : rn sc d 65 179 [l0, l1, l2, l3, l4, l5, l6] (.int j :: .ref a :: st) M Q = rn_o (hp_i sc M a j) (fun v => rn sc d 65 180 [l0, l1, l2, l3, l4, l5, l6] (.int v :: st) M Q) := ru_iald rfl
set_option maxRecDepth 100000 in
theorem s65_180 {a : Nat} {v : Value} : rn sc d 65 180 [l0, l1, l2, l3, l4, l5, l6] (v :: .ref a :: st) M Q = rn_o (hp_pf M a 7 12 v) (fun M' => rn sc d 65 183 [l0, l1, l2, l3, l4, l5, l6] st M' Q) := ru_put rfl rfl rfl
set_option maxRecDepth 100000 in
theorem s65_183 {a : Nat} : rn sc d 65 183 [some (.ref a), l1, l2, l3, l4, l5, l6] st M Q = rn sc d 65 184 [some (.ref a), l1, l2, l3, l4, l5, l6] (.ref a :: st) M Q := ru_1 rfl rfl rfl rfl rfl
set_option maxRecDepth 100000 in
theorem s65_184 {a : Nat} : rn sc d 65 184 [some (.ref a), l1, l2, l3, l4, l5, l6] st M Q = rn sc d 65 185 [some (.ref a), l1, l2, l3, l4, l5, l6] (.ref a :: st) M Q := ru_1 rfl rfl rfl rfl rfl
set_option maxRecDepth 100000 in
theorem s65_185 {a : Nat} : rn sc d 65 185 [l0, l1, l2, l3, l4, l5, l6] (.ref a :: st) M Q = rn_o (hp_f M a 7 19) (fun v => rn sc d 65 188 [l0, l1, l2, l3, l4, l5, l6] (v :: st) M Q) := ru_get rfl rfl
set_option maxRecDepth 100000 in
theorem s65_188 {x : Int32} : rn sc d 65 188 [l0, l1, l2, l3, l4, some (.int x), l6] st M Q = rn sc d 65 190 [l0, l1, l2, l3, l4, some (.int x), l6] (.int x :: st) M Q := ru_1 rfl rfl rfl rfl rfl
set_option maxRecDepth 100000 in
theorem s65_190 {a : Nat} {j : Int32} : rn sc d 65 190 [l0, l1, l2, l3, l4, l5, l6] (.int j :: .ref a :: st) M Q = rn_o (hp_i sc M a j) (fun v => rn sc d 65 191 [l0, l1, l2, l3, l4, l5, l6] (.int v :: st) M Q) := ru_iald rfl
set_option maxRecDepth 100000 in
theorem s65_191 {a : Nat} {v : Value} : rn sc d 65 191 [l0, l1, l2, l3, l4, l5, l6] (v :: .ref a :: st) M Q = rn_o (hp_pf M a 7 13 v) (fun M' => rn sc d 65 194 [l0, l1, l2, l3, l4, l5, l6] st M' Q) := ru_put rfl rfl rfl
set_option maxRecDepth 100000 in
theorem s65_194 {a : Nat} : rn sc d 65 194 [some (.ref a), l1, l2, l3, l4, l5, l6] st M Q = rn sc d 65 195 [some (.ref a), l1, l2, l3, l4, l5, l6] (.ref a :: st) M Q := ru_1 rfl rfl rfl rfl rfl
set_option maxRecDepth 100000 in
theorem s65_195 {x : Int32} : rn sc d 65 195 [l0, l1, l2, l3, l4, some (.int x), l6] st M Q = rn sc d 65 197 [l0, l1, l2, l3, l4, some (.int x), l6] (.int x :: st) M Q := ru_1 rfl rfl rfl rfl rfl
set_option maxRecDepth 100000 in
theorem s65_197 {a : Nat} {x0 : Int32} (hw : xm_wt st ≤ 8) (hq : hp_is M a 7) : rn sc (d + 1) 65 197 [l0, l1, l2, l3, l4, l5, l6] (.int x0 :: .ref a :: st) M Q = rn sc d 81 0 [some (.ref a), some (.int x0), none, none, none, none] [] M (fun r M' => rn sc (d + 1) 65 200 [l0, l1, l2, l3, l4, l5, l6] (r.toList ++ st) M' Q) := ru_d (ru_iv (as := [.int x0]) rfl rfl rfl (Nat.le_of_ble_eq_true rfl) hw rfl hq)
set_option maxRecDepth 100000 in
theorem s65_200 : rn sc d 65 200 [l0, l1, l2, l3, l4, l5, l6] st M Q = rn sc d 65 201 [l0, l1, l2, l3, l4, l5, l6] (.int 1 :: st) M Q := ru_k rfl rfl rfl rfl rfl (by decide)
set_option maxRecDepth 100000 in
theorem s65_201 {v : Int32} : rn sc d 65 201 [l0, l1, l2, l3, l4, l5, l6] [.int v] M Q = Q (some (.int v)) M := ru_ri rfl rfl
set_option maxRecDepth 100000 in
theorem s65_202 {a : Nat} : rn sc d 65 202 [some (.ref a), l1, l2, l3, l4, l5, l6] st M Q = rn sc d 65 203 [some (.ref a), l1, l2, l3, l4, l5, l6] (.ref a :: st) M Q := ru_1 rfl rfl rfl rfl rfl
set_option maxRecDepth 100000 in
theorem s65_203 {a : Nat} : rn sc d 65 203 [l0, l1, l2, l3, l4, l5, l6] (.ref a :: st) M Q = rn_o (hp_f M a 7 28) (fun v => rn sc d 65 206 [l0, l1, l2, l3, l4, l5, l6] (v :: st) M Q) := ru_get rfl rfl
set_option maxRecDepth 100000 in
theorem s65_206 {x : Int32} : rn sc d 65 206 [l0, l1, l2, l3, l4, l5, l6] (.int x :: st) M Q = if x = 0 then rn sc d 65 213 [l0, l1, l2, l3, l4, l5, l6] st M Q else rn sc d 65 209 [l0, l1, l2, l3, l4, l5, l6] st M Q := ru_if pc_eq rfl (by decide)
set_option maxRecDepth 100000 in
theorem s65_209 : rn sc d 65 209 [l0, l1, l2, l3, l4, l5, l6] st M Q = rn sc d 65 210 [l0, l1, l2, l3, l4, l5, l6] (.int 2 :: st) M Q := ru_k rfl rfl rfl rfl rfl (by decide)
set_option maxRecDepth 100000 in
theorem s65_210 : rn sc d 65 210 [l0, l1, l2, l3, l4, l5, l6] st M Q = rn sc d 65 225 [l0, l1, l2, l3, l4, l5, l6] st M Q := ru_go rfl (by decide)
set_option maxRecDepth 100000 in
theorem s65_213 {a : Nat} : rn sc d 65 213 [some (.ref a), l1, l2, l3, l4, l5, l6] st M Q = rn sc d 65 214 [some (.ref a), l1, l2, l3, l4, l5, l6] (.ref a :: st) M Q := ru_1 rfl rfl rfl rfl rfl
set_option maxRecDepth 100000 in
theorem s65_214 {a : Nat} : rn sc d 65 214 [l0, l1, l2, l3, l4, l5, l6] (.ref a :: st) M Q = rn_o (hp_f M a 7 29) (fun v => rn sc d 65 217 [l0, l1, l2, l3, l4, l5, l6] (v :: st) M Q) := ru_get rfl rfl
set_option maxRecDepth 100000 in
theorem s65_217 {x : Int32} : rn sc d 65 217 [l0, l1, l2, l3, l4, l5, l6] (.int x :: st) M Q = if x = 0 then rn sc d 65 224 [l0, l1, l2, l3, l4, l5, l6] st M Q else rn sc d 65 220 [l0, l1, l2, l3, l4, l5, l6] st M Q := ru_if pc_eq rfl (by decide)
set_option maxRecDepth 100000 in
theorem s65_220 : rn sc d 65 220 [l0, l1, l2, l3, l4, l5, l6] st M Q = rn sc d 65 221 [l0, l1, l2, l3, l4, l5, l6] (.int 3 :: st) M Q := ru_k rfl rfl rfl rfl rfl (by decide)
set_option maxRecDepth 100000 in
theorem s65_221 : rn sc d 65 221 [l0, l1, l2, l3, l4, l5, l6] st M Q = rn sc d 65 225 [l0, l1, l2, l3, l4, l5, l6] st M Q := ru_go rfl (by decide)
set_option maxRecDepth 100000 in
theorem s65_224 : rn sc d 65 224 [l0, l1, l2, l3, l4, l5, l6] st M Q = rn sc d 65 225 [l0, l1, l2, l3, l4, l5, l6] (.int 0 :: st) M Q := ru_k rfl rfl rfl rfl rfl (by decide)
set_option maxRecDepth 100000 in
theorem s65_225 {v : Int32} : rn sc d 65 225 [l0, l1, l2, l3, l4, l5, l6] [.int v] M Q = Q (some (.int v)) M := ru_ri rfl rfl
set_option maxRecDepth 100000 in
theorem s66_0 {a : Nat} : rn sc d 66 0 [some (.ref a), l1, l2, l3, l4] st M Q = rn sc d 66 1 [some (.ref a), l1, l2, l3, l4] (.ref a :: st) M Q := ru_1 rfl rfl rfl rfl rfl
set_option maxRecDepth 100000 in
theorem s66_1 {x : Int32} : rn sc d 66 1 [l0, some (.int x), l2, l3, l4] st M Q = rn sc d 66 2 [l0, some (.int x), l2, l3, l4] (.int x :: st) M Q := ru_1 rfl rfl rfl rfl rfl
set_option maxRecDepth 100000 in
theorem s66_2 {x : Int32} : rn sc d 66 2 [l0, l1, some (.int x), l3, l4] st M Q = rn sc d 66 3 [l0, l1, some (.int x), l3, l4] (.int x :: st) M Q := ru_1 rfl rfl rfl rfl rfl
set_option maxRecDepth 100000 in
theorem s66_3 : rn sc d 66 3 [l0, l1, l2, l3, l4] st M Q = rn sc d 66 4 [l0, l1, l2, l3, l4] (.int (-1) :: st) M Q := ru_k rfl rfl rfl rfl rfl (by decide)
set_option maxRecDepth 100000 in
theorem s66_4 {a : Nat} {x0 : Int32} {x1 : Int32} {x2 : Int32} (hw : xm_wt st ≤ 8) (hq : hp_is M a 7) : rn sc (d + 1) 66 4 [l0, l1, l2, l3, l4] (.int x2 :: .int x1 :: .int x0 :: .ref a :: st) M Q = rn sc d 67 0 [some (.ref a), some (.int x0), some (.int x1), some (.int x2)] [] M (fun r M' => rn sc (d + 1) 66 7 [l0, l1, l2, l3, l4] (r.toList ++ st) M' Q) := ru_d (ru_iv (as := [.int x2, .int x1, .int x0]) rfl rfl rfl (Nat.le_of_ble_eq_true rfl) hw rfl hq)
set_option maxRecDepth 100000 in
theorem s66_7 {a : Nat} : rn sc d 66 7 [some (.ref a), l1, l2, l3, l4] st M Q = rn sc d 66 8 [some (.ref a), l1, l2, l3, l4] (.ref a :: st) M Q := ru_1 rfl rfl rfl rfl rfl
set_option maxRecDepth 100000 in
theorem s66_8 {a : Nat} : rn sc d 66 8 [l0, l1, l2, l3, l4] (.ref a :: st) M Q = rn_o (hp_f M a 7 26) (fun v => rn sc d 66 11 [l0, l1, l2, l3, l4] (v :: st) M Q) := ru_get rfl rfl
set_option maxRecDepth 100000 in
theorem s66_11 {x : Int32} : rn sc d 66 11 [l0, l1, l2, l3, l4] (.int x :: st) M Q = rn sc d 66 12 [l0, l1, l2, some (.int x), l4] st M Q := ru_1 rfl rfl rfl rfl rfl
set_option maxRecDepth 100000 in
theorem s66_12 {a : Nat} : rn sc d 66 12 [some (.ref a), l1, l2, l3, l4] st M Q = rn sc d 66 13 [some (.ref a), l1, l2, l3, l4] (.ref a :: st) M Q := ru_1 rfl rfl rfl rfl rfl
set_option maxRecDepth 100000 in
theorem s66_13 {a : Nat} : rn sc d 66 13 [l0, l1, l2, l3, l4] (.ref a :: st) M Q = rn_o (hp_f M a 7 28) (fun v => rn sc d 66 16 [l0, l1, l2, l3, l4] (v :: st) M Q) := ru_get rfl rfl
set_option maxRecDepth 100000 in
theorem s66_16 {x : Int32} : rn sc d 66 16 [l0, l1, l2, l3, l4] (.int x :: st) M Q = if ¬ x = 0 then rn sc d 66 122 [l0, l1, l2, l3, l4] st M Q else rn sc d 66 19 [l0, l1, l2, l3, l4] st M Q := ru_if pc_ne rfl (by decide)
set_option maxRecDepth 100000 in
theorem s66_19 {a : Nat} : rn sc d 66 19 [some (.ref a), l1, l2, l3, l4] st M Q = rn sc d 66 20 [some (.ref a), l1, l2, l3, l4] (.ref a :: st) M Q := ru_1 rfl rfl rfl rfl rfl
set_option maxRecDepth 100000 in
theorem s66_20 {a : Nat} : rn sc d 66 20 [l0, l1, l2, l3, l4] (.ref a :: st) M Q = rn_o (hp_f M a 7 29) (fun v => rn sc d 66 23 [l0, l1, l2, l3, l4] (v :: st) M Q) := ru_get rfl rfl
set_option maxRecDepth 100000 in
theorem s66_23 {x : Int32} : rn sc d 66 23 [l0, l1, l2, l3, l4] (.int x :: st) M Q = if ¬ x = 0 then rn sc d 66 122 [l0, l1, l2, l3, l4] st M Q else rn sc d 66 26 [l0, l1, l2, l3, l4] st M Q := ru_if pc_ne rfl (by decide)
set_option maxRecDepth 100000 in
theorem s66_26 {a : Nat} : rn sc d 66 26 [some (.ref a), l1, l2, l3, l4] st M Q = rn sc d 66 27 [some (.ref a), l1, l2, l3, l4] (.ref a :: st) M Q := ru_1 rfl rfl rfl rfl rfl
set_option maxRecDepth 100000 in
theorem s66_27 {a : Nat} : rn sc d 66 27 [l0, l1, l2, l3, l4] (.ref a :: st) M Q = rn_o (hp_f M a 7 27) (fun v => rn sc d 66 30 [l0, l1, l2, l3, l4] (v :: st) M Q) := ru_get rfl rfl
set_option maxRecDepth 100000 in
theorem s66_30 {x : Int32} : rn sc d 66 30 [l0, l1, l2, l3, l4] (.int x :: st) M Q = if ¬ x = 0 then rn sc d 66 40 [l0, l1, l2, l3, l4] st M Q else rn sc d 66 33 [l0, l1, l2, l3, l4] st M Q := ru_if pc_ne rfl (by decide)
set_option maxRecDepth 100000 in
theorem s66_33 {a : Nat} : rn sc d 66 33 [some (.ref a), l1, l2, l3, l4] st M Q = rn sc d 66 34 [some (.ref a), l1, l2, l3, l4] (.ref a :: st) M Q := ru_1 rfl rfl rfl rfl rfl
set_option maxRecDepth 100000 in
theorem s66_34 {a : Nat}  (hw : xm_wt st ≤ 8) (hq : hp_is M a 7) : rn sc (d + 1) 66 34 [l0, l1, l2, l3, l4] (.ref a :: st) M Q = rn sc d 68 0 [some (.ref a), none, none, none] [] M (fun r M' => rn sc (d + 1) 66 37 [l0, l1, l2, l3, l4] (r.toList ++ st) M' Q) := ru_d (ru_iv (as := []) rfl rfl rfl (Nat.le_of_ble_eq_true rfl) hw rfl hq)
set_option maxRecDepth 100000 in
theorem s66_37 : rn sc d 66 37 [l0, l1, l2, l3, l4] st M Q = rn sc d 66 12 [l0, l1, l2, l3, l4] st M Q := ru_go rfl (by decide)
set_option maxRecDepth 100000 in
theorem s66_40 {a : Nat} : rn sc d 66 40 [some (.ref a), l1, l2, l3, l4] st M Q = rn sc d 66 41 [some (.ref a), l1, l2, l3, l4] (.ref a :: st) M Q := ru_1 rfl rfl rfl rfl rfl
set_option maxRecDepth 100000 in
theorem s66_41 {a : Nat} : rn sc d 66 41 [l0, l1, l2, l3, l4] (.ref a :: st) M Q = rn_o (hp_f M a 7 27) (fun v => rn sc d 66 44 [l0, l1, l2, l3, l4] (v :: st) M Q) := ru_get rfl rfl
set_option maxRecDepth 100000 in
theorem s66_44 : rn sc d 66 44 [l0, l1, l2, l3, l4] st M Q = rn sc d 66 45 [l0, l1, l2, l3, l4] (.int 1 :: st) M Q := ru_k rfl rfl rfl rfl rfl (by decide)
set_option maxRecDepth 100000 in
theorem s66_45 {u v : Int32} : rn sc d 66 45 [l0, l1, l2, l3, l4] (.int v :: .int u :: st) M Q = if ¬ u = v then rn sc d 66 55 [l0, l1, l2, l3, l4] st M Q else rn sc d 66 48 [l0, l1, l2, l3, l4] st M Q := ru_ic pc_ne rfl (by decide)
set_option maxRecDepth 100000 in
theorem s66_48 {a : Nat} : rn sc d 66 48 [some (.ref a), l1, l2, l3, l4] st M Q = rn sc d 66 49 [some (.ref a), l1, l2, l3, l4] (.ref a :: st) M Q := ru_1 rfl rfl rfl rfl rfl
set_option maxRecDepth 100000 in
theorem s66_49 {a : Nat}  (hw : xm_wt st ≤ 8) (hq : hp_is M a 7) : rn sc (d + 1) 66 49 [l0, l1, l2, l3, l4] (.ref a :: st) M Q = rn sc d 77 0 [some (.ref a), none, none] [] M (fun r M' => rn sc (d + 1) 66 52 [l0, l1, l2, l3, l4] (r.toList ++ st) M' Q) := ru_d (ru_iv (as := []) rfl rfl rfl (Nat.le_of_ble_eq_true rfl) hw rfl hq)
set_option maxRecDepth 100000 in
theorem s66_52 : rn sc d 66 52 [l0, l1, l2, l3, l4] st M Q = rn sc d 66 12 [l0, l1, l2, l3, l4] st M Q := ru_go rfl (by decide)
set_option maxRecDepth 100000 in
theorem s66_55 {a : Nat} : rn sc d 66 55 [some (.ref a), l1, l2, l3, l4] st M Q = rn sc d 66 56 [some (.ref a), l1, l2, l3, l4] (.ref a :: st) M Q := ru_1 rfl rfl rfl rfl rfl
set_option maxRecDepth 100000 in
theorem s66_56 {a : Nat} : rn sc d 66 56 [l0, l1, l2, l3, l4] (.ref a :: st) M Q = rn_o (hp_f M a 7 26) (fun v => rn sc d 66 59 [l0, l1, l2, l3, l4] (v :: st) M Q) := ru_get rfl rfl
set_option maxRecDepth 100000 in
theorem s66_59 {x : Int32} : rn sc d 66 59 [l0, l1, l2, some (.int x), l4] st M Q = rn sc d 66 60 [l0, l1, l2, some (.int x), l4] (.int x :: st) M Q := ru_1 rfl rfl rfl rfl rfl
set_option maxRecDepth 100000 in
theorem s66_60 {u v : Int32} : rn sc d 66 60 [l0, l1, l2, l3, l4] (.int v :: .int u :: st) M Q = if ¬ u = v then rn sc d 66 77 [l0, l1, l2, l3, l4] st M Q else rn sc d 66 63 [l0, l1, l2, l3, l4] st M Q := ru_ic pc_ne rfl (by decide)
set_option maxRecDepth 100000 in
theorem s66_63 {a : Nat} : rn sc d 66 63 [some (.ref a), l1, l2, l3, l4] st M Q = rn sc d 66 64 [some (.ref a), l1, l2, l3, l4] (.ref a :: st) M Q := ru_1 rfl rfl rfl rfl rfl
set_option maxRecDepth 100000 in
theorem s66_64 {a : Nat} : rn sc d 66 64 [l0, l1, l2, l3, l4] (.ref a :: st) M Q = rn_o (hp_f M a 7 27) (fun v => rn sc d 66 67 [l0, l1, l2, l3, l4] (v :: st) M Q) := ru_get rfl rfl
set_option maxRecDepth 100000 in
theorem s66_67 : rn sc d 66 67 [l0, l1, l2, l3, l4] st M Q = rn sc d 66 68 [l0, l1, l2, l3, l4] (.int 2 :: st) M Q := ru_k rfl rfl rfl rfl rfl (by decide)
set_option maxRecDepth 100000 in
theorem s66_68 {u v : Int32} : rn sc d 66 68 [l0, l1, l2, l3, l4] (.int v :: .int u :: st) M Q = if ¬ u = v then rn sc d 66 75 [l0, l1, l2, l3, l4] st M Q else rn sc d 66 71 [l0, l1, l2, l3, l4] st M Q := ru_ic pc_ne rfl (by decide)
set_option maxRecDepth 100000 in
theorem s66_71 {x : Int32} : rn sc d 66 71 [l0, l1, l2, some (.int x), l4] st M Q = rn sc d 66 72 [l0, l1, l2, some (.int x), l4] (.int x :: st) M Q := ru_1 rfl rfl rfl rfl rfl
set_option maxRecDepth 100000 in
theorem s66_72 : rn sc d 66 72 [l0, l1, l2, l3, l4] st M Q = rn sc d 66 76 [l0, l1, l2, l3, l4] st M Q := ru_go rfl (by decide)
set_option maxRecDepth 100000 in
theorem s66_75 : rn sc d 66 75 [l0, l1, l2, l3, l4] st M Q = rn sc d 66 76 [l0, l1, l2, l3, l4] (.int (-1) :: st) M Q := ru_k rfl rfl rfl rfl rfl (by decide)
set_option maxRecDepth 100000 in
theorem s66_76 {v : Int32} : rn sc d 66 76 [l0, l1, l2, l3, l4] [.int v] M Q = Q (some (.int v)) M := ru_ri rfl rfl
set_option maxRecDepth 100000 in
theorem s66_77 {a : Nat} : rn sc d 66 77 [some (.ref a), l1, l2, l3, l4] st M Q = rn sc d 66 78 [some (.ref a), l1, l2, l3, l4] (.ref a :: st) M Q := ru_1 rfl rfl rfl rfl rfl
set_option maxRecDepth 100000 in
theorem s66_78 {a : Nat} : rn sc d 66 78 [l0, l1, l2, l3, l4] (.ref a :: st) M Q = rn_o (hp_f M a 7 26) (fun v => rn sc d 66 81 [l0, l1, l2, l3, l4] (v :: st) M Q) := ru_get rfl rfl
set_option maxRecDepth 100000 in
theorem s66_81 {x : Int32} : rn sc d 66 81 [l0, l1, l2, l3, l4] (.int x :: st) M Q = rn sc d 66 83 [l0, l1, l2, l3, some (.int x)] st M Q := ru_1 rfl rfl rfl rfl rfl
set_option maxRecDepth 100000 in
theorem s66_83 {a : Nat} : rn sc d 66 83 [some (.ref a), l1, l2, l3, l4] st M Q = rn sc d 66 84 [some (.ref a), l1, l2, l3, l4] (.ref a :: st) M Q := ru_1 rfl rfl rfl rfl rfl
set_option maxRecDepth 100000 in
theorem s66_84 {a : Nat} : rn sc d 66 84 [some (.ref a), l1, l2, l3, l4] st M Q = rn sc d 66 85 [some (.ref a), l1, l2, l3, l4] (.ref a :: st) M Q := ru_1 rfl rfl rfl rfl rfl
set_option maxRecDepth 100000 in
theorem s66_85 {a : Nat} : rn sc d 66 85 [l0, l1, l2, l3, l4] (.ref a :: st) M Q = rn_o (hp_f M a 7 20) (fun v => rn sc d 66 88 [l0, l1, l2, l3, l4] (v :: st) M Q) := ru_get rfl rfl
set_option maxRecDepth 100000 in
theorem s66_88 {a : Nat} : rn sc d 66 88 [some (.ref a), l1, l2, l3, l4] st M Q = rn sc d 66 89 [some (.ref a), l1, l2, l3, l4] (.ref a :: st) M Q := ru_1 rfl rfl rfl rfl rfl
set_option maxRecDepth 100000 in
theorem s66_89 {a : Nat} : rn sc d 66 89 [l0, l1, l2, l3, l4] (.ref a :: st) M Q = rn_o (hp_f M a 7 26) (fun v => rn sc d 66 92 [l0, l1, l2, l3, l4] (v :: st) M Q) := ru_get rfl rfl
set_option maxRecDepth 100000 in
theorem s66_92 {a : Nat} {j : Int32} : rn sc d 66 92 [l0, l1, l2, l3, l4] (.int j :: .ref a :: st) M Q = rn_o (hp_i sc M a j) (fun v => rn sc d 66 93 [l0, l1, l2, l3, l4] (.int v :: st) M Q) := ru_iald rfl
set_option maxRecDepth 100000 in
theorem s66_93 {a : Nat} {v : Value} : rn sc d 66 93 [l0, l1, l2, l3, l4] (v :: .ref a :: st) M Q = rn_o (hp_pf M a 7 26 v) (fun M' => rn sc d 66 96 [l0, l1, l2, l3, l4] st M' Q) := ru_put rfl rfl rfl
set_option maxRecDepth 100000 in
theorem s66_96 {a : Nat} : rn sc d 66 96 [some (.ref a), l1, l2, l3, l4] st M Q = rn sc d 66 97 [some (.ref a), l1, l2, l3, l4] (.ref a :: st) M Q := ru_1 rfl rfl rfl rfl rfl
set_option maxRecDepth 100000 in
theorem s66_97 {a : Nat} : rn sc d 66 97 [l0, l1, l2, l3, l4] (.ref a :: st) M Q = rn_o (hp_f M a 7 27) (fun v => rn sc d 66 100 [l0, l1, l2, l3, l4] (v :: st) M Q) := ru_get rfl rfl
set_option maxRecDepth 100000 in
theorem s66_100 : rn sc d 66 100 [l0, l1, l2, l3, l4] st M Q = rn sc d 66 101 [l0, l1, l2, l3, l4] (.int 2 :: st) M Q := ru_k rfl rfl rfl rfl rfl (by decide)
set_option maxRecDepth 100000 in
theorem s66_101 {u v : Int32} : rn sc d 66 101 [l0, l1, l2, l3, l4] (.int v :: .int u :: st) M Q = if ¬ u = v then rn sc d 66 113 [l0, l1, l2, l3, l4] st M Q else rn sc d 66 104 [l0, l1, l2, l3, l4] st M Q := ru_ic pc_ne rfl (by decide)
set_option maxRecDepth 100000 in
theorem s66_104 {a : Nat} : rn sc d 66 104 [some (.ref a), l1, l2, l3, l4] st M Q = rn sc d 66 105 [some (.ref a), l1, l2, l3, l4] (.ref a :: st) M Q := ru_1 rfl rfl rfl rfl rfl
set_option maxRecDepth 100000 in
theorem s66_105 {x : Int32} : rn sc d 66 105 [l0, l1, l2, l3, some (.int x)] st M Q = rn sc d 66 107 [l0, l1, l2, l3, some (.int x)] (.int x :: st) M Q := ru_1 rfl rfl rfl rfl rfl
set_option maxRecDepth 100000 in
theorem s66_107 {a : Nat} {x0 : Int32} (hw : xm_wt st ≤ 8) (hq : hp_is M a 7) : rn sc (d + 1) 66 107 [l0, l1, l2, l3, l4] (.int x0 :: .ref a :: st) M Q = rn sc d 78 0 [some (.ref a), some (.int x0), none, none, none] [] M (fun r M' => rn sc (d + 1) 66 110 [l0, l1, l2, l3, l4] (r.toList ++ st) M' Q) := ru_d (ru_iv (as := [.int x0]) rfl rfl rfl (Nat.le_of_ble_eq_true rfl) hw rfl hq)
set_option maxRecDepth 100000 in
theorem s66_110 : rn sc d 66 110 [l0, l1, l2, l3, l4] st M Q = rn sc d 66 119 [l0, l1, l2, l3, l4] st M Q := ru_go rfl (by decide)
set_option maxRecDepth 100000 in
theorem s66_113 {a : Nat} : rn sc d 66 113 [some (.ref a), l1, l2, l3, l4] st M Q = rn sc d 66 114 [some (.ref a), l1, l2, l3, l4] (.ref a :: st) M Q := ru_1 rfl rfl rfl rfl rfl
set_option maxRecDepth 100000 in
theorem s66_114 {x : Int32} : rn sc d 66 114 [l0, l1, l2, l3, some (.int x)] st M Q = rn sc d 66 116 [l0, l1, l2, l3, some (.int x)] (.int x :: st) M Q := ru_1 rfl rfl rfl rfl rfl
set_option maxRecDepth 100000 in
theorem s66_116 {a : Nat} {x0 : Int32} (hw : xm_wt st ≤ 8) (hq : hp_is M a 7) : rn sc (d + 1) 66 116 [l0, l1, l2, l3, l4] (.int x0 :: .ref a :: st) M Q = rn sc d 80 0 [some (.ref a), some (.int x0), none, none, none] [] M (fun r M' => rn sc (d + 1) 66 119 [l0, l1, l2, l3, l4] (r.toList ++ st) M' Q) := ru_d (ru_iv (as := [.int x0]) rfl rfl rfl (Nat.le_of_ble_eq_true rfl) hw rfl hq)
set_option maxRecDepth 100000 in
theorem s66_119 : rn sc d 66 119 [l0, l1, l2, l3, l4] st M Q = rn sc d 66 12 [l0, l1, l2, l3, l4] st M Q := ru_go rfl (by decide)
set_option maxRecDepth 100000 in
theorem s66_122 : rn sc d 66 122 [l0, l1, l2, l3, l4] st M Q = rn sc d 66 123 [l0, l1, l2, l3, l4] (.int (-1) :: st) M Q := ru_k rfl rfl rfl rfl rfl (by decide)
set_option maxRecDepth 100000 in
theorem s66_123 {v : Int32} : rn sc d 66 123 [l0, l1, l2, l3, l4] [.int v] M Q = Q (some (.int v)) M := ru_ri rfl rfl
set_option maxRecDepth 100000 in
theorem s67_0 {a : Nat} : rn sc d 67 0 [some (.ref a), l1, l2, l3] st M Q = rn sc d 67 1 [some (.ref a), l1, l2, l3] (.ref a :: st) M Q := ru_1 rfl rfl rfl rfl rfl
set_option maxRecDepth 100000 in
theorem s67_1 {a : Nat} : rn sc d 67 1 [l0, l1, l2, l3] (.ref a :: st) M Q = rn_o (hp_f M a 7 14) (fun v => rn sc d 67 4 [l0, l1, l2, l3] (v :: st) M Q) := ru_get rfl rfl
set_option maxRecDepth 100000 in
theorem s67_4 : rn sc d 67 4 [l0, l1, l2, l3] st M Q = rn sc d 67 7 [l0, l1, l2, l3] (.int 3000 :: st) M Q := ru_k rfl rfl rfl rfl rfl (by decide)
set_option maxRecDepth 100000 in
theorem s67_7 {u v : Int32} : rn sc d 67 7 [l0, l1, l2, l3] (.int v :: .int u :: st) M Q = if ¬ u = v then rn sc d 67 16 [l0, l1, l2, l3] st M Q else rn sc d 67 10 [l0, l1, l2, l3] st M Q := ru_ic pc_ne rfl (by decide)
set_option maxRecDepth 100000 in
theorem s67_10 {a : Nat} : rn sc d 67 10 [some (.ref a), l1, l2, l3] st M Q = rn sc d 67 11 [some (.ref a), l1, l2, l3] (.ref a :: st) M Q := ru_1 rfl rfl rfl rfl rfl
set_option maxRecDepth 100000 in
theorem s67_11 : rn sc d 67 11 [l0, l1, l2, l3] st M Q = rn sc d 67 12 [l0, l1, l2, l3] (.int 1 :: st) M Q := ru_k rfl rfl rfl rfl rfl (by decide)
set_option maxRecDepth 100000 in
theorem s67_12 {a : Nat} {v : Value} : rn sc d 67 12 [l0, l1, l2, l3] (v :: .ref a :: st) M Q = rn_o (hp_pf M a 7 29 v) (fun M' => rn sc d 67 15 [l0, l1, l2, l3] st M' Q) := ru_put rfl rfl rfl
set_option maxRecDepth 100000 in
theorem s67_15 : rn sc d 67 15 [l0, l1, l2, l3] [] M Q = Q none M := rn_ret rfl rfl rfl
set_option maxRecDepth 100000 in
theorem s67_16 {a : Nat} : rn sc d 67 16 [some (.ref a), l1, l2, l3] st M Q = rn sc d 67 17 [some (.ref a), l1, l2, l3] (.ref a :: st) M Q := ru_1 rfl rfl rfl rfl rfl
set_option maxRecDepth 100000 in
theorem s67_17 {a : Nat} : rn sc d 67 17 [some (.ref a), l1, l2, l3] st M Q = rn sc d 67 18 [some (.ref a), l1, l2, l3] (.ref a :: st) M Q := ru_1 rfl rfl rfl rfl rfl
set_option maxRecDepth 100000 in
theorem s67_18 {a : Nat} : rn sc d 67 18 [l0, l1, l2, l3] (.ref a :: st) M Q = rn_o (hp_f M a 7 14) (fun v => rn sc d 67 21 [l0, l1, l2, l3] (v :: st) M Q) := ru_get rfl rfl
set_option maxRecDepth 100000 in
theorem s67_21 {a : Nat} {v : Value} : rn sc d 67 21 [l0, l1, l2, l3] (v :: .ref a :: st) M Q = rn_o (hp_pf M a 7 26 v) (fun M' => rn sc d 67 24 [l0, l1, l2, l3] st M' Q) := ru_put rfl rfl rfl
set_option maxRecDepth 100000 in
theorem s67_24 {a : Nat} : rn sc d 67 24 [some (.ref a), l1, l2, l3] st M Q = rn sc d 67 25 [some (.ref a), l1, l2, l3] (.ref a :: st) M Q := ru_1 rfl rfl rfl rfl rfl
set_option maxRecDepth 100000 in
theorem s67_25 {a : Nat} : rn sc d 67 25 [l0, l1, l2, l3] (.ref a :: st) M Q = rn sc d 67 26 [l0, l1, l2, l3] (.ref a :: .ref a :: st) M Q := ru_1 rfl rfl rfl rfl rfl
set_option maxRecDepth 100000 in
theorem s67_25I {x : Int32} : rn sc d 67 25 [l0, l1, l2, l3] (.int x :: st) M Q = rn sc d 67 26 [l0, l1, l2, l3] (.int x :: .int x :: st) M Q := ru_1 rfl rfl rfl rfl rfl
set_option maxRecDepth 100000 in
theorem s67_26 {a : Nat} : rn sc d 67 26 [l0, l1, l2, l3] (.ref a :: st) M Q = rn_o (hp_f M a 7 14) (fun v => rn sc d 67 29 [l0, l1, l2, l3] (v :: st) M Q) := ru_get rfl rfl
set_option maxRecDepth 100000 in
theorem s67_29 : rn sc d 67 29 [l0, l1, l2, l3] st M Q = rn sc d 67 30 [l0, l1, l2, l3] (.int 1 :: st) M Q := ru_k rfl rfl rfl rfl rfl (by decide)
set_option maxRecDepth 100000 in
theorem s67_30 {u v : Int32} : rn sc d 67 30 [l0, l1, l2, l3] (.int v :: .int u :: st) M Q = rn sc d 67 31 [l0, l1, l2, l3] (.int (u + v) :: st) M Q := ru_1 rfl rfl rfl rfl rfl
set_option maxRecDepth 100000 in
theorem s67_31 {a : Nat} {v : Value} : rn sc d 67 31 [l0, l1, l2, l3] (v :: .ref a :: st) M Q = rn_o (hp_pf M a 7 14 v) (fun M' => rn sc d 67 34 [l0, l1, l2, l3] st M' Q) := ru_put rfl rfl rfl
set_option maxRecDepth 100000 in
theorem s67_34 {a : Nat} : rn sc d 67 34 [some (.ref a), l1, l2, l3] st M Q = rn sc d 67 35 [some (.ref a), l1, l2, l3] (.ref a :: st) M Q := ru_1 rfl rfl rfl rfl rfl
set_option maxRecDepth 100000 in
theorem s67_35 {a : Nat} : rn sc d 67 35 [l0, l1, l2, l3] (.ref a :: st) M Q = rn_o (hp_f M a 7 17) (fun v => rn sc d 67 38 [l0, l1, l2, l3] (v :: st) M Q) := ru_get rfl rfl
set_option maxRecDepth 100000 in
theorem s67_38 {a : Nat} : rn sc d 67 38 [some (.ref a), l1, l2, l3] st M Q = rn sc d 67 39 [some (.ref a), l1, l2, l3] (.ref a :: st) M Q := ru_1 rfl rfl rfl rfl rfl
set_option maxRecDepth 100000 in
theorem s67_39 {a : Nat} : rn sc d 67 39 [l0, l1, l2, l3] (.ref a :: st) M Q = rn_o (hp_f M a 7 26) (fun v => rn sc d 67 42 [l0, l1, l2, l3] (v :: st) M Q) := ru_get rfl rfl
set_option maxRecDepth 100000 in
theorem s67_42 {x : Int32} : rn sc d 67 42 [l0, some (.int x), l2, l3] st M Q = rn sc d 67 43 [l0, some (.int x), l2, l3] (.int x :: st) M Q := ru_1 rfl rfl rfl rfl rfl
set_option maxRecDepth 100000 in
theorem s67_43 {a : Nat} {j x : Int32} : rn sc d 67 43 [l0, l1, l2, l3] (.int x :: .int j :: .ref a :: st) M Q = rn_o (hp_pi M a j x) (fun M' => rn sc d 67 44 [l0, l1, l2, l3] st M' Q) := ru_iast rfl
set_option maxRecDepth 100000 in
theorem s67_44 {a : Nat} : rn sc d 67 44 [some (.ref a), l1, l2, l3] st M Q = rn sc d 67 45 [some (.ref a), l1, l2, l3] (.ref a :: st) M Q := ru_1 rfl rfl rfl rfl rfl
set_option maxRecDepth 100000 in
theorem s67_45 {a : Nat} : rn sc d 67 45 [l0, l1, l2, l3] (.ref a :: st) M Q = rn_o (hp_f M a 7 18) (fun v => rn sc d 67 48 [l0, l1, l2, l3] (v :: st) M Q) := ru_get rfl rfl
set_option maxRecDepth 100000 in
theorem s67_48 {a : Nat} : rn sc d 67 48 [some (.ref a), l1, l2, l3] st M Q = rn sc d 67 49 [some (.ref a), l1, l2, l3] (.ref a :: st) M Q := ru_1 rfl rfl rfl rfl rfl
set_option maxRecDepth 100000 in
theorem s67_49 {a : Nat} : rn sc d 67 49 [l0, l1, l2, l3] (.ref a :: st) M Q = rn_o (hp_f M a 7 26) (fun v => rn sc d 67 52 [l0, l1, l2, l3] (v :: st) M Q) := ru_get rfl rfl
set_option maxRecDepth 100000 in
theorem s67_52 {x : Int32} : rn sc d 67 52 [l0, l1, some (.int x), l3] st M Q = rn sc d 67 53 [l0, l1, some (.int x), l3] (.int x :: st) M Q := ru_1 rfl rfl rfl rfl rfl
set_option maxRecDepth 100000 in
theorem s67_53 {a : Nat} {j x : Int32} : rn sc d 67 53 [l0, l1, l2, l3] (.int x :: .int j :: .ref a :: st) M Q = rn_o (hp_pi M a j x) (fun M' => rn sc d 67 54 [l0, l1, l2, l3] st M' Q) := ru_iast rfl
set_option maxRecDepth 100000 in
theorem s67_54 {a : Nat} : rn sc d 67 54 [some (.ref a), l1, l2, l3] st M Q = rn sc d 67 55 [some (.ref a), l1, l2, l3] (.ref a :: st) M Q := ru_1 rfl rfl rfl rfl rfl
set_option maxRecDepth 100000 in
theorem s67_55 {a : Nat} : rn sc d 67 55 [l0, l1, l2, l3] (.ref a :: st) M Q = rn_o (hp_f M a 7 19) (fun v => rn sc d 67 58 [l0, l1, l2, l3] (v :: st) M Q) := ru_get rfl rfl
set_option maxRecDepth 100000 in
theorem s67_58 {a : Nat} : rn sc d 67 58 [some (.ref a), l1, l2, l3] st M Q = rn sc d 67 59 [some (.ref a), l1, l2, l3] (.ref a :: st) M Q := ru_1 rfl rfl rfl rfl rfl
set_option maxRecDepth 100000 in
theorem s67_59 {a : Nat} : rn sc d 67 59 [l0, l1, l2, l3] (.ref a :: st) M Q = rn_o (hp_f M a 7 26) (fun v => rn sc d 67 62 [l0, l1, l2, l3] (v :: st) M Q) := ru_get rfl rfl
set_option maxRecDepth 100000 in
theorem s67_62 {x : Int32} : rn sc d 67 62 [l0, l1, some (.int x), l3] st M Q = rn sc d 67 63 [l0, l1, some (.int x), l3] (.int x :: st) M Q := ru_1 rfl rfl rfl rfl rfl
set_option maxRecDepth 100000 in
theorem s67_63 {a : Nat} {j x : Int32} : rn sc d 67 63 [l0, l1, l2, l3] (.int x :: .int j :: .ref a :: st) M Q = rn_o (hp_pi M a j x) (fun M' => rn sc d 67 64 [l0, l1, l2, l3] st M' Q) := ru_iast rfl
set_option maxRecDepth 100000 in
theorem s67_64 {a : Nat} : rn sc d 67 64 [some (.ref a), l1, l2, l3] st M Q = rn sc d 67 65 [some (.ref a), l1, l2, l3] (.ref a :: st) M Q := ru_1 rfl rfl rfl rfl rfl
set_option maxRecDepth 100000 in
theorem s67_65 {a : Nat} : rn sc d 67 65 [l0, l1, l2, l3] (.ref a :: st) M Q = rn_o (hp_f M a 7 20) (fun v => rn sc d 67 68 [l0, l1, l2, l3] (v :: st) M Q) := ru_get rfl rfl
set_option maxRecDepth 100000 in
theorem s67_68 {a : Nat} : rn sc d 67 68 [some (.ref a), l1, l2, l3] st M Q = rn sc d 67 69 [some (.ref a), l1, l2, l3] (.ref a :: st) M Q := ru_1 rfl rfl rfl rfl rfl
set_option maxRecDepth 100000 in
theorem s67_69 {a : Nat} : rn sc d 67 69 [l0, l1, l2, l3] (.ref a :: st) M Q = rn_o (hp_f M a 7 26) (fun v => rn sc d 67 72 [l0, l1, l2, l3] (v :: st) M Q) := ru_get rfl rfl
set_option maxRecDepth 100000 in
theorem s67_72 {x : Int32} : rn sc d 67 72 [l0, l1, l2, some (.int x)] st M Q = rn sc d 67 73 [l0, l1, l2, some (.int x)] (.int x :: st) M Q := ru_1 rfl rfl rfl rfl rfl
set_option maxRecDepth 100000 in
theorem s67_73 {a : Nat} {j x : Int32} : rn sc d 67 73 [l0, l1, l2, l3] (.int x :: .int j :: .ref a :: st) M Q = rn_o (hp_pi M a j x) (fun M' => rn sc d 67 74 [l0, l1, l2, l3] st M' Q) := ru_iast rfl
set_option maxRecDepth 100000 in
theorem s67_74 {a : Nat} : rn sc d 67 74 [some (.ref a), l1, l2, l3] st M Q = rn sc d 67 75 [some (.ref a), l1, l2, l3] (.ref a :: st) M Q := ru_1 rfl rfl rfl rfl rfl
set_option maxRecDepth 100000 in
theorem s67_75 {a : Nat} : rn sc d 67 75 [l0, l1, l2, l3] (.ref a :: st) M Q = rn_o (hp_f M a 7 21) (fun v => rn sc d 67 78 [l0, l1, l2, l3] (v :: st) M Q) := ru_get rfl rfl
set_option maxRecDepth 100000 in
theorem s67_78 {a : Nat} : rn sc d 67 78 [some (.ref a), l1, l2, l3] st M Q = rn sc d 67 79 [some (.ref a), l1, l2, l3] (.ref a :: st) M Q := ru_1 rfl rfl rfl rfl rfl
set_option maxRecDepth 100000 in
theorem s67_79 {a : Nat} : rn sc d 67 79 [l0, l1, l2, l3] (.ref a :: st) M Q = rn_o (hp_f M a 7 26) (fun v => rn sc d 67 82 [l0, l1, l2, l3] (v :: st) M Q) := ru_get rfl rfl
set_option maxRecDepth 100000 in
theorem s67_82 : rn sc d 67 82 [l0, l1, l2, l3] st M Q = rn sc d 67 83 [l0, l1, l2, l3] (.int (-1) :: st) M Q := ru_k rfl rfl rfl rfl rfl (by decide)
set_option maxRecDepth 100000 in
theorem s67_83 {a : Nat} {j x : Int32} : rn sc d 67 83 [l0, l1, l2, l3] (.int x :: .int j :: .ref a :: st) M Q = rn_o (hp_pi M a j x) (fun M' => rn sc d 67 84 [l0, l1, l2, l3] st M' Q) := ru_iast rfl
set_option maxRecDepth 100000 in
theorem s67_84 {a : Nat} : rn sc d 67 84 [some (.ref a), l1, l2, l3] st M Q = rn sc d 67 85 [some (.ref a), l1, l2, l3] (.ref a :: st) M Q := ru_1 rfl rfl rfl rfl rfl
set_option maxRecDepth 100000 in
theorem s67_85 {a : Nat} : rn sc d 67 85 [l0, l1, l2, l3] (.ref a :: st) M Q = rn_o (hp_f M a 7 22) (fun v => rn sc d 67 88 [l0, l1, l2, l3] (v :: st) M Q) := ru_get rfl rfl
set_option maxRecDepth 100000 in
theorem s67_88 {a : Nat} : rn sc d 67 88 [some (.ref a), l1, l2, l3] st M Q = rn sc d 67 89 [some (.ref a), l1, l2, l3] (.ref a :: st) M Q := ru_1 rfl rfl rfl rfl rfl
set_option maxRecDepth 100000 in
theorem s67_89 {a : Nat} : rn sc d 67 89 [l0, l1, l2, l3] (.ref a :: st) M Q = rn_o (hp_f M a 7 26) (fun v => rn sc d 67 92 [l0, l1, l2, l3] (v :: st) M Q) := ru_get rfl rfl
set_option maxRecDepth 100000 in
theorem s67_92 : rn sc d 67 92 [l0, l1, l2, l3] st M Q = rn sc d 67 93 [l0, l1, l2, l3] (.int (-1) :: st) M Q := ru_k rfl rfl rfl rfl rfl (by decide)
set_option maxRecDepth 100000 in
theorem s67_93 {a : Nat} {j x : Int32} : rn sc d 67 93 [l0, l1, l2, l3] (.int x :: .int j :: .ref a :: st) M Q = rn_o (hp_pi M a j x) (fun M' => rn sc d 67 94 [l0, l1, l2, l3] st M' Q) := ru_iast rfl
set_option maxRecDepth 100000 in
theorem s67_94 {a : Nat} : rn sc d 67 94 [some (.ref a), l1, l2, l3] st M Q = rn sc d 67 95 [some (.ref a), l1, l2, l3] (.ref a :: st) M Q := ru_1 rfl rfl rfl rfl rfl
set_option maxRecDepth 100000 in
theorem s67_95 {a : Nat} : rn sc d 67 95 [l0, l1, l2, l3] (.ref a :: st) M Q = rn_o (hp_f M a 7 23) (fun v => rn sc d 67 98 [l0, l1, l2, l3] (v :: st) M Q) := ru_get rfl rfl
set_option maxRecDepth 100000 in
theorem s67_98 {a : Nat} : rn sc d 67 98 [some (.ref a), l1, l2, l3] st M Q = rn sc d 67 99 [some (.ref a), l1, l2, l3] (.ref a :: st) M Q := ru_1 rfl rfl rfl rfl rfl
set_option maxRecDepth 100000 in
theorem s67_99 {a : Nat} : rn sc d 67 99 [l0, l1, l2, l3] (.ref a :: st) M Q = rn_o (hp_f M a 7 26) (fun v => rn sc d 67 102 [l0, l1, l2, l3] (v :: st) M Q) := ru_get rfl rfl
set_option maxRecDepth 100000 in
theorem s67_102 : rn sc d 67 102 [l0, l1, l2, l3] st M Q = rn sc d 67 103 [l0, l1, l2, l3] (.int 0 :: st) M Q := ru_k rfl rfl rfl rfl rfl (by decide)
set_option maxRecDepth 100000 in
theorem s67_103 {a : Nat} {j x : Int32} : rn sc d 67 103 [l0, l1, l2, l3] (.int x :: .int j :: .ref a :: st) M Q = rn_o (hp_pb M a j x) (fun M' => rn sc d 67 104 [l0, l1, l2, l3] st M' Q) := ru_bast rfl
set_option maxRecDepth 100000 in
theorem s67_104 {a : Nat} : rn sc d 67 104 [some (.ref a), l1, l2, l3] st M Q = rn sc d 67 105 [some (.ref a), l1, l2, l3] (.ref a :: st) M Q := ru_1 rfl rfl rfl rfl rfl
set_option maxRecDepth 100000 in
theorem s67_105 : rn sc d 67 105 [l0, l1, l2, l3] st M Q = rn sc d 67 106 [l0, l1, l2, l3] (.int 0 :: st) M Q := ru_k rfl rfl rfl rfl rfl (by decide)
set_option maxRecDepth 100000 in
theorem s67_106 {a : Nat} {v : Value} : rn sc d 67 106 [l0, l1, l2, l3] (v :: .ref a :: st) M Q = rn_o (hp_pf M a 7 27 v) (fun M' => rn sc d 67 109 [l0, l1, l2, l3] st M' Q) := ru_put rfl rfl rfl
set_option maxRecDepth 100000 in
theorem s67_109 : rn sc d 67 109 [l0, l1, l2, l3] [] M Q = Q none M := rn_ret rfl rfl rfl
set_option maxRecDepth 100000 in
theorem s68_0 {a : Nat} : rn sc d 68 0 [some (.ref a), l1, l2, l3] st M Q = rn sc d 68 1 [some (.ref a), l1, l2, l3] (.ref a :: st) M Q := ru_1 rfl rfl rfl rfl rfl
set_option maxRecDepth 100000 in
theorem s68_1 {a : Nat} : rn sc d 68 1 [l0, l1, l2, l3] (.ref a :: st) M Q = rn_o (hp_f M a 7 17) (fun v => rn sc d 68 4 [l0, l1, l2, l3] (v :: st) M Q) := ru_get rfl rfl
set_option maxRecDepth 100000 in
theorem s68_4 {a : Nat} : rn sc d 68 4 [some (.ref a), l1, l2, l3] st M Q = rn sc d 68 5 [some (.ref a), l1, l2, l3] (.ref a :: st) M Q := ru_1 rfl rfl rfl rfl rfl
set_option maxRecDepth 100000 in
theorem s68_5 {a : Nat} : rn sc d 68 5 [l0, l1, l2, l3] (.ref a :: st) M Q = rn_o (hp_f M a 7 26) (fun v => rn sc d 68 8 [l0, l1, l2, l3] (v :: st) M Q) := ru_get rfl rfl
set_option maxRecDepth 100000 in
theorem s68_8 {a : Nat} {j : Int32} : rn sc d 68 8 [l0, l1, l2, l3] (.int j :: .ref a :: st) M Q = rn_o (hp_i sc M a j) (fun v => rn sc d 68 9 [l0, l1, l2, l3] (.int v :: st) M Q) := ru_iald rfl
set_option maxRecDepth 100000 in
theorem s68_9 {x : Int32} : rn sc d 68 9 [l0, l1, l2, l3] (.int x :: st) M Q = rn sc d 68 10 [l0, some (.int x), l2, l3] st M Q := ru_1 rfl rfl rfl rfl rfl
set_option maxRecDepth 100000 in
theorem s68_10 {a : Nat} : rn sc d 68 10 [some (.ref a), l1, l2, l3] st M Q = rn sc d 68 11 [some (.ref a), l1, l2, l3] (.ref a :: st) M Q := ru_1 rfl rfl rfl rfl rfl
set_option maxRecDepth 100000 in
theorem s68_11 {a : Nat} : rn sc d 68 11 [l0, l1, l2, l3] (.ref a :: st) M Q = rn_o (hp_f M a 7 18) (fun v => rn sc d 68 14 [l0, l1, l2, l3] (v :: st) M Q) := ru_get rfl rfl
set_option maxRecDepth 100000 in
theorem s68_14 {a : Nat} : rn sc d 68 14 [some (.ref a), l1, l2, l3] st M Q = rn sc d 68 15 [some (.ref a), l1, l2, l3] (.ref a :: st) M Q := ru_1 rfl rfl rfl rfl rfl
set_option maxRecDepth 100000 in
theorem s68_15 {a : Nat} : rn sc d 68 15 [l0, l1, l2, l3] (.ref a :: st) M Q = rn_o (hp_f M a 7 26) (fun v => rn sc d 68 18 [l0, l1, l2, l3] (v :: st) M Q) := ru_get rfl rfl
set_option maxRecDepth 100000 in
theorem s68_18 {a : Nat} {j : Int32} : rn sc d 68 18 [l0, l1, l2, l3] (.int j :: .ref a :: st) M Q = rn_o (hp_i sc M a j) (fun v => rn sc d 68 19 [l0, l1, l2, l3] (.int v :: st) M Q) := ru_iald rfl
set_option maxRecDepth 100000 in
theorem s68_19 {x : Int32} : rn sc d 68 19 [l0, l1, l2, l3] (.int x :: st) M Q = rn sc d 68 20 [l0, l1, some (.int x), l3] st M Q := ru_1 rfl rfl rfl rfl rfl
set_option maxRecDepth 100000 in
theorem s68_20 {a : Nat} : rn sc d 68 20 [some (.ref a), l1, l2, l3] st M Q = rn sc d 68 21 [some (.ref a), l1, l2, l3] (.ref a :: st) M Q := ru_1 rfl rfl rfl rfl rfl
set_option maxRecDepth 100000 in
theorem s68_21 {a : Nat} : rn sc d 68 21 [l0, l1, l2, l3] (.ref a :: st) M Q = rn_o (hp_f M a 7 26) (fun v => rn sc d 68 24 [l0, l1, l2, l3] (v :: st) M Q) := ru_get rfl rfl
set_option maxRecDepth 100000 in
theorem s68_24 {x : Int32} : rn sc d 68 24 [l0, l1, l2, l3] (.int x :: st) M Q = rn sc d 68 25 [l0, l1, l2, some (.int x)] st M Q := ru_1 rfl rfl rfl rfl rfl
set_option maxRecDepth 100000 in
theorem s68_25 {a : Nat} : rn sc d 68 25 [some (.ref a), l1, l2, l3] st M Q = rn sc d 68 26 [some (.ref a), l1, l2, l3] (.ref a :: st) M Q := ru_1 rfl rfl rfl rfl rfl
set_option maxRecDepth 100000 in
theorem s68_26 {a : Nat} : rn sc d 68 26 [l0, l1, l2, l3] (.ref a :: st) M Q = rn_o (hp_f M a 7 6) (fun v => rn sc d 68 29 [l0, l1, l2, l3] (v :: st) M Q) := ru_get rfl rfl
set_option maxRecDepth 100000 in
theorem s68_29 {x : Int32} : rn sc d 68 29 [l0, some (.int x), l2, l3] st M Q = rn sc d 68 30 [l0, some (.int x), l2, l3] (.int x :: st) M Q := ru_1 rfl rfl rfl rfl rfl
set_option maxRecDepth 100000 in
theorem s68_30 {a : Nat} {j : Int32} : rn sc d 68 30 [l0, l1, l2, l3] (.int j :: .ref a :: st) M Q = rn_o (hp_i sc M a j) (fun v => rn sc d 68 31 [l0, l1, l2, l3] (.int v :: st) M Q) := ru_iald rfl
set_option maxRecDepth 100000 in
theorem s68_31_15 : rn sc d 68 31 [l0, l1, l2, l3] (.int 15 :: st) M Q = rn sc d 68 80 [l0, l1, l2, l3] st M Q := ru_sw rfl rfl rfl rfl rfl (by decide) sw_t
set_option maxRecDepth 100000 in
theorem s68_31_16 : rn sc d 68 31 [l0, l1, l2, l3] (.int 16 :: st) M Q = rn sc d 68 88 [l0, l1, l2, l3] st M Q := ru_sw rfl rfl rfl rfl rfl (by decide) sw_t
set_option maxRecDepth 100000 in
theorem s68_31_17 : rn sc d 68 31 [l0, l1, l2, l3] (.int 17 :: st) M Q = rn sc d 68 96 [l0, l1, l2, l3] st M Q := ru_sw rfl rfl rfl rfl rfl (by decide) sw_t
set_option maxRecDepth 100000 in
theorem s68_31_18 : rn sc d 68 31 [l0, l1, l2, l3] (.int 18 :: st) M Q = rn sc d 68 96 [l0, l1, l2, l3] st M Q := ru_sw rfl rfl rfl rfl rfl (by decide) sw_t
set_option maxRecDepth 100000 in
theorem s68_31_19 : rn sc d 68 31 [l0, l1, l2, l3] (.int 19 :: st) M Q = rn sc d 68 96 [l0, l1, l2, l3] st M Q := ru_sw rfl rfl rfl rfl rfl (by decide) sw_t
set_option maxRecDepth 100000 in
theorem s68_31_20 : rn sc d 68 31 [l0, l1, l2, l3] (.int 20 :: st) M Q = rn sc d 68 96 [l0, l1, l2, l3] st M Q := ru_sw rfl rfl rfl rfl rfl (by decide) sw_t
set_option maxRecDepth 100000 in
theorem s68_31_21 : rn sc d 68 31 [l0, l1, l2, l3] (.int 21 :: st) M Q = rn sc d 68 167 [l0, l1, l2, l3] st M Q := ru_sw rfl rfl rfl rfl rfl (by decide) sw_t
set_option maxRecDepth 100000 in
theorem s68_31_22 : rn sc d 68 31 [l0, l1, l2, l3] (.int 22 :: st) M Q = rn sc d 68 167 [l0, l1, l2, l3] st M Q := ru_sw rfl rfl rfl rfl rfl (by decide) sw_t
set_option maxRecDepth 100000 in
theorem s68_31_23 : rn sc d 68 31 [l0, l1, l2, l3] (.int 23 :: st) M Q = rn sc d 68 121 [l0, l1, l2, l3] st M Q := ru_sw rfl rfl rfl rfl rfl (by decide) sw_t
set_option maxRecDepth 100000 in
theorem s68_31_d {x : Int32} (h : x.toInt < 15 ∨ 23 < x.toInt) : rn sc d 68 31 [l0, l1, l2, l3] (.int x :: st) M Q = rn sc d 68 167 [l0, l1, l2, l3] st M Q := ru_sw rfl rfl rfl rfl rfl (sw_td h (by decide)) sw_t
set_option maxRecDepth 100000 in
theorem s68_80 {a : Nat} : rn sc d 68 80 [some (.ref a), l1, l2, l3] st M Q = rn sc d 68 81 [some (.ref a), l1, l2, l3] (.ref a :: st) M Q := ru_1 rfl rfl rfl rfl rfl
set_option maxRecDepth 100000 in
theorem s68_81 : rn sc d 68 81 [l0, l1, l2, l3] st M Q = rn sc d 68 82 [l0, l1, l2, l3] (.int 1 :: st) M Q := ru_k rfl rfl rfl rfl rfl (by decide)
set_option maxRecDepth 100000 in
theorem s68_82 {a : Nat} {v : Value} : rn sc d 68 82 [l0, l1, l2, l3] (v :: .ref a :: st) M Q = rn_o (hp_pf M a 7 28 v) (fun M' => rn sc d 68 85 [l0, l1, l2, l3] st M' Q) := ru_put rfl rfl rfl
set_option maxRecDepth 100000 in
theorem s68_85 : rn sc d 68 85 [l0, l1, l2, l3] st M Q = rn sc d 68 177 [l0, l1, l2, l3] st M Q := ru_go rfl (by decide)
set_option maxRecDepth 100000 in
theorem s68_88 {a : Nat} : rn sc d 68 88 [some (.ref a), l1, l2, l3] st M Q = rn sc d 68 89 [some (.ref a), l1, l2, l3] (.ref a :: st) M Q := ru_1 rfl rfl rfl rfl rfl
set_option maxRecDepth 100000 in
theorem s68_89 {x : Int32} : rn sc d 68 89 [l0, l1, some (.int x), l3] st M Q = rn sc d 68 90 [l0, l1, some (.int x), l3] (.int x :: st) M Q := ru_1 rfl rfl rfl rfl rfl
set_option maxRecDepth 100000 in
theorem s68_90 {a : Nat} {x0 : Int32} (hw : xm_wt st ≤ 8) (hq : hp_is M a 7) : rn sc (d + 1) 68 90 [l0, l1, l2, l3] (.int x0 :: .ref a :: st) M Q = rn sc d 69 0 [some (.ref a), some (.int x0)] [] M (fun r M' => rn sc (d + 1) 68 93 [l0, l1, l2, l3] (r.toList ++ st) M' Q) := ru_d (ru_iv (as := [.int x0]) rfl rfl rfl (Nat.le_of_ble_eq_true rfl) hw rfl hq)
set_option maxRecDepth 100000 in
theorem s68_93 : rn sc d 68 93 [l0, l1, l2, l3] st M Q = rn sc d 68 177 [l0, l1, l2, l3] st M Q := ru_go rfl (by decide)
set_option maxRecDepth 100000 in
theorem s68_96 {a : Nat} : rn sc d 68 96 [some (.ref a), l1, l2, l3] st M Q = rn sc d 68 97 [some (.ref a), l1, l2, l3] (.ref a :: st) M Q := ru_1 rfl rfl rfl rfl rfl
set_option maxRecDepth 100000 in
theorem s68_97 {a : Nat} : rn sc d 68 97 [some (.ref a), l1, l2, l3] st M Q = rn sc d 68 98 [some (.ref a), l1, l2, l3] (.ref a :: st) M Q := ru_1 rfl rfl rfl rfl rfl
set_option maxRecDepth 100000 in
theorem s68_98 {a : Nat} : rn sc d 68 98 [l0, l1, l2, l3] (.ref a :: st) M Q = rn_o (hp_f M a 7 7) (fun v => rn sc d 68 101 [l0, l1, l2, l3] (v :: st) M Q) := ru_get rfl rfl
set_option maxRecDepth 100000 in
theorem s68_101 {x : Int32} : rn sc d 68 101 [l0, some (.int x), l2, l3] st M Q = rn sc d 68 102 [l0, some (.int x), l2, l3] (.int x :: st) M Q := ru_1 rfl rfl rfl rfl rfl
set_option maxRecDepth 100000 in
theorem s68_102 {a : Nat} {j : Int32} : rn sc d 68 102 [l0, l1, l2, l3] (.int j :: .ref a :: st) M Q = rn_o (hp_i sc M a j) (fun v => rn sc d 68 103 [l0, l1, l2, l3] (.int v :: st) M Q) := ru_iald rfl
set_option maxRecDepth 100000 in
theorem s68_103 {x : Int32} : rn sc d 68 103 [l0, l1, some (.int x), l3] st M Q = rn sc d 68 104 [l0, l1, some (.int x), l3] (.int x :: st) M Q := ru_1 rfl rfl rfl rfl rfl
set_option maxRecDepth 100000 in
theorem s68_104 {x : Int32} : rn sc d 68 104 [l0, l1, l2, some (.int x)] st M Q = rn sc d 68 105 [l0, l1, l2, some (.int x)] (.int x :: st) M Q := ru_1 rfl rfl rfl rfl rfl
set_option maxRecDepth 100000 in
theorem s68_105 {a : Nat} {x0 : Int32} {x1 : Int32} {x2 : Int32} (hw : xm_wt st ≤ 8) (hq : hp_is M a 7) : rn sc (d + 1) 68 105 [l0, l1, l2, l3] (.int x2 :: .int x1 :: .int x0 :: .ref a :: st) M Q = rn sc d 67 0 [some (.ref a), some (.int x0), some (.int x1), some (.int x2)] [] M (fun r M' => rn sc (d + 1) 68 108 [l0, l1, l2, l3] (r.toList ++ st) M' Q) := ru_d (ru_iv (as := [.int x2, .int x1, .int x0]) rfl rfl rfl (Nat.le_of_ble_eq_true rfl) hw rfl hq)
set_option maxRecDepth 100000 in
theorem s68_108 {a : Nat} : rn sc d 68 108 [some (.ref a), l1, l2, l3] st M Q = rn sc d 68 109 [some (.ref a), l1, l2, l3] (.ref a :: st) M Q := ru_1 rfl rfl rfl rfl rfl
set_option maxRecDepth 100000 in
theorem s68_109 {a : Nat} : rn sc d 68 109 [l0, l1, l2, l3] (.ref a :: st) M Q = rn_o (hp_f M a 7 21) (fun v => rn sc d 68 112 [l0, l1, l2, l3] (v :: st) M Q) := ru_get rfl rfl
set_option maxRecDepth 100000 in
theorem s68_112 {x : Int32} : rn sc d 68 112 [l0, l1, l2, some (.int x)] st M Q = rn sc d 68 113 [l0, l1, l2, some (.int x)] (.int x :: st) M Q := ru_1 rfl rfl rfl rfl rfl
set_option maxRecDepth 100000 in
theorem s68_113 {a : Nat} : rn sc d 68 113 [some (.ref a), l1, l2, l3] st M Q = rn sc d 68 114 [some (.ref a), l1, l2, l3] (.ref a :: st) M Q := ru_1 rfl rfl rfl rfl rfl
set_option maxRecDepth 100000 in
theorem s68_114 {a : Nat} : rn sc d 68 114 [l0, l1, l2, l3] (.ref a :: st) M Q = rn_o (hp_f M a 7 26) (fun v => rn sc d 68 117 [l0, l1, l2, l3] (v :: st) M Q) := ru_get rfl rfl
set_option maxRecDepth 100000 in
theorem s68_117 {a : Nat} {j x : Int32} : rn sc d 68 117 [l0, l1, l2, l3] (.int x :: .int j :: .ref a :: st) M Q = rn_o (hp_pi M a j x) (fun M' => rn sc d 68 118 [l0, l1, l2, l3] st M' Q) := ru_iast rfl
set_option maxRecDepth 100000 in
theorem s68_118 : rn sc d 68 118 [l0, l1, l2, l3] st M Q = rn sc d 68 177 [l0, l1, l2, l3] st M Q := ru_go rfl (by decide)
set_option maxRecDepth 100000 in
theorem s68_121 {a : Nat} : rn sc d 68 121 [some (.ref a), l1, l2, l3] st M Q = rn sc d 68 122 [some (.ref a), l1, l2, l3] (.ref a :: st) M Q := ru_1 rfl rfl rfl rfl rfl
set_option maxRecDepth 100000 in
theorem s68_122 {a : Nat} : rn sc d 68 122 [some (.ref a), l1, l2, l3] st M Q = rn sc d 68 123 [some (.ref a), l1, l2, l3] (.ref a :: st) M Q := ru_1 rfl rfl rfl rfl rfl
set_option maxRecDepth 100000 in
theorem s68_123 {a : Nat} : rn sc d 68 123 [l0, l1, l2, l3] (.ref a :: st) M Q = rn_o (hp_f M a 7 7) (fun v => rn sc d 68 126 [l0, l1, l2, l3] (v :: st) M Q) := ru_get rfl rfl
set_option maxRecDepth 100000 in
theorem s68_126 {x : Int32} : rn sc d 68 126 [l0, some (.int x), l2, l3] st M Q = rn sc d 68 127 [l0, some (.int x), l2, l3] (.int x :: st) M Q := ru_1 rfl rfl rfl rfl rfl
set_option maxRecDepth 100000 in
theorem s68_127 {a : Nat} {j : Int32} : rn sc d 68 127 [l0, l1, l2, l3] (.int j :: .ref a :: st) M Q = rn_o (hp_i sc M a j) (fun v => rn sc d 68 128 [l0, l1, l2, l3] (.int v :: st) M Q) := ru_iald rfl
set_option maxRecDepth 100000 in
theorem s68_128 {a : Nat} {x0 : Int32} (hw : xm_wt st ≤ 8) (hq : hp_is M a 7) : rn sc (d + 1) 68 128 [l0, l1, l2, l3] (.int x0 :: .ref a :: st) M Q = rn sc d 62 0 [some (.ref a), some (.int x0)] [] M (fun r M' => rn sc (d + 1) 68 131 [l0, l1, l2, l3] (r.toList ++ st) M' Q) := ru_d (ru_iv (as := [.int x0]) rfl rfl rfl (Nat.le_of_ble_eq_true rfl) hw rfl hq)
set_option maxRecDepth 100000 in
theorem s68_131 {x : Int32} : rn sc d 68 131 [l0, l1, l2, l3] (.int x :: st) M Q = if x = 0 then rn sc d 68 159 [l0, l1, l2, l3] st M Q else rn sc d 68 134 [l0, l1, l2, l3] st M Q := ru_if pc_eq rfl (by decide)
set_option maxRecDepth 100000 in
theorem s68_134 {a : Nat} : rn sc d 68 134 [some (.ref a), l1, l2, l3] st M Q = rn sc d 68 135 [some (.ref a), l1, l2, l3] (.ref a :: st) M Q := ru_1 rfl rfl rfl rfl rfl
set_option maxRecDepth 100000 in
theorem s68_135 {a : Nat} : rn sc d 68 135 [some (.ref a), l1, l2, l3] st M Q = rn sc d 68 136 [some (.ref a), l1, l2, l3] (.ref a :: st) M Q := ru_1 rfl rfl rfl rfl rfl
set_option maxRecDepth 100000 in
theorem s68_136 {a : Nat} : rn sc d 68 136 [l0, l1, l2, l3] (.ref a :: st) M Q = rn_o (hp_f M a 7 7) (fun v => rn sc d 68 139 [l0, l1, l2, l3] (v :: st) M Q) := ru_get rfl rfl
set_option maxRecDepth 100000 in
theorem s68_139 {x : Int32} : rn sc d 68 139 [l0, some (.int x), l2, l3] st M Q = rn sc d 68 140 [l0, some (.int x), l2, l3] (.int x :: st) M Q := ru_1 rfl rfl rfl rfl rfl
set_option maxRecDepth 100000 in
theorem s68_140 {a : Nat} {j : Int32} : rn sc d 68 140 [l0, l1, l2, l3] (.int j :: .ref a :: st) M Q = rn_o (hp_i sc M a j) (fun v => rn sc d 68 141 [l0, l1, l2, l3] (.int v :: st) M Q) := ru_iald rfl
set_option maxRecDepth 100000 in
theorem s68_141 {x : Int32} : rn sc d 68 141 [l0, l1, some (.int x), l3] st M Q = rn sc d 68 142 [l0, l1, some (.int x), l3] (.int x :: st) M Q := ru_1 rfl rfl rfl rfl rfl
set_option maxRecDepth 100000 in
theorem s68_142 {x : Int32} : rn sc d 68 142 [l0, l1, l2, some (.int x)] st M Q = rn sc d 68 143 [l0, l1, l2, some (.int x)] (.int x :: st) M Q := ru_1 rfl rfl rfl rfl rfl
set_option maxRecDepth 100000 in
theorem s68_143 {a : Nat} {x0 : Int32} {x1 : Int32} {x2 : Int32} (hw : xm_wt st ≤ 8) (hq : hp_is M a 7) : rn sc (d + 1) 68 143 [l0, l1, l2, l3] (.int x2 :: .int x1 :: .int x0 :: .ref a :: st) M Q = rn sc d 67 0 [some (.ref a), some (.int x0), some (.int x1), some (.int x2)] [] M (fun r M' => rn sc (d + 1) 68 146 [l0, l1, l2, l3] (r.toList ++ st) M' Q) := ru_d (ru_iv (as := [.int x2, .int x1, .int x0]) rfl rfl rfl (Nat.le_of_ble_eq_true rfl) hw rfl hq)
set_option maxRecDepth 100000 in
theorem s68_146 {a : Nat} : rn sc d 68 146 [some (.ref a), l1, l2, l3] st M Q = rn sc d 68 147 [some (.ref a), l1, l2, l3] (.ref a :: st) M Q := ru_1 rfl rfl rfl rfl rfl
set_option maxRecDepth 100000 in
theorem s68_147 {a : Nat} : rn sc d 68 147 [l0, l1, l2, l3] (.ref a :: st) M Q = rn_o (hp_f M a 7 21) (fun v => rn sc d 68 150 [l0, l1, l2, l3] (v :: st) M Q) := ru_get rfl rfl
set_option maxRecDepth 100000 in
theorem s68_150 {x : Int32} : rn sc d 68 150 [l0, l1, l2, some (.int x)] st M Q = rn sc d 68 151 [l0, l1, l2, some (.int x)] (.int x :: st) M Q := ru_1 rfl rfl rfl rfl rfl
set_option maxRecDepth 100000 in
theorem s68_151 {a : Nat} : rn sc d 68 151 [some (.ref a), l1, l2, l3] st M Q = rn sc d 68 152 [some (.ref a), l1, l2, l3] (.ref a :: st) M Q := ru_1 rfl rfl rfl rfl rfl
set_option maxRecDepth 100000 in
theorem s68_152 {a : Nat} : rn sc d 68 152 [l0, l1, l2, l3] (.ref a :: st) M Q = rn_o (hp_f M a 7 26) (fun v => rn sc d 68 155 [l0, l1, l2, l3] (v :: st) M Q) := ru_get rfl rfl
set_option maxRecDepth 100000 in
theorem s68_155 {a : Nat} {j x : Int32} : rn sc d 68 155 [l0, l1, l2, l3] (.int x :: .int j :: .ref a :: st) M Q = rn_o (hp_pi M a j x) (fun M' => rn sc d 68 156 [l0, l1, l2, l3] st M' Q) := ru_iast rfl
set_option maxRecDepth 100000 in
theorem s68_156 : rn sc d 68 156 [l0, l1, l2, l3] st M Q = rn sc d 68 177 [l0, l1, l2, l3] st M Q := ru_go rfl (by decide)
set_option maxRecDepth 100000 in
theorem s68_159 {a : Nat} : rn sc d 68 159 [some (.ref a), l1, l2, l3] st M Q = rn sc d 68 160 [some (.ref a), l1, l2, l3] (.ref a :: st) M Q := ru_1 rfl rfl rfl rfl rfl
set_option maxRecDepth 100000 in
theorem s68_160 : rn sc d 68 160 [l0, l1, l2, l3] st M Q = rn sc d 68 161 [l0, l1, l2, l3] (.int (-1) :: st) M Q := ru_k rfl rfl rfl rfl rfl (by decide)
set_option maxRecDepth 100000 in
theorem s68_161 {a : Nat} {x0 : Int32} (hw : xm_wt st ≤ 8) (hq : hp_is M a 7) : rn sc (d + 1) 68 161 [l0, l1, l2, l3] (.int x0 :: .ref a :: st) M Q = rn sc d 69 0 [some (.ref a), some (.int x0)] [] M (fun r M' => rn sc (d + 1) 68 164 [l0, l1, l2, l3] (r.toList ++ st) M' Q) := ru_d (ru_iv (as := [.int x0]) rfl rfl rfl (Nat.le_of_ble_eq_true rfl) hw rfl hq)
set_option maxRecDepth 100000 in
theorem s68_164 : rn sc d 68 164 [l0, l1, l2, l3] st M Q = rn sc d 68 177 [l0, l1, l2, l3] st M Q := ru_go rfl (by decide)
set_option maxRecDepth 100000 in
theorem s68_167 {a : Nat} : rn sc d 68 167 [some (.ref a), l1, l2, l3] st M Q = rn sc d 68 168 [some (.ref a), l1, l2, l3] (.ref a :: st) M Q := ru_1 rfl rfl rfl rfl rfl
set_option maxRecDepth 100000 in
theorem s68_168 {a : Nat} : rn sc d 68 168 [some (.ref a), l1, l2, l3] st M Q = rn sc d 68 169 [some (.ref a), l1, l2, l3] (.ref a :: st) M Q := ru_1 rfl rfl rfl rfl rfl
set_option maxRecDepth 100000 in
theorem s68_169 {x : Int32} : rn sc d 68 169 [l0, some (.int x), l2, l3] st M Q = rn sc d 68 170 [l0, some (.int x), l2, l3] (.int x :: st) M Q := ru_1 rfl rfl rfl rfl rfl
set_option maxRecDepth 100000 in
theorem s68_170 {x : Int32} : rn sc d 68 170 [l0, l1, some (.int x), l3] st M Q = rn sc d 68 171 [l0, l1, some (.int x), l3] (.int x :: st) M Q := ru_1 rfl rfl rfl rfl rfl
set_option maxRecDepth 100000 in
theorem s68_171 {a : Nat} {x0 : Int32} {x1 : Int32} (hw : xm_wt st ≤ 8) (hq : hp_is M a 7) : rn sc (d + 1) 68 171 [l0, l1, l2, l3] (.int x1 :: .int x0 :: .ref a :: st) M Q = rn sc d 70 0 [some (.ref a), some (.int x0), some (.int x1), none, none] [] M (fun r M' => rn sc (d + 1) 68 174 [l0, l1, l2, l3] (r.toList ++ st) M' Q) := ru_d (ru_iv (as := [.int x1, .int x0]) rfl rfl rfl (Nat.le_of_ble_eq_true rfl) hw rfl hq)
set_option maxRecDepth 100000 in
theorem s68_174 {a : Nat} {x0 : Int32} (hw : xm_wt st ≤ 8) (hq : hp_is M a 7) : rn sc (d + 1) 68 174 [l0, l1, l2, l3] (.int x0 :: .ref a :: st) M Q = rn sc d 69 0 [some (.ref a), some (.int x0)] [] M (fun r M' => rn sc (d + 1) 68 177 [l0, l1, l2, l3] (r.toList ++ st) M' Q) := ru_d (ru_iv (as := [.int x0]) rfl rfl rfl (Nat.le_of_ble_eq_true rfl) hw rfl hq)
set_option maxRecDepth 100000 in
theorem s68_177 : rn sc d 68 177 [l0, l1, l2, l3] [] M Q = Q none M := rn_ret rfl rfl rfl
set_option maxRecDepth 100000 in
theorem s69_0 {a : Nat} : rn sc d 69 0 [some (.ref a), l1] st M Q = rn sc d 69 1 [some (.ref a), l1] (.ref a :: st) M Q := ru_1 rfl rfl rfl rfl rfl
set_option maxRecDepth 100000 in
theorem s69_1 {a : Nat} : rn sc d 69 1 [l0, l1] (.ref a :: st) M Q = rn_o (hp_f M a 7 19) (fun v => rn sc d 69 4 [l0, l1] (v :: st) M Q) := ru_get rfl rfl
set_option maxRecDepth 100000 in
theorem s69_4 {a : Nat} : rn sc d 69 4 [some (.ref a), l1] st M Q = rn sc d 69 5 [some (.ref a), l1] (.ref a :: st) M Q := ru_1 rfl rfl rfl rfl rfl
set_option maxRecDepth 100000 in
theorem s69_5 {a : Nat} : rn sc d 69 5 [l0, l1] (.ref a :: st) M Q = rn_o (hp_f M a 7 26) (fun v => rn sc d 69 8 [l0, l1] (v :: st) M Q) := ru_get rfl rfl
set_option maxRecDepth 100000 in
theorem s69_8 {x : Int32} : rn sc d 69 8 [l0, some (.int x)] st M Q = rn sc d 69 9 [l0, some (.int x)] (.int x :: st) M Q := ru_1 rfl rfl rfl rfl rfl
set_option maxRecDepth 100000 in
theorem s69_9 {a : Nat} {j x : Int32} : rn sc d 69 9 [l0, l1] (.int x :: .int j :: .ref a :: st) M Q = rn_o (hp_pi M a j x) (fun M' => rn sc d 69 10 [l0, l1] st M' Q) := ru_iast rfl
set_option maxRecDepth 100000 in
theorem s69_10 {a : Nat} : rn sc d 69 10 [some (.ref a), l1] st M Q = rn sc d 69 11 [some (.ref a), l1] (.ref a :: st) M Q := ru_1 rfl rfl rfl rfl rfl
set_option maxRecDepth 100000 in
theorem s69_11 {x : Int32} : rn sc d 69 11 [l0, some (.int x)] st M Q = rn sc d 69 12 [l0, some (.int x)] (.int x :: st) M Q := ru_1 rfl rfl rfl rfl rfl
set_option maxRecDepth 100000 in
theorem s69_12 : rn sc d 69 12 [l0, l1] st M Q = rn sc d 69 13 [l0, l1] (.int (-1) :: st) M Q := ru_k rfl rfl rfl rfl rfl (by decide)
set_option maxRecDepth 100000 in
theorem s69_13 {u v : Int32} : rn sc d 69 13 [l0, l1] (.int v :: .int u :: st) M Q = if ¬ u = v then rn sc d 69 20 [l0, l1] st M Q else rn sc d 69 16 [l0, l1] st M Q := ru_ic pc_ne rfl (by decide)
set_option maxRecDepth 100000 in
theorem s69_16 : rn sc d 69 16 [l0, l1] st M Q = rn sc d 69 17 [l0, l1] (.int 3 :: st) M Q := ru_k rfl rfl rfl rfl rfl (by decide)
set_option maxRecDepth 100000 in
theorem s69_17 : rn sc d 69 17 [l0, l1] st M Q = rn sc d 69 21 [l0, l1] st M Q := ru_go rfl (by decide)
set_option maxRecDepth 100000 in
theorem s69_20 : rn sc d 69 20 [l0, l1] st M Q = rn sc d 69 21 [l0, l1] (.int 2 :: st) M Q := ru_k rfl rfl rfl rfl rfl (by decide)
set_option maxRecDepth 100000 in
theorem s69_21 {a : Nat} {v : Value} : rn sc d 69 21 [l0, l1] (v :: .ref a :: st) M Q = rn_o (hp_pf M a 7 27 v) (fun M' => rn sc d 69 24 [l0, l1] st M' Q) := ru_put rfl rfl rfl
set_option maxRecDepth 100000 in
theorem s69_24 : rn sc d 69 24 [l0, l1] [] M Q = Q none M := rn_ret rfl rfl rfl
set_option maxRecDepth 100000 in
theorem s70_0 {a : Nat} : rn sc d 70 0 [some (.ref a), l1, l2, l3, l4] st M Q = rn sc d 70 1 [some (.ref a), l1, l2, l3, l4] (.ref a :: st) M Q := ru_1 rfl rfl rfl rfl rfl
set_option maxRecDepth 100000 in
theorem s70_1 {a : Nat} : rn sc d 70 1 [l0, l1, l2, l3, l4] (.ref a :: st) M Q = rn_o (hp_f M a 7 7) (fun v => rn sc d 70 4 [l0, l1, l2, l3, l4] (v :: st) M Q) := ru_get rfl rfl
set_option maxRecDepth 100000 in
theorem s70_4 {x : Int32} : rn sc d 70 4 [l0, some (.int x), l2, l3, l4] st M Q = rn sc d 70 5 [l0, some (.int x), l2, l3, l4] (.int x :: st) M Q := ru_1 rfl rfl rfl rfl rfl
set_option maxRecDepth 100000 in
theorem s70_5 {a : Nat} {j : Int32} : rn sc d 70 5 [l0, l1, l2, l3, l4] (.int j :: .ref a :: st) M Q = rn_o (hp_i sc M a j) (fun v => rn sc d 70 6 [l0, l1, l2, l3, l4] (.int v :: st) M Q) := ru_iald rfl
set_option maxRecDepth 100000 in
theorem s70_6 {x : Int32} : rn sc d 70 6 [l0, l1, l2, l3, l4] (.int x :: st) M Q = rn sc d 70 7 [l0, l1, l2, some (.int x), l4] st M Q := ru_1 rfl rfl rfl rfl rfl
set_option maxRecDepth 100000 in
theorem s70_7 {x : Int32} : rn sc d 70 7 [l0, l1, some (.int x), l3, l4] st M Q = rn sc d 70 8 [l0, l1, some (.int x), l3, l4] (.int x :: st) M Q := ru_1 rfl rfl rfl rfl rfl
set_option maxRecDepth 100000 in
theorem s70_8 {a : Nat} : rn sc d 70 8 [some (.ref a), l1, l2, l3, l4] st M Q = rn sc d 70 9 [some (.ref a), l1, l2, l3, l4] (.ref a :: st) M Q := ru_1 rfl rfl rfl rfl rfl
set_option maxRecDepth 100000 in
theorem s70_9 {a : Nat} : rn sc d 70 9 [l0, l1, l2, l3, l4] (.ref a :: st) M Q = rn_o (hp_f M a 7 16) (fun v => rn sc d 70 12 [l0, l1, l2, l3, l4] (v :: st) M Q) := ru_get rfl rfl
set_option maxRecDepth 100000 in
theorem s70_12 {u v : Int32} : rn sc d 70 12 [l0, l1, l2, l3, l4] (.int v :: .int u :: st) M Q = if v ≤ u then rn sc d 70 28 [l0, l1, l2, l3, l4] st M Q else rn sc d 70 15 [l0, l1, l2, l3, l4] st M Q := ru_ic pc_ge rfl (by decide)
set_option maxRecDepth 100000 in
theorem s70_15 {a : Nat} : rn sc d 70 15 [some (.ref a), l1, l2, l3, l4] st M Q = rn sc d 70 16 [some (.ref a), l1, l2, l3, l4] (.ref a :: st) M Q := ru_1 rfl rfl rfl rfl rfl
set_option maxRecDepth 100000 in
theorem s70_16 {x : Int32} : rn sc d 70 16 [l0, some (.int x), l2, l3, l4] st M Q = rn sc d 70 17 [l0, some (.int x), l2, l3, l4] (.int x :: st) M Q := ru_1 rfl rfl rfl rfl rfl
set_option maxRecDepth 100000 in
theorem s70_17 {x : Int32} : rn sc d 70 17 [l0, l1, some (.int x), l3, l4] st M Q = rn sc d 70 18 [l0, l1, some (.int x), l3, l4] (.int x :: st) M Q := ru_1 rfl rfl rfl rfl rfl
set_option maxRecDepth 100000 in
theorem s70_18 {a : Nat} {x0 : Int32} {x1 : Int32} (hw : xm_wt st ≤ 8) (hq : hp_is M a 7) : rn sc (d + 1) 70 18 [l0, l1, l2, l3, l4] (.int x1 :: .int x0 :: .ref a :: st) M Q = rn sc d 71 0 [some (.ref a), some (.int x0), some (.int x1), none] [] M (fun r M' => rn sc (d + 1) 70 21 [l0, l1, l2, l3, l4] (r.toList ++ st) M' Q) := ru_d (ru_iv (as := [.int x1, .int x0]) rfl rfl rfl (Nat.le_of_ble_eq_true rfl) hw rfl hq)
set_option maxRecDepth 100000 in
theorem s70_21 {x : Int32} : rn sc d 70 21 [l0, l1, l2, l3, l4] (.int x :: st) M Q = if x = 0 then rn sc d 70 28 [l0, l1, l2, l3, l4] st M Q else rn sc d 70 24 [l0, l1, l2, l3, l4] st M Q := ru_if pc_eq rfl (by decide)
set_option maxRecDepth 100000 in
theorem s70_24 : rn sc d 70 24 [l0, l1, l2, l3, l4] st M Q = rn sc d 70 25 [l0, l1, l2, l3, l4] (.int 1 :: st) M Q := ru_k rfl rfl rfl rfl rfl (by decide)
set_option maxRecDepth 100000 in
theorem s70_25 : rn sc d 70 25 [l0, l1, l2, l3, l4] st M Q = rn sc d 70 29 [l0, l1, l2, l3, l4] st M Q := ru_go rfl (by decide)
set_option maxRecDepth 100000 in
theorem s70_28 : rn sc d 70 28 [l0, l1, l2, l3, l4] st M Q = rn sc d 70 29 [l0, l1, l2, l3, l4] (.int 0 :: st) M Q := ru_k rfl rfl rfl rfl rfl (by decide)
set_option maxRecDepth 100000 in
theorem s70_29 {x : Int32} : rn sc d 70 29 [l0, l1, l2, l3, l4] (.int x :: st) M Q = rn sc d 70 31 [l0, l1, l2, l3, some (.int x)] st M Q := ru_1 rfl rfl rfl rfl rfl
set_option maxRecDepth 100000 in
theorem s70_31 {a : Nat} : rn sc d 70 31 [some (.ref a), l1, l2, l3, l4] st M Q = rn sc d 70 32 [some (.ref a), l1, l2, l3, l4] (.ref a :: st) M Q := ru_1 rfl rfl rfl rfl rfl
set_option maxRecDepth 100000 in
theorem s70_32 {a : Nat} : rn sc d 70 32 [l0, l1, l2, l3, l4] (.ref a :: st) M Q = rn_o (hp_f M a 7 6) (fun v => rn sc d 70 35 [l0, l1, l2, l3, l4] (v :: st) M Q) := ru_get rfl rfl
set_option maxRecDepth 100000 in
theorem s70_35 {x : Int32} : rn sc d 70 35 [l0, some (.int x), l2, l3, l4] st M Q = rn sc d 70 36 [l0, some (.int x), l2, l3, l4] (.int x :: st) M Q := ru_1 rfl rfl rfl rfl rfl
set_option maxRecDepth 100000 in
theorem s70_36 {a : Nat} {j : Int32} : rn sc d 70 36 [l0, l1, l2, l3, l4] (.int j :: .ref a :: st) M Q = rn_o (hp_i sc M a j) (fun v => rn sc d 70 37 [l0, l1, l2, l3, l4] (.int v :: st) M Q) := ru_iald rfl
set_option maxRecDepth 100000 in
theorem s70_37_0 : rn sc d 70 37 [l0, l1, l2, l3, l4] (.int 0 :: st) M Q = rn sc d 70 144 [l0, l1, l2, l3, l4] st M Q := ru_sw rfl rfl rfl rfl rfl (by decide) sw_t
set_option maxRecDepth 100000 in
theorem s70_37_1 : rn sc d 70 37 [l0, l1, l2, l3, l4] (.int 1 :: st) M Q = rn sc d 70 164 [l0, l1, l2, l3, l4] st M Q := ru_sw rfl rfl rfl rfl rfl (by decide) sw_t
set_option maxRecDepth 100000 in
theorem s70_37_2 : rn sc d 70 37 [l0, l1, l2, l3, l4] (.int 2 :: st) M Q = rn sc d 70 177 [l0, l1, l2, l3, l4] st M Q := ru_sw rfl rfl rfl rfl rfl (by decide) sw_t
set_option maxRecDepth 100000 in
theorem s70_37_3 : rn sc d 70 37 [l0, l1, l2, l3, l4] (.int 3 :: st) M Q = rn sc d 70 198 [l0, l1, l2, l3, l4] st M Q := ru_sw rfl rfl rfl rfl rfl (by decide) sw_t
set_option maxRecDepth 100000 in
theorem s70_37_4 : rn sc d 70 37 [l0, l1, l2, l3, l4] (.int 4 :: st) M Q = rn sc d 70 205 [l0, l1, l2, l3, l4] st M Q := ru_sw rfl rfl rfl rfl rfl (by decide) sw_t
set_option maxRecDepth 100000 in
theorem s70_37_5 : rn sc d 70 37 [l0, l1, l2, l3, l4] (.int 5 :: st) M Q = rn sc d 70 212 [l0, l1, l2, l3, l4] st M Q := ru_sw rfl rfl rfl rfl rfl (by decide) sw_t
set_option maxRecDepth 100000 in
theorem s70_37_6 : rn sc d 70 37 [l0, l1, l2, l3, l4] (.int 6 :: st) M Q = rn sc d 70 230 [l0, l1, l2, l3, l4] st M Q := ru_sw rfl rfl rfl rfl rfl (by decide) sw_t
set_option maxRecDepth 100000 in
theorem s70_37_7 : rn sc d 70 37 [l0, l1, l2, l3, l4] (.int 7 :: st) M Q = rn sc d 70 241 [l0, l1, l2, l3, l4] st M Q := ru_sw rfl rfl rfl rfl rfl (by decide) sw_t
set_option maxRecDepth 100000 in
theorem s70_37_8 : rn sc d 70 37 [l0, l1, l2, l3, l4] (.int 8 :: st) M Q = rn sc d 70 257 [l0, l1, l2, l3, l4] st M Q := ru_sw rfl rfl rfl rfl rfl (by decide) sw_t
set_option maxRecDepth 100000 in
theorem s70_37_9 : rn sc d 70 37 [l0, l1, l2, l3, l4] (.int 9 :: st) M Q = rn sc d 70 276 [l0, l1, l2, l3, l4] st M Q := ru_sw rfl rfl rfl rfl rfl (by decide) sw_t
set_option maxRecDepth 100000 in
theorem s70_37_10 : rn sc d 70 37 [l0, l1, l2, l3, l4] (.int 10 :: st) M Q = rn sc d 70 297 [l0, l1, l2, l3, l4] st M Q := ru_sw rfl rfl rfl rfl rfl (by decide) sw_t
set_option maxRecDepth 100000 in
theorem s70_37_11 : rn sc d 70 37 [l0, l1, l2, l3, l4] (.int 11 :: st) M Q = rn sc d 70 302 [l0, l1, l2, l3, l4] st M Q := ru_sw rfl rfl rfl rfl rfl (by decide) sw_t
set_option maxRecDepth 100000 in
theorem s70_37_12 : rn sc d 70 37 [l0, l1, l2, l3, l4] (.int 12 :: st) M Q = rn sc d 70 304 [l0, l1, l2, l3, l4] st M Q := ru_sw rfl rfl rfl rfl rfl (by decide) sw_t
set_option maxRecDepth 100000 in
theorem s70_37_13 : rn sc d 70 37 [l0, l1, l2, l3, l4] (.int 13 :: st) M Q = rn sc d 70 338 [l0, l1, l2, l3, l4] st M Q := ru_sw rfl rfl rfl rfl rfl (by decide) sw_t
set_option maxRecDepth 100000 in
theorem s70_37_14 : rn sc d 70 37 [l0, l1, l2, l3, l4] (.int 14 :: st) M Q = rn sc d 70 302 [l0, l1, l2, l3, l4] st M Q := ru_sw rfl rfl rfl rfl rfl (by decide) sw_t
set_option maxRecDepth 100000 in
theorem s70_37_15 : rn sc d 70 37 [l0, l1, l2, l3, l4] (.int 15 :: st) M Q = rn sc d 70 338 [l0, l1, l2, l3, l4] st M Q := ru_sw rfl rfl rfl rfl rfl (by decide) sw_t
set_option maxRecDepth 100000 in
theorem s70_37_16 : rn sc d 70 37 [l0, l1, l2, l3, l4] (.int 16 :: st) M Q = rn sc d 70 338 [l0, l1, l2, l3, l4] st M Q := ru_sw rfl rfl rfl rfl rfl (by decide) sw_t
set_option maxRecDepth 100000 in
theorem s70_37_17 : rn sc d 70 37 [l0, l1, l2, l3, l4] (.int 17 :: st) M Q = rn sc d 70 338 [l0, l1, l2, l3, l4] st M Q := ru_sw rfl rfl rfl rfl rfl (by decide) sw_t
set_option maxRecDepth 100000 in
theorem s70_37_18 : rn sc d 70 37 [l0, l1, l2, l3, l4] (.int 18 :: st) M Q = rn sc d 70 338 [l0, l1, l2, l3, l4] st M Q := ru_sw rfl rfl rfl rfl rfl (by decide) sw_t
set_option maxRecDepth 100000 in
theorem s70_37_19 : rn sc d 70 37 [l0, l1, l2, l3, l4] (.int 19 :: st) M Q = rn sc d 70 338 [l0, l1, l2, l3, l4] st M Q := ru_sw rfl rfl rfl rfl rfl (by decide) sw_t
set_option maxRecDepth 100000 in
theorem s70_37_20 : rn sc d 70 37 [l0, l1, l2, l3, l4] (.int 20 :: st) M Q = rn sc d 70 338 [l0, l1, l2, l3, l4] st M Q := ru_sw rfl rfl rfl rfl rfl (by decide) sw_t
set_option maxRecDepth 100000 in
theorem s70_37_21 : rn sc d 70 37 [l0, l1, l2, l3, l4] (.int 21 :: st) M Q = rn sc d 70 311 [l0, l1, l2, l3, l4] st M Q := ru_sw rfl rfl rfl rfl rfl (by decide) sw_t
set_option maxRecDepth 100000 in
theorem s70_37_22 : rn sc d 70 37 [l0, l1, l2, l3, l4] (.int 22 :: st) M Q = rn sc d 70 318 [l0, l1, l2, l3, l4] st M Q := ru_sw rfl rfl rfl rfl rfl (by decide) sw_t
set_option maxRecDepth 100000 in
theorem s70_37_d {x : Int32} (h : x.toInt < 0 ∨ 22 < x.toInt) : rn sc d 70 37 [l0, l1, l2, l3, l4] (.int x :: st) M Q = rn sc d 70 338 [l0, l1, l2, l3, l4] st M Q := ru_sw rfl rfl rfl rfl rfl (sw_td h (by decide)) sw_t
set_option maxRecDepth 100000 in
theorem s70_144 {a : Nat} : rn sc d 70 144 [some (.ref a), l1, l2, l3, l4] st M Q = rn sc d 70 145 [some (.ref a), l1, l2, l3, l4] (.ref a :: st) M Q := ru_1 rfl rfl rfl rfl rfl
set_option maxRecDepth 100000 in
theorem s70_145 {a : Nat} : rn sc d 70 145 [some (.ref a), l1, l2, l3, l4] st M Q = rn sc d 70 146 [some (.ref a), l1, l2, l3, l4] (.ref a :: st) M Q := ru_1 rfl rfl rfl rfl rfl
set_option maxRecDepth 100000 in
theorem s70_146 {a : Nat} : rn sc d 70 146 [l0, l1, l2, l3, l4] (.ref a :: st) M Q = rn_o (hp_f M a 7 9) (fun v => rn sc d 70 149 [l0, l1, l2, l3, l4] (v :: st) M Q) := ru_get rfl rfl
set_option maxRecDepth 100000 in
theorem s70_149 : rn sc d 70 149 [l0, l1, l2, l3, l4] st M Q = rn sc d 70 151 [l0, l1, l2, l3, l4] (.int 64 :: st) M Q := ru_k rfl rfl rfl rfl rfl (by decide)
set_option maxRecDepth 100000 in
theorem s70_151 {x : Int32} : rn sc d 70 151 [l0, some (.int x), l2, l3, l4] st M Q = rn sc d 70 152 [l0, some (.int x), l2, l3, l4] (.int x :: st) M Q := ru_1 rfl rfl rfl rfl rfl
set_option maxRecDepth 100000 in
theorem s70_152 {u v : Int32} : rn sc d 70 152 [l0, l1, l2, l3, l4] (.int v :: .int u :: st) M Q = rn sc d 70 153 [l0, l1, l2, l3, l4] (.int (u * v) :: st) M Q := ru_1 rfl rfl rfl rfl rfl
set_option maxRecDepth 100000 in
theorem s70_153 {a : Nat} : rn sc d 70 153 [some (.ref a), l1, l2, l3, l4] st M Q = rn sc d 70 154 [some (.ref a), l1, l2, l3, l4] (.ref a :: st) M Q := ru_1 rfl rfl rfl rfl rfl
set_option maxRecDepth 100000 in
theorem s70_154 {a : Nat} : rn sc d 70 154 [l0, l1, l2, l3, l4] (.ref a :: st) M Q = rn_o (hp_f M a 7 10) (fun v => rn sc d 70 157 [l0, l1, l2, l3, l4] (v :: st) M Q) := ru_get rfl rfl
set_option maxRecDepth 100000 in
theorem s70_157 {x : Int32} : rn sc d 70 157 [l0, some (.int x), l2, l3, l4] st M Q = rn sc d 70 158 [l0, some (.int x), l2, l3, l4] (.int x :: st) M Q := ru_1 rfl rfl rfl rfl rfl
set_option maxRecDepth 100000 in
theorem s70_158 {a : Nat} {j : Int32} : rn sc d 70 158 [l0, l1, l2, l3, l4] (.int j :: .ref a :: st) M Q = rn_o (hp_i sc M a j) (fun v => rn sc d 70 159 [l0, l1, l2, l3, l4] (.int v :: st) M Q) := ru_iald rfl
set_option maxRecDepth 100000 in
theorem s70_159 {x : Int32} : rn sc d 70 159 [l0, l1, some (.int x), l3, l4] st M Q = rn sc d 70 160 [l0, l1, some (.int x), l3, l4] (.int x :: st) M Q := ru_1 rfl rfl rfl rfl rfl
set_option maxRecDepth 100000 in
theorem s70_160 {a : Nat} {b0 : Nat} {x1 : Int32} {x2 : Int32} {x3 : Int32} (hw : xm_wt st ≤ 8) (hq : hp_is M a 7) : rn sc (d + 1) 70 160 [l0, l1, l2, l3, l4] (.int x3 :: .int x2 :: .int x1 :: .ref b0 :: .ref a :: st) M Q = rn sc d 72 0 [some (.ref a), some (.ref b0), some (.int x1), some (.int x2), some (.int x3), none] [] M (fun r M' => rn sc (d + 1) 70 163 [l0, l1, l2, l3, l4] (r.toList ++ st) M' Q) := ru_d (ru_iv (as := [.int x3, .int x2, .int x1, .ref b0]) rfl rfl rfl (Nat.le_of_ble_eq_true rfl) hw rfl hq)
set_option maxRecDepth 100000 in
theorem s70_160N {a : Nat} {x1 : Int32} {x2 : Int32} {x3 : Int32} (hw : xm_wt st ≤ 8) (hq : hp_is M a 7) : rn sc (d + 1) 70 160 [l0, l1, l2, l3, l4] (.int x3 :: .int x2 :: .int x1 :: .null :: .ref a :: st) M Q = rn sc d 72 0 [some (.ref a), some (.null), some (.int x1), some (.int x2), some (.int x3), none] [] M (fun r M' => rn sc (d + 1) 70 163 [l0, l1, l2, l3, l4] (r.toList ++ st) M' Q) := ru_d (ru_iv (as := [.int x3, .int x2, .int x1, .null]) rfl rfl rfl (Nat.le_of_ble_eq_true rfl) hw rfl hq)
set_option maxRecDepth 100000 in
theorem s70_163 {v : Int32} : rn sc d 70 163 [l0, l1, l2, l3, l4] [.int v] M Q = Q (some (.int v)) M := ru_ri rfl rfl
set_option maxRecDepth 100000 in
theorem s70_164 {x : Int32} : rn sc d 70 164 [l0, l1, l2, l3, some (.int x)] st M Q = rn sc d 70 166 [l0, l1, l2, l3, some (.int x)] (.int x :: st) M Q := ru_1 rfl rfl rfl rfl rfl
set_option maxRecDepth 100000 in
theorem s70_166 {x : Int32} : rn sc d 70 166 [l0, l1, l2, l3, l4] (.int x :: st) M Q = if x = 0 then rn sc d 70 175 [l0, l1, l2, l3, l4] st M Q else rn sc d 70 169 [l0, l1, l2, l3, l4] st M Q := ru_if pc_eq rfl (by decide)
set_option maxRecDepth 100000 in
theorem s70_169 {x : Int32} : rn sc d 70 169 [l0, l1, some (.int x), l3, l4] st M Q = rn sc d 70 170 [l0, l1, some (.int x), l3, l4] (.int x :: st) M Q := ru_1 rfl rfl rfl rfl rfl
set_option maxRecDepth 100000 in
theorem s70_170 : rn sc d 70 170 [l0, l1, l2, l3, l4] st M Q = rn sc d 70 171 [l0, l1, l2, l3, l4] (.int 1 :: st) M Q := ru_k rfl rfl rfl rfl rfl (by decide)
set_option maxRecDepth 100000 in
theorem s70_171 {u v : Int32} : rn sc d 70 171 [l0, l1, l2, l3, l4] (.int v :: .int u :: st) M Q = rn sc d 70 172 [l0, l1, l2, l3, l4] (.int (u + v) :: st) M Q := ru_1 rfl rfl rfl rfl rfl
set_option maxRecDepth 100000 in
theorem s70_172 : rn sc d 70 172 [l0, l1, l2, l3, l4] st M Q = rn sc d 70 176 [l0, l1, l2, l3, l4] st M Q := ru_go rfl (by decide)
set_option maxRecDepth 100000 in
theorem s70_175 : rn sc d 70 175 [l0, l1, l2, l3, l4] st M Q = rn sc d 70 176 [l0, l1, l2, l3, l4] (.int (-1) :: st) M Q := ru_k rfl rfl rfl rfl rfl (by decide)
set_option maxRecDepth 100000 in
theorem s70_176 {v : Int32} : rn sc d 70 176 [l0, l1, l2, l3, l4] [.int v] M Q = Q (some (.int v)) M := ru_ri rfl rfl
set_option maxRecDepth 100000 in
theorem s70_177 {x : Int32} : rn sc d 70 177 [l0, l1, some (.int x), l3, l4] st M Q = rn sc d 70 178 [l0, l1, some (.int x), l3, l4] (.int x :: st) M Q := ru_1 rfl rfl rfl rfl rfl
set_option maxRecDepth 100000 in
theorem s70_178 {a : Nat} : rn sc d 70 178 [some (.ref a), l1, l2, l3, l4] st M Q = rn sc d 70 179 [some (.ref a), l1, l2, l3, l4] (.ref a :: st) M Q := ru_1 rfl rfl rfl rfl rfl
set_option maxRecDepth 100000 in
theorem s70_179 {a : Nat} : rn sc d 70 179 [l0, l1, l2, l3, l4] (.ref a :: st) M Q = rn_o (hp_f M a 7 16) (fun v => rn sc d 70 182 [l0, l1, l2, l3, l4] (v :: st) M Q) := ru_get rfl rfl
set_option maxRecDepth 100000 in
theorem s70_182 {u v : Int32} : rn sc d 70 182 [l0, l1, l2, l3, l4] (.int v :: .int u :: st) M Q = if v ≤ u then rn sc d 70 196 [l0, l1, l2, l3, l4] st M Q else rn sc d 70 185 [l0, l1, l2, l3, l4] st M Q := ru_ic pc_ge rfl (by decide)
set_option maxRecDepth 100000 in
theorem s70_185 {x : Int32} : rn sc d 70 185 [l0, l1, l2, l3, some (.int x)] st M Q = rn sc d 70 187 [l0, l1, l2, l3, some (.int x)] (.int x :: st) M Q := ru_1 rfl rfl rfl rfl rfl
set_option maxRecDepth 100000 in
theorem s70_187 {x : Int32} : rn sc d 70 187 [l0, l1, l2, l3, l4] (.int x :: st) M Q = if ¬ x = 0 then rn sc d 70 196 [l0, l1, l2, l3, l4] st M Q else rn sc d 70 190 [l0, l1, l2, l3, l4] st M Q := ru_if pc_ne rfl (by decide)
set_option maxRecDepth 100000 in
theorem s70_190 {x : Int32} : rn sc d 70 190 [l0, l1, some (.int x), l3, l4] st M Q = rn sc d 70 191 [l0, l1, some (.int x), l3, l4] (.int x :: st) M Q := ru_1 rfl rfl rfl rfl rfl
set_option maxRecDepth 100000 in
theorem s70_191 : rn sc d 70 191 [l0, l1, l2, l3, l4] st M Q = rn sc d 70 192 [l0, l1, l2, l3, l4] (.int 1 :: st) M Q := ru_k rfl rfl rfl rfl rfl (by decide)
set_option maxRecDepth 100000 in
theorem s70_192 {u v : Int32} : rn sc d 70 192 [l0, l1, l2, l3, l4] (.int v :: .int u :: st) M Q = rn sc d 70 193 [l0, l1, l2, l3, l4] (.int (u + v) :: st) M Q := ru_1 rfl rfl rfl rfl rfl
set_option maxRecDepth 100000 in
theorem s70_193 : rn sc d 70 193 [l0, l1, l2, l3, l4] st M Q = rn sc d 70 197 [l0, l1, l2, l3, l4] st M Q := ru_go rfl (by decide)
set_option maxRecDepth 100000 in
theorem s70_196 : rn sc d 70 196 [l0, l1, l2, l3, l4] st M Q = rn sc d 70 197 [l0, l1, l2, l3, l4] (.int (-1) :: st) M Q := ru_k rfl rfl rfl rfl rfl (by decide)
set_option maxRecDepth 100000 in
theorem s70_197 {v : Int32} : rn sc d 70 197 [l0, l1, l2, l3, l4] [.int v] M Q = Q (some (.int v)) M := ru_ri rfl rfl
set_option maxRecDepth 100000 in
theorem s70_198 {a : Nat} : rn sc d 70 198 [some (.ref a), l1, l2, l3, l4] st M Q = rn sc d 70 199 [some (.ref a), l1, l2, l3, l4] (.ref a :: st) M Q := ru_1 rfl rfl rfl rfl rfl
set_option maxRecDepth 100000 in
theorem s70_199 {x : Int32} : rn sc d 70 199 [l0, some (.int x), l2, l3, l4] st M Q = rn sc d 70 200 [l0, some (.int x), l2, l3, l4] (.int x :: st) M Q := ru_1 rfl rfl rfl rfl rfl
set_option maxRecDepth 100000 in
theorem s70_200 {x : Int32} : rn sc d 70 200 [l0, l1, some (.int x), l3, l4] st M Q = rn sc d 70 201 [l0, l1, some (.int x), l3, l4] (.int x :: st) M Q := ru_1 rfl rfl rfl rfl rfl
set_option maxRecDepth 100000 in
theorem s70_201 {a : Nat} {x0 : Int32} {x1 : Int32} (hw : xm_wt st ≤ 8) (hq : hp_is M a 7) : rn sc (d + 1) 70 201 [l0, l1, l2, l3, l4] (.int x1 :: .int x0 :: .ref a :: st) M Q = rn sc d 73 0 [some (.ref a), some (.int x0), some (.int x1), none] [] M (fun r M' => rn sc (d + 1) 70 204 [l0, l1, l2, l3, l4] (r.toList ++ st) M' Q) := ru_d (ru_iv (as := [.int x1, .int x0]) rfl rfl rfl (Nat.le_of_ble_eq_true rfl) hw rfl hq)
set_option maxRecDepth 100000 in
theorem s70_204 {v : Int32} : rn sc d 70 204 [l0, l1, l2, l3, l4] [.int v] M Q = Q (some (.int v)) M := ru_ri rfl rfl
set_option maxRecDepth 100000 in
theorem s70_205 {a : Nat} : rn sc d 70 205 [some (.ref a), l1, l2, l3, l4] st M Q = rn sc d 70 206 [some (.ref a), l1, l2, l3, l4] (.ref a :: st) M Q := ru_1 rfl rfl rfl rfl rfl
set_option maxRecDepth 100000 in
theorem s70_206 {x : Int32} : rn sc d 70 206 [l0, some (.int x), l2, l3, l4] st M Q = rn sc d 70 207 [l0, some (.int x), l2, l3, l4] (.int x :: st) M Q := ru_1 rfl rfl rfl rfl rfl
set_option maxRecDepth 100000 in
theorem s70_207 {x : Int32} : rn sc d 70 207 [l0, l1, some (.int x), l3, l4] st M Q = rn sc d 70 208 [l0, l1, some (.int x), l3, l4] (.int x :: st) M Q := ru_1 rfl rfl rfl rfl rfl
set_option maxRecDepth 100000 in
theorem s70_208 {a : Nat} {x0 : Int32} {x1 : Int32} (hw : xm_wt st ≤ 8) (hq : hp_is M a 7) : rn sc (d + 1) 70 208 [l0, l1, l2, l3, l4] (.int x1 :: .int x0 :: .ref a :: st) M Q = rn sc d 74 0 [some (.ref a), some (.int x0), some (.int x1), none] [] M (fun r M' => rn sc (d + 1) 70 211 [l0, l1, l2, l3, l4] (r.toList ++ st) M' Q) := ru_d (ru_iv (as := [.int x1, .int x0]) rfl rfl rfl (Nat.le_of_ble_eq_true rfl) hw rfl hq)
set_option maxRecDepth 100000 in
theorem s70_211 {v : Int32} : rn sc d 70 211 [l0, l1, l2, l3, l4] [.int v] M Q = Q (some (.int v)) M := ru_ri rfl rfl
set_option maxRecDepth 100000 in
theorem s70_212 {x : Int32} : rn sc d 70 212 [l0, l1, l2, some (.int x), l4] st M Q = rn sc d 70 213 [l0, l1, l2, some (.int x), l4] (.int x :: st) M Q := ru_1 rfl rfl rfl rfl rfl
set_option maxRecDepth 100000 in
theorem s70_213 {a : Nat} : rn sc d 70 213 [some (.ref a), l1, l2, l3, l4] st M Q = rn sc d 70 214 [some (.ref a), l1, l2, l3, l4] (.ref a :: st) M Q := ru_1 rfl rfl rfl rfl rfl
set_option maxRecDepth 100000 in
theorem s70_214 {a : Nat} : rn sc d 70 214 [l0, l1, l2, l3, l4] (.ref a :: st) M Q = rn_o (hp_f M a 7 16) (fun v => rn sc d 70 217 [l0, l1, l2, l3, l4] (v :: st) M Q) := ru_get rfl rfl
set_option maxRecDepth 100000 in
theorem s70_217 {x : Int32} : rn sc d 70 217 [l0, l1, some (.int x), l3, l4] st M Q = rn sc d 70 218 [l0, l1, some (.int x), l3, l4] (.int x :: st) M Q := ru_1 rfl rfl rfl rfl rfl
set_option maxRecDepth 100000 in
theorem s70_218 {u v : Int32} : rn sc d 70 218 [l0, l1, l2, l3, l4] (.int v :: .int u :: st) M Q = rn sc d 70 219 [l0, l1, l2, l3, l4] (.int (u - v) :: st) M Q := ru_1 rfl rfl rfl rfl rfl
set_option maxRecDepth 100000 in
theorem s70_219 {u v : Int32} : rn sc d 70 219 [l0, l1, l2, l3, l4] (.int v :: .int u :: st) M Q = if v < u then rn sc d 70 228 [l0, l1, l2, l3, l4] st M Q else rn sc d 70 222 [l0, l1, l2, l3, l4] st M Q := ru_ic pc_gt rfl (by decide)
set_option maxRecDepth 100000 in
theorem s70_222 {x : Int32} : rn sc d 70 222 [l0, l1, some (.int x), l3, l4] st M Q = rn sc d 70 223 [l0, l1, some (.int x), l3, l4] (.int x :: st) M Q := ru_1 rfl rfl rfl rfl rfl
set_option maxRecDepth 100000 in
theorem s70_223 {x : Int32} : rn sc d 70 223 [l0, l1, l2, some (.int x), l4] st M Q = rn sc d 70 224 [l0, l1, l2, some (.int x), l4] (.int x :: st) M Q := ru_1 rfl rfl rfl rfl rfl
set_option maxRecDepth 100000 in
theorem s70_224 {u v : Int32} : rn sc d 70 224 [l0, l1, l2, l3, l4] (.int v :: .int u :: st) M Q = rn sc d 70 225 [l0, l1, l2, l3, l4] (.int (u + v) :: st) M Q := ru_1 rfl rfl rfl rfl rfl
set_option maxRecDepth 100000 in
theorem s70_225 : rn sc d 70 225 [l0, l1, l2, l3, l4] st M Q = rn sc d 70 229 [l0, l1, l2, l3, l4] st M Q := ru_go rfl (by decide)
set_option maxRecDepth 100000 in
theorem s70_228 : rn sc d 70 228 [l0, l1, l2, l3, l4] st M Q = rn sc d 70 229 [l0, l1, l2, l3, l4] (.int (-1) :: st) M Q := ru_k rfl rfl rfl rfl rfl (by decide)
set_option maxRecDepth 100000 in
theorem s70_229 {v : Int32} : rn sc d 70 229 [l0, l1, l2, l3, l4] [.int v] M Q = Q (some (.int v)) M := ru_ri rfl rfl
set_option maxRecDepth 100000 in
theorem s70_230 {x : Int32} : rn sc d 70 230 [l0, l1, some (.int x), l3, l4] st M Q = rn sc d 70 231 [l0, l1, some (.int x), l3, l4] (.int x :: st) M Q := ru_1 rfl rfl rfl rfl rfl
set_option maxRecDepth 100000 in
theorem s70_231 {x : Int32} : rn sc d 70 231 [l0, l1, l2, some (.int x), l4] st M Q = rn sc d 70 232 [l0, l1, l2, some (.int x), l4] (.int x :: st) M Q := ru_1 rfl rfl rfl rfl rfl
set_option maxRecDepth 100000 in
theorem s70_232 {u v : Int32} : rn sc d 70 232 [l0, l1, l2, l3, l4] (.int v :: .int u :: st) M Q = if ¬ u = v then rn sc d 70 239 [l0, l1, l2, l3, l4] st M Q else rn sc d 70 235 [l0, l1, l2, l3, l4] st M Q := ru_ic pc_ne rfl (by decide)
set_option maxRecDepth 100000 in
theorem s70_235 {x : Int32} : rn sc d 70 235 [l0, l1, some (.int x), l3, l4] st M Q = rn sc d 70 236 [l0, l1, some (.int x), l3, l4] (.int x :: st) M Q := ru_1 rfl rfl rfl rfl rfl
set_option maxRecDepth 100000 in
theorem s70_236 : rn sc d 70 236 [l0, l1, l2, l3, l4] st M Q = rn sc d 70 240 [l0, l1, l2, l3, l4] st M Q := ru_go rfl (by decide)
set_option maxRecDepth 100000 in
theorem s70_239 : rn sc d 70 239 [l0, l1, l2, l3, l4] st M Q = rn sc d 70 240 [l0, l1, l2, l3, l4] (.int (-1) :: st) M Q := ru_k rfl rfl rfl rfl rfl (by decide)
set_option maxRecDepth 100000 in
theorem s70_240 {v : Int32} : rn sc d 70 240 [l0, l1, l2, l3, l4] [.int v] M Q = Q (some (.int v)) M := ru_ri rfl rfl
set_option maxRecDepth 100000 in
theorem s70_241 {a : Nat} : rn sc d 70 241 [some (.ref a), l1, l2, l3, l4] st M Q = rn sc d 70 242 [some (.ref a), l1, l2, l3, l4] (.ref a :: st) M Q := ru_1 rfl rfl rfl rfl rfl
set_option maxRecDepth 100000 in
theorem s70_242 {a : Nat} : rn sc d 70 242 [l0, l1, l2, l3, l4] (.ref a :: st) M Q = rn_o (hp_f M a 7 16) (fun v => rn sc d 70 245 [l0, l1, l2, l3, l4] (v :: st) M Q) := ru_get rfl rfl
set_option maxRecDepth 100000 in
theorem s70_245 {x : Int32} : rn sc d 70 245 [l0, l1, some (.int x), l3, l4] st M Q = rn sc d 70 246 [l0, l1, some (.int x), l3, l4] (.int x :: st) M Q := ru_1 rfl rfl rfl rfl rfl
set_option maxRecDepth 100000 in
theorem s70_246 {u v : Int32} : rn sc d 70 246 [l0, l1, l2, l3, l4] (.int v :: .int u :: st) M Q = rn sc d 70 247 [l0, l1, l2, l3, l4] (.int (u - v) :: st) M Q := ru_1 rfl rfl rfl rfl rfl
set_option maxRecDepth 100000 in
theorem s70_247 {x : Int32} : rn sc d 70 247 [l0, l1, l2, some (.int x), l4] st M Q = rn sc d 70 248 [l0, l1, l2, some (.int x), l4] (.int x :: st) M Q := ru_1 rfl rfl rfl rfl rfl
set_option maxRecDepth 100000 in
theorem s70_248 {u v : Int32} : rn sc d 70 248 [l0, l1, l2, l3, l4] (.int v :: .int u :: st) M Q = if ¬ u = v then rn sc d 70 255 [l0, l1, l2, l3, l4] st M Q else rn sc d 70 251 [l0, l1, l2, l3, l4] st M Q := ru_ic pc_ne rfl (by decide)
set_option maxRecDepth 100000 in
theorem s70_251 {x : Int32} : rn sc d 70 251 [l0, l1, some (.int x), l3, l4] st M Q = rn sc d 70 252 [l0, l1, some (.int x), l3, l4] (.int x :: st) M Q := ru_1 rfl rfl rfl rfl rfl
set_option maxRecDepth 100000 in
theorem s70_252 : rn sc d 70 252 [l0, l1, l2, l3, l4] st M Q = rn sc d 70 256 [l0, l1, l2, l3, l4] st M Q := ru_go rfl (by decide)
set_option maxRecDepth 100000 in
theorem s70_255 : rn sc d 70 255 [l0, l1, l2, l3, l4] st M Q = rn sc d 70 256 [l0, l1, l2, l3, l4] (.int (-1) :: st) M Q := ru_k rfl rfl rfl rfl rfl (by decide)
set_option maxRecDepth 100000 in
theorem s70_256 {v : Int32} : rn sc d 70 256 [l0, l1, l2, l3, l4] [.int v] M Q = Q (some (.int v)) M := ru_ri rfl rfl
set_option maxRecDepth 100000 in
theorem s70_257 {x : Int32} : rn sc d 70 257 [l0, l1, l2, some (.int x), l4] st M Q = rn sc d 70 258 [l0, l1, l2, some (.int x), l4] (.int x :: st) M Q := ru_1 rfl rfl rfl rfl rfl
set_option maxRecDepth 100000 in
theorem s70_258 {x : Int32} : rn sc d 70 258 [l0, l1, some (.int x), l3, l4] st M Q = rn sc d 70 259 [l0, l1, some (.int x), l3, l4] (.int x :: st) M Q := ru_1 rfl rfl rfl rfl rfl
set_option maxRecDepth 100000 in
theorem s70_259 {u v : Int32} : rn sc d 70 259 [l0, l1, l2, l3, l4] (.int v :: .int u :: st) M Q = if u < v then rn sc d 70 274 [l0, l1, l2, l3, l4] st M Q else rn sc d 70 262 [l0, l1, l2, l3, l4] st M Q := ru_ic pc_lt rfl (by decide)
set_option maxRecDepth 100000 in
theorem s70_262 {x : Int32} : rn sc d 70 262 [l0, l1, l2, some (.int x), l4] st M Q = rn sc d 70 263 [l0, l1, l2, some (.int x), l4] (.int x :: st) M Q := ru_1 rfl rfl rfl rfl rfl
set_option maxRecDepth 100000 in
theorem s70_263 {a : Nat} : rn sc d 70 263 [some (.ref a), l1, l2, l3, l4] st M Q = rn sc d 70 264 [some (.ref a), l1, l2, l3, l4] (.ref a :: st) M Q := ru_1 rfl rfl rfl rfl rfl
set_option maxRecDepth 100000 in
theorem s70_264 {a : Nat} : rn sc d 70 264 [l0, l1, l2, l3, l4] (.ref a :: st) M Q = rn_o (hp_f M a 7 16) (fun v => rn sc d 70 267 [l0, l1, l2, l3, l4] (v :: st) M Q) := ru_get rfl rfl
set_option maxRecDepth 100000 in
theorem s70_267 {u v : Int32} : rn sc d 70 267 [l0, l1, l2, l3, l4] (.int v :: .int u :: st) M Q = if v < u then rn sc d 70 274 [l0, l1, l2, l3, l4] st M Q else rn sc d 70 270 [l0, l1, l2, l3, l4] st M Q := ru_ic pc_gt rfl (by decide)
set_option maxRecDepth 100000 in
theorem s70_270 {x : Int32} : rn sc d 70 270 [l0, l1, l2, some (.int x), l4] st M Q = rn sc d 70 271 [l0, l1, l2, some (.int x), l4] (.int x :: st) M Q := ru_1 rfl rfl rfl rfl rfl
set_option maxRecDepth 100000 in
theorem s70_271 : rn sc d 70 271 [l0, l1, l2, l3, l4] st M Q = rn sc d 70 275 [l0, l1, l2, l3, l4] st M Q := ru_go rfl (by decide)
set_option maxRecDepth 100000 in
theorem s70_274 : rn sc d 70 274 [l0, l1, l2, l3, l4] st M Q = rn sc d 70 275 [l0, l1, l2, l3, l4] (.int (-1) :: st) M Q := ru_k rfl rfl rfl rfl rfl (by decide)
set_option maxRecDepth 100000 in
theorem s70_275 {v : Int32} : rn sc d 70 275 [l0, l1, l2, l3, l4] [.int v] M Q = Q (some (.int v)) M := ru_ri rfl rfl
set_option maxRecDepth 100000 in
theorem s70_276 {x : Int32} : rn sc d 70 276 [l0, l1, l2, some (.int x), l4] st M Q = rn sc d 70 277 [l0, l1, l2, some (.int x), l4] (.int x :: st) M Q := ru_1 rfl rfl rfl rfl rfl
set_option maxRecDepth 100000 in
theorem s70_277 {a : Nat} : rn sc d 70 277 [some (.ref a), l1, l2, l3, l4] st M Q = rn sc d 70 278 [some (.ref a), l1, l2, l3, l4] (.ref a :: st) M Q := ru_1 rfl rfl rfl rfl rfl
set_option maxRecDepth 100000 in
theorem s70_278 {a : Nat} : rn sc d 70 278 [l0, l1, l2, l3, l4] (.ref a :: st) M Q = rn_o (hp_f M a 7 16) (fun v => rn sc d 70 281 [l0, l1, l2, l3, l4] (v :: st) M Q) := ru_get rfl rfl
set_option maxRecDepth 100000 in
theorem s70_281 {x : Int32} : rn sc d 70 281 [l0, l1, some (.int x), l3, l4] st M Q = rn sc d 70 282 [l0, l1, some (.int x), l3, l4] (.int x :: st) M Q := ru_1 rfl rfl rfl rfl rfl
set_option maxRecDepth 100000 in
theorem s70_282 {u v : Int32} : rn sc d 70 282 [l0, l1, l2, l3, l4] (.int v :: .int u :: st) M Q = rn sc d 70 283 [l0, l1, l2, l3, l4] (.int (u - v) :: st) M Q := ru_1 rfl rfl rfl rfl rfl
set_option maxRecDepth 100000 in
theorem s70_283 {u v : Int32} : rn sc d 70 283 [l0, l1, l2, l3, l4] (.int v :: .int u :: st) M Q = if v < u then rn sc d 70 295 [l0, l1, l2, l3, l4] st M Q else rn sc d 70 286 [l0, l1, l2, l3, l4] st M Q := ru_ic pc_gt rfl (by decide)
set_option maxRecDepth 100000 in
theorem s70_286 {a : Nat} : rn sc d 70 286 [some (.ref a), l1, l2, l3, l4] st M Q = rn sc d 70 287 [some (.ref a), l1, l2, l3, l4] (.ref a :: st) M Q := ru_1 rfl rfl rfl rfl rfl
set_option maxRecDepth 100000 in
theorem s70_287 {a : Nat} : rn sc d 70 287 [l0, l1, l2, l3, l4] (.ref a :: st) M Q = rn_o (hp_f M a 7 16) (fun v => rn sc d 70 290 [l0, l1, l2, l3, l4] (v :: st) M Q) := ru_get rfl rfl
set_option maxRecDepth 100000 in
theorem s70_290 {x : Int32} : rn sc d 70 290 [l0, l1, l2, some (.int x), l4] st M Q = rn sc d 70 291 [l0, l1, l2, some (.int x), l4] (.int x :: st) M Q := ru_1 rfl rfl rfl rfl rfl
set_option maxRecDepth 100000 in
theorem s70_291 {u v : Int32} : rn sc d 70 291 [l0, l1, l2, l3, l4] (.int v :: .int u :: st) M Q = rn sc d 70 292 [l0, l1, l2, l3, l4] (.int (u - v) :: st) M Q := ru_1 rfl rfl rfl rfl rfl
set_option maxRecDepth 100000 in
theorem s70_292 : rn sc d 70 292 [l0, l1, l2, l3, l4] st M Q = rn sc d 70 296 [l0, l1, l2, l3, l4] st M Q := ru_go rfl (by decide)
set_option maxRecDepth 100000 in
theorem s70_295 : rn sc d 70 295 [l0, l1, l2, l3, l4] st M Q = rn sc d 70 296 [l0, l1, l2, l3, l4] (.int (-1) :: st) M Q := ru_k rfl rfl rfl rfl rfl (by decide)
set_option maxRecDepth 100000 in
theorem s70_296 {v : Int32} : rn sc d 70 296 [l0, l1, l2, l3, l4] [.int v] M Q = Q (some (.int v)) M := ru_ri rfl rfl
set_option maxRecDepth 100000 in
theorem s70_297 {a : Nat} : rn sc d 70 297 [some (.ref a), l1, l2, l3, l4] st M Q = rn sc d 70 298 [some (.ref a), l1, l2, l3, l4] (.ref a :: st) M Q := ru_1 rfl rfl rfl rfl rfl
set_option maxRecDepth 100000 in
theorem s70_298 {a : Nat} : rn sc d 70 298 [l0, l1, l2, l3, l4] (.ref a :: st) M Q = rn_o (hp_f M a 7 16) (fun v => rn sc d 70 301 [l0, l1, l2, l3, l4] (v :: st) M Q) := ru_get rfl rfl
set_option maxRecDepth 100000 in
theorem s70_301 {v : Int32} : rn sc d 70 301 [l0, l1, l2, l3, l4] [.int v] M Q = Q (some (.int v)) M := ru_ri rfl rfl
set_option maxRecDepth 100000 in
theorem s70_302 {x : Int32} : rn sc d 70 302 [l0, l1, some (.int x), l3, l4] st M Q = rn sc d 70 303 [l0, l1, some (.int x), l3, l4] (.int x :: st) M Q := ru_1 rfl rfl rfl rfl rfl
set_option maxRecDepth 100000 in
theorem s70_303 {v : Int32} : rn sc d 70 303 [l0, l1, l2, l3, l4] [.int v] M Q = Q (some (.int v)) M := ru_ri rfl rfl
set_option maxRecDepth 100000 in
theorem s70_304 {a : Nat} : rn sc d 70 304 [some (.ref a), l1, l2, l3, l4] st M Q = rn sc d 70 305 [some (.ref a), l1, l2, l3, l4] (.ref a :: st) M Q := ru_1 rfl rfl rfl rfl rfl
set_option maxRecDepth 100000 in
theorem s70_305 {x : Int32} : rn sc d 70 305 [l0, l1, some (.int x), l3, l4] st M Q = rn sc d 70 306 [l0, l1, some (.int x), l3, l4] (.int x :: st) M Q := ru_1 rfl rfl rfl rfl rfl
set_option maxRecDepth 100000 in
theorem s70_306 {x : Int32} : rn sc d 70 306 [l0, l1, some (.int x), l3, l4] st M Q = rn sc d 70 307 [l0, l1, some (.int x), l3, l4] (.int x :: st) M Q := ru_1 rfl rfl rfl rfl rfl
set_option maxRecDepth 100000 in
theorem s70_307 {a : Nat} {x0 : Int32} {x1 : Int32} (hw : xm_wt st ≤ 8) (hq : hp_is M a 7) : rn sc (d + 1) 70 307 [l0, l1, l2, l3, l4] (.int x1 :: .int x0 :: .ref a :: st) M Q = rn sc d 75 0 [some (.ref a), some (.int x0), some (.int x1), none, none] [] M (fun r M' => rn sc (d + 1) 70 310 [l0, l1, l2, l3, l4] (r.toList ++ st) M' Q) := ru_d (ru_iv (as := [.int x1, .int x0]) rfl rfl rfl (Nat.le_of_ble_eq_true rfl) hw rfl hq)
set_option maxRecDepth 100000 in
theorem s70_310 {v : Int32} : rn sc d 70 310 [l0, l1, l2, l3, l4] [.int v] M Q = Q (some (.int v)) M := ru_ri rfl rfl
set_option maxRecDepth 100000 in
theorem s70_311 {a : Nat} : rn sc d 70 311 [some (.ref a), l1, l2, l3, l4] st M Q = rn sc d 70 312 [some (.ref a), l1, l2, l3, l4] (.ref a :: st) M Q := ru_1 rfl rfl rfl rfl rfl
set_option maxRecDepth 100000 in
theorem s70_312 {x : Int32} : rn sc d 70 312 [l0, l1, l2, some (.int x), l4] st M Q = rn sc d 70 313 [l0, l1, l2, some (.int x), l4] (.int x :: st) M Q := ru_1 rfl rfl rfl rfl rfl
set_option maxRecDepth 100000 in
theorem s70_313 {x : Int32} : rn sc d 70 313 [l0, l1, some (.int x), l3, l4] st M Q = rn sc d 70 314 [l0, l1, some (.int x), l3, l4] (.int x :: st) M Q := ru_1 rfl rfl rfl rfl rfl
set_option maxRecDepth 100000 in
theorem s70_314 {a : Nat} {x0 : Int32} {x1 : Int32} (hw : xm_wt st ≤ 8) (hq : hp_is M a 7) : rn sc (d + 1) 70 314 [l0, l1, l2, l3, l4] (.int x1 :: .int x0 :: .ref a :: st) M Q = rn sc d 76 0 [some (.ref a), some (.int x0), some (.int x1)] [] M (fun r M' => rn sc (d + 1) 70 317 [l0, l1, l2, l3, l4] (r.toList ++ st) M' Q) := ru_d (ru_iv (as := [.int x1, .int x0]) rfl rfl rfl (Nat.le_of_ble_eq_true rfl) hw rfl hq)
set_option maxRecDepth 100000 in
theorem s70_317 {v : Int32} : rn sc d 70 317 [l0, l1, l2, l3, l4] [.int v] M Q = Q (some (.int v)) M := ru_ri rfl rfl
set_option maxRecDepth 100000 in
theorem s70_318 {a : Nat} : rn sc d 70 318 [some (.ref a), l1, l2, l3, l4] st M Q = rn sc d 70 319 [some (.ref a), l1, l2, l3, l4] (.ref a :: st) M Q := ru_1 rfl rfl rfl rfl rfl
set_option maxRecDepth 100000 in
theorem s70_319 {a : Nat} : rn sc d 70 319 [some (.ref a), l1, l2, l3, l4] st M Q = rn sc d 70 320 [some (.ref a), l1, l2, l3, l4] (.ref a :: st) M Q := ru_1 rfl rfl rfl rfl rfl
set_option maxRecDepth 100000 in
theorem s70_320 {a : Nat} : rn sc d 70 320 [l0, l1, l2, l3, l4] (.ref a :: st) M Q = rn_o (hp_f M a 7 3) (fun v => rn sc d 70 323 [l0, l1, l2, l3, l4] (v :: st) M Q) := ru_get rfl rfl
set_option maxRecDepth 100000 in
theorem s70_323 : rn sc d 70 323 [l0, l1, l2, l3, l4] st M Q = rn sc d 70 325 [l0, l1, l2, l3, l4] (.int 64 :: st) M Q := ru_k rfl rfl rfl rfl rfl (by decide)
set_option maxRecDepth 100000 in
theorem s70_325 {x : Int32} : rn sc d 70 325 [l0, l1, l2, some (.int x), l4] st M Q = rn sc d 70 326 [l0, l1, l2, some (.int x), l4] (.int x :: st) M Q := ru_1 rfl rfl rfl rfl rfl
set_option maxRecDepth 100000 in
theorem s70_326 {u v : Int32} : rn sc d 70 326 [l0, l1, l2, l3, l4] (.int v :: .int u :: st) M Q = rn sc d 70 327 [l0, l1, l2, l3, l4] (.int (u * v) :: st) M Q := ru_1 rfl rfl rfl rfl rfl
set_option maxRecDepth 100000 in
theorem s70_327 {a : Nat} : rn sc d 70 327 [some (.ref a), l1, l2, l3, l4] st M Q = rn sc d 70 328 [some (.ref a), l1, l2, l3, l4] (.ref a :: st) M Q := ru_1 rfl rfl rfl rfl rfl
set_option maxRecDepth 100000 in
theorem s70_328 {a : Nat} : rn sc d 70 328 [l0, l1, l2, l3, l4] (.ref a :: st) M Q = rn_o (hp_f M a 7 4) (fun v => rn sc d 70 331 [l0, l1, l2, l3, l4] (v :: st) M Q) := ru_get rfl rfl
set_option maxRecDepth 100000 in
theorem s70_331 {x : Int32} : rn sc d 70 331 [l0, l1, l2, some (.int x), l4] st M Q = rn sc d 70 332 [l0, l1, l2, some (.int x), l4] (.int x :: st) M Q := ru_1 rfl rfl rfl rfl rfl
set_option maxRecDepth 100000 in
theorem s70_332 {a : Nat} {j : Int32} : rn sc d 70 332 [l0, l1, l2, l3, l4] (.int j :: .ref a :: st) M Q = rn_o (hp_i sc M a j) (fun v => rn sc d 70 333 [l0, l1, l2, l3, l4] (.int v :: st) M Q) := ru_iald rfl
set_option maxRecDepth 100000 in
theorem s70_333 {x : Int32} : rn sc d 70 333 [l0, l1, some (.int x), l3, l4] st M Q = rn sc d 70 334 [l0, l1, some (.int x), l3, l4] (.int x :: st) M Q := ru_1 rfl rfl rfl rfl rfl
set_option maxRecDepth 100000 in
theorem s70_334 {a : Nat} {b0 : Nat} {x1 : Int32} {x2 : Int32} {x3 : Int32} (hw : xm_wt st ≤ 8) (hq : hp_is M a 7) : rn sc (d + 1) 70 334 [l0, l1, l2, l3, l4] (.int x3 :: .int x2 :: .int x1 :: .ref b0 :: .ref a :: st) M Q = rn sc d 72 0 [some (.ref a), some (.ref b0), some (.int x1), some (.int x2), some (.int x3), none] [] M (fun r M' => rn sc (d + 1) 70 337 [l0, l1, l2, l3, l4] (r.toList ++ st) M' Q) := ru_d (ru_iv (as := [.int x3, .int x2, .int x1, .ref b0]) rfl rfl rfl (Nat.le_of_ble_eq_true rfl) hw rfl hq)
set_option maxRecDepth 100000 in
theorem s70_334N {a : Nat} {x1 : Int32} {x2 : Int32} {x3 : Int32} (hw : xm_wt st ≤ 8) (hq : hp_is M a 7) : rn sc (d + 1) 70 334 [l0, l1, l2, l3, l4] (.int x3 :: .int x2 :: .int x1 :: .null :: .ref a :: st) M Q = rn sc d 72 0 [some (.ref a), some (.null), some (.int x1), some (.int x2), some (.int x3), none] [] M (fun r M' => rn sc (d + 1) 70 337 [l0, l1, l2, l3, l4] (r.toList ++ st) M' Q) := ru_d (ru_iv (as := [.int x3, .int x2, .int x1, .null]) rfl rfl rfl (Nat.le_of_ble_eq_true rfl) hw rfl hq)
set_option maxRecDepth 100000 in
theorem s70_337 {v : Int32} : rn sc d 70 337 [l0, l1, l2, l3, l4] [.int v] M Q = Q (some (.int v)) M := ru_ri rfl rfl
set_option maxRecDepth 100000 in
theorem s70_338 : rn sc d 70 338 [l0, l1, l2, l3, l4] st M Q = rn sc d 70 339 [l0, l1, l2, l3, l4] (.int (-1) :: st) M Q := ru_k rfl rfl rfl rfl rfl (by decide)
set_option maxRecDepth 100000 in
theorem s70_339 {v : Int32} : rn sc d 70 339 [l0, l1, l2, l3, l4] [.int v] M Q = Q (some (.int v)) M := ru_ri rfl rfl
set_option maxRecDepth 100000 in
theorem s71_0 : rn sc d 71 0 [l0, l1, l2, l3] st M Q = rn sc d 71 1 [l0, l1, l2, l3] (.int 0 :: st) M Q := ru_k rfl rfl rfl rfl rfl (by decide)
set_option maxRecDepth 100000 in
theorem s71_1 {x : Int32} : rn sc d 71 1 [l0, l1, l2, l3] (.int x :: st) M Q = rn sc d 71 2 [l0, l1, l2, some (.int x)] st M Q := ru_1 rfl rfl rfl rfl rfl
set_option maxRecDepth 100000 in
theorem s71_2 {x : Int32} : rn sc d 71 2 [l0, l1, l2, some (.int x)] st M Q = rn sc d 71 3 [l0, l1, l2, some (.int x)] (.int x :: st) M Q := ru_1 rfl rfl rfl rfl rfl
set_option maxRecDepth 100000 in
theorem s71_3 {a : Nat} : rn sc d 71 3 [some (.ref a), l1, l2, l3] st M Q = rn sc d 71 4 [some (.ref a), l1, l2, l3] (.ref a :: st) M Q := ru_1 rfl rfl rfl rfl rfl
set_option maxRecDepth 100000 in
theorem s71_4 {a : Nat} : rn sc d 71 4 [l0, l1, l2, l3] (.ref a :: st) M Q = rn_o (hp_f M a 7 10) (fun v => rn sc d 71 7 [l0, l1, l2, l3] (v :: st) M Q) := ru_get rfl rfl
set_option maxRecDepth 100000 in
theorem s71_7 {x : Int32} : rn sc d 71 7 [l0, some (.int x), l2, l3] st M Q = rn sc d 71 8 [l0, some (.int x), l2, l3] (.int x :: st) M Q := ru_1 rfl rfl rfl rfl rfl
set_option maxRecDepth 100000 in
theorem s71_8 {a : Nat} {j : Int32} : rn sc d 71 8 [l0, l1, l2, l3] (.int j :: .ref a :: st) M Q = rn_o (hp_i sc M a j) (fun v => rn sc d 71 9 [l0, l1, l2, l3] (.int v :: st) M Q) := ru_iald rfl
set_option maxRecDepth 100000 in
theorem s71_9 {u v : Int32} : rn sc d 71 9 [l0, l1, l2, l3] (.int v :: .int u :: st) M Q = if v ≤ u then rn sc d 71 40 [l0, l1, l2, l3] st M Q else rn sc d 71 12 [l0, l1, l2, l3] st M Q := ru_ic pc_ge rfl (by decide)
set_option maxRecDepth 100000 in
theorem s71_12 {a : Nat} : rn sc d 71 12 [some (.ref a), l1, l2, l3] st M Q = rn sc d 71 13 [some (.ref a), l1, l2, l3] (.ref a :: st) M Q := ru_1 rfl rfl rfl rfl rfl
set_option maxRecDepth 100000 in
theorem s71_13 {a : Nat} : rn sc d 71 13 [l0, l1, l2, l3] (.ref a :: st) M Q = rn_o (hp_f M a 7 9) (fun v => rn sc d 71 16 [l0, l1, l2, l3] (v :: st) M Q) := ru_get rfl rfl
set_option maxRecDepth 100000 in
theorem s71_16 : rn sc d 71 16 [l0, l1, l2, l3] st M Q = rn sc d 71 18 [l0, l1, l2, l3] (.int 64 :: st) M Q := ru_k rfl rfl rfl rfl rfl (by decide)
set_option maxRecDepth 100000 in
theorem s71_18 {x : Int32} : rn sc d 71 18 [l0, some (.int x), l2, l3] st M Q = rn sc d 71 19 [l0, some (.int x), l2, l3] (.int x :: st) M Q := ru_1 rfl rfl rfl rfl rfl
set_option maxRecDepth 100000 in
theorem s71_19 {u v : Int32} : rn sc d 71 19 [l0, l1, l2, l3] (.int v :: .int u :: st) M Q = rn sc d 71 20 [l0, l1, l2, l3] (.int (u * v) :: st) M Q := ru_1 rfl rfl rfl rfl rfl
set_option maxRecDepth 100000 in
theorem s71_20 {x : Int32} : rn sc d 71 20 [l0, l1, l2, some (.int x)] st M Q = rn sc d 71 21 [l0, l1, l2, some (.int x)] (.int x :: st) M Q := ru_1 rfl rfl rfl rfl rfl
set_option maxRecDepth 100000 in
theorem s71_21 {u v : Int32} : rn sc d 71 21 [l0, l1, l2, l3] (.int v :: .int u :: st) M Q = rn sc d 71 22 [l0, l1, l2, l3] (.int (u + v) :: st) M Q := ru_1 rfl rfl rfl rfl rfl
set_option maxRecDepth 100000 in
theorem s71_22 {a : Nat} {j : Int32} : rn sc d 71 22 [l0, l1, l2, l3] (.int j :: .ref a :: st) M Q = rn_o (hp_b M a j) (fun v => rn sc d 71 23 [l0, l1, l2, l3] (.int v :: st) M Q) := ru_bald rfl
set_option maxRecDepth 100000 in
theorem s71_23 {a : Nat} : rn sc d 71 23 [some (.ref a), l1, l2, l3] st M Q = rn sc d 71 24 [some (.ref a), l1, l2, l3] (.ref a :: st) M Q := ru_1 rfl rfl rfl rfl rfl
set_option maxRecDepth 100000 in
theorem s71_24 {a : Nat} : rn sc d 71 24 [l0, l1, l2, l3] (.ref a :: st) M Q = rn_o (hp_f M a 7 15) (fun v => rn sc d 71 27 [l0, l1, l2, l3] (v :: st) M Q) := ru_get rfl rfl
set_option maxRecDepth 100000 in
theorem s71_27 {x : Int32} : rn sc d 71 27 [l0, l1, some (.int x), l3] st M Q = rn sc d 71 28 [l0, l1, some (.int x), l3] (.int x :: st) M Q := ru_1 rfl rfl rfl rfl rfl
set_option maxRecDepth 100000 in
theorem s71_28 {a : Nat} {j : Int32} : rn sc d 71 28 [l0, l1, l2, l3] (.int j :: .ref a :: st) M Q = rn_o (hp_b M a j) (fun v => rn sc d 71 29 [l0, l1, l2, l3] (.int v :: st) M Q) := ru_bald rfl
set_option maxRecDepth 100000 in
theorem s71_29 {u v : Int32} : rn sc d 71 29 [l0, l1, l2, l3] (.int v :: .int u :: st) M Q = if ¬ u = v then rn sc d 71 34 [l0, l1, l2, l3] st M Q else rn sc d 71 32 [l0, l1, l2, l3] st M Q := ru_ic pc_ne rfl (by decide)
set_option maxRecDepth 100000 in
theorem s71_32 : rn sc d 71 32 [l0, l1, l2, l3] st M Q = rn sc d 71 33 [l0, l1, l2, l3] (.int 1 :: st) M Q := ru_k rfl rfl rfl rfl rfl (by decide)
set_option maxRecDepth 100000 in
theorem s71_33 {v : Int32} (h : narrow .boolean (.int v) = .int v) : rn sc d 71 33 [l0, l1, l2, l3] [.int v] M Q = Q (some (.int v)) M := ru_rz rfl rfl h
set_option maxRecDepth 100000 in
theorem s71_34 {x : Int32} : rn sc d 71 34 [l0, l1, l2, some (.int x)] st M Q = rn sc d 71 37 [l0, l1, l2, some (.int (x + 1))] st M Q := ru_1 rfl rfl rfl rfl rfl
set_option maxRecDepth 100000 in
theorem s71_37 : rn sc d 71 37 [l0, l1, l2, l3] st M Q = rn sc d 71 2 [l0, l1, l2, l3] st M Q := ru_go rfl (by decide)
set_option maxRecDepth 100000 in
theorem s71_40 : rn sc d 71 40 [l0, l1, l2, l3] st M Q = rn sc d 71 41 [l0, l1, l2, l3] (.int 0 :: st) M Q := ru_k rfl rfl rfl rfl rfl (by decide)
set_option maxRecDepth 100000 in
theorem s71_41 {v : Int32} (h : narrow .boolean (.int v) = .int v) : rn sc d 71 41 [l0, l1, l2, l3] [.int v] M Q = Q (some (.int v)) M := ru_rz rfl rfl h
set_option maxRecDepth 100000 in
theorem s72_0 {x : Int32} : rn sc d 72 0 [l0, l1, l2, some (.int x), l4, l5] st M Q = rn sc d 72 1 [l0, l1, l2, some (.int x), l4, l5] (.int x :: st) M Q := ru_1 rfl rfl rfl rfl rfl
set_option maxRecDepth 100000 in
theorem s72_1 {a : Nat} : rn sc d 72 1 [some (.ref a), l1, l2, l3, l4, l5] st M Q = rn sc d 72 2 [some (.ref a), l1, l2, l3, l4, l5] (.ref a :: st) M Q := ru_1 rfl rfl rfl rfl rfl
set_option maxRecDepth 100000 in
theorem s72_2 {a : Nat} : rn sc d 72 2 [l0, l1, l2, l3, l4, l5] (.ref a :: st) M Q = rn_o (hp_f M a 7 16) (fun v => rn sc d 72 5 [l0, l1, l2, l3, l4, l5] (v :: st) M Q) := ru_get rfl rfl
set_option maxRecDepth 100000 in
theorem s72_5 {x : Int32} : rn sc d 72 5 [l0, l1, l2, l3, some (.int x), l5] st M Q = rn sc d 72 7 [l0, l1, l2, l3, some (.int x), l5] (.int x :: st) M Q := ru_1 rfl rfl rfl rfl rfl
set_option maxRecDepth 100000 in
theorem s72_7 {u v : Int32} : rn sc d 72 7 [l0, l1, l2, l3, l4, l5] (.int v :: .int u :: st) M Q = rn sc d 72 8 [l0, l1, l2, l3, l4, l5] (.int (u - v) :: st) M Q := ru_1 rfl rfl rfl rfl rfl
set_option maxRecDepth 100000 in
theorem s72_8 {u v : Int32} : rn sc d 72 8 [l0, l1, l2, l3, l4, l5] (.int v :: .int u :: st) M Q = if u ≤ v then rn sc d 72 13 [l0, l1, l2, l3, l4, l5] st M Q else rn sc d 72 11 [l0, l1, l2, l3, l4, l5] st M Q := ru_ic pc_le rfl (by decide)
set_option maxRecDepth 100000 in
theorem s72_11 : rn sc d 72 11 [l0, l1, l2, l3, l4, l5] st M Q = rn sc d 72 12 [l0, l1, l2, l3, l4, l5] (.int (-1) :: st) M Q := ru_k rfl rfl rfl rfl rfl (by decide)
set_option maxRecDepth 100000 in
theorem s72_12 {v : Int32} : rn sc d 72 12 [l0, l1, l2, l3, l4, l5] [.int v] M Q = Q (some (.int v)) M := ru_ri rfl rfl
set_option maxRecDepth 100000 in
theorem s72_13 : rn sc d 72 13 [l0, l1, l2, l3, l4, l5] st M Q = rn sc d 72 14 [l0, l1, l2, l3, l4, l5] (.int 0 :: st) M Q := ru_k rfl rfl rfl rfl rfl (by decide)
set_option maxRecDepth 100000 in
theorem s72_14 {x : Int32} : rn sc d 72 14 [l0, l1, l2, l3, l4, l5] (.int x :: st) M Q = rn sc d 72 16 [l0, l1, l2, l3, l4, some (.int x)] st M Q := ru_1 rfl rfl rfl rfl rfl
set_option maxRecDepth 100000 in
theorem s72_16 {x : Int32} : rn sc d 72 16 [l0, l1, l2, l3, l4, some (.int x)] st M Q = rn sc d 72 18 [l0, l1, l2, l3, l4, some (.int x)] (.int x :: st) M Q := ru_1 rfl rfl rfl rfl rfl
set_option maxRecDepth 100000 in
theorem s72_18 {x : Int32} : rn sc d 72 18 [l0, l1, l2, some (.int x), l4, l5] st M Q = rn sc d 72 19 [l0, l1, l2, some (.int x), l4, l5] (.int x :: st) M Q := ru_1 rfl rfl rfl rfl rfl
set_option maxRecDepth 100000 in
theorem s72_19 {u v : Int32} : rn sc d 72 19 [l0, l1, l2, l3, l4, l5] (.int v :: .int u :: st) M Q = if v ≤ u then rn sc d 72 49 [l0, l1, l2, l3, l4, l5] st M Q else rn sc d 72 22 [l0, l1, l2, l3, l4, l5] st M Q := ru_ic pc_ge rfl (by decide)
set_option maxRecDepth 100000 in
theorem s72_22 {a : Nat} : rn sc d 72 22 [l0, some (.ref a), l2, l3, l4, l5] st M Q = rn sc d 72 23 [l0, some (.ref a), l2, l3, l4, l5] (.ref a :: st) M Q := ru_1 rfl rfl rfl rfl rfl
set_option maxRecDepth 100000 in
theorem s72_22N : rn sc d 72 22 [l0, some .null, l2, l3, l4, l5] st M Q = rn sc d 72 23 [l0, some .null, l2, l3, l4, l5] (.null :: st) M Q := ru_1 rfl rfl rfl rfl rfl
set_option maxRecDepth 100000 in
theorem s72_23 {x : Int32} : rn sc d 72 23 [l0, l1, some (.int x), l3, l4, l5] st M Q = rn sc d 72 24 [l0, l1, some (.int x), l3, l4, l5] (.int x :: st) M Q := ru_1 rfl rfl rfl rfl rfl
set_option maxRecDepth 100000 in
theorem s72_24 {x : Int32} : rn sc d 72 24 [l0, l1, l2, l3, l4, some (.int x)] st M Q = rn sc d 72 26 [l0, l1, l2, l3, l4, some (.int x)] (.int x :: st) M Q := ru_1 rfl rfl rfl rfl rfl
set_option maxRecDepth 100000 in
theorem s72_26 {u v : Int32} : rn sc d 72 26 [l0, l1, l2, l3, l4, l5] (.int v :: .int u :: st) M Q = rn sc d 72 27 [l0, l1, l2, l3, l4, l5] (.int (u + v) :: st) M Q := ru_1 rfl rfl rfl rfl rfl
set_option maxRecDepth 100000 in
theorem s72_27 {a : Nat} {j : Int32} : rn sc d 72 27 [l0, l1, l2, l3, l4, l5] (.int j :: .ref a :: st) M Q = rn_o (hp_b M a j) (fun v => rn sc d 72 28 [l0, l1, l2, l3, l4, l5] (.int v :: st) M Q) := ru_bald rfl
set_option maxRecDepth 100000 in
theorem s72_28 {a : Nat} : rn sc d 72 28 [some (.ref a), l1, l2, l3, l4, l5] st M Q = rn sc d 72 29 [some (.ref a), l1, l2, l3, l4, l5] (.ref a :: st) M Q := ru_1 rfl rfl rfl rfl rfl
set_option maxRecDepth 100000 in
theorem s72_29 {a : Nat} : rn sc d 72 29 [l0, l1, l2, l3, l4, l5] (.ref a :: st) M Q = rn_o (hp_f M a 7 15) (fun v => rn sc d 72 32 [l0, l1, l2, l3, l4, l5] (v :: st) M Q) := ru_get rfl rfl
set_option maxRecDepth 100000 in
theorem s72_32 {x : Int32} : rn sc d 72 32 [l0, l1, l2, l3, some (.int x), l5] st M Q = rn sc d 72 34 [l0, l1, l2, l3, some (.int x), l5] (.int x :: st) M Q := ru_1 rfl rfl rfl rfl rfl
set_option maxRecDepth 100000 in
theorem s72_34 {x : Int32} : rn sc d 72 34 [l0, l1, l2, l3, l4, some (.int x)] st M Q = rn sc d 72 36 [l0, l1, l2, l3, l4, some (.int x)] (.int x :: st) M Q := ru_1 rfl rfl rfl rfl rfl
set_option maxRecDepth 100000 in
theorem s72_36 {u v : Int32} : rn sc d 72 36 [l0, l1, l2, l3, l4, l5] (.int v :: .int u :: st) M Q = rn sc d 72 37 [l0, l1, l2, l3, l4, l5] (.int (u + v) :: st) M Q := ru_1 rfl rfl rfl rfl rfl
set_option maxRecDepth 100000 in
theorem s72_37 {a : Nat} {j : Int32} : rn sc d 72 37 [l0, l1, l2, l3, l4, l5] (.int j :: .ref a :: st) M Q = rn_o (hp_b M a j) (fun v => rn sc d 72 38 [l0, l1, l2, l3, l4, l5] (.int v :: st) M Q) := ru_bald rfl
set_option maxRecDepth 100000 in
theorem s72_38 {u v : Int32} : rn sc d 72 38 [l0, l1, l2, l3, l4, l5] (.int v :: .int u :: st) M Q = if u = v then rn sc d 72 43 [l0, l1, l2, l3, l4, l5] st M Q else rn sc d 72 41 [l0, l1, l2, l3, l4, l5] st M Q := ru_ic pc_eq rfl (by decide)
set_option maxRecDepth 100000 in
theorem s72_41 : rn sc d 72 41 [l0, l1, l2, l3, l4, l5] st M Q = rn sc d 72 42 [l0, l1, l2, l3, l4, l5] (.int (-1) :: st) M Q := ru_k rfl rfl rfl rfl rfl (by decide)
set_option maxRecDepth 100000 in
theorem s72_42 {v : Int32} : rn sc d 72 42 [l0, l1, l2, l3, l4, l5] [.int v] M Q = Q (some (.int v)) M := ru_ri rfl rfl
set_option maxRecDepth 100000 in
theorem s72_43 {x : Int32} : rn sc d 72 43 [l0, l1, l2, l3, l4, some (.int x)] st M Q = rn sc d 72 46 [l0, l1, l2, l3, l4, some (.int (x + 1))] st M Q := ru_1 rfl rfl rfl rfl rfl
set_option maxRecDepth 100000 in
theorem s72_46 : rn sc d 72 46 [l0, l1, l2, l3, l4, l5] st M Q = rn sc d 72 16 [l0, l1, l2, l3, l4, l5] st M Q := ru_go rfl (by decide)
set_option maxRecDepth 100000 in
theorem s72_49 {x : Int32} : rn sc d 72 49 [l0, l1, l2, l3, some (.int x), l5] st M Q = rn sc d 72 51 [l0, l1, l2, l3, some (.int x), l5] (.int x :: st) M Q := ru_1 rfl rfl rfl rfl rfl
set_option maxRecDepth 100000 in
theorem s72_51 {x : Int32} : rn sc d 72 51 [l0, l1, l2, some (.int x), l4, l5] st M Q = rn sc d 72 52 [l0, l1, l2, some (.int x), l4, l5] (.int x :: st) M Q := ru_1 rfl rfl rfl rfl rfl
set_option maxRecDepth 100000 in
theorem s72_52 {u v : Int32} : rn sc d 72 52 [l0, l1, l2, l3, l4, l5] (.int v :: .int u :: st) M Q = rn sc d 72 53 [l0, l1, l2, l3, l4, l5] (.int (u + v) :: st) M Q := ru_1 rfl rfl rfl rfl rfl
set_option maxRecDepth 100000 in
theorem s72_53 {v : Int32} : rn sc d 72 53 [l0, l1, l2, l3, l4, l5] [.int v] M Q = Q (some (.int v)) M := ru_ri rfl rfl
set_option maxRecDepth 100000 in
theorem s73_0 {x : Int32} : rn sc d 73 0 [l0, l1, some (.int x), l3] st M Q = rn sc d 73 1 [l0, l1, some (.int x), l3] (.int x :: st) M Q := ru_1 rfl rfl rfl rfl rfl
set_option maxRecDepth 100000 in
theorem s73_1 {x : Int32} : rn sc d 73 1 [l0, l1, l2, l3] (.int x :: st) M Q = rn sc d 73 2 [l0, l1, l2, some (.int x)] st M Q := ru_1 rfl rfl rfl rfl rfl
set_option maxRecDepth 100000 in
theorem s73_2 {x : Int32} : rn sc d 73 2 [l0, l1, l2, some (.int x)] st M Q = rn sc d 73 3 [l0, l1, l2, some (.int x)] (.int x :: st) M Q := ru_1 rfl rfl rfl rfl rfl
set_option maxRecDepth 100000 in
theorem s73_3 {a : Nat} : rn sc d 73 3 [some (.ref a), l1, l2, l3] st M Q = rn sc d 73 4 [some (.ref a), l1, l2, l3] (.ref a :: st) M Q := ru_1 rfl rfl rfl rfl rfl
set_option maxRecDepth 100000 in
theorem s73_4 {a : Nat} : rn sc d 73 4 [l0, l1, l2, l3] (.ref a :: st) M Q = rn_o (hp_f M a 7 16) (fun v => rn sc d 73 7 [l0, l1, l2, l3] (v :: st) M Q) := ru_get rfl rfl
set_option maxRecDepth 100000 in
theorem s73_7 {u v : Int32} : rn sc d 73 7 [l0, l1, l2, l3] (.int v :: .int u :: st) M Q = if v ≤ u then rn sc d 73 25 [l0, l1, l2, l3] st M Q else rn sc d 73 10 [l0, l1, l2, l3] st M Q := ru_ic pc_ge rfl (by decide)
set_option maxRecDepth 100000 in
theorem s73_10 {a : Nat} : rn sc d 73 10 [some (.ref a), l1, l2, l3] st M Q = rn sc d 73 11 [some (.ref a), l1, l2, l3] (.ref a :: st) M Q := ru_1 rfl rfl rfl rfl rfl
set_option maxRecDepth 100000 in
theorem s73_11 {x : Int32} : rn sc d 73 11 [l0, some (.int x), l2, l3] st M Q = rn sc d 73 12 [l0, some (.int x), l2, l3] (.int x :: st) M Q := ru_1 rfl rfl rfl rfl rfl
set_option maxRecDepth 100000 in
theorem s73_12 {x : Int32} : rn sc d 73 12 [l0, l1, l2, some (.int x)] st M Q = rn sc d 73 13 [l0, l1, l2, some (.int x)] (.int x :: st) M Q := ru_1 rfl rfl rfl rfl rfl
set_option maxRecDepth 100000 in
theorem s73_13 {a : Nat} {x0 : Int32} {x1 : Int32} (hw : xm_wt st ≤ 8) (hq : hp_is M a 7) : rn sc (d + 1) 73 13 [l0, l1, l2, l3] (.int x1 :: .int x0 :: .ref a :: st) M Q = rn sc d 71 0 [some (.ref a), some (.int x0), some (.int x1), none] [] M (fun r M' => rn sc (d + 1) 73 16 [l0, l1, l2, l3] (r.toList ++ st) M' Q) := ru_d (ru_iv (as := [.int x1, .int x0]) rfl rfl rfl (Nat.le_of_ble_eq_true rfl) hw rfl hq)
set_option maxRecDepth 100000 in
theorem s73_16 {x : Int32} : rn sc d 73 16 [l0, l1, l2, l3] (.int x :: st) M Q = if x = 0 then rn sc d 73 25 [l0, l1, l2, l3] st M Q else rn sc d 73 19 [l0, l1, l2, l3] st M Q := ru_if pc_eq rfl (by decide)
set_option maxRecDepth 100000 in
theorem s73_19 {x : Int32} : rn sc d 73 19 [l0, l1, l2, some (.int x)] st M Q = rn sc d 73 22 [l0, l1, l2, some (.int (x + 1))] st M Q := ru_1 rfl rfl rfl rfl rfl
set_option maxRecDepth 100000 in
theorem s73_22 : rn sc d 73 22 [l0, l1, l2, l3] st M Q = rn sc d 73 2 [l0, l1, l2, l3] st M Q := ru_go rfl (by decide)
set_option maxRecDepth 100000 in
theorem s73_25 {x : Int32} : rn sc d 73 25 [l0, l1, l2, some (.int x)] st M Q = rn sc d 73 26 [l0, l1, l2, some (.int x)] (.int x :: st) M Q := ru_1 rfl rfl rfl rfl rfl
set_option maxRecDepth 100000 in
theorem s73_26 {x : Int32} : rn sc d 73 26 [l0, l1, some (.int x), l3] st M Q = rn sc d 73 27 [l0, l1, some (.int x), l3] (.int x :: st) M Q := ru_1 rfl rfl rfl rfl rfl
set_option maxRecDepth 100000 in
theorem s73_27 {u v : Int32} : rn sc d 73 27 [l0, l1, l2, l3] (.int v :: .int u :: st) M Q = if u ≤ v then rn sc d 73 34 [l0, l1, l2, l3] st M Q else rn sc d 73 30 [l0, l1, l2, l3] st M Q := ru_ic pc_le rfl (by decide)
set_option maxRecDepth 100000 in
theorem s73_30 {x : Int32} : rn sc d 73 30 [l0, l1, l2, some (.int x)] st M Q = rn sc d 73 31 [l0, l1, l2, some (.int x)] (.int x :: st) M Q := ru_1 rfl rfl rfl rfl rfl
set_option maxRecDepth 100000 in
theorem s73_31 : rn sc d 73 31 [l0, l1, l2, l3] st M Q = rn sc d 73 35 [l0, l1, l2, l3] st M Q := ru_go rfl (by decide)
set_option maxRecDepth 100000 in
theorem s73_34 : rn sc d 73 34 [l0, l1, l2, l3] st M Q = rn sc d 73 35 [l0, l1, l2, l3] (.int (-1) :: st) M Q := ru_k rfl rfl rfl rfl rfl (by decide)
set_option maxRecDepth 100000 in
theorem s73_35 {v : Int32} : rn sc d 73 35 [l0, l1, l2, l3] [.int v] M Q = Q (some (.int v)) M := ru_ri rfl rfl
set_option maxRecDepth 100000 in
theorem s74_0 {x : Int32} : rn sc d 74 0 [l0, l1, some (.int x), l3] st M Q = rn sc d 74 1 [l0, l1, some (.int x), l3] (.int x :: st) M Q := ru_1 rfl rfl rfl rfl rfl
set_option maxRecDepth 100000 in
theorem s74_1 {x : Int32} : rn sc d 74 1 [l0, l1, l2, l3] (.int x :: st) M Q = rn sc d 74 2 [l0, l1, l2, some (.int x)] st M Q := ru_1 rfl rfl rfl rfl rfl
set_option maxRecDepth 100000 in
theorem s74_2 {x : Int32} : rn sc d 74 2 [l0, l1, l2, some (.int x)] st M Q = rn sc d 74 3 [l0, l1, l2, some (.int x)] (.int x :: st) M Q := ru_1 rfl rfl rfl rfl rfl
set_option maxRecDepth 100000 in
theorem s74_3 {a : Nat} : rn sc d 74 3 [some (.ref a), l1, l2, l3] st M Q = rn sc d 74 4 [some (.ref a), l1, l2, l3] (.ref a :: st) M Q := ru_1 rfl rfl rfl rfl rfl
set_option maxRecDepth 100000 in
theorem s74_4 {a : Nat} : rn sc d 74 4 [l0, l1, l2, l3] (.ref a :: st) M Q = rn_o (hp_f M a 7 16) (fun v => rn sc d 74 7 [l0, l1, l2, l3] (v :: st) M Q) := ru_get rfl rfl
set_option maxRecDepth 100000 in
theorem s74_7 {u v : Int32} : rn sc d 74 7 [l0, l1, l2, l3] (.int v :: .int u :: st) M Q = if v ≤ u then rn sc d 74 25 [l0, l1, l2, l3] st M Q else rn sc d 74 10 [l0, l1, l2, l3] st M Q := ru_ic pc_ge rfl (by decide)
set_option maxRecDepth 100000 in
theorem s74_10 {a : Nat} : rn sc d 74 10 [some (.ref a), l1, l2, l3] st M Q = rn sc d 74 11 [some (.ref a), l1, l2, l3] (.ref a :: st) M Q := ru_1 rfl rfl rfl rfl rfl
set_option maxRecDepth 100000 in
theorem s74_11 {x : Int32} : rn sc d 74 11 [l0, some (.int x), l2, l3] st M Q = rn sc d 74 12 [l0, some (.int x), l2, l3] (.int x :: st) M Q := ru_1 rfl rfl rfl rfl rfl
set_option maxRecDepth 100000 in
theorem s74_12 {x : Int32} : rn sc d 74 12 [l0, l1, l2, some (.int x)] st M Q = rn sc d 74 13 [l0, l1, l2, some (.int x)] (.int x :: st) M Q := ru_1 rfl rfl rfl rfl rfl
set_option maxRecDepth 100000 in
theorem s74_13 {a : Nat} {x0 : Int32} {x1 : Int32} (hw : xm_wt st ≤ 8) (hq : hp_is M a 7) : rn sc (d + 1) 74 13 [l0, l1, l2, l3] (.int x1 :: .int x0 :: .ref a :: st) M Q = rn sc d 71 0 [some (.ref a), some (.int x0), some (.int x1), none] [] M (fun r M' => rn sc (d + 1) 74 16 [l0, l1, l2, l3] (r.toList ++ st) M' Q) := ru_d (ru_iv (as := [.int x1, .int x0]) rfl rfl rfl (Nat.le_of_ble_eq_true rfl) hw rfl hq)
set_option maxRecDepth 100000 in
theorem s74_16 {x : Int32} : rn sc d 74 16 [l0, l1, l2, l3] (.int x :: st) M Q = if ¬ x = 0 then rn sc d 74 25 [l0, l1, l2, l3] st M Q else rn sc d 74 19 [l0, l1, l2, l3] st M Q := ru_if pc_ne rfl (by decide)
set_option maxRecDepth 100000 in
theorem s74_19 {x : Int32} : rn sc d 74 19 [l0, l1, l2, some (.int x)] st M Q = rn sc d 74 22 [l0, l1, l2, some (.int (x + 1))] st M Q := ru_1 rfl rfl rfl rfl rfl
set_option maxRecDepth 100000 in
theorem s74_22 : rn sc d 74 22 [l0, l1, l2, l3] st M Q = rn sc d 74 2 [l0, l1, l2, l3] st M Q := ru_go rfl (by decide)
set_option maxRecDepth 100000 in
theorem s74_25 {x : Int32} : rn sc d 74 25 [l0, l1, l2, some (.int x)] st M Q = rn sc d 74 26 [l0, l1, l2, some (.int x)] (.int x :: st) M Q := ru_1 rfl rfl rfl rfl rfl
set_option maxRecDepth 100000 in
theorem s74_26 {a : Nat} : rn sc d 74 26 [some (.ref a), l1, l2, l3] st M Q = rn sc d 74 27 [some (.ref a), l1, l2, l3] (.ref a :: st) M Q := ru_1 rfl rfl rfl rfl rfl
set_option maxRecDepth 100000 in
theorem s74_27 {a : Nat} : rn sc d 74 27 [l0, l1, l2, l3] (.ref a :: st) M Q = rn_o (hp_f M a 7 16) (fun v => rn sc d 74 30 [l0, l1, l2, l3] (v :: st) M Q) := ru_get rfl rfl
set_option maxRecDepth 100000 in
theorem s74_30 {u v : Int32} : rn sc d 74 30 [l0, l1, l2, l3] (.int v :: .int u :: st) M Q = if v ≤ u then rn sc d 74 37 [l0, l1, l2, l3] st M Q else rn sc d 74 33 [l0, l1, l2, l3] st M Q := ru_ic pc_ge rfl (by decide)
set_option maxRecDepth 100000 in
theorem s74_33 {x : Int32} : rn sc d 74 33 [l0, l1, l2, some (.int x)] st M Q = rn sc d 74 34 [l0, l1, l2, some (.int x)] (.int x :: st) M Q := ru_1 rfl rfl rfl rfl rfl
set_option maxRecDepth 100000 in
theorem s74_34 : rn sc d 74 34 [l0, l1, l2, l3] st M Q = rn sc d 74 38 [l0, l1, l2, l3] st M Q := ru_go rfl (by decide)
set_option maxRecDepth 100000 in
theorem s74_37 : rn sc d 74 37 [l0, l1, l2, l3] st M Q = rn sc d 74 38 [l0, l1, l2, l3] (.int (-1) :: st) M Q := ru_k rfl rfl rfl rfl rfl (by decide)
set_option maxRecDepth 100000 in
theorem s74_38 {v : Int32} : rn sc d 74 38 [l0, l1, l2, l3] [.int v] M Q = Q (some (.int v)) M := ru_ri rfl rfl
set_option maxRecDepth 100000 in
theorem s75_0 : rn sc d 75 0 [l0, l1, l2, l3, l4] st M Q = rn sc d 75 1 [l0, l1, l2, l3, l4] (.int 0 :: st) M Q := ru_k rfl rfl rfl rfl rfl (by decide)
set_option maxRecDepth 100000 in
theorem s75_1 {x : Int32} : rn sc d 75 1 [l0, l1, l2, l3, l4] (.int x :: st) M Q = rn sc d 75 2 [l0, l1, l2, some (.int x), l4] st M Q := ru_1 rfl rfl rfl rfl rfl
set_option maxRecDepth 100000 in
theorem s75_2 {x : Int32} : rn sc d 75 2 [l0, some (.int x), l2, l3, l4] st M Q = rn sc d 75 3 [l0, some (.int x), l2, l3, l4] (.int x :: st) M Q := ru_1 rfl rfl rfl rfl rfl
set_option maxRecDepth 100000 in
theorem s75_3 {x : Int32} : rn sc d 75 3 [l0, l1, l2, l3, l4] (.int x :: st) M Q = rn sc d 75 5 [l0, l1, l2, l3, some (.int x)] st M Q := ru_1 rfl rfl rfl rfl rfl
set_option maxRecDepth 100000 in
theorem s75_5 {x : Int32} : rn sc d 75 5 [l0, l1, l2, l3, some (.int x)] st M Q = rn sc d 75 7 [l0, l1, l2, l3, some (.int x)] (.int x :: st) M Q := ru_1 rfl rfl rfl rfl rfl
set_option maxRecDepth 100000 in
theorem s75_7 {a : Nat} : rn sc d 75 7 [some (.ref a), l1, l2, l3, l4] st M Q = rn sc d 75 8 [some (.ref a), l1, l2, l3, l4] (.ref a :: st) M Q := ru_1 rfl rfl rfl rfl rfl
set_option maxRecDepth 100000 in
theorem s75_8 {a : Nat} : rn sc d 75 8 [l0, l1, l2, l3, l4] (.ref a :: st) M Q = rn_o (hp_f M a 7 16) (fun v => rn sc d 75 11 [l0, l1, l2, l3, l4] (v :: st) M Q) := ru_get rfl rfl
set_option maxRecDepth 100000 in
theorem s75_11 {u v : Int32} : rn sc d 75 11 [l0, l1, l2, l3, l4] (.int v :: .int u :: st) M Q = if v ≤ u then rn sc d 75 79 [l0, l1, l2, l3, l4] st M Q else rn sc d 75 14 [l0, l1, l2, l3, l4] st M Q := ru_ic pc_ge rfl (by decide)
set_option maxRecDepth 100000 in
theorem s75_14 {x : Int32} : rn sc d 75 14 [l0, l1, l2, some (.int x), l4] st M Q = rn sc d 75 15 [l0, l1, l2, some (.int x), l4] (.int x :: st) M Q := ru_1 rfl rfl rfl rfl rfl
set_option maxRecDepth 100000 in
theorem s75_15 {a : Nat} : rn sc d 75 15 [some (.ref a), l1, l2, l3, l4] st M Q = rn sc d 75 16 [some (.ref a), l1, l2, l3, l4] (.ref a :: st) M Q := ru_1 rfl rfl rfl rfl rfl
set_option maxRecDepth 100000 in
theorem s75_16 {a : Nat} : rn sc d 75 16 [l0, l1, l2, l3, l4] (.ref a :: st) M Q = rn_o (hp_f M a 7 15) (fun v => rn sc d 75 19 [l0, l1, l2, l3, l4] (v :: st) M Q) := ru_get rfl rfl
set_option maxRecDepth 100000 in
theorem s75_19 {x : Int32} : rn sc d 75 19 [l0, l1, l2, l3, some (.int x)] st M Q = rn sc d 75 21 [l0, l1, l2, l3, some (.int x)] (.int x :: st) M Q := ru_1 rfl rfl rfl rfl rfl
set_option maxRecDepth 100000 in
theorem s75_21 {a : Nat} {j : Int32} : rn sc d 75 21 [l0, l1, l2, l3, l4] (.int j :: .ref a :: st) M Q = rn_o (hp_b M a j) (fun v => rn sc d 75 22 [l0, l1, l2, l3, l4] (.int v :: st) M Q) := ru_bald rfl
set_option maxRecDepth 100000 in
theorem s75_22 : rn sc d 75 22 [l0, l1, l2, l3, l4] st M Q = rn sc d 75 24 [l0, l1, l2, l3, l4] (.int 40 :: st) M Q := ru_k rfl rfl rfl rfl rfl (by decide)
set_option maxRecDepth 100000 in
theorem s75_24 {u v : Int32} : rn sc d 75 24 [l0, l1, l2, l3, l4] (.int v :: .int u :: st) M Q = if ¬ u = v then rn sc d 75 31 [l0, l1, l2, l3, l4] st M Q else rn sc d 75 27 [l0, l1, l2, l3, l4] st M Q := ru_ic pc_ne rfl (by decide)
set_option maxRecDepth 100000 in
theorem s75_27 : rn sc d 75 27 [l0, l1, l2, l3, l4] st M Q = rn sc d 75 28 [l0, l1, l2, l3, l4] (.int 1 :: st) M Q := ru_k rfl rfl rfl rfl rfl (by decide)
set_option maxRecDepth 100000 in
theorem s75_28 : rn sc d 75 28 [l0, l1, l2, l3, l4] st M Q = rn sc d 75 48 [l0, l1, l2, l3, l4] st M Q := ru_go rfl (by decide)
set_option maxRecDepth 100000 in
theorem s75_31 {a : Nat} : rn sc d 75 31 [some (.ref a), l1, l2, l3, l4] st M Q = rn sc d 75 32 [some (.ref a), l1, l2, l3, l4] (.ref a :: st) M Q := ru_1 rfl rfl rfl rfl rfl
set_option maxRecDepth 100000 in
theorem s75_32 {a : Nat} : rn sc d 75 32 [l0, l1, l2, l3, l4] (.ref a :: st) M Q = rn_o (hp_f M a 7 15) (fun v => rn sc d 75 35 [l0, l1, l2, l3, l4] (v :: st) M Q) := ru_get rfl rfl
set_option maxRecDepth 100000 in
theorem s75_35 {x : Int32} : rn sc d 75 35 [l0, l1, l2, l3, some (.int x)] st M Q = rn sc d 75 37 [l0, l1, l2, l3, some (.int x)] (.int x :: st) M Q := ru_1 rfl rfl rfl rfl rfl
set_option maxRecDepth 100000 in
theorem s75_37 {a : Nat} {j : Int32} : rn sc d 75 37 [l0, l1, l2, l3, l4] (.int j :: .ref a :: st) M Q = rn_o (hp_b M a j) (fun v => rn sc d 75 38 [l0, l1, l2, l3, l4] (.int v :: st) M Q) := ru_bald rfl
set_option maxRecDepth 100000 in
theorem s75_38 : rn sc d 75 38 [l0, l1, l2, l3, l4] st M Q = rn sc d 75 40 [l0, l1, l2, l3, l4] (.int 41 :: st) M Q := ru_k rfl rfl rfl rfl rfl (by decide)
set_option maxRecDepth 100000 in
theorem s75_40 {u v : Int32} : rn sc d 75 40 [l0, l1, l2, l3, l4] (.int v :: .int u :: st) M Q = if ¬ u = v then rn sc d 75 47 [l0, l1, l2, l3, l4] st M Q else rn sc d 75 43 [l0, l1, l2, l3, l4] st M Q := ru_ic pc_ne rfl (by decide)
set_option maxRecDepth 100000 in
theorem s75_43 : rn sc d 75 43 [l0, l1, l2, l3, l4] st M Q = rn sc d 75 44 [l0, l1, l2, l3, l4] (.int (-1) :: st) M Q := ru_k rfl rfl rfl rfl rfl (by decide)
set_option maxRecDepth 100000 in
theorem s75_44 : rn sc d 75 44 [l0, l1, l2, l3, l4] st M Q = rn sc d 75 48 [l0, l1, l2, l3, l4] st M Q := ru_go rfl (by decide)
set_option maxRecDepth 100000 in
theorem s75_47 : rn sc d 75 47 [l0, l1, l2, l3, l4] st M Q = rn sc d 75 48 [l0, l1, l2, l3, l4] (.int 0 :: st) M Q := ru_k rfl rfl rfl rfl rfl (by decide)
set_option maxRecDepth 100000 in
theorem s75_48 {u v : Int32} : rn sc d 75 48 [l0, l1, l2, l3, l4] (.int v :: .int u :: st) M Q = rn sc d 75 49 [l0, l1, l2, l3, l4] (.int (u + v) :: st) M Q := ru_1 rfl rfl rfl rfl rfl
set_option maxRecDepth 100000 in
theorem s75_49 {x : Int32} : rn sc d 75 49 [l0, l1, l2, l3, l4] (.int x :: st) M Q = rn sc d 75 50 [l0, l1, l2, some (.int x), l4] st M Q := ru_1 rfl rfl rfl rfl rfl
set_option maxRecDepth 100000 in
theorem s75_50 {x : Int32} : rn sc d 75 50 [l0, l1, l2, some (.int x), l4] st M Q = rn sc d 75 51 [l0, l1, l2, some (.int x), l4] (.int x :: st) M Q := ru_1 rfl rfl rfl rfl rfl
set_option maxRecDepth 100000 in
theorem s75_51 {x : Int32} : rn sc d 75 51 [l0, l1, l2, l3, l4] (.int x :: st) M Q = if 0 ≤ x then rn sc d 75 56 [l0, l1, l2, l3, l4] st M Q else rn sc d 75 54 [l0, l1, l2, l3, l4] st M Q := ru_if pc_ge rfl (by decide)
set_option maxRecDepth 100000 in
theorem s75_54 : rn sc d 75 54 [l0, l1, l2, l3, l4] st M Q = rn sc d 75 55 [l0, l1, l2, l3, l4] (.int (-1) :: st) M Q := ru_k rfl rfl rfl rfl rfl (by decide)
set_option maxRecDepth 100000 in
theorem s75_55 {v : Int32} : rn sc d 75 55 [l0, l1, l2, l3, l4] [.int v] M Q = Q (some (.int v)) M := ru_ri rfl rfl
set_option maxRecDepth 100000 in
theorem s75_56 {x : Int32} : rn sc d 75 56 [l0, l1, l2, some (.int x), l4] st M Q = rn sc d 75 57 [l0, l1, l2, some (.int x), l4] (.int x :: st) M Q := ru_1 rfl rfl rfl rfl rfl
set_option maxRecDepth 100000 in
theorem s75_57 {x : Int32} : rn sc d 75 57 [l0, l1, l2, l3, l4] (.int x :: st) M Q = if ¬ x = 0 then rn sc d 75 73 [l0, l1, l2, l3, l4] st M Q else rn sc d 75 60 [l0, l1, l2, l3, l4] st M Q := ru_if pc_ne rfl (by decide)
set_option maxRecDepth 100000 in
theorem s75_60 {x : Int32} : rn sc d 75 60 [l0, l1, l2, l3, some (.int x)] st M Q = rn sc d 75 62 [l0, l1, l2, l3, some (.int x)] (.int x :: st) M Q := ru_1 rfl rfl rfl rfl rfl
set_option maxRecDepth 100000 in
theorem s75_62 : rn sc d 75 62 [l0, l1, l2, l3, l4] st M Q = rn sc d 75 63 [l0, l1, l2, l3, l4] (.int 1 :: st) M Q := ru_k rfl rfl rfl rfl rfl (by decide)
set_option maxRecDepth 100000 in
theorem s75_63 {u v : Int32} : rn sc d 75 63 [l0, l1, l2, l3, l4] (.int v :: .int u :: st) M Q = rn sc d 75 64 [l0, l1, l2, l3, l4] (.int (u + v) :: st) M Q := ru_1 rfl rfl rfl rfl rfl
set_option maxRecDepth 100000 in
theorem s75_64 {x : Int32} : rn sc d 75 64 [l0, l1, some (.int x), l3, l4] st M Q = rn sc d 75 65 [l0, l1, some (.int x), l3, l4] (.int x :: st) M Q := ru_1 rfl rfl rfl rfl rfl
set_option maxRecDepth 100000 in
theorem s75_65 {u v : Int32} : rn sc d 75 65 [l0, l1, l2, l3, l4] (.int v :: .int u :: st) M Q = if u ≤ v then rn sc d 75 73 [l0, l1, l2, l3, l4] st M Q else rn sc d 75 68 [l0, l1, l2, l3, l4] st M Q := ru_ic pc_le rfl (by decide)
set_option maxRecDepth 100000 in
theorem s75_68 {x : Int32} : rn sc d 75 68 [l0, l1, l2, l3, some (.int x)] st M Q = rn sc d 75 70 [l0, l1, l2, l3, some (.int x)] (.int x :: st) M Q := ru_1 rfl rfl rfl rfl rfl
set_option maxRecDepth 100000 in
theorem s75_70 : rn sc d 75 70 [l0, l1, l2, l3, l4] st M Q = rn sc d 75 71 [l0, l1, l2, l3, l4] (.int 1 :: st) M Q := ru_k rfl rfl rfl rfl rfl (by decide)
set_option maxRecDepth 100000 in
theorem s75_71 {u v : Int32} : rn sc d 75 71 [l0, l1, l2, l3, l4] (.int v :: .int u :: st) M Q = rn sc d 75 72 [l0, l1, l2, l3, l4] (.int (u + v) :: st) M Q := ru_1 rfl rfl rfl rfl rfl
set_option maxRecDepth 100000 in
theorem s75_72 {v : Int32} : rn sc d 75 72 [l0, l1, l2, l3, l4] [.int v] M Q = Q (some (.int v)) M := ru_ri rfl rfl
set_option maxRecDepth 100000 in
theorem s75_73 {x : Int32} : rn sc d 75 73 [l0, l1, l2, l3, some (.int x)] st M Q = rn sc d 75 76 [l0, l1, l2, l3, some (.int (x + 1))] st M Q := ru_1 rfl rfl rfl rfl rfl
set_option maxRecDepth 100000 in
theorem s75_76 : rn sc d 75 76 [l0, l1, l2, l3, l4] st M Q = rn sc d 75 5 [l0, l1, l2, l3, l4] st M Q := ru_go rfl (by decide)
set_option maxRecDepth 100000 in
theorem s75_79 : rn sc d 75 79 [l0, l1, l2, l3, l4] st M Q = rn sc d 75 80 [l0, l1, l2, l3, l4] (.int (-1) :: st) M Q := ru_k rfl rfl rfl rfl rfl (by decide)
set_option maxRecDepth 100000 in
theorem s75_80 {v : Int32} : rn sc d 75 80 [l0, l1, l2, l3, l4] [.int v] M Q = Q (some (.int v)) M := ru_ri rfl rfl
set_option maxRecDepth 100000 in
theorem s76_0 {a : Nat} : rn sc d 76 0 [some (.ref a), l1, l2] st M Q = rn sc d 76 1 [some (.ref a), l1, l2] (.ref a :: st) M Q := ru_1 rfl rfl rfl rfl rfl
set_option maxRecDepth 100000 in
theorem s76_1 {a : Nat} : rn sc d 76 1 [l0, l1, l2] (.ref a :: st) M Q = rn_o (hp_f M a 7 4) (fun v => rn sc d 76 4 [l0, l1, l2] (v :: st) M Q) := ru_get rfl rfl
set_option maxRecDepth 100000 in
theorem s76_4 {x : Int32} : rn sc d 76 4 [l0, some (.int x), l2] st M Q = rn sc d 76 5 [l0, some (.int x), l2] (.int x :: st) M Q := ru_1 rfl rfl rfl rfl rfl
set_option maxRecDepth 100000 in
theorem s76_5 {x : Int32} : rn sc d 76 5 [l0, l1, some (.int x)] st M Q = rn sc d 76 6 [l0, l1, some (.int x)] (.int x :: st) M Q := ru_1 rfl rfl rfl rfl rfl
set_option maxRecDepth 100000 in
theorem s76_6 : rn sc d 76 6 [l0, l1, l2] st M Q = rn sc d 76 8 [l0, l1, l2] (.int 9 :: st) M Q := ru_k rfl rfl rfl rfl rfl (by decide)
set_option maxRecDepth 100000 in
theorem s76_8 {u v : Int32} : rn sc d 76 8 [l0, l1, l2] (.int v :: .int u :: st) M Q = if u ≤ v then rn sc d 76 15 [l0, l1, l2] st M Q else rn sc d 76 11 [l0, l1, l2] st M Q := ru_ic pc_le rfl (by decide)
set_option maxRecDepth 100000 in
theorem s76_11 : rn sc d 76 11 [l0, l1, l2] st M Q = rn sc d 76 12 [l0, l1, l2] (.int 2 :: st) M Q := ru_k rfl rfl rfl rfl rfl (by decide)
set_option maxRecDepth 100000 in
theorem s76_12 : rn sc d 76 12 [l0, l1, l2] st M Q = rn sc d 76 16 [l0, l1, l2] st M Q := ru_go rfl (by decide)
set_option maxRecDepth 100000 in
theorem s76_15 : rn sc d 76 15 [l0, l1, l2] st M Q = rn sc d 76 16 [l0, l1, l2] (.int 1 :: st) M Q := ru_k rfl rfl rfl rfl rfl (by decide)
set_option maxRecDepth 100000 in
theorem s76_16 {a : Nat} {j x : Int32} : rn sc d 76 16 [l0, l1, l2] (.int x :: .int j :: .ref a :: st) M Q = rn_o (hp_pi M a j x) (fun M' => rn sc d 76 17 [l0, l1, l2] st M' Q) := ru_iast rfl
set_option maxRecDepth 100000 in
theorem s76_17 {a : Nat} : rn sc d 76 17 [some (.ref a), l1, l2] st M Q = rn sc d 76 18 [some (.ref a), l1, l2] (.ref a :: st) M Q := ru_1 rfl rfl rfl rfl rfl
set_option maxRecDepth 100000 in
theorem s76_18 {a : Nat} : rn sc d 76 18 [l0, l1, l2] (.ref a :: st) M Q = rn_o (hp_f M a 7 3) (fun v => rn sc d 76 21 [l0, l1, l2] (v :: st) M Q) := ru_get rfl rfl
set_option maxRecDepth 100000 in
theorem s76_21 : rn sc d 76 21 [l0, l1, l2] st M Q = rn sc d 76 23 [l0, l1, l2] (.int 64 :: st) M Q := ru_k rfl rfl rfl rfl rfl (by decide)
set_option maxRecDepth 100000 in
theorem s76_23 {x : Int32} : rn sc d 76 23 [l0, some (.int x), l2] st M Q = rn sc d 76 24 [l0, some (.int x), l2] (.int x :: st) M Q := ru_1 rfl rfl rfl rfl rfl
set_option maxRecDepth 100000 in
theorem s76_24 {u v : Int32} : rn sc d 76 24 [l0, l1, l2] (.int v :: .int u :: st) M Q = rn sc d 76 25 [l0, l1, l2] (.int (u * v) :: st) M Q := ru_1 rfl rfl rfl rfl rfl
set_option maxRecDepth 100000 in
theorem s76_25 : rn sc d 76 25 [l0, l1, l2] st M Q = rn sc d 76 27 [l0, l1, l2] (.int 48 :: st) M Q := ru_k rfl rfl rfl rfl rfl (by decide)
set_option maxRecDepth 100000 in
theorem s76_27 {x : Int32} : rn sc d 76 27 [l0, l1, some (.int x)] st M Q = rn sc d 76 28 [l0, l1, some (.int x)] (.int x :: st) M Q := ru_1 rfl rfl rfl rfl rfl
set_option maxRecDepth 100000 in
theorem s76_28 : rn sc d 76 28 [l0, l1, l2] st M Q = rn sc d 76 30 [l0, l1, l2] (.int 9 :: st) M Q := ru_k rfl rfl rfl rfl rfl (by decide)
set_option maxRecDepth 100000 in
theorem s76_30 {u v : Int32} : rn sc d 76 30 [l0, l1, l2] (.int v :: .int u :: st) M Q = if u ≤ v then rn sc d 76 40 [l0, l1, l2] st M Q else rn sc d 76 33 [l0, l1, l2] st M Q := ru_ic pc_le rfl (by decide)
set_option maxRecDepth 100000 in
theorem s76_33 {x : Int32} : rn sc d 76 33 [l0, l1, some (.int x)] st M Q = rn sc d 76 34 [l0, l1, some (.int x)] (.int x :: st) M Q := ru_1 rfl rfl rfl rfl rfl
set_option maxRecDepth 100000 in
theorem s76_34 : rn sc d 76 34 [l0, l1, l2] st M Q = rn sc d 76 36 [l0, l1, l2] (.int 10 :: st) M Q := ru_k rfl rfl rfl rfl rfl (by decide)
set_option maxRecDepth 100000 in
theorem s76_36 {u v : Int32} : rn sc d 76 36 [l0, l1, l2] (.int v :: .int u :: st) M Q = (¬ v = 0 ∧ rn sc d 76 37 [l0, l1, l2] (.int (u / v) :: st) M Q) := ru_div rfl
set_option maxRecDepth 100000 in
theorem s76_37 : rn sc d 76 37 [l0, l1, l2] st M Q = rn sc d 76 41 [l0, l1, l2] st M Q := ru_go rfl (by decide)
set_option maxRecDepth 100000 in
theorem s76_40 {x : Int32} : rn sc d 76 40 [l0, l1, some (.int x)] st M Q = rn sc d 76 41 [l0, l1, some (.int x)] (.int x :: st) M Q := ru_1 rfl rfl rfl rfl rfl
set_option maxRecDepth 100000 in
theorem s76_41 {u v : Int32} : rn sc d 76 41 [l0, l1, l2] (.int v :: .int u :: st) M Q = rn sc d 76 42 [l0, l1, l2] (.int (u + v) :: st) M Q := ru_1 rfl rfl rfl rfl rfl
set_option maxRecDepth 100000 in
theorem s76_42 {u : Int32} : rn sc d 76 42 [l0, l1, l2] (.int u :: st) M Q = rn sc d 76 43 [l0, l1, l2] (.int u.toInt8.toInt32 :: st) M Q := ru_1 rfl rfl rfl rfl rfl
set_option maxRecDepth 100000 in
theorem s76_43 {a : Nat} {j x : Int32} : rn sc d 76 43 [l0, l1, l2] (.int x :: .int j :: .ref a :: st) M Q = rn_o (hp_pb M a j x) (fun M' => rn sc d 76 44 [l0, l1, l2] st M' Q) := ru_bast rfl
set_option maxRecDepth 100000 in
theorem s76_44 {a : Nat} : rn sc d 76 44 [some (.ref a), l1, l2] st M Q = rn sc d 76 45 [some (.ref a), l1, l2] (.ref a :: st) M Q := ru_1 rfl rfl rfl rfl rfl
set_option maxRecDepth 100000 in
theorem s76_45 {a : Nat} : rn sc d 76 45 [l0, l1, l2] (.ref a :: st) M Q = rn_o (hp_f M a 7 3) (fun v => rn sc d 76 48 [l0, l1, l2] (v :: st) M Q) := ru_get rfl rfl
set_option maxRecDepth 100000 in
theorem s76_48 : rn sc d 76 48 [l0, l1, l2] st M Q = rn sc d 76 50 [l0, l1, l2] (.int 64 :: st) M Q := ru_k rfl rfl rfl rfl rfl (by decide)
set_option maxRecDepth 100000 in
theorem s76_50 {x : Int32} : rn sc d 76 50 [l0, some (.int x), l2] st M Q = rn sc d 76 51 [l0, some (.int x), l2] (.int x :: st) M Q := ru_1 rfl rfl rfl rfl rfl
set_option maxRecDepth 100000 in
theorem s76_51 {u v : Int32} : rn sc d 76 51 [l0, l1, l2] (.int v :: .int u :: st) M Q = rn sc d 76 52 [l0, l1, l2] (.int (u * v) :: st) M Q := ru_1 rfl rfl rfl rfl rfl
set_option maxRecDepth 100000 in
theorem s76_52 : rn sc d 76 52 [l0, l1, l2] st M Q = rn sc d 76 53 [l0, l1, l2] (.int 1 :: st) M Q := ru_k rfl rfl rfl rfl rfl (by decide)
set_option maxRecDepth 100000 in
theorem s76_53 {u v : Int32} : rn sc d 76 53 [l0, l1, l2] (.int v :: .int u :: st) M Q = rn sc d 76 54 [l0, l1, l2] (.int (u + v) :: st) M Q := ru_1 rfl rfl rfl rfl rfl
set_option maxRecDepth 100000 in
theorem s76_54 : rn sc d 76 54 [l0, l1, l2] st M Q = rn sc d 76 56 [l0, l1, l2] (.int 48 :: st) M Q := ru_k rfl rfl rfl rfl rfl (by decide)
set_option maxRecDepth 100000 in
theorem s76_56 {x : Int32} : rn sc d 76 56 [l0, l1, some (.int x)] st M Q = rn sc d 76 57 [l0, l1, some (.int x)] (.int x :: st) M Q := ru_1 rfl rfl rfl rfl rfl
set_option maxRecDepth 100000 in
theorem s76_57 : rn sc d 76 57 [l0, l1, l2] st M Q = rn sc d 76 59 [l0, l1, l2] (.int 10 :: st) M Q := ru_k rfl rfl rfl rfl rfl (by decide)
set_option maxRecDepth 100000 in
theorem s76_59 {u v : Int32} : rn sc d 76 59 [l0, l1, l2] (.int v :: .int u :: st) M Q = (¬ v = 0 ∧ rn sc d 76 60 [l0, l1, l2] (.int (u - u / v * v) :: st) M Q) := ru_rem rfl
set_option maxRecDepth 100000 in
theorem s76_60 {u v : Int32} : rn sc d 76 60 [l0, l1, l2] (.int v :: .int u :: st) M Q = rn sc d 76 61 [l0, l1, l2] (.int (u + v) :: st) M Q := ru_1 rfl rfl rfl rfl rfl
set_option maxRecDepth 100000 in
theorem s76_61 {u : Int32} : rn sc d 76 61 [l0, l1, l2] (.int u :: st) M Q = rn sc d 76 62 [l0, l1, l2] (.int u.toInt8.toInt32 :: st) M Q := ru_1 rfl rfl rfl rfl rfl
set_option maxRecDepth 100000 in
theorem s76_62 {a : Nat} {j x : Int32} : rn sc d 76 62 [l0, l1, l2] (.int x :: .int j :: .ref a :: st) M Q = rn_o (hp_pb M a j x) (fun M' => rn sc d 76 63 [l0, l1, l2] st M' Q) := ru_bast rfl
set_option maxRecDepth 100000 in
theorem s76_63 {x : Int32} : rn sc d 76 63 [l0, l1, some (.int x)] st M Q = rn sc d 76 64 [l0, l1, some (.int x)] (.int x :: st) M Q := ru_1 rfl rfl rfl rfl rfl
set_option maxRecDepth 100000 in
theorem s76_64 {v : Int32} : rn sc d 76 64 [l0, l1, l2] [.int v] M Q = Q (some (.int v)) M := ru_ri rfl rfl
set_option maxRecDepth 100000 in
theorem s77_0 {a : Nat} : rn sc d 77 0 [some (.ref a), l1, l2] st M Q = rn sc d 77 1 [some (.ref a), l1, l2] (.ref a :: st) M Q := ru_1 rfl rfl rfl rfl rfl
set_option maxRecDepth 100000 in
theorem s77_1 {a : Nat} : rn sc d 77 1 [l0, l1, l2] (.ref a :: st) M Q = rn_o (hp_f M a 7 17) (fun v => rn sc d 77 4 [l0, l1, l2] (v :: st) M Q) := ru_get rfl rfl
set_option maxRecDepth 100000 in
theorem s77_4 {a : Nat} : rn sc d 77 4 [some (.ref a), l1, l2] st M Q = rn sc d 77 5 [some (.ref a), l1, l2] (.ref a :: st) M Q := ru_1 rfl rfl rfl rfl rfl
set_option maxRecDepth 100000 in
theorem s77_5 {a : Nat} : rn sc d 77 5 [l0, l1, l2] (.ref a :: st) M Q = rn_o (hp_f M a 7 26) (fun v => rn sc d 77 8 [l0, l1, l2] (v :: st) M Q) := ru_get rfl rfl
set_option maxRecDepth 100000 in
theorem s77_8 {a : Nat} {j : Int32} : rn sc d 77 8 [l0, l1, l2] (.int j :: .ref a :: st) M Q = rn_o (hp_i sc M a j) (fun v => rn sc d 77 9 [l0, l1, l2] (.int v :: st) M Q) := ru_iald rfl
set_option maxRecDepth 100000 in
theorem s77_9 {x : Int32} : rn sc d 77 9 [l0, l1, l2] (.int x :: st) M Q = rn sc d 77 10 [l0, some (.int x), l2] st M Q := ru_1 rfl rfl rfl rfl rfl
set_option maxRecDepth 100000 in
theorem s77_10 {a : Nat} : rn sc d 77 10 [some (.ref a), l1, l2] st M Q = rn sc d 77 11 [some (.ref a), l1, l2] (.ref a :: st) M Q := ru_1 rfl rfl rfl rfl rfl
set_option maxRecDepth 100000 in
theorem s77_11 {a : Nat} : rn sc d 77 11 [l0, l1, l2] (.ref a :: st) M Q = rn_o (hp_f M a 7 26) (fun v => rn sc d 77 14 [l0, l1, l2] (v :: st) M Q) := ru_get rfl rfl
set_option maxRecDepth 100000 in
theorem s77_14 {x : Int32} : rn sc d 77 14 [l0, l1, l2] (.int x :: st) M Q = rn sc d 77 15 [l0, l1, some (.int x)] st M Q := ru_1 rfl rfl rfl rfl rfl
set_option maxRecDepth 100000 in
theorem s77_15 {a : Nat} : rn sc d 77 15 [some (.ref a), l1, l2] st M Q = rn sc d 77 16 [some (.ref a), l1, l2] (.ref a :: st) M Q := ru_1 rfl rfl rfl rfl rfl
set_option maxRecDepth 100000 in
theorem s77_16 {a : Nat} : rn sc d 77 16 [l0, l1, l2] (.ref a :: st) M Q = rn_o (hp_f M a 7 6) (fun v => rn sc d 77 19 [l0, l1, l2] (v :: st) M Q) := ru_get rfl rfl
set_option maxRecDepth 100000 in
theorem s77_19 {x : Int32} : rn sc d 77 19 [l0, some (.int x), l2] st M Q = rn sc d 77 20 [l0, some (.int x), l2] (.int x :: st) M Q := ru_1 rfl rfl rfl rfl rfl
set_option maxRecDepth 100000 in
theorem s77_20 {a : Nat} {j : Int32} : rn sc d 77 20 [l0, l1, l2] (.int j :: .ref a :: st) M Q = rn_o (hp_i sc M a j) (fun v => rn sc d 77 21 [l0, l1, l2] (.int v :: st) M Q) := ru_iald rfl
set_option maxRecDepth 100000 in
theorem s77_21_11 : rn sc d 77 21 [l0, l1, l2] (.int 11 :: st) M Q = rn sc d 77 88 [l0, l1, l2] st M Q := ru_sw rfl rfl rfl rfl rfl (by decide) sw_t
set_option maxRecDepth 100000 in
theorem s77_21_12 : rn sc d 77 21 [l0, l1, l2] (.int 12 :: st) M Q = rn sc d 77 126 [l0, l1, l2] st M Q := ru_sw rfl rfl rfl rfl rfl (by decide) sw_t
set_option maxRecDepth 100000 in
theorem s77_21_13 : rn sc d 77 21 [l0, l1, l2] (.int 13 :: st) M Q = rn sc d 77 242 [l0, l1, l2] st M Q := ru_sw rfl rfl rfl rfl rfl (by decide) sw_t
set_option maxRecDepth 100000 in
theorem s77_21_14 : rn sc d 77 21 [l0, l1, l2] (.int 14 :: st) M Q = rn sc d 77 155 [l0, l1, l2] st M Q := ru_sw rfl rfl rfl rfl rfl (by decide) sw_t
set_option maxRecDepth 100000 in
theorem s77_21_15 : rn sc d 77 21 [l0, l1, l2] (.int 15 :: st) M Q = rn sc d 77 242 [l0, l1, l2] st M Q := ru_sw rfl rfl rfl rfl rfl (by decide) sw_t
set_option maxRecDepth 100000 in
theorem s77_21_16 : rn sc d 77 21 [l0, l1, l2] (.int 16 :: st) M Q = rn sc d 77 163 [l0, l1, l2] st M Q := ru_sw rfl rfl rfl rfl rfl (by decide) sw_t
set_option maxRecDepth 100000 in
theorem s77_21_17 : rn sc d 77 21 [l0, l1, l2] (.int 17 :: st) M Q = rn sc d 77 216 [l0, l1, l2] st M Q := ru_sw rfl rfl rfl rfl rfl (by decide) sw_t
set_option maxRecDepth 100000 in
theorem s77_21_18 : rn sc d 77 21 [l0, l1, l2] (.int 18 :: st) M Q = rn sc d 77 229 [l0, l1, l2] st M Q := ru_sw rfl rfl rfl rfl rfl (by decide) sw_t
set_option maxRecDepth 100000 in
theorem s77_21_19 : rn sc d 77 21 [l0, l1, l2] (.int 19 :: st) M Q = rn sc d 77 229 [l0, l1, l2] st M Q := ru_sw rfl rfl rfl rfl rfl (by decide) sw_t
set_option maxRecDepth 100000 in
theorem s77_21_20 : rn sc d 77 21 [l0, l1, l2] (.int 20 :: st) M Q = rn sc d 77 229 [l0, l1, l2] st M Q := ru_sw rfl rfl rfl rfl rfl (by decide) sw_t
set_option maxRecDepth 100000 in
theorem s77_21_21 : rn sc d 77 21 [l0, l1, l2] (.int 21 :: st) M Q = rn sc d 77 242 [l0, l1, l2] st M Q := ru_sw rfl rfl rfl rfl rfl (by decide) sw_t
set_option maxRecDepth 100000 in
theorem s77_21_22 : rn sc d 77 21 [l0, l1, l2] (.int 22 :: st) M Q = rn sc d 77 242 [l0, l1, l2] st M Q := ru_sw rfl rfl rfl rfl rfl (by decide) sw_t
set_option maxRecDepth 100000 in
theorem s77_21_23 : rn sc d 77 21 [l0, l1, l2] (.int 23 :: st) M Q = rn sc d 77 229 [l0, l1, l2] st M Q := ru_sw rfl rfl rfl rfl rfl (by decide) sw_t
set_option maxRecDepth 100000 in
theorem s77_21_d {x : Int32} (h : x.toInt < 11 ∨ 23 < x.toInt) : rn sc d 77 21 [l0, l1, l2] (.int x :: st) M Q = rn sc d 77 242 [l0, l1, l2] st M Q := ru_sw rfl rfl rfl rfl rfl (sw_td h (by decide)) sw_t
set_option maxRecDepth 100000 in
theorem s77_88 {a : Nat} : rn sc d 77 88 [some (.ref a), l1, l2] st M Q = rn sc d 77 89 [some (.ref a), l1, l2] (.ref a :: st) M Q := ru_1 rfl rfl rfl rfl rfl
set_option maxRecDepth 100000 in
theorem s77_89 {a : Nat} : rn sc d 77 89 [some (.ref a), l1, l2] st M Q = rn sc d 77 90 [some (.ref a), l1, l2] (.ref a :: st) M Q := ru_1 rfl rfl rfl rfl rfl
set_option maxRecDepth 100000 in
theorem s77_90 {a : Nat} : rn sc d 77 90 [l0, l1, l2] (.ref a :: st) M Q = rn_o (hp_f M a 7 19) (fun v => rn sc d 77 93 [l0, l1, l2] (v :: st) M Q) := ru_get rfl rfl
set_option maxRecDepth 100000 in
theorem s77_93 {a : Nat} : rn sc d 77 93 [some (.ref a), l1, l2] st M Q = rn sc d 77 94 [some (.ref a), l1, l2] (.ref a :: st) M Q := ru_1 rfl rfl rfl rfl rfl
set_option maxRecDepth 100000 in
theorem s77_94 {a : Nat} : rn sc d 77 94 [l0, l1, l2] (.ref a :: st) M Q = rn_o (hp_f M a 7 26) (fun v => rn sc d 77 97 [l0, l1, l2] (v :: st) M Q) := ru_get rfl rfl
set_option maxRecDepth 100000 in
theorem s77_97 {a : Nat} {j : Int32} : rn sc d 77 97 [l0, l1, l2] (.int j :: .ref a :: st) M Q = rn_o (hp_i sc M a j) (fun v => rn sc d 77 98 [l0, l1, l2] (.int v :: st) M Q) := ru_iald rfl
set_option maxRecDepth 100000 in
theorem s77_98 {a : Nat} : rn sc d 77 98 [some (.ref a), l1, l2] st M Q = rn sc d 77 99 [some (.ref a), l1, l2] (.ref a :: st) M Q := ru_1 rfl rfl rfl rfl rfl
set_option maxRecDepth 100000 in
theorem s77_99 {a : Nat} : rn sc d 77 99 [l0, l1, l2] (.ref a :: st) M Q = rn_o (hp_f M a 7 16) (fun v => rn sc d 77 102 [l0, l1, l2] (v :: st) M Q) := ru_get rfl rfl
set_option maxRecDepth 100000 in
theorem s77_102 {u v : Int32} : rn sc d 77 102 [l0, l1, l2] (.int v :: .int u :: st) M Q = if v ≤ u then rn sc d 77 119 [l0, l1, l2] st M Q else rn sc d 77 105 [l0, l1, l2] st M Q := ru_ic pc_ge rfl (by decide)
set_option maxRecDepth 100000 in
theorem s77_105 {a : Nat} : rn sc d 77 105 [some (.ref a), l1, l2] st M Q = rn sc d 77 106 [some (.ref a), l1, l2] (.ref a :: st) M Q := ru_1 rfl rfl rfl rfl rfl
set_option maxRecDepth 100000 in
theorem s77_106 {a : Nat} : rn sc d 77 106 [l0, l1, l2] (.ref a :: st) M Q = rn_o (hp_f M a 7 19) (fun v => rn sc d 77 109 [l0, l1, l2] (v :: st) M Q) := ru_get rfl rfl
set_option maxRecDepth 100000 in
theorem s77_109 {a : Nat} : rn sc d 77 109 [some (.ref a), l1, l2] st M Q = rn sc d 77 110 [some (.ref a), l1, l2] (.ref a :: st) M Q := ru_1 rfl rfl rfl rfl rfl
set_option maxRecDepth 100000 in
theorem s77_110 {a : Nat} : rn sc d 77 110 [l0, l1, l2] (.ref a :: st) M Q = rn_o (hp_f M a 7 26) (fun v => rn sc d 77 113 [l0, l1, l2] (v :: st) M Q) := ru_get rfl rfl
set_option maxRecDepth 100000 in
theorem s77_113 {a : Nat} {j : Int32} : rn sc d 77 113 [l0, l1, l2] (.int j :: .ref a :: st) M Q = rn_o (hp_i sc M a j) (fun v => rn sc d 77 114 [l0, l1, l2] (.int v :: st) M Q) := ru_iald rfl
set_option maxRecDepth 100000 in
theorem s77_114 : rn sc d 77 114 [l0, l1, l2] st M Q = rn sc d 77 115 [l0, l1, l2] (.int 1 :: st) M Q := ru_k rfl rfl rfl rfl rfl (by decide)
set_option maxRecDepth 100000 in
theorem s77_115 {u v : Int32} : rn sc d 77 115 [l0, l1, l2] (.int v :: .int u :: st) M Q = rn sc d 77 116 [l0, l1, l2] (.int (u + v) :: st) M Q := ru_1 rfl rfl rfl rfl rfl
set_option maxRecDepth 100000 in
theorem s77_116 : rn sc d 77 116 [l0, l1, l2] st M Q = rn sc d 77 120 [l0, l1, l2] st M Q := ru_go rfl (by decide)
set_option maxRecDepth 100000 in
theorem s77_119 : rn sc d 77 119 [l0, l1, l2] st M Q = rn sc d 77 120 [l0, l1, l2] (.int (-1) :: st) M Q := ru_k rfl rfl rfl rfl rfl (by decide)
set_option maxRecDepth 100000 in
theorem s77_120 {a : Nat} {x0 : Int32} (hw : xm_wt st ≤ 8) (hq : hp_is M a 7) : rn sc (d + 1) 77 120 [l0, l1, l2] (.int x0 :: .ref a :: st) M Q = rn sc d 69 0 [some (.ref a), some (.int x0)] [] M (fun r M' => rn sc (d + 1) 77 123 [l0, l1, l2] (r.toList ++ st) M' Q) := ru_d (ru_iv (as := [.int x0]) rfl rfl rfl (Nat.le_of_ble_eq_true rfl) hw rfl hq)
set_option maxRecDepth 100000 in
theorem s77_123 : rn sc d 77 123 [l0, l1, l2] st M Q = rn sc d 77 247 [l0, l1, l2] st M Q := ru_go rfl (by decide)
set_option maxRecDepth 100000 in
theorem s77_126 {a : Nat} : rn sc d 77 126 [some (.ref a), l1, l2] st M Q = rn sc d 77 127 [some (.ref a), l1, l2] (.ref a :: st) M Q := ru_1 rfl rfl rfl rfl rfl
set_option maxRecDepth 100000 in
theorem s77_127 {a : Nat} : rn sc d 77 127 [some (.ref a), l1, l2] st M Q = rn sc d 77 128 [some (.ref a), l1, l2] (.ref a :: st) M Q := ru_1 rfl rfl rfl rfl rfl
set_option maxRecDepth 100000 in
theorem s77_128 {a : Nat} : rn sc d 77 128 [some (.ref a), l1, l2] st M Q = rn sc d 77 129 [some (.ref a), l1, l2] (.ref a :: st) M Q := ru_1 rfl rfl rfl rfl rfl
set_option maxRecDepth 100000 in
theorem s77_129 {a : Nat} : rn sc d 77 129 [l0, l1, l2] (.ref a :: st) M Q = rn_o (hp_f M a 7 18) (fun v => rn sc d 77 132 [l0, l1, l2] (v :: st) M Q) := ru_get rfl rfl
set_option maxRecDepth 100000 in
theorem s77_132 {a : Nat} : rn sc d 77 132 [some (.ref a), l1, l2] st M Q = rn sc d 77 133 [some (.ref a), l1, l2] (.ref a :: st) M Q := ru_1 rfl rfl rfl rfl rfl
set_option maxRecDepth 100000 in
theorem s77_133 {a : Nat} : rn sc d 77 133 [l0, l1, l2] (.ref a :: st) M Q = rn_o (hp_f M a 7 26) (fun v => rn sc d 77 136 [l0, l1, l2] (v :: st) M Q) := ru_get rfl rfl
set_option maxRecDepth 100000 in
theorem s77_136 {a : Nat} {j : Int32} : rn sc d 77 136 [l0, l1, l2] (.int j :: .ref a :: st) M Q = rn_o (hp_i sc M a j) (fun v => rn sc d 77 137 [l0, l1, l2] (.int v :: st) M Q) := ru_iald rfl
set_option maxRecDepth 100000 in
theorem s77_137 {a : Nat} : rn sc d 77 137 [some (.ref a), l1, l2] st M Q = rn sc d 77 138 [some (.ref a), l1, l2] (.ref a :: st) M Q := ru_1 rfl rfl rfl rfl rfl
set_option maxRecDepth 100000 in
theorem s77_138 {a : Nat} : rn sc d 77 138 [l0, l1, l2] (.ref a :: st) M Q = rn_o (hp_f M a 7 19) (fun v => rn sc d 77 141 [l0, l1, l2] (v :: st) M Q) := ru_get rfl rfl
set_option maxRecDepth 100000 in
theorem s77_141 {a : Nat} : rn sc d 77 141 [some (.ref a), l1, l2] st M Q = rn sc d 77 142 [some (.ref a), l1, l2] (.ref a :: st) M Q := ru_1 rfl rfl rfl rfl rfl
set_option maxRecDepth 100000 in
theorem s77_142 {a : Nat} : rn sc d 77 142 [l0, l1, l2] (.ref a :: st) M Q = rn_o (hp_f M a 7 26) (fun v => rn sc d 77 145 [l0, l1, l2] (v :: st) M Q) := ru_get rfl rfl
set_option maxRecDepth 100000 in
theorem s77_145 {a : Nat} {j : Int32} : rn sc d 77 145 [l0, l1, l2] (.int j :: .ref a :: st) M Q = rn_o (hp_i sc M a j) (fun v => rn sc d 77 146 [l0, l1, l2] (.int v :: st) M Q) := ru_iald rfl
set_option maxRecDepth 100000 in
theorem s77_146 {a : Nat} {x0 : Int32} {x1 : Int32} (hw : xm_wt st ≤ 8) (hq : hp_is M a 7) : rn sc (d + 1) 77 146 [l0, l1, l2] (.int x1 :: .int x0 :: .ref a :: st) M Q = rn sc d 75 0 [some (.ref a), some (.int x0), some (.int x1), none, none] [] M (fun r M' => rn sc (d + 1) 77 149 [l0, l1, l2] (r.toList ++ st) M' Q) := ru_d (ru_iv (as := [.int x1, .int x0]) rfl rfl rfl (Nat.le_of_ble_eq_true rfl) hw rfl hq)
set_option maxRecDepth 100000 in
theorem s77_149 {a : Nat} {x0 : Int32} (hw : xm_wt st ≤ 8) (hq : hp_is M a 7) : rn sc (d + 1) 77 149 [l0, l1, l2] (.int x0 :: .ref a :: st) M Q = rn sc d 69 0 [some (.ref a), some (.int x0)] [] M (fun r M' => rn sc (d + 1) 77 152 [l0, l1, l2] (r.toList ++ st) M' Q) := ru_d (ru_iv (as := [.int x0]) rfl rfl rfl (Nat.le_of_ble_eq_true rfl) hw rfl hq)
set_option maxRecDepth 100000 in
theorem s77_152 : rn sc d 77 152 [l0, l1, l2] st M Q = rn sc d 77 247 [l0, l1, l2] st M Q := ru_go rfl (by decide)
set_option maxRecDepth 100000 in
theorem s77_155 {a : Nat} : rn sc d 77 155 [some (.ref a), l1, l2] st M Q = rn sc d 77 156 [some (.ref a), l1, l2] (.ref a :: st) M Q := ru_1 rfl rfl rfl rfl rfl
set_option maxRecDepth 100000 in
theorem s77_156 : rn sc d 77 156 [l0, l1, l2] st M Q = rn sc d 77 157 [l0, l1, l2] (.int 1 :: st) M Q := ru_k rfl rfl rfl rfl rfl (by decide)
set_option maxRecDepth 100000 in
theorem s77_157 {a : Nat} {v : Value} : rn sc d 77 157 [l0, l1, l2] (v :: .ref a :: st) M Q = rn_o (hp_pf M a 7 28 v) (fun M' => rn sc d 77 160 [l0, l1, l2] st M' Q) := ru_put rfl rfl rfl
set_option maxRecDepth 100000 in
theorem s77_160 : rn sc d 77 160 [l0, l1, l2] st M Q = rn sc d 77 247 [l0, l1, l2] st M Q := ru_go rfl (by decide)
set_option maxRecDepth 100000 in
theorem s77_163 {a : Nat} : rn sc d 77 163 [some (.ref a), l1, l2] st M Q = rn sc d 77 164 [some (.ref a), l1, l2] (.ref a :: st) M Q := ru_1 rfl rfl rfl rfl rfl
set_option maxRecDepth 100000 in
theorem s77_164 {a : Nat} : rn sc d 77 164 [l0, l1, l2] (.ref a :: st) M Q = rn_o (hp_f M a 7 21) (fun v => rn sc d 77 167 [l0, l1, l2] (v :: st) M Q) := ru_get rfl rfl
set_option maxRecDepth 100000 in
theorem s77_167 {x : Int32} : rn sc d 77 167 [l0, l1, some (.int x)] st M Q = rn sc d 77 168 [l0, l1, some (.int x)] (.int x :: st) M Q := ru_1 rfl rfl rfl rfl rfl
set_option maxRecDepth 100000 in
theorem s77_168 {a : Nat} {j : Int32} : rn sc d 77 168 [l0, l1, l2] (.int j :: .ref a :: st) M Q = rn_o (hp_i sc M a j) (fun v => rn sc d 77 169 [l0, l1, l2] (.int v :: st) M Q) := ru_iald rfl
set_option maxRecDepth 100000 in
theorem s77_169 : rn sc d 77 169 [l0, l1, l2] st M Q = rn sc d 77 170 [l0, l1, l2] (.int (-1) :: st) M Q := ru_k rfl rfl rfl rfl rfl (by decide)
set_option maxRecDepth 100000 in
theorem s77_170 {u v : Int32} : rn sc d 77 170 [l0, l1, l2] (.int v :: .int u :: st) M Q = if ¬ u = v then rn sc d 77 203 [l0, l1, l2] st M Q else rn sc d 77 173 [l0, l1, l2] st M Q := ru_ic pc_ne rfl (by decide)
set_option maxRecDepth 100000 in
theorem s77_173 {a : Nat} : rn sc d 77 173 [some (.ref a), l1, l2] st M Q = rn sc d 77 174 [some (.ref a), l1, l2] (.ref a :: st) M Q := ru_1 rfl rfl rfl rfl rfl
set_option maxRecDepth 100000 in
theorem s77_174 {a : Nat} : rn sc d 77 174 [some (.ref a), l1, l2] st M Q = rn sc d 77 175 [some (.ref a), l1, l2] (.ref a :: st) M Q := ru_1 rfl rfl rfl rfl rfl
set_option maxRecDepth 100000 in
theorem s77_175 {a : Nat} : rn sc d 77 175 [l0, l1, l2] (.ref a :: st) M Q = rn_o (hp_f M a 7 7) (fun v => rn sc d 77 178 [l0, l1, l2] (v :: st) M Q) := ru_get rfl rfl
set_option maxRecDepth 100000 in
theorem s77_178 {x : Int32} : rn sc d 77 178 [l0, some (.int x), l2] st M Q = rn sc d 77 179 [l0, some (.int x), l2] (.int x :: st) M Q := ru_1 rfl rfl rfl rfl rfl
set_option maxRecDepth 100000 in
theorem s77_179 {a : Nat} {j : Int32} : rn sc d 77 179 [l0, l1, l2] (.int j :: .ref a :: st) M Q = rn_o (hp_i sc M a j) (fun v => rn sc d 77 180 [l0, l1, l2] (.int v :: st) M Q) := ru_iald rfl
set_option maxRecDepth 100000 in
theorem s77_180 {a : Nat} : rn sc d 77 180 [some (.ref a), l1, l2] st M Q = rn sc d 77 181 [some (.ref a), l1, l2] (.ref a :: st) M Q := ru_1 rfl rfl rfl rfl rfl
set_option maxRecDepth 100000 in
theorem s77_181 {a : Nat} : rn sc d 77 181 [l0, l1, l2] (.ref a :: st) M Q = rn_o (hp_f M a 7 18) (fun v => rn sc d 77 184 [l0, l1, l2] (v :: st) M Q) := ru_get rfl rfl
set_option maxRecDepth 100000 in
theorem s77_184 {x : Int32} : rn sc d 77 184 [l0, l1, some (.int x)] st M Q = rn sc d 77 185 [l0, l1, some (.int x)] (.int x :: st) M Q := ru_1 rfl rfl rfl rfl rfl
set_option maxRecDepth 100000 in
theorem s77_185 {a : Nat} {j : Int32} : rn sc d 77 185 [l0, l1, l2] (.int j :: .ref a :: st) M Q = rn_o (hp_i sc M a j) (fun v => rn sc d 77 186 [l0, l1, l2] (.int v :: st) M Q) := ru_iald rfl
set_option maxRecDepth 100000 in
theorem s77_186 {x : Int32} : rn sc d 77 186 [l0, l1, some (.int x)] st M Q = rn sc d 77 187 [l0, l1, some (.int x)] (.int x :: st) M Q := ru_1 rfl rfl rfl rfl rfl
set_option maxRecDepth 100000 in
theorem s77_187 {a : Nat} {x0 : Int32} {x1 : Int32} {x2 : Int32} (hw : xm_wt st ≤ 8) (hq : hp_is M a 7) : rn sc (d + 1) 77 187 [l0, l1, l2] (.int x2 :: .int x1 :: .int x0 :: .ref a :: st) M Q = rn sc d 67 0 [some (.ref a), some (.int x0), some (.int x1), some (.int x2)] [] M (fun r M' => rn sc (d + 1) 77 190 [l0, l1, l2] (r.toList ++ st) M' Q) := ru_d (ru_iv (as := [.int x2, .int x1, .int x0]) rfl rfl rfl (Nat.le_of_ble_eq_true rfl) hw rfl hq)
set_option maxRecDepth 100000 in
theorem s77_190 {a : Nat} : rn sc d 77 190 [some (.ref a), l1, l2] st M Q = rn sc d 77 191 [some (.ref a), l1, l2] (.ref a :: st) M Q := ru_1 rfl rfl rfl rfl rfl
set_option maxRecDepth 100000 in
theorem s77_191 {a : Nat} : rn sc d 77 191 [l0, l1, l2] (.ref a :: st) M Q = rn_o (hp_f M a 7 21) (fun v => rn sc d 77 194 [l0, l1, l2] (v :: st) M Q) := ru_get rfl rfl
set_option maxRecDepth 100000 in
theorem s77_194 {x : Int32} : rn sc d 77 194 [l0, l1, some (.int x)] st M Q = rn sc d 77 195 [l0, l1, some (.int x)] (.int x :: st) M Q := ru_1 rfl rfl rfl rfl rfl
set_option maxRecDepth 100000 in
theorem s77_195 {a : Nat} : rn sc d 77 195 [some (.ref a), l1, l2] st M Q = rn sc d 77 196 [some (.ref a), l1, l2] (.ref a :: st) M Q := ru_1 rfl rfl rfl rfl rfl
set_option maxRecDepth 100000 in
theorem s77_196 {a : Nat} : rn sc d 77 196 [l0, l1, l2] (.ref a :: st) M Q = rn_o (hp_f M a 7 26) (fun v => rn sc d 77 199 [l0, l1, l2] (v :: st) M Q) := ru_get rfl rfl
set_option maxRecDepth 100000 in
theorem s77_199 {a : Nat} {j x : Int32} : rn sc d 77 199 [l0, l1, l2] (.int x :: .int j :: .ref a :: st) M Q = rn_o (hp_pi M a j x) (fun M' => rn sc d 77 200 [l0, l1, l2] st M' Q) := ru_iast rfl
set_option maxRecDepth 100000 in
theorem s77_200 : rn sc d 77 200 [l0, l1, l2] st M Q = rn sc d 77 247 [l0, l1, l2] st M Q := ru_go rfl (by decide)
set_option maxRecDepth 100000 in
theorem s77_203 {a : Nat} : rn sc d 77 203 [some (.ref a), l1, l2] st M Q = rn sc d 77 204 [some (.ref a), l1, l2] (.ref a :: st) M Q := ru_1 rfl rfl rfl rfl rfl
set_option maxRecDepth 100000 in
theorem s77_204 {a : Nat} : rn sc d 77 204 [some (.ref a), l1, l2] st M Q = rn sc d 77 205 [some (.ref a), l1, l2] (.ref a :: st) M Q := ru_1 rfl rfl rfl rfl rfl
set_option maxRecDepth 100000 in
theorem s77_205 {a : Nat} : rn sc d 77 205 [l0, l1, l2] (.ref a :: st) M Q = rn_o (hp_f M a 7 22) (fun v => rn sc d 77 208 [l0, l1, l2] (v :: st) M Q) := ru_get rfl rfl
set_option maxRecDepth 100000 in
theorem s77_208 {x : Int32} : rn sc d 77 208 [l0, l1, some (.int x)] st M Q = rn sc d 77 209 [l0, l1, some (.int x)] (.int x :: st) M Q := ru_1 rfl rfl rfl rfl rfl
set_option maxRecDepth 100000 in
theorem s77_209 {a : Nat} {j : Int32} : rn sc d 77 209 [l0, l1, l2] (.int j :: .ref a :: st) M Q = rn_o (hp_i sc M a j) (fun v => rn sc d 77 210 [l0, l1, l2] (.int v :: st) M Q) := ru_iald rfl
set_option maxRecDepth 100000 in
theorem s77_210 {a : Nat} {v : Value} : rn sc d 77 210 [l0, l1, l2] (v :: .ref a :: st) M Q = rn_o (hp_pf M a 7 26 v) (fun M' => rn sc d 77 213 [l0, l1, l2] st M' Q) := ru_put rfl rfl rfl
set_option maxRecDepth 100000 in
theorem s77_213 : rn sc d 77 213 [l0, l1, l2] st M Q = rn sc d 77 247 [l0, l1, l2] st M Q := ru_go rfl (by decide)
set_option maxRecDepth 100000 in
theorem s77_216 {a : Nat} : rn sc d 77 216 [some (.ref a), l1, l2] st M Q = rn sc d 77 217 [some (.ref a), l1, l2] (.ref a :: st) M Q := ru_1 rfl rfl rfl rfl rfl
set_option maxRecDepth 100000 in
theorem s77_217 {a : Nat} : rn sc d 77 217 [some (.ref a), l1, l2] st M Q = rn sc d 77 218 [some (.ref a), l1, l2] (.ref a :: st) M Q := ru_1 rfl rfl rfl rfl rfl
set_option maxRecDepth 100000 in
theorem s77_218 {a : Nat} : rn sc d 77 218 [l0, l1, l2] (.ref a :: st) M Q = rn_o (hp_f M a 7 22) (fun v => rn sc d 77 221 [l0, l1, l2] (v :: st) M Q) := ru_get rfl rfl
set_option maxRecDepth 100000 in
theorem s77_221 {x : Int32} : rn sc d 77 221 [l0, l1, some (.int x)] st M Q = rn sc d 77 222 [l0, l1, some (.int x)] (.int x :: st) M Q := ru_1 rfl rfl rfl rfl rfl
set_option maxRecDepth 100000 in
theorem s77_222 {a : Nat} {j : Int32} : rn sc d 77 222 [l0, l1, l2] (.int j :: .ref a :: st) M Q = rn_o (hp_i sc M a j) (fun v => rn sc d 77 223 [l0, l1, l2] (.int v :: st) M Q) := ru_iald rfl
set_option maxRecDepth 100000 in
theorem s77_223 {a : Nat} {v : Value} : rn sc d 77 223 [l0, l1, l2] (v :: .ref a :: st) M Q = rn_o (hp_pf M a 7 26 v) (fun M' => rn sc d 77 226 [l0, l1, l2] st M' Q) := ru_put rfl rfl rfl
set_option maxRecDepth 100000 in
theorem s77_226 : rn sc d 77 226 [l0, l1, l2] st M Q = rn sc d 77 247 [l0, l1, l2] st M Q := ru_go rfl (by decide)
set_option maxRecDepth 100000 in
theorem s77_229 {a : Nat} : rn sc d 77 229 [some (.ref a), l1, l2] st M Q = rn sc d 77 230 [some (.ref a), l1, l2] (.ref a :: st) M Q := ru_1 rfl rfl rfl rfl rfl
set_option maxRecDepth 100000 in
theorem s77_230 {a : Nat} : rn sc d 77 230 [some (.ref a), l1, l2] st M Q = rn sc d 77 231 [some (.ref a), l1, l2] (.ref a :: st) M Q := ru_1 rfl rfl rfl rfl rfl
set_option maxRecDepth 100000 in
theorem s77_231 {a : Nat} : rn sc d 77 231 [l0, l1, l2] (.ref a :: st) M Q = rn_o (hp_f M a 7 21) (fun v => rn sc d 77 234 [l0, l1, l2] (v :: st) M Q) := ru_get rfl rfl
set_option maxRecDepth 100000 in
theorem s77_234 {x : Int32} : rn sc d 77 234 [l0, l1, some (.int x)] st M Q = rn sc d 77 235 [l0, l1, some (.int x)] (.int x :: st) M Q := ru_1 rfl rfl rfl rfl rfl
set_option maxRecDepth 100000 in
theorem s77_235 {a : Nat} {j : Int32} : rn sc d 77 235 [l0, l1, l2] (.int j :: .ref a :: st) M Q = rn_o (hp_i sc M a j) (fun v => rn sc d 77 236 [l0, l1, l2] (.int v :: st) M Q) := ru_iald rfl
set_option maxRecDepth 100000 in
theorem s77_236 {a : Nat} {v : Value} : rn sc d 77 236 [l0, l1, l2] (v :: .ref a :: st) M Q = rn_o (hp_pf M a 7 26 v) (fun M' => rn sc d 77 239 [l0, l1, l2] st M' Q) := ru_put rfl rfl rfl
set_option maxRecDepth 100000 in
theorem s77_239 : rn sc d 77 239 [l0, l1, l2] st M Q = rn sc d 77 247 [l0, l1, l2] st M Q := ru_go rfl (by decide)
set_option maxRecDepth 100000 in
theorem s77_242 {a : Nat} : rn sc d 77 242 [some (.ref a), l1, l2] st M Q = rn sc d 77 243 [some (.ref a), l1, l2] (.ref a :: st) M Q := ru_1 rfl rfl rfl rfl rfl
set_option maxRecDepth 100000 in
theorem s77_243 : rn sc d 77 243 [l0, l1, l2] st M Q = rn sc d 77 244 [l0, l1, l2] (.int (-1) :: st) M Q := ru_k rfl rfl rfl rfl rfl (by decide)
set_option maxRecDepth 100000 in
theorem s77_244 {a : Nat} {x0 : Int32} (hw : xm_wt st ≤ 8) (hq : hp_is M a 7) : rn sc (d + 1) 77 244 [l0, l1, l2] (.int x0 :: .ref a :: st) M Q = rn sc d 69 0 [some (.ref a), some (.int x0)] [] M (fun r M' => rn sc (d + 1) 77 247 [l0, l1, l2] (r.toList ++ st) M' Q) := ru_d (ru_iv (as := [.int x0]) rfl rfl rfl (Nat.le_of_ble_eq_true rfl) hw rfl hq)
set_option maxRecDepth 100000 in
theorem s77_247 : rn sc d 77 247 [l0, l1, l2] [] M Q = Q none M := rn_ret rfl rfl rfl
set_option maxRecDepth 100000 in
theorem s78_0 {a : Nat} : rn sc d 78 0 [some (.ref a), l1, l2, l3, l4] st M Q = rn sc d 78 1 [some (.ref a), l1, l2, l3, l4] (.ref a :: st) M Q := ru_1 rfl rfl rfl rfl rfl
set_option maxRecDepth 100000 in
theorem s78_1 {a : Nat} : rn sc d 78 1 [l0, l1, l2, l3, l4] (.ref a :: st) M Q = rn_o (hp_f M a 7 26) (fun v => rn sc d 78 4 [l0, l1, l2, l3, l4] (v :: st) M Q) := ru_get rfl rfl
set_option maxRecDepth 100000 in
theorem s78_4 {x : Int32} : rn sc d 78 4 [l0, l1, l2, l3, l4] (.int x :: st) M Q = rn sc d 78 5 [l0, l1, some (.int x), l3, l4] st M Q := ru_1 rfl rfl rfl rfl rfl
set_option maxRecDepth 100000 in
theorem s78_5 {a : Nat} : rn sc d 78 5 [some (.ref a), l1, l2, l3, l4] st M Q = rn sc d 78 6 [some (.ref a), l1, l2, l3, l4] (.ref a :: st) M Q := ru_1 rfl rfl rfl rfl rfl
set_option maxRecDepth 100000 in
theorem s78_6 {a : Nat} : rn sc d 78 6 [l0, l1, l2, l3, l4] (.ref a :: st) M Q = rn_o (hp_f M a 7 17) (fun v => rn sc d 78 9 [l0, l1, l2, l3, l4] (v :: st) M Q) := ru_get rfl rfl
set_option maxRecDepth 100000 in
theorem s78_9 {x : Int32} : rn sc d 78 9 [l0, l1, some (.int x), l3, l4] st M Q = rn sc d 78 10 [l0, l1, some (.int x), l3, l4] (.int x :: st) M Q := ru_1 rfl rfl rfl rfl rfl
set_option maxRecDepth 100000 in
theorem s78_10 {a : Nat} {j : Int32} : rn sc d 78 10 [l0, l1, l2, l3, l4] (.int j :: .ref a :: st) M Q = rn_o (hp_i sc M a j) (fun v => rn sc d 78 11 [l0, l1, l2, l3, l4] (.int v :: st) M Q) := ru_iald rfl
set_option maxRecDepth 100000 in
theorem s78_11 {x : Int32} : rn sc d 78 11 [l0, l1, l2, l3, l4] (.int x :: st) M Q = rn sc d 78 12 [l0, l1, l2, some (.int x), l4] st M Q := ru_1 rfl rfl rfl rfl rfl
set_option maxRecDepth 100000 in
theorem s78_12 {a : Nat} : rn sc d 78 12 [some (.ref a), l1, l2, l3, l4] st M Q = rn sc d 78 13 [some (.ref a), l1, l2, l3, l4] (.ref a :: st) M Q := ru_1 rfl rfl rfl rfl rfl
set_option maxRecDepth 100000 in
theorem s78_13 {a : Nat} : rn sc d 78 13 [l0, l1, l2, l3, l4] (.ref a :: st) M Q = rn_o (hp_f M a 7 6) (fun v => rn sc d 78 16 [l0, l1, l2, l3, l4] (v :: st) M Q) := ru_get rfl rfl
set_option maxRecDepth 100000 in
theorem s78_16 {x : Int32} : rn sc d 78 16 [l0, l1, l2, some (.int x), l4] st M Q = rn sc d 78 17 [l0, l1, l2, some (.int x), l4] (.int x :: st) M Q := ru_1 rfl rfl rfl rfl rfl
set_option maxRecDepth 100000 in
theorem s78_17 {a : Nat} {j : Int32} : rn sc d 78 17 [l0, l1, l2, l3, l4] (.int j :: .ref a :: st) M Q = rn_o (hp_i sc M a j) (fun v => rn sc d 78 18 [l0, l1, l2, l3, l4] (.int v :: st) M Q) := ru_iald rfl
set_option maxRecDepth 100000 in
theorem s78_18 {x : Int32} : rn sc d 78 18 [l0, l1, l2, l3, l4] (.int x :: st) M Q = rn sc d 78 20 [l0, l1, l2, l3, some (.int x)] st M Q := ru_1 rfl rfl rfl rfl rfl
set_option maxRecDepth 100000 in
theorem s78_20 {x : Int32} : rn sc d 78 20 [l0, l1, l2, l3, some (.int x)] st M Q = rn sc d 78 22 [l0, l1, l2, l3, some (.int x)] (.int x :: st) M Q := ru_1 rfl rfl rfl rfl rfl
set_option maxRecDepth 100000 in
theorem s78_22 : rn sc d 78 22 [l0, l1, l2, l3, l4] st M Q = rn sc d 78 24 [l0, l1, l2, l3, l4] (.int 16 :: st) M Q := ru_k rfl rfl rfl rfl rfl (by decide)
set_option maxRecDepth 100000 in
theorem s78_24 {u v : Int32} : rn sc d 78 24 [l0, l1, l2, l3, l4] (.int v :: .int u :: st) M Q = if u = v then rn sc d 78 34 [l0, l1, l2, l3, l4] st M Q else rn sc d 78 27 [l0, l1, l2, l3, l4] st M Q := ru_ic pc_eq rfl (by decide)
set_option maxRecDepth 100000 in
theorem s78_27 {x : Int32} : rn sc d 78 27 [l0, l1, l2, l3, some (.int x)] st M Q = rn sc d 78 29 [l0, l1, l2, l3, some (.int x)] (.int x :: st) M Q := ru_1 rfl rfl rfl rfl rfl
set_option maxRecDepth 100000 in
theorem s78_29 : rn sc d 78 29 [l0, l1, l2, l3, l4] st M Q = rn sc d 78 31 [l0, l1, l2, l3, l4] (.int 17 :: st) M Q := ru_k rfl rfl rfl rfl rfl (by decide)
set_option maxRecDepth 100000 in
theorem s78_31 {u v : Int32} : rn sc d 78 31 [l0, l1, l2, l3, l4] (.int v :: .int u :: st) M Q = if ¬ u = v then rn sc d 78 83 [l0, l1, l2, l3, l4] st M Q else rn sc d 78 34 [l0, l1, l2, l3, l4] st M Q := ru_ic pc_ne rfl (by decide)
set_option maxRecDepth 100000 in
theorem s78_34 {x : Int32} : rn sc d 78 34 [l0, some (.int x), l2, l3, l4] st M Q = rn sc d 78 35 [l0, some (.int x), l2, l3, l4] (.int x :: st) M Q := ru_1 rfl rfl rfl rfl rfl
set_option maxRecDepth 100000 in
theorem s78_35 {a : Nat} : rn sc d 78 35 [some (.ref a), l1, l2, l3, l4] st M Q = rn sc d 78 36 [some (.ref a), l1, l2, l3, l4] (.ref a :: st) M Q := ru_1 rfl rfl rfl rfl rfl
set_option maxRecDepth 100000 in
theorem s78_36 {a : Nat} : rn sc d 78 36 [l0, l1, l2, l3, l4] (.ref a :: st) M Q = rn_o (hp_f M a 7 21) (fun v => rn sc d 78 39 [l0, l1, l2, l3, l4] (v :: st) M Q) := ru_get rfl rfl
set_option maxRecDepth 100000 in
theorem s78_39 {x : Int32} : rn sc d 78 39 [l0, l1, some (.int x), l3, l4] st M Q = rn sc d 78 40 [l0, l1, some (.int x), l3, l4] (.int x :: st) M Q := ru_1 rfl rfl rfl rfl rfl
set_option maxRecDepth 100000 in
theorem s78_40 {a : Nat} {j : Int32} : rn sc d 78 40 [l0, l1, l2, l3, l4] (.int j :: .ref a :: st) M Q = rn_o (hp_i sc M a j) (fun v => rn sc d 78 41 [l0, l1, l2, l3, l4] (.int v :: st) M Q) := ru_iald rfl
set_option maxRecDepth 100000 in
theorem s78_41 {u v : Int32} : rn sc d 78 41 [l0, l1, l2, l3, l4] (.int v :: .int u :: st) M Q = if ¬ u = v then rn sc d 78 83 [l0, l1, l2, l3, l4] st M Q else rn sc d 78 44 [l0, l1, l2, l3, l4] st M Q := ru_ic pc_ne rfl (by decide)
set_option maxRecDepth 100000 in
theorem s78_44 {a : Nat} : rn sc d 78 44 [some (.ref a), l1, l2, l3, l4] st M Q = rn sc d 78 45 [some (.ref a), l1, l2, l3, l4] (.ref a :: st) M Q := ru_1 rfl rfl rfl rfl rfl
set_option maxRecDepth 100000 in
theorem s78_45 {x : Int32} : rn sc d 78 45 [l0, l1, l2, l3, some (.int x)] st M Q = rn sc d 78 47 [l0, l1, l2, l3, some (.int x)] (.int x :: st) M Q := ru_1 rfl rfl rfl rfl rfl
set_option maxRecDepth 100000 in
theorem s78_47 : rn sc d 78 47 [l0, l1, l2, l3, l4] st M Q = rn sc d 78 49 [l0, l1, l2, l3, l4] (.int 16 :: st) M Q := ru_k rfl rfl rfl rfl rfl (by decide)
set_option maxRecDepth 100000 in
theorem s78_49 {u v : Int32} : rn sc d 78 49 [l0, l1, l2, l3, l4] (.int v :: .int u :: st) M Q = if ¬ u = v then rn sc d 78 56 [l0, l1, l2, l3, l4] st M Q else rn sc d 78 52 [l0, l1, l2, l3, l4] st M Q := ru_ic pc_ne rfl (by decide)
set_option maxRecDepth 100000 in
theorem s78_52 {x : Int32} : rn sc d 78 52 [l0, l1, l2, some (.int x), l4] st M Q = rn sc d 78 53 [l0, l1, l2, some (.int x), l4] (.int x :: st) M Q := ru_1 rfl rfl rfl rfl rfl
set_option maxRecDepth 100000 in
theorem s78_53 : rn sc d 78 53 [l0, l1, l2, l3, l4] st M Q = rn sc d 78 62 [l0, l1, l2, l3, l4] st M Q := ru_go rfl (by decide)
set_option maxRecDepth 100000 in
theorem s78_56 {a : Nat} : rn sc d 78 56 [some (.ref a), l1, l2, l3, l4] st M Q = rn sc d 78 57 [some (.ref a), l1, l2, l3, l4] (.ref a :: st) M Q := ru_1 rfl rfl rfl rfl rfl
set_option maxRecDepth 100000 in
theorem s78_57 {a : Nat} : rn sc d 78 57 [l0, l1, l2, l3, l4] (.ref a :: st) M Q = rn_o (hp_f M a 7 8) (fun v => rn sc d 78 60 [l0, l1, l2, l3, l4] (v :: st) M Q) := ru_get rfl rfl
set_option maxRecDepth 100000 in
theorem s78_60 {x : Int32} : rn sc d 78 60 [l0, l1, l2, some (.int x), l4] st M Q = rn sc d 78 61 [l0, l1, l2, some (.int x), l4] (.int x :: st) M Q := ru_1 rfl rfl rfl rfl rfl
set_option maxRecDepth 100000 in
theorem s78_61 {a : Nat} {j : Int32} : rn sc d 78 61 [l0, l1, l2, l3, l4] (.int j :: .ref a :: st) M Q = rn_o (hp_i sc M a j) (fun v => rn sc d 78 62 [l0, l1, l2, l3, l4] (.int v :: st) M Q) := ru_iald rfl
set_option maxRecDepth 100000 in
theorem s78_62 {a : Nat} : rn sc d 78 62 [some (.ref a), l1, l2, l3, l4] st M Q = rn sc d 78 63 [some (.ref a), l1, l2, l3, l4] (.ref a :: st) M Q := ru_1 rfl rfl rfl rfl rfl
set_option maxRecDepth 100000 in
theorem s78_63 {a : Nat} : rn sc d 78 63 [l0, l1, l2, l3, l4] (.ref a :: st) M Q = rn_o (hp_f M a 7 19) (fun v => rn sc d 78 66 [l0, l1, l2, l3, l4] (v :: st) M Q) := ru_get rfl rfl
set_option maxRecDepth 100000 in
theorem s78_66 {x : Int32} : rn sc d 78 66 [l0, some (.int x), l2, l3, l4] st M Q = rn sc d 78 67 [l0, some (.int x), l2, l3, l4] (.int x :: st) M Q := ru_1 rfl rfl rfl rfl rfl
set_option maxRecDepth 100000 in
theorem s78_67 {a : Nat} {j : Int32} : rn sc d 78 67 [l0, l1, l2, l3, l4] (.int j :: .ref a :: st) M Q = rn_o (hp_i sc M a j) (fun v => rn sc d 78 68 [l0, l1, l2, l3, l4] (.int v :: st) M Q) := ru_iald rfl
set_option maxRecDepth 100000 in
theorem s78_68 {x : Int32} : rn sc d 78 68 [l0, l1, some (.int x), l3, l4] st M Q = rn sc d 78 69 [l0, l1, some (.int x), l3, l4] (.int x :: st) M Q := ru_1 rfl rfl rfl rfl rfl
set_option maxRecDepth 100000 in
theorem s78_69 {a : Nat} {x0 : Int32} {x1 : Int32} {x2 : Int32} (hw : xm_wt st ≤ 8) (hq : hp_is M a 7) : rn sc (d + 1) 78 69 [l0, l1, l2, l3, l4] (.int x2 :: .int x1 :: .int x0 :: .ref a :: st) M Q = rn sc d 67 0 [some (.ref a), some (.int x0), some (.int x1), some (.int x2)] [] M (fun r M' => rn sc (d + 1) 78 72 [l0, l1, l2, l3, l4] (r.toList ++ st) M' Q) := ru_d (ru_iv (as := [.int x2, .int x1, .int x0]) rfl rfl rfl (Nat.le_of_ble_eq_true rfl) hw rfl hq)
set_option maxRecDepth 100000 in
theorem s78_72 {a : Nat} : rn sc d 78 72 [some (.ref a), l1, l2, l3, l4] st M Q = rn sc d 78 73 [some (.ref a), l1, l2, l3, l4] (.ref a :: st) M Q := ru_1 rfl rfl rfl rfl rfl
set_option maxRecDepth 100000 in
theorem s78_73 {a : Nat} : rn sc d 78 73 [l0, l1, l2, l3, l4] (.ref a :: st) M Q = rn_o (hp_f M a 7 22) (fun v => rn sc d 78 76 [l0, l1, l2, l3, l4] (v :: st) M Q) := ru_get rfl rfl
set_option maxRecDepth 100000 in
theorem s78_76 {x : Int32} : rn sc d 78 76 [l0, l1, some (.int x), l3, l4] st M Q = rn sc d 78 77 [l0, l1, some (.int x), l3, l4] (.int x :: st) M Q := ru_1 rfl rfl rfl rfl rfl
set_option maxRecDepth 100000 in
theorem s78_77 {a : Nat} : rn sc d 78 77 [some (.ref a), l1, l2, l3, l4] st M Q = rn sc d 78 78 [some (.ref a), l1, l2, l3, l4] (.ref a :: st) M Q := ru_1 rfl rfl rfl rfl rfl
set_option maxRecDepth 100000 in
theorem s78_78 {a : Nat} : rn sc d 78 78 [l0, l1, l2, l3, l4] (.ref a :: st) M Q = rn_o (hp_f M a 7 26) (fun v => rn sc d 78 81 [l0, l1, l2, l3, l4] (v :: st) M Q) := ru_get rfl rfl
set_option maxRecDepth 100000 in
theorem s78_81 {a : Nat} {j x : Int32} : rn sc d 78 81 [l0, l1, l2, l3, l4] (.int x :: .int j :: .ref a :: st) M Q = rn_o (hp_pi M a j x) (fun M' => rn sc d 78 82 [l0, l1, l2, l3, l4] st M' Q) := ru_iast rfl
set_option maxRecDepth 100000 in
theorem s78_82 : rn sc d 78 82 [l0, l1, l2, l3, l4] [] M Q = Q none M := rn_ret rfl rfl rfl
set_option maxRecDepth 100000 in
theorem s78_83 {a : Nat} : rn sc d 78 83 [some (.ref a), l1, l2, l3, l4] st M Q = rn sc d 78 84 [some (.ref a), l1, l2, l3, l4] (.ref a :: st) M Q := ru_1 rfl rfl rfl rfl rfl
set_option maxRecDepth 100000 in
theorem s78_84 {a : Nat} : rn sc d 78 84 [some (.ref a), l1, l2, l3, l4] st M Q = rn sc d 78 85 [some (.ref a), l1, l2, l3, l4] (.ref a :: st) M Q := ru_1 rfl rfl rfl rfl rfl
set_option maxRecDepth 100000 in
theorem s78_85 {a : Nat} : rn sc d 78 85 [l0, l1, l2, l3, l4] (.ref a :: st) M Q = rn_o (hp_f M a 7 19) (fun v => rn sc d 78 88 [l0, l1, l2, l3, l4] (v :: st) M Q) := ru_get rfl rfl
set_option maxRecDepth 100000 in
theorem s78_88 {x : Int32} : rn sc d 78 88 [l0, some (.int x), l2, l3, l4] st M Q = rn sc d 78 89 [l0, some (.int x), l2, l3, l4] (.int x :: st) M Q := ru_1 rfl rfl rfl rfl rfl
set_option maxRecDepth 100000 in
theorem s78_89 {a : Nat} {j : Int32} : rn sc d 78 89 [l0, l1, l2, l3, l4] (.int j :: .ref a :: st) M Q = rn_o (hp_i sc M a j) (fun v => rn sc d 78 90 [l0, l1, l2, l3, l4] (.int v :: st) M Q) := ru_iald rfl
set_option maxRecDepth 100000 in
theorem s78_90 {a : Nat} {x0 : Int32} (hw : xm_wt st ≤ 8) (hq : hp_is M a 7) : rn sc (d + 1) 78 90 [l0, l1, l2, l3, l4] (.int x0 :: .ref a :: st) M Q = rn sc d 69 0 [some (.ref a), some (.int x0)] [] M (fun r M' => rn sc (d + 1) 78 93 [l0, l1, l2, l3, l4] (r.toList ++ st) M' Q) := ru_d (ru_iv (as := [.int x0]) rfl rfl rfl (Nat.le_of_ble_eq_true rfl) hw rfl hq)
set_option maxRecDepth 100000 in
theorem s78_93 {x : Int32} : rn sc d 78 93 [l0, l1, l2, l3, some (.int x)] st M Q = rn sc d 78 95 [l0, l1, l2, l3, some (.int x)] (.int x :: st) M Q := ru_1 rfl rfl rfl rfl rfl
set_option maxRecDepth 100000 in
theorem s78_95 : rn sc d 78 95 [l0, l1, l2, l3, l4] st M Q = rn sc d 78 97 [l0, l1, l2, l3, l4] (.int 19 :: st) M Q := ru_k rfl rfl rfl rfl rfl (by decide)
set_option maxRecDepth 100000 in
theorem s78_97 {u v : Int32} : rn sc d 78 97 [l0, l1, l2, l3, l4] (.int v :: .int u :: st) M Q = if ¬ u = v then rn sc d 78 120 [l0, l1, l2, l3, l4] st M Q else rn sc d 78 100 [l0, l1, l2, l3, l4] st M Q := ru_ic pc_ne rfl (by decide)
set_option maxRecDepth 100000 in
theorem s78_100 {a : Nat} : rn sc d 78 100 [some (.ref a), l1, l2, l3, l4] st M Q = rn sc d 78 101 [some (.ref a), l1, l2, l3, l4] (.ref a :: st) M Q := ru_1 rfl rfl rfl rfl rfl
set_option maxRecDepth 100000 in
theorem s78_101 {a : Nat} : rn sc d 78 101 [l0, l1, l2, l3, l4] (.ref a :: st) M Q = rn sc d 78 102 [l0, l1, l2, l3, l4] (.ref a :: .ref a :: st) M Q := ru_1 rfl rfl rfl rfl rfl
set_option maxRecDepth 100000 in
theorem s78_101I {x : Int32} : rn sc d 78 101 [l0, l1, l2, l3, l4] (.int x :: st) M Q = rn sc d 78 102 [l0, l1, l2, l3, l4] (.int x :: .int x :: st) M Q := ru_1 rfl rfl rfl rfl rfl
set_option maxRecDepth 100000 in
theorem s78_102 {a : Nat} : rn sc d 78 102 [l0, l1, l2, l3, l4] (.ref a :: st) M Q = rn_o (hp_f M a 7 25) (fun v => rn sc d 78 105 [l0, l1, l2, l3, l4] (v :: st) M Q) := ru_get rfl rfl
set_option maxRecDepth 100000 in
theorem s78_105 : rn sc d 78 105 [l0, l1, l2, l3, l4] st M Q = rn sc d 78 106 [l0, l1, l2, l3, l4] (.int 1 :: st) M Q := ru_k rfl rfl rfl rfl rfl (by decide)
set_option maxRecDepth 100000 in
theorem s78_106 {u v : Int32} : rn sc d 78 106 [l0, l1, l2, l3, l4] (.int v :: .int u :: st) M Q = rn sc d 78 107 [l0, l1, l2, l3, l4] (.int (u + v) :: st) M Q := ru_1 rfl rfl rfl rfl rfl
set_option maxRecDepth 100000 in
theorem s78_107 {a : Nat} {v : Value} : rn sc d 78 107 [l0, l1, l2, l3, l4] (v :: .ref a :: st) M Q = rn_o (hp_pf M a 7 25 v) (fun M' => rn sc d 78 110 [l0, l1, l2, l3, l4] st M' Q) := ru_put rfl rfl rfl
set_option maxRecDepth 100000 in
theorem s78_110 {a : Nat} : rn sc d 78 110 [some (.ref a), l1, l2, l3, l4] st M Q = rn sc d 78 111 [some (.ref a), l1, l2, l3, l4] (.ref a :: st) M Q := ru_1 rfl rfl rfl rfl rfl
set_option maxRecDepth 100000 in
theorem s78_111 {a : Nat} : rn sc d 78 111 [l0, l1, l2, l3, l4] (.ref a :: st) M Q = rn_o (hp_f M a 7 24) (fun v => rn sc d 78 114 [l0, l1, l2, l3, l4] (v :: st) M Q) := ru_get rfl rfl
set_option maxRecDepth 100000 in
theorem s78_114 {x : Int32} : rn sc d 78 114 [l0, l1, some (.int x), l3, l4] st M Q = rn sc d 78 115 [l0, l1, some (.int x), l3, l4] (.int x :: st) M Q := ru_1 rfl rfl rfl rfl rfl
set_option maxRecDepth 100000 in
theorem s78_115 {a : Nat} : rn sc d 78 115 [some (.ref a), l1, l2, l3, l4] st M Q = rn sc d 78 116 [some (.ref a), l1, l2, l3, l4] (.ref a :: st) M Q := ru_1 rfl rfl rfl rfl rfl
set_option maxRecDepth 100000 in
theorem s78_116 {a : Nat} : rn sc d 78 116 [l0, l1, l2, l3, l4] (.ref a :: st) M Q = rn_o (hp_f M a 7 25) (fun v => rn sc d 78 119 [l0, l1, l2, l3, l4] (v :: st) M Q) := ru_get rfl rfl
set_option maxRecDepth 100000 in
theorem s78_119 {a : Nat} {j x : Int32} : rn sc d 78 119 [l0, l1, l2, l3, l4] (.int x :: .int j :: .ref a :: st) M Q = rn_o (hp_pi M a j x) (fun M' => rn sc d 78 120 [l0, l1, l2, l3, l4] st M' Q) := ru_iast rfl
set_option maxRecDepth 100000 in
theorem s78_120 {x : Int32} : rn sc d 78 120 [l0, l1, l2, l3, some (.int x)] st M Q = rn sc d 78 122 [l0, l1, l2, l3, some (.int x)] (.int x :: st) M Q := ru_1 rfl rfl rfl rfl rfl
set_option maxRecDepth 100000 in
theorem s78_122 : rn sc d 78 122 [l0, l1, l2, l3, l4] st M Q = rn sc d 78 124 [l0, l1, l2, l3, l4] (.int 20 :: st) M Q := ru_k rfl rfl rfl rfl rfl (by decide)
set_option maxRecDepth 100000 in
theorem s78_124 {u v : Int32} : rn sc d 78 124 [l0, l1, l2, l3, l4] (.int v :: .int u :: st) M Q = if ¬ u = v then rn sc d 78 138 [l0, l1, l2, l3, l4] st M Q else rn sc d 78 127 [l0, l1, l2, l3, l4] st M Q := ru_ic pc_ne rfl (by decide)
set_option maxRecDepth 100000 in
theorem s78_127 {a : Nat} : rn sc d 78 127 [some (.ref a), l1, l2, l3, l4] st M Q = rn sc d 78 128 [some (.ref a), l1, l2, l3, l4] (.ref a :: st) M Q := ru_1 rfl rfl rfl rfl rfl
set_option maxRecDepth 100000 in
theorem s78_128 {a : Nat} : rn sc d 78 128 [some (.ref a), l1, l2, l3, l4] st M Q = rn sc d 78 129 [some (.ref a), l1, l2, l3, l4] (.ref a :: st) M Q := ru_1 rfl rfl rfl rfl rfl
set_option maxRecDepth 100000 in
theorem s78_129 {a : Nat} : rn sc d 78 129 [l0, l1, l2, l3, l4] (.ref a :: st) M Q = rn_o (hp_f M a 7 8) (fun v => rn sc d 78 132 [l0, l1, l2, l3, l4] (v :: st) M Q) := ru_get rfl rfl
set_option maxRecDepth 100000 in
theorem s78_132 {x : Int32} : rn sc d 78 132 [l0, l1, l2, some (.int x), l4] st M Q = rn sc d 78 133 [l0, l1, l2, some (.int x), l4] (.int x :: st) M Q := ru_1 rfl rfl rfl rfl rfl
set_option maxRecDepth 100000 in
theorem s78_133 {a : Nat} {j : Int32} : rn sc d 78 133 [l0, l1, l2, l3, l4] (.int j :: .ref a :: st) M Q = rn_o (hp_i sc M a j) (fun v => rn sc d 78 134 [l0, l1, l2, l3, l4] (.int v :: st) M Q) := ru_iald rfl
set_option maxRecDepth 100000 in
theorem s78_134 {x : Int32} : rn sc d 78 134 [l0, l1, some (.int x), l3, l4] st M Q = rn sc d 78 135 [l0, l1, some (.int x), l3, l4] (.int x :: st) M Q := ru_1 rfl rfl rfl rfl rfl
set_option maxRecDepth 100000 in
theorem s78_135 {a : Nat} {x0 : Int32} {x1 : Int32} (hw : xm_wt st ≤ 8) (hq : hp_is M a 7) : rn sc (d + 1) 78 135 [l0, l1, l2, l3, l4] (.int x1 :: .int x0 :: .ref a :: st) M Q = rn sc d 79 0 [some (.ref a), some (.int x0), some (.int x1), none] [] M (fun r M' => rn sc (d + 1) 78 138 [l0, l1, l2, l3, l4] (r.toList ++ st) M' Q) := ru_d (ru_iv (as := [.int x1, .int x0]) rfl rfl rfl (Nat.le_of_ble_eq_true rfl) hw rfl hq)
set_option maxRecDepth 100000 in
theorem s78_138 : rn sc d 78 138 [l0, l1, l2, l3, l4] [] M Q = Q none M := rn_ret rfl rfl rfl
set_option maxRecDepth 100000 in
theorem s79_0 {a : Nat} : rn sc d 79 0 [some (.ref a), l1, l2, l3] st M Q = rn sc d 79 1 [some (.ref a), l1, l2, l3] (.ref a :: st) M Q := ru_1 rfl rfl rfl rfl rfl
set_option maxRecDepth 100000 in
theorem s79_1 {a : Nat} : rn sc d 79 1 [l0, l1, l2, l3] (.ref a :: st) M Q = rn_o (hp_f M a 7 4) (fun v => rn sc d 79 4 [l0, l1, l2, l3] (v :: st) M Q) := ru_get rfl rfl
set_option maxRecDepth 100000 in
theorem s79_4 {x : Int32} : rn sc d 79 4 [l0, some (.int x), l2, l3] st M Q = rn sc d 79 5 [l0, some (.int x), l2, l3] (.int x :: st) M Q := ru_1 rfl rfl rfl rfl rfl
set_option maxRecDepth 100000 in
theorem s79_5 {a : Nat} : rn sc d 79 5 [some (.ref a), l1, l2, l3] st M Q = rn sc d 79 6 [some (.ref a), l1, l2, l3] (.ref a :: st) M Q := ru_1 rfl rfl rfl rfl rfl
set_option maxRecDepth 100000 in
theorem s79_6 {a : Nat} : rn sc d 79 6 [l0, l1, l2, l3] (.ref a :: st) M Q = rn_o (hp_f M a 7 19) (fun v => rn sc d 79 9 [l0, l1, l2, l3] (v :: st) M Q) := ru_get rfl rfl
set_option maxRecDepth 100000 in
theorem s79_9 {x : Int32} : rn sc d 79 9 [l0, l1, some (.int x), l3] st M Q = rn sc d 79 10 [l0, l1, some (.int x), l3] (.int x :: st) M Q := ru_1 rfl rfl rfl rfl rfl
set_option maxRecDepth 100000 in
theorem s79_10 {a : Nat} {j : Int32} : rn sc d 79 10 [l0, l1, l2, l3] (.int j :: .ref a :: st) M Q = rn_o (hp_i sc M a j) (fun v => rn sc d 79 11 [l0, l1, l2, l3] (.int v :: st) M Q) := ru_iald rfl
set_option maxRecDepth 100000 in
theorem s79_11 {a : Nat} : rn sc d 79 11 [some (.ref a), l1, l2, l3] st M Q = rn sc d 79 12 [some (.ref a), l1, l2, l3] (.ref a :: st) M Q := ru_1 rfl rfl rfl rfl rfl
set_option maxRecDepth 100000 in
theorem s79_12 {a : Nat} : rn sc d 79 12 [l0, l1, l2, l3] (.ref a :: st) M Q = rn_o (hp_f M a 7 18) (fun v => rn sc d 79 15 [l0, l1, l2, l3] (v :: st) M Q) := ru_get rfl rfl
set_option maxRecDepth 100000 in
theorem s79_15 {x : Int32} : rn sc d 79 15 [l0, l1, some (.int x), l3] st M Q = rn sc d 79 16 [l0, l1, some (.int x), l3] (.int x :: st) M Q := ru_1 rfl rfl rfl rfl rfl
set_option maxRecDepth 100000 in
theorem s79_16 {a : Nat} {j : Int32} : rn sc d 79 16 [l0, l1, l2, l3] (.int j :: .ref a :: st) M Q = rn_o (hp_i sc M a j) (fun v => rn sc d 79 17 [l0, l1, l2, l3] (.int v :: st) M Q) := ru_iald rfl
set_option maxRecDepth 100000 in
theorem s79_17 {u v : Int32} : rn sc d 79 17 [l0, l1, l2, l3] (.int v :: .int u :: st) M Q = rn sc d 79 18 [l0, l1, l2, l3] (.int (u - v) :: st) M Q := ru_1 rfl rfl rfl rfl rfl
set_option maxRecDepth 100000 in
theorem s79_18 {a : Nat} {j x : Int32} : rn sc d 79 18 [l0, l1, l2, l3] (.int x :: .int j :: .ref a :: st) M Q = rn_o (hp_pi M a j x) (fun M' => rn sc d 79 19 [l0, l1, l2, l3] st M' Q) := ru_iast rfl
set_option maxRecDepth 100000 in
theorem s79_19 : rn sc d 79 19 [l0, l1, l2, l3] st M Q = rn sc d 79 20 [l0, l1, l2, l3] (.int 0 :: st) M Q := ru_k rfl rfl rfl rfl rfl (by decide)
set_option maxRecDepth 100000 in
theorem s79_20 {x : Int32} : rn sc d 79 20 [l0, l1, l2, l3] (.int x :: st) M Q = rn sc d 79 21 [l0, l1, l2, some (.int x)] st M Q := ru_1 rfl rfl rfl rfl rfl
set_option maxRecDepth 100000 in
theorem s79_21 {x : Int32} : rn sc d 79 21 [l0, l1, l2, some (.int x)] st M Q = rn sc d 79 22 [l0, l1, l2, some (.int x)] (.int x :: st) M Q := ru_1 rfl rfl rfl rfl rfl
set_option maxRecDepth 100000 in
theorem s79_22 {a : Nat} : rn sc d 79 22 [some (.ref a), l1, l2, l3] st M Q = rn sc d 79 23 [some (.ref a), l1, l2, l3] (.ref a :: st) M Q := ru_1 rfl rfl rfl rfl rfl
set_option maxRecDepth 100000 in
theorem s79_23 {a : Nat} : rn sc d 79 23 [l0, l1, l2, l3] (.ref a :: st) M Q = rn_o (hp_f M a 7 4) (fun v => rn sc d 79 26 [l0, l1, l2, l3] (v :: st) M Q) := ru_get rfl rfl
set_option maxRecDepth 100000 in
theorem s79_26 {x : Int32} : rn sc d 79 26 [l0, some (.int x), l2, l3] st M Q = rn sc d 79 27 [l0, some (.int x), l2, l3] (.int x :: st) M Q := ru_1 rfl rfl rfl rfl rfl
set_option maxRecDepth 100000 in
theorem s79_27 {a : Nat} {j : Int32} : rn sc d 79 27 [l0, l1, l2, l3] (.int j :: .ref a :: st) M Q = rn_o (hp_i sc M a j) (fun v => rn sc d 79 28 [l0, l1, l2, l3] (.int v :: st) M Q) := ru_iald rfl
set_option maxRecDepth 100000 in
theorem s79_28 {u v : Int32} : rn sc d 79 28 [l0, l1, l2, l3] (.int v :: .int u :: st) M Q = if v ≤ u then rn sc d 79 61 [l0, l1, l2, l3] st M Q else rn sc d 79 31 [l0, l1, l2, l3] st M Q := ru_ic pc_ge rfl (by decide)
set_option maxRecDepth 100000 in
theorem s79_31 {a : Nat} : rn sc d 79 31 [some (.ref a), l1, l2, l3] st M Q = rn sc d 79 32 [some (.ref a), l1, l2, l3] (.ref a :: st) M Q := ru_1 rfl rfl rfl rfl rfl
set_option maxRecDepth 100000 in
theorem s79_32 {a : Nat} : rn sc d 79 32 [l0, l1, l2, l3] (.ref a :: st) M Q = rn_o (hp_f M a 7 3) (fun v => rn sc d 79 35 [l0, l1, l2, l3] (v :: st) M Q) := ru_get rfl rfl
set_option maxRecDepth 100000 in
theorem s79_35 : rn sc d 79 35 [l0, l1, l2, l3] st M Q = rn sc d 79 37 [l0, l1, l2, l3] (.int 64 :: st) M Q := ru_k rfl rfl rfl rfl rfl (by decide)
set_option maxRecDepth 100000 in
theorem s79_37 {x : Int32} : rn sc d 79 37 [l0, some (.int x), l2, l3] st M Q = rn sc d 79 38 [l0, some (.int x), l2, l3] (.int x :: st) M Q := ru_1 rfl rfl rfl rfl rfl
set_option maxRecDepth 100000 in
theorem s79_38 {u v : Int32} : rn sc d 79 38 [l0, l1, l2, l3] (.int v :: .int u :: st) M Q = rn sc d 79 39 [l0, l1, l2, l3] (.int (u * v) :: st) M Q := ru_1 rfl rfl rfl rfl rfl
set_option maxRecDepth 100000 in
theorem s79_39 {x : Int32} : rn sc d 79 39 [l0, l1, l2, some (.int x)] st M Q = rn sc d 79 40 [l0, l1, l2, some (.int x)] (.int x :: st) M Q := ru_1 rfl rfl rfl rfl rfl
set_option maxRecDepth 100000 in
theorem s79_40 {u v : Int32} : rn sc d 79 40 [l0, l1, l2, l3] (.int v :: .int u :: st) M Q = rn sc d 79 41 [l0, l1, l2, l3] (.int (u + v) :: st) M Q := ru_1 rfl rfl rfl rfl rfl
set_option maxRecDepth 100000 in
theorem s79_41 {a : Nat} : rn sc d 79 41 [some (.ref a), l1, l2, l3] st M Q = rn sc d 79 42 [some (.ref a), l1, l2, l3] (.ref a :: st) M Q := ru_1 rfl rfl rfl rfl rfl
set_option maxRecDepth 100000 in
theorem s79_42 {a : Nat} : rn sc d 79 42 [l0, l1, l2, l3] (.ref a :: st) M Q = rn_o (hp_f M a 7 15) (fun v => rn sc d 79 45 [l0, l1, l2, l3] (v :: st) M Q) := ru_get rfl rfl
set_option maxRecDepth 100000 in
theorem s79_45 {a : Nat} : rn sc d 79 45 [some (.ref a), l1, l2, l3] st M Q = rn sc d 79 46 [some (.ref a), l1, l2, l3] (.ref a :: st) M Q := ru_1 rfl rfl rfl rfl rfl
set_option maxRecDepth 100000 in
theorem s79_46 {a : Nat} : rn sc d 79 46 [l0, l1, l2, l3] (.ref a :: st) M Q = rn_o (hp_f M a 7 18) (fun v => rn sc d 79 49 [l0, l1, l2, l3] (v :: st) M Q) := ru_get rfl rfl
set_option maxRecDepth 100000 in
theorem s79_49 {x : Int32} : rn sc d 79 49 [l0, l1, some (.int x), l3] st M Q = rn sc d 79 50 [l0, l1, some (.int x), l3] (.int x :: st) M Q := ru_1 rfl rfl rfl rfl rfl
set_option maxRecDepth 100000 in
theorem s79_50 {a : Nat} {j : Int32} : rn sc d 79 50 [l0, l1, l2, l3] (.int j :: .ref a :: st) M Q = rn_o (hp_i sc M a j) (fun v => rn sc d 79 51 [l0, l1, l2, l3] (.int v :: st) M Q) := ru_iald rfl
set_option maxRecDepth 100000 in
theorem s79_51 {x : Int32} : rn sc d 79 51 [l0, l1, l2, some (.int x)] st M Q = rn sc d 79 52 [l0, l1, l2, some (.int x)] (.int x :: st) M Q := ru_1 rfl rfl rfl rfl rfl
set_option maxRecDepth 100000 in
theorem s79_52 {u v : Int32} : rn sc d 79 52 [l0, l1, l2, l3] (.int v :: .int u :: st) M Q = rn sc d 79 53 [l0, l1, l2, l3] (.int (u + v) :: st) M Q := ru_1 rfl rfl rfl rfl rfl
set_option maxRecDepth 100000 in
theorem s79_53 {a : Nat} {j : Int32} : rn sc d 79 53 [l0, l1, l2, l3] (.int j :: .ref a :: st) M Q = rn_o (hp_b M a j) (fun v => rn sc d 79 54 [l0, l1, l2, l3] (.int v :: st) M Q) := ru_bald rfl
set_option maxRecDepth 100000 in
theorem s79_54 {a : Nat} {j x : Int32} : rn sc d 79 54 [l0, l1, l2, l3] (.int x :: .int j :: .ref a :: st) M Q = rn_o (hp_pb M a j x) (fun M' => rn sc d 79 55 [l0, l1, l2, l3] st M' Q) := ru_bast rfl
set_option maxRecDepth 100000 in
theorem s79_55 {x : Int32} : rn sc d 79 55 [l0, l1, l2, some (.int x)] st M Q = rn sc d 79 58 [l0, l1, l2, some (.int (x + 1))] st M Q := ru_1 rfl rfl rfl rfl rfl
set_option maxRecDepth 100000 in
theorem s79_58 : rn sc d 79 58 [l0, l1, l2, l3] st M Q = rn sc d 79 21 [l0, l1, l2, l3] st M Q := ru_go rfl (by decide)
set_option maxRecDepth 100000 in
theorem s79_61 : rn sc d 79 61 [l0, l1, l2, l3] [] M Q = Q none M := rn_ret rfl rfl rfl
set_option maxRecDepth 100000 in
theorem s80_0 {a : Nat} : rn sc d 80 0 [some (.ref a), l1, l2, l3, l4] st M Q = rn sc d 80 1 [some (.ref a), l1, l2, l3, l4] (.ref a :: st) M Q := ru_1 rfl rfl rfl rfl rfl
set_option maxRecDepth 100000 in
theorem s80_1 {a : Nat} : rn sc d 80 1 [l0, l1, l2, l3, l4] (.ref a :: st) M Q = rn_o (hp_f M a 7 26) (fun v => rn sc d 80 4 [l0, l1, l2, l3, l4] (v :: st) M Q) := ru_get rfl rfl
set_option maxRecDepth 100000 in
theorem s80_4 {x : Int32} : rn sc d 80 4 [l0, l1, l2, l3, l4] (.int x :: st) M Q = rn sc d 80 5 [l0, l1, some (.int x), l3, l4] st M Q := ru_1 rfl rfl rfl rfl rfl
set_option maxRecDepth 100000 in
theorem s80_5 {a : Nat} : rn sc d 80 5 [some (.ref a), l1, l2, l3, l4] st M Q = rn sc d 80 6 [some (.ref a), l1, l2, l3, l4] (.ref a :: st) M Q := ru_1 rfl rfl rfl rfl rfl
set_option maxRecDepth 100000 in
theorem s80_6 {a : Nat} : rn sc d 80 6 [l0, l1, l2, l3, l4] (.ref a :: st) M Q = rn_o (hp_f M a 7 17) (fun v => rn sc d 80 9 [l0, l1, l2, l3, l4] (v :: st) M Q) := ru_get rfl rfl
set_option maxRecDepth 100000 in
theorem s80_9 {x : Int32} : rn sc d 80 9 [l0, l1, some (.int x), l3, l4] st M Q = rn sc d 80 10 [l0, l1, some (.int x), l3, l4] (.int x :: st) M Q := ru_1 rfl rfl rfl rfl rfl
set_option maxRecDepth 100000 in
theorem s80_10 {a : Nat} {j : Int32} : rn sc d 80 10 [l0, l1, l2, l3, l4] (.int j :: .ref a :: st) M Q = rn_o (hp_i sc M a j) (fun v => rn sc d 80 11 [l0, l1, l2, l3, l4] (.int v :: st) M Q) := ru_iald rfl
set_option maxRecDepth 100000 in
theorem s80_11 {x : Int32} : rn sc d 80 11 [l0, l1, l2, l3, l4] (.int x :: st) M Q = rn sc d 80 12 [l0, l1, l2, some (.int x), l4] st M Q := ru_1 rfl rfl rfl rfl rfl
set_option maxRecDepth 100000 in
theorem s80_12 {a : Nat} : rn sc d 80 12 [some (.ref a), l1, l2, l3, l4] st M Q = rn sc d 80 13 [some (.ref a), l1, l2, l3, l4] (.ref a :: st) M Q := ru_1 rfl rfl rfl rfl rfl
set_option maxRecDepth 100000 in
theorem s80_13 {a : Nat} : rn sc d 80 13 [l0, l1, l2, l3, l4] (.ref a :: st) M Q = rn_o (hp_f M a 7 6) (fun v => rn sc d 80 16 [l0, l1, l2, l3, l4] (v :: st) M Q) := ru_get rfl rfl
set_option maxRecDepth 100000 in
theorem s80_16 {x : Int32} : rn sc d 80 16 [l0, l1, l2, some (.int x), l4] st M Q = rn sc d 80 17 [l0, l1, l2, some (.int x), l4] (.int x :: st) M Q := ru_1 rfl rfl rfl rfl rfl
set_option maxRecDepth 100000 in
theorem s80_17 {a : Nat} {j : Int32} : rn sc d 80 17 [l0, l1, l2, l3, l4] (.int j :: .ref a :: st) M Q = rn_o (hp_i sc M a j) (fun v => rn sc d 80 18 [l0, l1, l2, l3, l4] (.int v :: st) M Q) := ru_iald rfl
set_option maxRecDepth 100000 in
theorem s80_18 {x : Int32} : rn sc d 80 18 [l0, l1, l2, l3, l4] (.int x :: st) M Q = rn sc d 80 20 [l0, l1, l2, l3, some (.int x)] st M Q := ru_1 rfl rfl rfl rfl rfl
set_option maxRecDepth 100000 in
theorem s80_20 {x : Int32} : rn sc d 80 20 [l0, l1, l2, l3, some (.int x)] st M Q = rn sc d 80 22 [l0, l1, l2, l3, some (.int x)] (.int x :: st) M Q := ru_1 rfl rfl rfl rfl rfl
set_option maxRecDepth 100000 in
theorem s80_22 : rn sc d 80 22 [l0, l1, l2, l3, l4] st M Q = rn sc d 80 24 [l0, l1, l2, l3, l4] (.int 16 :: st) M Q := ru_k rfl rfl rfl rfl rfl (by decide)
set_option maxRecDepth 100000 in
theorem s80_24 {u v : Int32} : rn sc d 80 24 [l0, l1, l2, l3, l4] (.int v :: .int u :: st) M Q = if u = v then rn sc d 80 34 [l0, l1, l2, l3, l4] st M Q else rn sc d 80 27 [l0, l1, l2, l3, l4] st M Q := ru_ic pc_eq rfl (by decide)
set_option maxRecDepth 100000 in
theorem s80_27 {x : Int32} : rn sc d 80 27 [l0, l1, l2, l3, some (.int x)] st M Q = rn sc d 80 29 [l0, l1, l2, l3, some (.int x)] (.int x :: st) M Q := ru_1 rfl rfl rfl rfl rfl
set_option maxRecDepth 100000 in
theorem s80_29 : rn sc d 80 29 [l0, l1, l2, l3, l4] st M Q = rn sc d 80 31 [l0, l1, l2, l3, l4] (.int 17 :: st) M Q := ru_k rfl rfl rfl rfl rfl (by decide)
set_option maxRecDepth 100000 in
theorem s80_31 {u v : Int32} : rn sc d 80 31 [l0, l1, l2, l3, l4] (.int v :: .int u :: st) M Q = if ¬ u = v then rn sc d 80 69 [l0, l1, l2, l3, l4] st M Q else rn sc d 80 34 [l0, l1, l2, l3, l4] st M Q := ru_ic pc_ne rfl (by decide)
set_option maxRecDepth 100000 in
theorem s80_34 {x : Int32} : rn sc d 80 34 [l0, some (.int x), l2, l3, l4] st M Q = rn sc d 80 35 [l0, some (.int x), l2, l3, l4] (.int x :: st) M Q := ru_1 rfl rfl rfl rfl rfl
set_option maxRecDepth 100000 in
theorem s80_35 {a : Nat} : rn sc d 80 35 [some (.ref a), l1, l2, l3, l4] st M Q = rn sc d 80 36 [some (.ref a), l1, l2, l3, l4] (.ref a :: st) M Q := ru_1 rfl rfl rfl rfl rfl
set_option maxRecDepth 100000 in
theorem s80_36 {a : Nat} : rn sc d 80 36 [l0, l1, l2, l3, l4] (.ref a :: st) M Q = rn_o (hp_f M a 7 22) (fun v => rn sc d 80 39 [l0, l1, l2, l3, l4] (v :: st) M Q) := ru_get rfl rfl
set_option maxRecDepth 100000 in
theorem s80_39 {x : Int32} : rn sc d 80 39 [l0, l1, some (.int x), l3, l4] st M Q = rn sc d 80 40 [l0, l1, some (.int x), l3, l4] (.int x :: st) M Q := ru_1 rfl rfl rfl rfl rfl
set_option maxRecDepth 100000 in
theorem s80_40 {a : Nat} {j : Int32} : rn sc d 80 40 [l0, l1, l2, l3, l4] (.int j :: .ref a :: st) M Q = rn_o (hp_i sc M a j) (fun v => rn sc d 80 41 [l0, l1, l2, l3, l4] (.int v :: st) M Q) := ru_iald rfl
set_option maxRecDepth 100000 in
theorem s80_41 {u v : Int32} : rn sc d 80 41 [l0, l1, l2, l3, l4] (.int v :: .int u :: st) M Q = if ¬ u = v then rn sc d 80 69 [l0, l1, l2, l3, l4] st M Q else rn sc d 80 44 [l0, l1, l2, l3, l4] st M Q := ru_ic pc_ne rfl (by decide)
set_option maxRecDepth 100000 in
theorem s80_44 {a : Nat} : rn sc d 80 44 [some (.ref a), l1, l2, l3, l4] st M Q = rn sc d 80 45 [some (.ref a), l1, l2, l3, l4] (.ref a :: st) M Q := ru_1 rfl rfl rfl rfl rfl
set_option maxRecDepth 100000 in
theorem s80_45 {a : Nat} : rn sc d 80 45 [l0, l1, l2, l3, l4] (.ref a :: st) M Q = rn_o (hp_f M a 7 22) (fun v => rn sc d 80 48 [l0, l1, l2, l3, l4] (v :: st) M Q) := ru_get rfl rfl
set_option maxRecDepth 100000 in
theorem s80_48 {x : Int32} : rn sc d 80 48 [l0, l1, some (.int x), l3, l4] st M Q = rn sc d 80 49 [l0, l1, some (.int x), l3, l4] (.int x :: st) M Q := ru_1 rfl rfl rfl rfl rfl
set_option maxRecDepth 100000 in
theorem s80_49 : rn sc d 80 49 [l0, l1, l2, l3, l4] st M Q = rn sc d 80 50 [l0, l1, l2, l3, l4] (.int (-1) :: st) M Q := ru_k rfl rfl rfl rfl rfl (by decide)
set_option maxRecDepth 100000 in
theorem s80_50 {a : Nat} {j x : Int32} : rn sc d 80 50 [l0, l1, l2, l3, l4] (.int x :: .int j :: .ref a :: st) M Q = rn_o (hp_pi M a j x) (fun M' => rn sc d 80 51 [l0, l1, l2, l3, l4] st M' Q) := ru_iast rfl
set_option maxRecDepth 100000 in
theorem s80_51 {a : Nat} : rn sc d 80 51 [some (.ref a), l1, l2, l3, l4] st M Q = rn sc d 80 52 [some (.ref a), l1, l2, l3, l4] (.ref a :: st) M Q := ru_1 rfl rfl rfl rfl rfl
set_option maxRecDepth 100000 in
theorem s80_52 {a : Nat} : rn sc d 80 52 [some (.ref a), l1, l2, l3, l4] st M Q = rn sc d 80 53 [some (.ref a), l1, l2, l3, l4] (.ref a :: st) M Q := ru_1 rfl rfl rfl rfl rfl
set_option maxRecDepth 100000 in
theorem s80_53 {a : Nat} : rn sc d 80 53 [l0, l1, l2, l3, l4] (.ref a :: st) M Q = rn_o (hp_f M a 7 21) (fun v => rn sc d 80 56 [l0, l1, l2, l3, l4] (v :: st) M Q) := ru_get rfl rfl
set_option maxRecDepth 100000 in
theorem s80_56 {x : Int32} : rn sc d 80 56 [l0, l1, some (.int x), l3, l4] st M Q = rn sc d 80 57 [l0, l1, some (.int x), l3, l4] (.int x :: st) M Q := ru_1 rfl rfl rfl rfl rfl
set_option maxRecDepth 100000 in
theorem s80_57 {a : Nat} {j : Int32} : rn sc d 80 57 [l0, l1, l2, l3, l4] (.int j :: .ref a :: st) M Q = rn_o (hp_i sc M a j) (fun v => rn sc d 80 58 [l0, l1, l2, l3, l4] (.int v :: st) M Q) := ru_iald rfl
set_option maxRecDepth 100000 in
theorem s80_58 {a : Nat} {v : Value} : rn sc d 80 58 [l0, l1, l2, l3, l4] (v :: .ref a :: st) M Q = rn_o (hp_pf M a 7 26 v) (fun M' => rn sc d 80 61 [l0, l1, l2, l3, l4] st M' Q) := ru_put rfl rfl rfl
set_option maxRecDepth 100000 in
theorem s80_61 {a : Nat} : rn sc d 80 61 [some (.ref a), l1, l2, l3, l4] st M Q = rn sc d 80 62 [some (.ref a), l1, l2, l3, l4] (.ref a :: st) M Q := ru_1 rfl rfl rfl rfl rfl
set_option maxRecDepth 100000 in
theorem s80_62 : rn sc d 80 62 [l0, l1, l2, l3, l4] st M Q = rn sc d 80 63 [l0, l1, l2, l3, l4] (.int 1 :: st) M Q := ru_k rfl rfl rfl rfl rfl (by decide)
set_option maxRecDepth 100000 in
theorem s80_63 {a : Nat} {v : Value} : rn sc d 80 63 [l0, l1, l2, l3, l4] (v :: .ref a :: st) M Q = rn_o (hp_pf M a 7 27 v) (fun M' => rn sc d 80 66 [l0, l1, l2, l3, l4] st M' Q) := ru_put rfl rfl rfl
set_option maxRecDepth 100000 in
theorem s80_66 : rn sc d 80 66 [l0, l1, l2, l3, l4] st M Q = rn sc d 80 127 [l0, l1, l2, l3, l4] st M Q := ru_go rfl (by decide)
set_option maxRecDepth 100000 in
theorem s80_69 {x : Int32} : rn sc d 80 69 [l0, l1, l2, l3, some (.int x)] st M Q = rn sc d 80 71 [l0, l1, l2, l3, some (.int x)] (.int x :: st) M Q := ru_1 rfl rfl rfl rfl rfl
set_option maxRecDepth 100000 in
theorem s80_71 : rn sc d 80 71 [l0, l1, l2, l3, l4] st M Q = rn sc d 80 73 [l0, l1, l2, l3, l4] (.int 18 :: st) M Q := ru_k rfl rfl rfl rfl rfl (by decide)
set_option maxRecDepth 100000 in
theorem s80_73 {u v : Int32} : rn sc d 80 73 [l0, l1, l2, l3, l4] (.int v :: .int u :: st) M Q = if ¬ u = v then rn sc d 80 122 [l0, l1, l2, l3, l4] st M Q else rn sc d 80 76 [l0, l1, l2, l3, l4] st M Q := ru_ic pc_ne rfl (by decide)
set_option maxRecDepth 100000 in
theorem s80_76 {a : Nat} : rn sc d 80 76 [some (.ref a), l1, l2, l3, l4] st M Q = rn sc d 80 77 [some (.ref a), l1, l2, l3, l4] (.ref a :: st) M Q := ru_1 rfl rfl rfl rfl rfl
set_option maxRecDepth 100000 in
theorem s80_77 {a : Nat} : rn sc d 80 77 [l0, l1, l2, l3, l4] (.ref a :: st) M Q = rn_o (hp_f M a 7 23) (fun v => rn sc d 80 80 [l0, l1, l2, l3, l4] (v :: st) M Q) := ru_get rfl rfl
set_option maxRecDepth 100000 in
theorem s80_80 {x : Int32} : rn sc d 80 80 [l0, l1, some (.int x), l3, l4] st M Q = rn sc d 80 81 [l0, l1, some (.int x), l3, l4] (.int x :: st) M Q := ru_1 rfl rfl rfl rfl rfl
set_option maxRecDepth 100000 in
theorem s80_81 {a : Nat} {j : Int32} : rn sc d 80 81 [l0, l1, l2, l3, l4] (.int j :: .ref a :: st) M Q = rn_o (hp_b M a j) (fun v => rn sc d 80 82 [l0, l1, l2, l3, l4] (.int v :: st) M Q) := ru_bald rfl
set_option maxRecDepth 100000 in
theorem s80_82 {x : Int32} : rn sc d 80 82 [l0, l1, l2, l3, l4] (.int x :: st) M Q = if ¬ x = 0 then rn sc d 80 122 [l0, l1, l2, l3, l4] st M Q else rn sc d 80 85 [l0, l1, l2, l3, l4] st M Q := ru_if pc_ne rfl (by decide)
set_option maxRecDepth 100000 in
theorem s80_85 {a : Nat} : rn sc d 80 85 [some (.ref a), l1, l2, l3, l4] st M Q = rn sc d 80 86 [some (.ref a), l1, l2, l3, l4] (.ref a :: st) M Q := ru_1 rfl rfl rfl rfl rfl
set_option maxRecDepth 100000 in
theorem s80_86 {a : Nat} : rn sc d 80 86 [l0, l1, l2, l3, l4] (.ref a :: st) M Q = rn_o (hp_f M a 7 23) (fun v => rn sc d 80 89 [l0, l1, l2, l3, l4] (v :: st) M Q) := ru_get rfl rfl
set_option maxRecDepth 100000 in
theorem s80_89 {x : Int32} : rn sc d 80 89 [l0, l1, some (.int x), l3, l4] st M Q = rn sc d 80 90 [l0, l1, some (.int x), l3, l4] (.int x :: st) M Q := ru_1 rfl rfl rfl rfl rfl
set_option maxRecDepth 100000 in
theorem s80_90 : rn sc d 80 90 [l0, l1, l2, l3, l4] st M Q = rn sc d 80 91 [l0, l1, l2, l3, l4] (.int 1 :: st) M Q := ru_k rfl rfl rfl rfl rfl (by decide)
set_option maxRecDepth 100000 in
theorem s80_91 {a : Nat} {j x : Int32} : rn sc d 80 91 [l0, l1, l2, l3, l4] (.int x :: .int j :: .ref a :: st) M Q = rn_o (hp_pb M a j x) (fun M' => rn sc d 80 92 [l0, l1, l2, l3, l4] st M' Q) := ru_bast rfl
set_option maxRecDepth 100000 in
theorem s80_92 {a : Nat} : rn sc d 80 92 [some (.ref a), l1, l2, l3, l4] st M Q = rn sc d 80 93 [some (.ref a), l1, l2, l3, l4] (.ref a :: st) M Q := ru_1 rfl rfl rfl rfl rfl
set_option maxRecDepth 100000 in
theorem s80_93 {a : Nat} : rn sc d 80 93 [some (.ref a), l1, l2, l3, l4] st M Q = rn sc d 80 94 [some (.ref a), l1, l2, l3, l4] (.ref a :: st) M Q := ru_1 rfl rfl rfl rfl rfl
set_option maxRecDepth 100000 in
theorem s80_94 {a : Nat} : rn sc d 80 94 [l0, l1, l2, l3, l4] (.ref a :: st) M Q = rn_o (hp_f M a 7 8) (fun v => rn sc d 80 97 [l0, l1, l2, l3, l4] (v :: st) M Q) := ru_get rfl rfl
set_option maxRecDepth 100000 in
theorem s80_97 {x : Int32} : rn sc d 80 97 [l0, l1, l2, some (.int x), l4] st M Q = rn sc d 80 98 [l0, l1, l2, some (.int x), l4] (.int x :: st) M Q := ru_1 rfl rfl rfl rfl rfl
set_option maxRecDepth 100000 in
theorem s80_98 {a : Nat} {j : Int32} : rn sc d 80 98 [l0, l1, l2, l3, l4] (.int j :: .ref a :: st) M Q = rn_o (hp_i sc M a j) (fun v => rn sc d 80 99 [l0, l1, l2, l3, l4] (.int v :: st) M Q) := ru_iald rfl
set_option maxRecDepth 100000 in
theorem s80_99 {a : Nat} : rn sc d 80 99 [some (.ref a), l1, l2, l3, l4] st M Q = rn sc d 80 100 [some (.ref a), l1, l2, l3, l4] (.ref a :: st) M Q := ru_1 rfl rfl rfl rfl rfl
set_option maxRecDepth 100000 in
theorem s80_100 {a : Nat} : rn sc d 80 100 [l0, l1, l2, l3, l4] (.ref a :: st) M Q = rn_o (hp_f M a 7 18) (fun v => rn sc d 80 103 [l0, l1, l2, l3, l4] (v :: st) M Q) := ru_get rfl rfl
set_option maxRecDepth 100000 in
theorem s80_103 {x : Int32} : rn sc d 80 103 [l0, l1, some (.int x), l3, l4] st M Q = rn sc d 80 104 [l0, l1, some (.int x), l3, l4] (.int x :: st) M Q := ru_1 rfl rfl rfl rfl rfl
set_option maxRecDepth 100000 in
theorem s80_104 {a : Nat} {j : Int32} : rn sc d 80 104 [l0, l1, l2, l3, l4] (.int j :: .ref a :: st) M Q = rn_o (hp_i sc M a j) (fun v => rn sc d 80 105 [l0, l1, l2, l3, l4] (.int v :: st) M Q) := ru_iald rfl
set_option maxRecDepth 100000 in
theorem s80_105 {x : Int32} : rn sc d 80 105 [l0, l1, some (.int x), l3, l4] st M Q = rn sc d 80 106 [l0, l1, some (.int x), l3, l4] (.int x :: st) M Q := ru_1 rfl rfl rfl rfl rfl
set_option maxRecDepth 100000 in
theorem s80_106 {a : Nat} {x0 : Int32} {x1 : Int32} {x2 : Int32} (hw : xm_wt st ≤ 8) (hq : hp_is M a 7) : rn sc (d + 1) 80 106 [l0, l1, l2, l3, l4] (.int x2 :: .int x1 :: .int x0 :: .ref a :: st) M Q = rn sc d 67 0 [some (.ref a), some (.int x0), some (.int x1), some (.int x2)] [] M (fun r M' => rn sc (d + 1) 80 109 [l0, l1, l2, l3, l4] (r.toList ++ st) M' Q) := ru_d (ru_iv (as := [.int x2, .int x1, .int x0]) rfl rfl rfl (Nat.le_of_ble_eq_true rfl) hw rfl hq)
set_option maxRecDepth 100000 in
theorem s80_109 {a : Nat} : rn sc d 80 109 [some (.ref a), l1, l2, l3, l4] st M Q = rn sc d 80 110 [some (.ref a), l1, l2, l3, l4] (.ref a :: st) M Q := ru_1 rfl rfl rfl rfl rfl
set_option maxRecDepth 100000 in
theorem s80_110 {a : Nat} : rn sc d 80 110 [l0, l1, l2, l3, l4] (.ref a :: st) M Q = rn_o (hp_f M a 7 21) (fun v => rn sc d 80 113 [l0, l1, l2, l3, l4] (v :: st) M Q) := ru_get rfl rfl
set_option maxRecDepth 100000 in
theorem s80_113 {x : Int32} : rn sc d 80 113 [l0, l1, some (.int x), l3, l4] st M Q = rn sc d 80 114 [l0, l1, some (.int x), l3, l4] (.int x :: st) M Q := ru_1 rfl rfl rfl rfl rfl
set_option maxRecDepth 100000 in
theorem s80_114 {a : Nat} : rn sc d 80 114 [some (.ref a), l1, l2, l3, l4] st M Q = rn sc d 80 115 [some (.ref a), l1, l2, l3, l4] (.ref a :: st) M Q := ru_1 rfl rfl rfl rfl rfl
set_option maxRecDepth 100000 in
theorem s80_115 {a : Nat} : rn sc d 80 115 [l0, l1, l2, l3, l4] (.ref a :: st) M Q = rn_o (hp_f M a 7 26) (fun v => rn sc d 80 118 [l0, l1, l2, l3, l4] (v :: st) M Q) := ru_get rfl rfl
set_option maxRecDepth 100000 in
theorem s80_118 {a : Nat} {j x : Int32} : rn sc d 80 118 [l0, l1, l2, l3, l4] (.int x :: .int j :: .ref a :: st) M Q = rn_o (hp_pi M a j x) (fun M' => rn sc d 80 119 [l0, l1, l2, l3, l4] st M' Q) := ru_iast rfl
set_option maxRecDepth 100000 in
theorem s80_119 : rn sc d 80 119 [l0, l1, l2, l3, l4] st M Q = rn sc d 80 127 [l0, l1, l2, l3, l4] st M Q := ru_go rfl (by decide)
set_option maxRecDepth 100000 in
theorem s80_122 {a : Nat} : rn sc d 80 122 [some (.ref a), l1, l2, l3, l4] st M Q = rn sc d 80 123 [some (.ref a), l1, l2, l3, l4] (.ref a :: st) M Q := ru_1 rfl rfl rfl rfl rfl
set_option maxRecDepth 100000 in
theorem s80_123 : rn sc d 80 123 [l0, l1, l2, l3, l4] st M Q = rn sc d 80 124 [l0, l1, l2, l3, l4] (.int (-1) :: st) M Q := ru_k rfl rfl rfl rfl rfl (by decide)
set_option maxRecDepth 100000 in
theorem s80_124 {a : Nat} {x0 : Int32} (hw : xm_wt st ≤ 8) (hq : hp_is M a 7) : rn sc (d + 1) 80 124 [l0, l1, l2, l3, l4] (.int x0 :: .ref a :: st) M Q = rn sc d 69 0 [some (.ref a), some (.int x0)] [] M (fun r M' => rn sc (d + 1) 80 127 [l0, l1, l2, l3, l4] (r.toList ++ st) M' Q) := ru_d (ru_iv (as := [.int x0]) rfl rfl rfl (Nat.le_of_ble_eq_true rfl) hw rfl hq)
set_option maxRecDepth 100000 in
theorem s80_127 : rn sc d 80 127 [l0, l1, l2, l3, l4] [] M Q = Q none M := rn_ret rfl rfl rfl
set_option maxRecDepth 100000 in
theorem s81_0 : rn sc d 81 0 [l0, l1, l2, l3, l4, l5] st M Q = rn sc d 81 1 [l0, l1, l2, l3, l4, l5] (.int 1 :: st) M Q := ru_k rfl rfl rfl rfl rfl (by decide)
set_option maxRecDepth 100000 in
theorem s81_1 {x : Int32} : rn sc d 81 1 [l0, l1, l2, l3, l4, l5] (.int x :: st) M Q = rn sc d 81 2 [l0, l1, some (.int x), l3, l4, l5] st M Q := ru_1 rfl rfl rfl rfl rfl
set_option maxRecDepth 100000 in
theorem s81_2 {a : Nat} : rn sc d 81 2 [some (.ref a), l1, l2, l3, l4, l5] st M Q = rn sc d 81 3 [some (.ref a), l1, l2, l3, l4, l5] (.ref a :: st) M Q := ru_1 rfl rfl rfl rfl rfl
set_option maxRecDepth 100000 in
theorem s81_3 {a : Nat} : rn sc d 81 3 [l0, l1, l2, l3, l4, l5] (.ref a :: st) M Q = rn_o (hp_f M a 7 30) (fun v => rn sc d 81 6 [l0, l1, l2, l3, l4, l5] (v :: st) M Q) := ru_get rfl rfl
set_option maxRecDepth 100000 in
theorem s81_6 : rn sc d 81 6 [l0, l1, l2, l3, l4, l5] st M Q = rn sc d 81 7 [l0, l1, l2, l3, l4, l5] (.int 0 :: st) M Q := ru_k rfl rfl rfl rfl rfl (by decide)
set_option maxRecDepth 100000 in
theorem s81_7 {x : Int32} : rn sc d 81 7 [l0, some (.int x), l2, l3, l4, l5] st M Q = rn sc d 81 8 [l0, some (.int x), l2, l3, l4, l5] (.int x :: st) M Q := ru_1 rfl rfl rfl rfl rfl
set_option maxRecDepth 100000 in
theorem s81_8 {a : Nat} {j x : Int32} : rn sc d 81 8 [l0, l1, l2, l3, l4, l5] (.int x :: .int j :: .ref a :: st) M Q = rn_o (hp_pi M a j x) (fun M' => rn sc d 81 9 [l0, l1, l2, l3, l4, l5] st M' Q) := ru_iast rfl
set_option maxRecDepth 100000 in
theorem s81_9 : rn sc d 81 9 [l0, l1, l2, l3, l4, l5] st M Q = rn sc d 81 10 [l0, l1, l2, l3, l4, l5] (.int 0 :: st) M Q := ru_k rfl rfl rfl rfl rfl (by decide)
set_option maxRecDepth 100000 in
theorem s81_10 {x : Int32} : rn sc d 81 10 [l0, l1, l2, l3, l4, l5] (.int x :: st) M Q = rn sc d 81 11 [l0, l1, l2, some (.int x), l4, l5] st M Q := ru_1 rfl rfl rfl rfl rfl
set_option maxRecDepth 100000 in
theorem s81_11 {x : Int32} : rn sc d 81 11 [l0, l1, l2, some (.int x), l4, l5] st M Q = rn sc d 81 12 [l0, l1, l2, some (.int x), l4, l5] (.int x :: st) M Q := ru_1 rfl rfl rfl rfl rfl
set_option maxRecDepth 100000 in
theorem s81_12 {x : Int32} : rn sc d 81 12 [l0, l1, some (.int x), l3, l4, l5] st M Q = rn sc d 81 13 [l0, l1, some (.int x), l3, l4, l5] (.int x :: st) M Q := ru_1 rfl rfl rfl rfl rfl
set_option maxRecDepth 100000 in
theorem s81_13 {u v : Int32} : rn sc d 81 13 [l0, l1, l2, l3, l4, l5] (.int v :: .int u :: st) M Q = if v ≤ u then rn sc d 81 84 [l0, l1, l2, l3, l4, l5] st M Q else rn sc d 81 16 [l0, l1, l2, l3, l4, l5] st M Q := ru_ic pc_ge rfl (by decide)
set_option maxRecDepth 100000 in
theorem s81_16 {a : Nat} : rn sc d 81 16 [some (.ref a), l1, l2, l3, l4, l5] st M Q = rn sc d 81 17 [some (.ref a), l1, l2, l3, l4, l5] (.ref a :: st) M Q := ru_1 rfl rfl rfl rfl rfl
set_option maxRecDepth 100000 in
theorem s81_17 {a : Nat} : rn sc d 81 17 [l0, l1, l2, l3, l4, l5] (.ref a :: st) M Q = rn_o (hp_f M a 7 30) (fun v => rn sc d 81 20 [l0, l1, l2, l3, l4, l5] (v :: st) M Q) := ru_get rfl rfl
set_option maxRecDepth 100000 in
theorem s81_20 {x : Int32} : rn sc d 81 20 [l0, l1, l2, some (.int x), l4, l5] st M Q = rn sc d 81 21 [l0, l1, l2, some (.int x), l4, l5] (.int x :: st) M Q := ru_1 rfl rfl rfl rfl rfl
set_option maxRecDepth 100000 in
theorem s81_21 {a : Nat} {j : Int32} : rn sc d 81 21 [l0, l1, l2, l3, l4, l5] (.int j :: .ref a :: st) M Q = rn_o (hp_i sc M a j) (fun v => rn sc d 81 22 [l0, l1, l2, l3, l4, l5] (.int v :: st) M Q) := ru_iald rfl
set_option maxRecDepth 100000 in
theorem s81_22 {x : Int32} : rn sc d 81 22 [l0, l1, l2, l3, l4, l5] (.int x :: st) M Q = rn sc d 81 24 [l0, l1, l2, l3, some (.int x), l5] st M Q := ru_1 rfl rfl rfl rfl rfl
set_option maxRecDepth 100000 in
theorem s81_24 {a : Nat} : rn sc d 81 24 [some (.ref a), l1, l2, l3, l4, l5] st M Q = rn sc d 81 25 [some (.ref a), l1, l2, l3, l4, l5] (.ref a :: st) M Q := ru_1 rfl rfl rfl rfl rfl
set_option maxRecDepth 100000 in
theorem s81_25 {a : Nat} : rn sc d 81 25 [l0, l1, l2, l3, l4, l5] (.ref a :: st) M Q = rn_o (hp_f M a 7 21) (fun v => rn sc d 81 28 [l0, l1, l2, l3, l4, l5] (v :: st) M Q) := ru_get rfl rfl
set_option maxRecDepth 100000 in
theorem s81_28 {x : Int32} : rn sc d 81 28 [l0, l1, l2, l3, some (.int x), l5] st M Q = rn sc d 81 30 [l0, l1, l2, l3, some (.int x), l5] (.int x :: st) M Q := ru_1 rfl rfl rfl rfl rfl
set_option maxRecDepth 100000 in
theorem s81_30 {a : Nat} {j : Int32} : rn sc d 81 30 [l0, l1, l2, l3, l4, l5] (.int j :: .ref a :: st) M Q = rn_o (hp_i sc M a j) (fun v => rn sc d 81 31 [l0, l1, l2, l3, l4, l5] (.int v :: st) M Q) := ru_iald rfl
set_option maxRecDepth 100000 in
theorem s81_31 : rn sc d 81 31 [l0, l1, l2, l3, l4, l5] st M Q = rn sc d 81 32 [l0, l1, l2, l3, l4, l5] (.int (-1) :: st) M Q := ru_k rfl rfl rfl rfl rfl (by decide)
set_option maxRecDepth 100000 in
theorem s81_32 {u v : Int32} : rn sc d 81 32 [l0, l1, l2, l3, l4, l5] (.int v :: .int u :: st) M Q = if u = v then rn sc d 81 51 [l0, l1, l2, l3, l4, l5] st M Q else rn sc d 81 35 [l0, l1, l2, l3, l4, l5] st M Q := ru_ic pc_eq rfl (by decide)
set_option maxRecDepth 100000 in
theorem s81_35 {a : Nat} : rn sc d 81 35 [some (.ref a), l1, l2, l3, l4, l5] st M Q = rn sc d 81 36 [some (.ref a), l1, l2, l3, l4, l5] (.ref a :: st) M Q := ru_1 rfl rfl rfl rfl rfl
set_option maxRecDepth 100000 in
theorem s81_36 {a : Nat} : rn sc d 81 36 [l0, l1, l2, l3, l4, l5] (.ref a :: st) M Q = rn_o (hp_f M a 7 30) (fun v => rn sc d 81 39 [l0, l1, l2, l3, l4, l5] (v :: st) M Q) := ru_get rfl rfl
set_option maxRecDepth 100000 in
theorem s81_39 {x : Int32} : rn sc d 81 39 [l0, l1, some (.int x), l3, l4, l5] st M Q = rn sc d 81 40 [l0, l1, some (.int x), l3, l4, l5] (.int x :: st) M Q := ru_1 rfl rfl rfl rfl rfl
set_option maxRecDepth 100000 in
theorem s81_40 {a : Nat} : rn sc d 81 40 [some (.ref a), l1, l2, l3, l4, l5] st M Q = rn sc d 81 41 [some (.ref a), l1, l2, l3, l4, l5] (.ref a :: st) M Q := ru_1 rfl rfl rfl rfl rfl
set_option maxRecDepth 100000 in
theorem s81_41 {a : Nat} : rn sc d 81 41 [l0, l1, l2, l3, l4, l5] (.ref a :: st) M Q = rn_o (hp_f M a 7 21) (fun v => rn sc d 81 44 [l0, l1, l2, l3, l4, l5] (v :: st) M Q) := ru_get rfl rfl
set_option maxRecDepth 100000 in
theorem s81_44 {x : Int32} : rn sc d 81 44 [l0, l1, l2, l3, some (.int x), l5] st M Q = rn sc d 81 46 [l0, l1, l2, l3, some (.int x), l5] (.int x :: st) M Q := ru_1 rfl rfl rfl rfl rfl
set_option maxRecDepth 100000 in
theorem s81_46 {a : Nat} {j : Int32} : rn sc d 81 46 [l0, l1, l2, l3, l4, l5] (.int j :: .ref a :: st) M Q = rn_o (hp_i sc M a j) (fun v => rn sc d 81 47 [l0, l1, l2, l3, l4, l5] (.int v :: st) M Q) := ru_iald rfl
set_option maxRecDepth 100000 in
theorem s81_47 {a : Nat} {j x : Int32} : rn sc d 81 47 [l0, l1, l2, l3, l4, l5] (.int x :: .int j :: .ref a :: st) M Q = rn_o (hp_pi M a j x) (fun M' => rn sc d 81 48 [l0, l1, l2, l3, l4, l5] st M' Q) := ru_iast rfl
set_option maxRecDepth 100000 in
theorem s81_48 {x : Int32} : rn sc d 81 48 [l0, l1, some (.int x), l3, l4, l5] st M Q = rn sc d 81 51 [l0, l1, some (.int (x + 1)), l3, l4, l5] st M Q := ru_1 rfl rfl rfl rfl rfl
set_option maxRecDepth 100000 in
theorem s81_51 {a : Nat} : rn sc d 81 51 [some (.ref a), l1, l2, l3, l4, l5] st M Q = rn sc d 81 52 [some (.ref a), l1, l2, l3, l4, l5] (.ref a :: st) M Q := ru_1 rfl rfl rfl rfl rfl
set_option maxRecDepth 100000 in
theorem s81_52 {a : Nat} : rn sc d 81 52 [l0, l1, l2, l3, l4, l5] (.ref a :: st) M Q = rn_o (hp_f M a 7 22) (fun v => rn sc d 81 55 [l0, l1, l2, l3, l4, l5] (v :: st) M Q) := ru_get rfl rfl
set_option maxRecDepth 100000 in
theorem s81_55 {x : Int32} : rn sc d 81 55 [l0, l1, l2, l3, some (.int x), l5] st M Q = rn sc d 81 57 [l0, l1, l2, l3, some (.int x), l5] (.int x :: st) M Q := ru_1 rfl rfl rfl rfl rfl
set_option maxRecDepth 100000 in
theorem s81_57 {a : Nat} {j : Int32} : rn sc d 81 57 [l0, l1, l2, l3, l4, l5] (.int j :: .ref a :: st) M Q = rn_o (hp_i sc M a j) (fun v => rn sc d 81 58 [l0, l1, l2, l3, l4, l5] (.int v :: st) M Q) := ru_iald rfl
set_option maxRecDepth 100000 in
theorem s81_58 : rn sc d 81 58 [l0, l1, l2, l3, l4, l5] st M Q = rn sc d 81 59 [l0, l1, l2, l3, l4, l5] (.int (-1) :: st) M Q := ru_k rfl rfl rfl rfl rfl (by decide)
set_option maxRecDepth 100000 in
theorem s81_59 {u v : Int32} : rn sc d 81 59 [l0, l1, l2, l3, l4, l5] (.int v :: .int u :: st) M Q = if u = v then rn sc d 81 78 [l0, l1, l2, l3, l4, l5] st M Q else rn sc d 81 62 [l0, l1, l2, l3, l4, l5] st M Q := ru_ic pc_eq rfl (by decide)
set_option maxRecDepth 100000 in
theorem s81_62 {a : Nat} : rn sc d 81 62 [some (.ref a), l1, l2, l3, l4, l5] st M Q = rn sc d 81 63 [some (.ref a), l1, l2, l3, l4, l5] (.ref a :: st) M Q := ru_1 rfl rfl rfl rfl rfl
set_option maxRecDepth 100000 in
theorem s81_63 {a : Nat} : rn sc d 81 63 [l0, l1, l2, l3, l4, l5] (.ref a :: st) M Q = rn_o (hp_f M a 7 30) (fun v => rn sc d 81 66 [l0, l1, l2, l3, l4, l5] (v :: st) M Q) := ru_get rfl rfl
set_option maxRecDepth 100000 in
theorem s81_66 {x : Int32} : rn sc d 81 66 [l0, l1, some (.int x), l3, l4, l5] st M Q = rn sc d 81 67 [l0, l1, some (.int x), l3, l4, l5] (.int x :: st) M Q := ru_1 rfl rfl rfl rfl rfl
set_option maxRecDepth 100000 in
theorem s81_67 {a : Nat} : rn sc d 81 67 [some (.ref a), l1, l2, l3, l4, l5] st M Q = rn sc d 81 68 [some (.ref a), l1, l2, l3, l4, l5] (.ref a :: st) M Q := ru_1 rfl rfl rfl rfl rfl
set_option maxRecDepth 100000 in
theorem s81_68 {a : Nat} : rn sc d 81 68 [l0, l1, l2, l3, l4, l5] (.ref a :: st) M Q = rn_o (hp_f M a 7 22) (fun v => rn sc d 81 71 [l0, l1, l2, l3, l4, l5] (v :: st) M Q) := ru_get rfl rfl
set_option maxRecDepth 100000 in
theorem s81_71 {x : Int32} : rn sc d 81 71 [l0, l1, l2, l3, some (.int x), l5] st M Q = rn sc d 81 73 [l0, l1, l2, l3, some (.int x), l5] (.int x :: st) M Q := ru_1 rfl rfl rfl rfl rfl
set_option maxRecDepth 100000 in
theorem s81_73 {a : Nat} {j : Int32} : rn sc d 81 73 [l0, l1, l2, l3, l4, l5] (.int j :: .ref a :: st) M Q = rn_o (hp_i sc M a j) (fun v => rn sc d 81 74 [l0, l1, l2, l3, l4, l5] (.int v :: st) M Q) := ru_iald rfl
set_option maxRecDepth 100000 in
theorem s81_74 {a : Nat} {j x : Int32} : rn sc d 81 74 [l0, l1, l2, l3, l4, l5] (.int x :: .int j :: .ref a :: st) M Q = rn_o (hp_pi M a j x) (fun M' => rn sc d 81 75 [l0, l1, l2, l3, l4, l5] st M' Q) := ru_iast rfl
set_option maxRecDepth 100000 in
theorem s81_75 {x : Int32} : rn sc d 81 75 [l0, l1, some (.int x), l3, l4, l5] st M Q = rn sc d 81 78 [l0, l1, some (.int (x + 1)), l3, l4, l5] st M Q := ru_1 rfl rfl rfl rfl rfl
set_option maxRecDepth 100000 in
theorem s81_78 {x : Int32} : rn sc d 81 78 [l0, l1, l2, some (.int x), l4, l5] st M Q = rn sc d 81 81 [l0, l1, l2, some (.int (x + 1)), l4, l5] st M Q := ru_1 rfl rfl rfl rfl rfl
set_option maxRecDepth 100000 in
theorem s81_81 : rn sc d 81 81 [l0, l1, l2, l3, l4, l5] st M Q = rn sc d 81 11 [l0, l1, l2, l3, l4, l5] st M Q := ru_go rfl (by decide)
set_option maxRecDepth 100000 in
theorem s81_84 : rn sc d 81 84 [l0, l1, l2, l3, l4, l5] st M Q = rn sc d 81 85 [l0, l1, l2, l3, l4, l5] (.int 1 :: st) M Q := ru_k rfl rfl rfl rfl rfl (by decide)
set_option maxRecDepth 100000 in
theorem s81_85 {x : Int32} : rn sc d 81 85 [l0, l1, l2, l3, l4, l5] (.int x :: st) M Q = rn sc d 81 86 [l0, l1, l2, some (.int x), l4, l5] st M Q := ru_1 rfl rfl rfl rfl rfl
set_option maxRecDepth 100000 in
theorem s81_86 {x : Int32} : rn sc d 81 86 [l0, l1, l2, some (.int x), l4, l5] st M Q = rn sc d 81 87 [l0, l1, l2, some (.int x), l4, l5] (.int x :: st) M Q := ru_1 rfl rfl rfl rfl rfl
set_option maxRecDepth 100000 in
theorem s81_87 {a : Nat} : rn sc d 81 87 [some (.ref a), l1, l2, l3, l4, l5] st M Q = rn sc d 81 88 [some (.ref a), l1, l2, l3, l4, l5] (.ref a :: st) M Q := ru_1 rfl rfl rfl rfl rfl
set_option maxRecDepth 100000 in
theorem s81_88 {a : Nat} : rn sc d 81 88 [l0, l1, l2, l3, l4, l5] (.ref a :: st) M Q = rn_o (hp_f M a 7 25) (fun v => rn sc d 81 91 [l0, l1, l2, l3, l4, l5] (v :: st) M Q) := ru_get rfl rfl
set_option maxRecDepth 100000 in
theorem s81_91 {u v : Int32} : rn sc d 81 91 [l0, l1, l2, l3, l4, l5] (.int v :: .int u :: st) M Q = if v < u then rn sc d 81 170 [l0, l1, l2, l3, l4, l5] st M Q else rn sc d 81 94 [l0, l1, l2, l3, l4, l5] st M Q := ru_ic pc_gt rfl (by decide)
set_option maxRecDepth 100000 in
theorem s81_94 : rn sc d 81 94 [l0, l1, l2, l3, l4, l5] st M Q = rn sc d 81 95 [l0, l1, l2, l3, l4, l5] (.int 0 :: st) M Q := ru_k rfl rfl rfl rfl rfl (by decide)
set_option maxRecDepth 100000 in
theorem s81_95 {x : Int32} : rn sc d 81 95 [l0, l1, l2, l3, l4, l5] (.int x :: st) M Q = rn sc d 81 97 [l0, l1, l2, l3, some (.int x), l5] st M Q := ru_1 rfl rfl rfl rfl rfl
set_option maxRecDepth 100000 in
theorem s81_97 {x : Int32} : rn sc d 81 97 [l0, l1, l2, l3, some (.int x), l5] st M Q = rn sc d 81 99 [l0, l1, l2, l3, some (.int x), l5] (.int x :: st) M Q := ru_1 rfl rfl rfl rfl rfl
set_option maxRecDepth 100000 in
theorem s81_99 {x : Int32} : rn sc d 81 99 [l0, l1, some (.int x), l3, l4, l5] st M Q = rn sc d 81 100 [l0, l1, some (.int x), l3, l4, l5] (.int x :: st) M Q := ru_1 rfl rfl rfl rfl rfl
set_option maxRecDepth 100000 in
theorem s81_100 {u v : Int32} : rn sc d 81 100 [l0, l1, l2, l3, l4, l5] (.int v :: .int u :: st) M Q = if v ≤ u then rn sc d 81 164 [l0, l1, l2, l3, l4, l5] st M Q else rn sc d 81 103 [l0, l1, l2, l3, l4, l5] st M Q := ru_ic pc_ge rfl (by decide)
set_option maxRecDepth 100000 in
theorem s81_103 {a : Nat} : rn sc d 81 103 [some (.ref a), l1, l2, l3, l4, l5] st M Q = rn sc d 81 104 [some (.ref a), l1, l2, l3, l4, l5] (.ref a :: st) M Q := ru_1 rfl rfl rfl rfl rfl
set_option maxRecDepth 100000 in
theorem s81_104 {a : Nat} : rn sc d 81 104 [l0, l1, l2, l3, l4, l5] (.ref a :: st) M Q = rn_o (hp_f M a 7 30) (fun v => rn sc d 81 107 [l0, l1, l2, l3, l4, l5] (v :: st) M Q) := ru_get rfl rfl
set_option maxRecDepth 100000 in
theorem s81_107 {x : Int32} : rn sc d 81 107 [l0, l1, l2, l3, some (.int x), l5] st M Q = rn sc d 81 109 [l0, l1, l2, l3, some (.int x), l5] (.int x :: st) M Q := ru_1 rfl rfl rfl rfl rfl
set_option maxRecDepth 100000 in
theorem s81_109 {a : Nat} {j : Int32} : rn sc d 81 109 [l0, l1, l2, l3, l4, l5] (.int j :: .ref a :: st) M Q = rn_o (hp_i sc M a j) (fun v => rn sc d 81 110 [l0, l1, l2, l3, l4, l5] (.int v :: st) M Q) := ru_iald rfl
set_option maxRecDepth 100000 in
theorem s81_110 {x : Int32} : rn sc d 81 110 [l0, l1, l2, l3, l4, l5] (.int x :: st) M Q = rn sc d 81 112 [l0, l1, l2, l3, l4, some (.int x)] st M Q := ru_1 rfl rfl rfl rfl rfl
set_option maxRecDepth 100000 in
theorem s81_112 {a : Nat} : rn sc d 81 112 [some (.ref a), l1, l2, l3, l4, l5] st M Q = rn sc d 81 113 [some (.ref a), l1, l2, l3, l4, l5] (.ref a :: st) M Q := ru_1 rfl rfl rfl rfl rfl
set_option maxRecDepth 100000 in
theorem s81_113 {a : Nat} : rn sc d 81 113 [l0, l1, l2, l3, l4, l5] (.ref a :: st) M Q = rn_o (hp_f M a 7 6) (fun v => rn sc d 81 116 [l0, l1, l2, l3, l4, l5] (v :: st) M Q) := ru_get rfl rfl
set_option maxRecDepth 100000 in
theorem s81_116 {a : Nat} : rn sc d 81 116 [some (.ref a), l1, l2, l3, l4, l5] st M Q = rn sc d 81 117 [some (.ref a), l1, l2, l3, l4, l5] (.ref a :: st) M Q := ru_1 rfl rfl rfl rfl rfl
set_option maxRecDepth 100000 in
theorem s81_117 {a : Nat} : rn sc d 81 117 [l0, l1, l2, l3, l4, l5] (.ref a :: st) M Q = rn_o (hp_f M a 7 17) (fun v => rn sc d 81 120 [l0, l1, l2, l3, l4, l5] (v :: st) M Q) := ru_get rfl rfl
set_option maxRecDepth 100000 in
theorem s81_120 {x : Int32} : rn sc d 81 120 [l0, l1, l2, l3, l4, some (.int x)] st M Q = rn sc d 81 122 [l0, l1, l2, l3, l4, some (.int x)] (.int x :: st) M Q := ru_1 rfl rfl rfl rfl rfl
set_option maxRecDepth 100000 in
theorem s81_122 {a : Nat} {j : Int32} : rn sc d 81 122 [l0, l1, l2, l3, l4, l5] (.int j :: .ref a :: st) M Q = rn_o (hp_i sc M a j) (fun v => rn sc d 81 123 [l0, l1, l2, l3, l4, l5] (.int v :: st) M Q) := ru_iald rfl
set_option maxRecDepth 100000 in
theorem s81_123 {a : Nat} {j : Int32} : rn sc d 81 123 [l0, l1, l2, l3, l4, l5] (.int j :: .ref a :: st) M Q = rn_o (hp_i sc M a j) (fun v => rn sc d 81 124 [l0, l1, l2, l3, l4, l5] (.int v :: st) M Q) := ru_iald rfl
set_option maxRecDepth 100000 in
theorem s81_124 : rn sc d 81 124 [l0, l1, l2, l3, l4, l5] st M Q = rn sc d 81 126 [l0, l1, l2, l3, l4, l5] (.int 19 :: st) M Q := ru_k rfl rfl rfl rfl rfl (by decide)
set_option maxRecDepth 100000 in
theorem s81_126 {u v : Int32} : rn sc d 81 126 [l0, l1, l2, l3, l4, l5] (.int v :: .int u :: st) M Q = if ¬ u = v then rn sc d 81 158 [l0, l1, l2, l3, l4, l5] st M Q else rn sc d 81 129 [l0, l1, l2, l3, l4, l5] st M Q := ru_ic pc_ne rfl (by decide)
set_option maxRecDepth 100000 in
theorem s81_129 {a : Nat} : rn sc d 81 129 [some (.ref a), l1, l2, l3, l4, l5] st M Q = rn sc d 81 130 [some (.ref a), l1, l2, l3, l4, l5] (.ref a :: st) M Q := ru_1 rfl rfl rfl rfl rfl
set_option maxRecDepth 100000 in
theorem s81_130 {a : Nat} : rn sc d 81 130 [l0, l1, l2, l3, l4, l5] (.ref a :: st) M Q = rn_o (hp_f M a 7 24) (fun v => rn sc d 81 133 [l0, l1, l2, l3, l4, l5] (v :: st) M Q) := ru_get rfl rfl
set_option maxRecDepth 100000 in
theorem s81_133 {x : Int32} : rn sc d 81 133 [l0, l1, l2, l3, l4, some (.int x)] st M Q = rn sc d 81 135 [l0, l1, l2, l3, l4, some (.int x)] (.int x :: st) M Q := ru_1 rfl rfl rfl rfl rfl
set_option maxRecDepth 100000 in
theorem s81_135 {a : Nat} {j : Int32} : rn sc d 81 135 [l0, l1, l2, l3, l4, l5] (.int j :: .ref a :: st) M Q = rn_o (hp_i sc M a j) (fun v => rn sc d 81 136 [l0, l1, l2, l3, l4, l5] (.int v :: st) M Q) := ru_iald rfl
set_option maxRecDepth 100000 in
theorem s81_136 {x : Int32} : rn sc d 81 136 [l0, l1, l2, some (.int x), l4, l5] st M Q = rn sc d 81 137 [l0, l1, l2, some (.int x), l4, l5] (.int x :: st) M Q := ru_1 rfl rfl rfl rfl rfl
set_option maxRecDepth 100000 in
theorem s81_137 {u v : Int32} : rn sc d 81 137 [l0, l1, l2, l3, l4, l5] (.int v :: .int u :: st) M Q = if ¬ u = v then rn sc d 81 158 [l0, l1, l2, l3, l4, l5] st M Q else rn sc d 81 140 [l0, l1, l2, l3, l4, l5] st M Q := ru_ic pc_ne rfl (by decide)
set_option maxRecDepth 100000 in
theorem s81_140 {a : Nat} : rn sc d 81 140 [some (.ref a), l1, l2, l3, l4, l5] st M Q = rn sc d 81 141 [some (.ref a), l1, l2, l3, l4, l5] (.ref a :: st) M Q := ru_1 rfl rfl rfl rfl rfl
set_option maxRecDepth 100000 in
theorem s81_141 {a : Nat} : rn sc d 81 141 [some (.ref a), l1, l2, l3, l4, l5] st M Q = rn sc d 81 142 [some (.ref a), l1, l2, l3, l4, l5] (.ref a :: st) M Q := ru_1 rfl rfl rfl rfl rfl
set_option maxRecDepth 100000 in
theorem s81_142 {a : Nat} : rn sc d 81 142 [l0, l1, l2, l3, l4, l5] (.ref a :: st) M Q = rn_o (hp_f M a 7 8) (fun v => rn sc d 81 145 [l0, l1, l2, l3, l4, l5] (v :: st) M Q) := ru_get rfl rfl
set_option maxRecDepth 100000 in
theorem s81_145 {a : Nat} : rn sc d 81 145 [some (.ref a), l1, l2, l3, l4, l5] st M Q = rn sc d 81 146 [some (.ref a), l1, l2, l3, l4, l5] (.ref a :: st) M Q := ru_1 rfl rfl rfl rfl rfl
set_option maxRecDepth 100000 in
theorem s81_146 {a : Nat} : rn sc d 81 146 [l0, l1, l2, l3, l4, l5] (.ref a :: st) M Q = rn_o (hp_f M a 7 17) (fun v => rn sc d 81 149 [l0, l1, l2, l3, l4, l5] (v :: st) M Q) := ru_get rfl rfl
set_option maxRecDepth 100000 in
theorem s81_149 {x : Int32} : rn sc d 81 149 [l0, l1, l2, l3, l4, some (.int x)] st M Q = rn sc d 81 151 [l0, l1, l2, l3, l4, some (.int x)] (.int x :: st) M Q := ru_1 rfl rfl rfl rfl rfl
set_option maxRecDepth 100000 in
theorem s81_151 {a : Nat} {j : Int32} : rn sc d 81 151 [l0, l1, l2, l3, l4, l5] (.int j :: .ref a :: st) M Q = rn_o (hp_i sc M a j) (fun v => rn sc d 81 152 [l0, l1, l2, l3, l4, l5] (.int v :: st) M Q) := ru_iald rfl
set_option maxRecDepth 100000 in
theorem s81_152 {a : Nat} {j : Int32} : rn sc d 81 152 [l0, l1, l2, l3, l4, l5] (.int j :: .ref a :: st) M Q = rn_o (hp_i sc M a j) (fun v => rn sc d 81 153 [l0, l1, l2, l3, l4, l5] (.int v :: st) M Q) := ru_iald rfl
set_option maxRecDepth 100000 in
theorem s81_153 {x : Int32} : rn sc d 81 153 [l0, l1, l2, l3, l4, some (.int x)] st M Q = rn sc d 81 155 [l0, l1, l2, l3, l4, some (.int x)] (.int x :: st) M Q := ru_1 rfl rfl rfl rfl rfl
set_option maxRecDepth 100000 in
theorem s81_155 {a : Nat} {x0 : Int32} {x1 : Int32} (hw : xm_wt st ≤ 8) (hq : hp_is M a 7) : rn sc (d + 1) 81 155 [l0, l1, l2, l3, l4, l5] (.int x1 :: .int x0 :: .ref a :: st) M Q = rn sc d 79 0 [some (.ref a), some (.int x0), some (.int x1), none] [] M (fun r M' => rn sc (d + 1) 81 158 [l0, l1, l2, l3, l4, l5] (r.toList ++ st) M' Q) := ru_d (ru_iv (as := [.int x1, .int x0]) rfl rfl rfl (Nat.le_of_ble_eq_true rfl) hw rfl hq)
set_option maxRecDepth 100000 in
theorem s81_158 {x : Int32} : rn sc d 81 158 [l0, l1, l2, l3, some (.int x), l5] st M Q = rn sc d 81 161 [l0, l1, l2, l3, some (.int (x + 1)), l5] st M Q := ru_1 rfl rfl rfl rfl rfl
set_option maxRecDepth 100000 in
theorem s81_161 : rn sc d 81 161 [l0, l1, l2, l3, l4, l5] st M Q = rn sc d 81 97 [l0, l1, l2, l3, l4, l5] st M Q := ru_go rfl (by decide)
set_option maxRecDepth 100000 in
theorem s81_164 {x : Int32} : rn sc d 81 164 [l0, l1, l2, some (.int x), l4, l5] st M Q = rn sc d 81 167 [l0, l1, l2, some (.int (x + 1)), l4, l5] st M Q := ru_1 rfl rfl rfl rfl rfl
set_option maxRecDepth 100000 in
theorem s81_167 : rn sc d 81 167 [l0, l1, l2, l3, l4, l5] st M Q = rn sc d 81 86 [l0, l1, l2, l3, l4, l5] st M Q := ru_go rfl (by decide)
set_option maxRecDepth 100000 in
theorem s81_170 : rn sc d 81 170 [l0, l1, l2, l3, l4, l5] [] M Q = Q none M := rn_ret rfl rfl rfl
set_option maxRecDepth 100000 in
theorem s82_0 {a : Nat} : rn sc d 82 0 [some (.ref a), l1] st M Q = rn sc d 82 1 [some (.ref a), l1] (.ref a :: st) M Q := ru_1 rfl rfl rfl rfl rfl
set_option maxRecDepth 100000 in
theorem s82_1 : rn sc d 82 1 [l0, l1] st M Q = rn sc d 82 2 [l0, l1] (.int 0 :: st) M Q := ru_k rfl rfl rfl rfl rfl (by decide)
set_option maxRecDepth 100000 in
theorem s82_2 {a : Nat} {v : Value} : rn sc d 82 2 [l0, l1] (v :: .ref a :: st) M Q = rn_o (hp_pf M a 7 0 v) (fun M' => rn sc d 82 5 [l0, l1] st M' Q) := ru_put rfl rfl rfl
set_option maxRecDepth 100000 in
theorem s82_5 {a : Nat} : rn sc d 82 5 [some (.ref a), l1] st M Q = rn sc d 82 6 [some (.ref a), l1] (.ref a :: st) M Q := ru_1 rfl rfl rfl rfl rfl
set_option maxRecDepth 100000 in
theorem s82_6 {a : Nat} : rn sc d 82 6 [l0, l1] (.ref a :: st) M Q = rn_o (hp_f M a 7 11) (fun v => rn sc d 82 9 [l0, l1] (v :: st) M Q) := ru_get rfl rfl
set_option maxRecDepth 100000 in
theorem s82_9 {x : Int32} : rn sc d 82 9 [l0, l1] (.int x :: st) M Q = if ¬ x = 0 then rn sc d 82 16 [l0, l1] st M Q else rn sc d 82 12 [l0, l1] st M Q := ru_if pc_ne rfl (by decide)
set_option maxRecDepth 100000 in
theorem s82_12 : rn sc d 82 12 [l0, l1] st M Q = rn sc d 82 13 [l0, l1] (.int (-1) :: st) M Q := ru_k rfl rfl rfl rfl rfl (by decide)
set_option maxRecDepth 100000 in
theorem s82_13 : rn sc d 82 13 [l0, l1] st M Q = rn sc d 82 52 [l0, l1] st M Q := ru_go rfl (by decide)
set_option maxRecDepth 100000 in
theorem s82_16 {x : Int32} : rn sc d 82 16 [l0, some (.int x)] st M Q = rn sc d 82 17 [l0, some (.int x)] (.int x :: st) M Q := ru_1 rfl rfl rfl rfl rfl
set_option maxRecDepth 100000 in
theorem s82_17 {x : Int32} : rn sc d 82 17 [l0, l1] (.int x :: st) M Q = if ¬ x = 0 then rn sc d 82 27 [l0, l1] st M Q else rn sc d 82 20 [l0, l1] st M Q := ru_if pc_ne rfl (by decide)
set_option maxRecDepth 100000 in
theorem s82_20 {a : Nat} : rn sc d 82 20 [some (.ref a), l1] st M Q = rn sc d 82 21 [some (.ref a), l1] (.ref a :: st) M Q := ru_1 rfl rfl rfl rfl rfl
set_option maxRecDepth 100000 in
theorem s82_21 {a : Nat} : rn sc d 82 21 [l0, l1] (.ref a :: st) M Q = rn_o (hp_f M a 7 12) (fun v => rn sc d 82 24 [l0, l1] (v :: st) M Q) := ru_get rfl rfl
set_option maxRecDepth 100000 in
theorem s82_24 : rn sc d 82 24 [l0, l1] st M Q = rn sc d 82 52 [l0, l1] st M Q := ru_go rfl (by decide)
set_option maxRecDepth 100000 in
theorem s82_27 {x : Int32} : rn sc d 82 27 [l0, some (.int x)] st M Q = rn sc d 82 28 [l0, some (.int x)] (.int x :: st) M Q := ru_1 rfl rfl rfl rfl rfl
set_option maxRecDepth 100000 in
theorem s82_28 : rn sc d 82 28 [l0, l1] st M Q = rn sc d 82 29 [l0, l1] (.int 1 :: st) M Q := ru_k rfl rfl rfl rfl rfl (by decide)
set_option maxRecDepth 100000 in
theorem s82_29 {u v : Int32} : rn sc d 82 29 [l0, l1] (.int v :: .int u :: st) M Q = if ¬ u = v then rn sc d 82 39 [l0, l1] st M Q else rn sc d 82 32 [l0, l1] st M Q := ru_ic pc_ne rfl (by decide)
set_option maxRecDepth 100000 in
theorem s82_32 {a : Nat} : rn sc d 82 32 [some (.ref a), l1] st M Q = rn sc d 82 33 [some (.ref a), l1] (.ref a :: st) M Q := ru_1 rfl rfl rfl rfl rfl
set_option maxRecDepth 100000 in
theorem s82_33 {a : Nat} : rn sc d 82 33 [l0, l1] (.ref a :: st) M Q = rn_o (hp_f M a 7 13) (fun v => rn sc d 82 36 [l0, l1] (v :: st) M Q) := ru_get rfl rfl
set_option maxRecDepth 100000 in
theorem s82_36 : rn sc d 82 36 [l0, l1] st M Q = rn sc d 82 52 [l0, l1] st M Q := ru_go rfl (by decide)
set_option maxRecDepth 100000 in
theorem s82_39 {x : Int32} : rn sc d 82 39 [l0, some (.int x)] st M Q = rn sc d 82 40 [l0, some (.int x)] (.int x :: st) M Q := ru_1 rfl rfl rfl rfl rfl
set_option maxRecDepth 100000 in
theorem s82_40 : rn sc d 82 40 [l0, l1] st M Q = rn sc d 82 41 [l0, l1] (.int 2 :: st) M Q := ru_k rfl rfl rfl rfl rfl (by decide)
set_option maxRecDepth 100000 in
theorem s82_41 {u v : Int32} : rn sc d 82 41 [l0, l1] (.int v :: .int u :: st) M Q = if ¬ u = v then rn sc d 82 51 [l0, l1] st M Q else rn sc d 82 44 [l0, l1] st M Q := ru_ic pc_ne rfl (by decide)
set_option maxRecDepth 100000 in
theorem s82_44 {a : Nat} : rn sc d 82 44 [some (.ref a), l1] st M Q = rn sc d 82 45 [some (.ref a), l1] (.ref a :: st) M Q := ru_1 rfl rfl rfl rfl rfl
set_option maxRecDepth 100000 in
theorem s82_45 {a : Nat} : rn sc d 82 45 [l0, l1] (.ref a :: st) M Q = rn_o (hp_f M a 7 14) (fun v => rn sc d 82 48 [l0, l1] (v :: st) M Q) := ru_get rfl rfl
set_option maxRecDepth 100000 in
theorem s82_48 : rn sc d 82 48 [l0, l1] st M Q = rn sc d 82 52 [l0, l1] st M Q := ru_go rfl (by decide)
set_option maxRecDepth 100000 in
theorem s82_51 : rn sc d 82 51 [l0, l1] st M Q = rn sc d 82 52 [l0, l1] (.int (-1) :: st) M Q := ru_k rfl rfl rfl rfl rfl (by decide)
set_option maxRecDepth 100000 in
theorem s82_52 {v : Int32} : rn sc d 82 52 [l0, l1] [.int v] M Q = Q (some (.int v)) M := ru_ri rfl rfl
set_option maxRecDepth 100000 in
theorem s83_0 {a : Nat} : rn sc d 83 0 [some (.ref a), l1, l2, l3] st M Q = rn sc d 83 1 [some (.ref a), l1, l2, l3] (.ref a :: st) M Q := ru_1 rfl rfl rfl rfl rfl
set_option maxRecDepth 100000 in
theorem s83_1 : rn sc d 83 1 [l0, l1, l2, l3] st M Q = rn sc d 83 2 [l0, l1, l2, l3] (.int 0 :: st) M Q := ru_k rfl rfl rfl rfl rfl (by decide)
set_option maxRecDepth 100000 in
theorem s83_2 {a : Nat} {v : Value} : rn sc d 83 2 [l0, l1, l2, l3] (v :: .ref a :: st) M Q = rn_o (hp_pf M a 7 0 v) (fun M' => rn sc d 83 5 [l0, l1, l2, l3] st M' Q) := ru_put rfl rfl rfl
set_option maxRecDepth 100000 in
theorem s83_5 {x : Int32} : rn sc d 83 5 [l0, some (.int x), l2, l3] st M Q = rn sc d 83 6 [l0, some (.int x), l2, l3] (.int x :: st) M Q := ru_1 rfl rfl rfl rfl rfl
set_option maxRecDepth 100000 in
theorem s83_6 {x0 : Int32} (hw : xm_wt st ≤ 8) : rn sc (d + 1) 83 6 [l0, l1, l2, l3] (.int x0 :: st) M Q = rn sc d 57 0 [some (.int x0)] [] M (fun r M' => rn sc (d + 1) 83 9 [l0, l1, l2, l3] (r.toList ++ st) M' Q) := ru_d (ru_st (as := [.int x0]) rfl rfl rfl (Nat.le_of_ble_eq_true rfl) hw rfl)
set_option maxRecDepth 100000 in
theorem s83_9 {x : Int32} : rn sc d 83 9 [l0, l1, l2, l3] (.int x :: st) M Q = if x = 0 then rn sc d 83 66 [l0, l1, l2, l3] st M Q else rn sc d 83 12 [l0, l1, l2, l3] st M Q := ru_if pc_eq rfl (by decide)
set_option maxRecDepth 100000 in
theorem s83_12 {a : Nat} : rn sc d 83 12 [some (.ref a), l1, l2, l3] st M Q = rn sc d 83 13 [some (.ref a), l1, l2, l3] (.ref a :: st) M Q := ru_1 rfl rfl rfl rfl rfl
set_option maxRecDepth 100000 in
theorem s83_13 {a : Nat} : rn sc d 83 13 [l0, l1, l2, l3] (.ref a :: st) M Q = rn_o (hp_f M a 7 11) (fun v => rn sc d 83 16 [l0, l1, l2, l3] (v :: st) M Q) := ru_get rfl rfl
set_option maxRecDepth 100000 in
theorem s83_16 {x : Int32} : rn sc d 83 16 [l0, l1, l2, l3] (.int x :: st) M Q = if x = 0 then rn sc d 83 66 [l0, l1, l2, l3] st M Q else rn sc d 83 19 [l0, l1, l2, l3] st M Q := ru_if pc_eq rfl (by decide)
set_option maxRecDepth 100000 in
theorem s83_19 {a : Nat} : rn sc d 83 19 [some (.ref a), l1, l2, l3] st M Q = rn sc d 83 20 [some (.ref a), l1, l2, l3] (.ref a :: st) M Q := ru_1 rfl rfl rfl rfl rfl
set_option maxRecDepth 100000 in
theorem s83_20 {a : Nat} : rn sc d 83 20 [l0, l1, l2, l3] (.ref a :: st) M Q = rn_o (hp_f M a 7 13) (fun v => rn sc d 83 23 [l0, l1, l2, l3] (v :: st) M Q) := ru_get rfl rfl
set_option maxRecDepth 100000 in
theorem s83_23 : rn sc d 83 23 [l0, l1, l2, l3] st M Q = rn sc d 83 24 [l0, l1, l2, l3] (.int (-1) :: st) M Q := ru_k rfl rfl rfl rfl rfl (by decide)
set_option maxRecDepth 100000 in
theorem s83_24 {u v : Int32} : rn sc d 83 24 [l0, l1, l2, l3] (.int v :: .int u :: st) M Q = if u = v then rn sc d 83 66 [l0, l1, l2, l3] st M Q else rn sc d 83 27 [l0, l1, l2, l3] st M Q := ru_ic pc_eq rfl (by decide)
set_option maxRecDepth 100000 in
theorem s83_27 {a : Nat} : rn sc d 83 27 [some (.ref a), l1, l2, l3] st M Q = rn sc d 83 28 [some (.ref a), l1, l2, l3] (.ref a :: st) M Q := ru_1 rfl rfl rfl rfl rfl
set_option maxRecDepth 100000 in
theorem s83_28 {a : Nat} : rn sc d 83 28 [l0, l1, l2, l3] (.ref a :: st) M Q = rn_o (hp_f M a 7 4) (fun v => rn sc d 83 31 [l0, l1, l2, l3] (v :: st) M Q) := ru_get rfl rfl
set_option maxRecDepth 100000 in
theorem s83_31 {x : Int32} : rn sc d 83 31 [l0, some (.int x), l2, l3] st M Q = rn sc d 83 32 [l0, some (.int x), l2, l3] (.int x :: st) M Q := ru_1 rfl rfl rfl rfl rfl
set_option maxRecDepth 100000 in
theorem s83_32 {a : Nat} {j : Int32} : rn sc d 83 32 [l0, l1, l2, l3] (.int j :: .ref a :: st) M Q = rn_o (hp_i sc M a j) (fun v => rn sc d 83 33 [l0, l1, l2, l3] (.int v :: st) M Q) := ru_iald rfl
set_option maxRecDepth 100000 in
theorem s83_33 {a : Nat} : rn sc d 83 33 [some (.ref a), l1, l2, l3] st M Q = rn sc d 83 34 [some (.ref a), l1, l2, l3] (.ref a :: st) M Q := ru_1 rfl rfl rfl rfl rfl
set_option maxRecDepth 100000 in
theorem s83_34 {a : Nat} : rn sc d 83 34 [l0, l1, l2, l3] (.ref a :: st) M Q = rn_o (hp_f M a 7 13) (fun v => rn sc d 83 37 [l0, l1, l2, l3] (v :: st) M Q) := ru_get rfl rfl
set_option maxRecDepth 100000 in
theorem s83_37 {u v : Int32} : rn sc d 83 37 [l0, l1, l2, l3] (.int v :: .int u :: st) M Q = if u < v then rn sc d 83 66 [l0, l1, l2, l3] st M Q else rn sc d 83 40 [l0, l1, l2, l3] st M Q := ru_ic pc_lt rfl (by decide)
set_option maxRecDepth 100000 in
theorem s83_40 {a : Nat} : rn sc d 83 40 [some (.ref a), l1, l2, l3] st M Q = rn sc d 83 41 [some (.ref a), l1, l2, l3] (.ref a :: st) M Q := ru_1 rfl rfl rfl rfl rfl
set_option maxRecDepth 100000 in
theorem s83_41 {a : Nat} : rn sc d 83 41 [l0, l1, l2, l3] (.ref a :: st) M Q = rn_o (hp_f M a 7 4) (fun v => rn sc d 83 44 [l0, l1, l2, l3] (v :: st) M Q) := ru_get rfl rfl
set_option maxRecDepth 100000 in
theorem s83_44 {x : Int32} : rn sc d 83 44 [l0, some (.int x), l2, l3] st M Q = rn sc d 83 45 [l0, some (.int x), l2, l3] (.int x :: st) M Q := ru_1 rfl rfl rfl rfl rfl
set_option maxRecDepth 100000 in
theorem s83_45 {a : Nat} {j : Int32} : rn sc d 83 45 [l0, l1, l2, l3] (.int j :: .ref a :: st) M Q = rn_o (hp_i sc M a j) (fun v => rn sc d 83 46 [l0, l1, l2, l3] (.int v :: st) M Q) := ru_iald rfl
set_option maxRecDepth 100000 in
theorem s83_46 {a : Nat} : rn sc d 83 46 [some (.ref a), l1, l2, l3] st M Q = rn sc d 83 47 [some (.ref a), l1, l2, l3] (.ref a :: st) M Q := ru_1 rfl rfl rfl rfl rfl
set_option maxRecDepth 100000 in
theorem s83_47 {a : Nat} : rn sc d 83 47 [l0, l1, l2, l3] (.ref a :: st) M Q = rn_o (hp_f M a 7 13) (fun v => rn sc d 83 50 [l0, l1, l2, l3] (v :: st) M Q) := ru_get rfl rfl
set_option maxRecDepth 100000 in
theorem s83_50 {a : Nat} : rn sc d 83 50 [some (.ref a), l1, l2, l3] st M Q = rn sc d 83 51 [some (.ref a), l1, l2, l3] (.ref a :: st) M Q := ru_1 rfl rfl rfl rfl rfl
set_option maxRecDepth 100000 in
theorem s83_51 {a : Nat} : rn sc d 83 51 [l0, l1, l2, l3] (.ref a :: st) M Q = rn_o (hp_f M a 7 12) (fun v => rn sc d 83 54 [l0, l1, l2, l3] (v :: st) M Q) := ru_get rfl rfl
set_option maxRecDepth 100000 in
theorem s83_54 {u v : Int32} : rn sc d 83 54 [l0, l1, l2, l3] (.int v :: .int u :: st) M Q = rn sc d 83 55 [l0, l1, l2, l3] (.int (u - v) :: st) M Q := ru_1 rfl rfl rfl rfl rfl
set_option maxRecDepth 100000 in
theorem s83_55 {u v : Int32} : rn sc d 83 55 [l0, l1, l2, l3] (.int v :: .int u :: st) M Q = rn sc d 83 56 [l0, l1, l2, l3] (.int (u - v) :: st) M Q := ru_1 rfl rfl rfl rfl rfl
set_option maxRecDepth 100000 in
theorem s83_56 {a : Nat} : rn sc d 83 56 [some (.ref a), l1, l2, l3] st M Q = rn sc d 83 57 [some (.ref a), l1, l2, l3] (.ref a :: st) M Q := ru_1 rfl rfl rfl rfl rfl
set_option maxRecDepth 100000 in
theorem s83_57 {a : Nat} : rn sc d 83 57 [l0, l1, l2, l3] (.ref a :: st) M Q = rn_o (hp_f M a 7 2) (fun v => rn sc d 83 60 [l0, l1, l2, l3] (v :: st) M Q) := ru_get rfl rfl
set_option maxRecDepth 100000 in
theorem s83_60 {u v : Int32} : rn sc d 83 60 [l0, l1, l2, l3] (.int v :: .int u :: st) M Q = rn sc d 83 61 [l0, l1, l2, l3] (.int (u + v) :: st) M Q := ru_1 rfl rfl rfl rfl rfl
set_option maxRecDepth 100000 in
theorem s83_61 : rn sc d 83 61 [l0, l1, l2, l3] st M Q = rn sc d 83 63 [l0, l1, l2, l3] (.int 64 :: st) M Q := ru_k rfl rfl rfl rfl rfl (by decide)
set_option maxRecDepth 100000 in
theorem s83_63 {u v : Int32} : rn sc d 83 63 [l0, l1, l2, l3] (.int v :: .int u :: st) M Q = if u ≤ v then rn sc d 83 68 [l0, l1, l2, l3] st M Q else rn sc d 83 66 [l0, l1, l2, l3] st M Q := ru_ic pc_le rfl (by decide)
set_option maxRecDepth 100000 in
theorem s83_66 : rn sc d 83 66 [l0, l1, l2, l3] st M Q = rn sc d 83 67 [l0, l1, l2, l3] (.int 0 :: st) M Q := ru_k rfl rfl rfl rfl rfl (by decide)
set_option maxRecDepth 100000 in
theorem s83_67 {v : Int32} (h : narrow .boolean (.int v) = .int v) : rn sc d 83 67 [l0, l1, l2, l3] [.int v] M Q = Q (some (.int v)) M := ru_rz rfl rfl h
set_option maxRecDepth 100000 in
theorem s83_68 {a : Nat} : rn sc d 83 68 [some (.ref a), l1, l2, l3] st M Q = rn sc d 83 69 [some (.ref a), l1, l2, l3] (.ref a :: st) M Q := ru_1 rfl rfl rfl rfl rfl
set_option maxRecDepth 100000 in
theorem s83_69 {a : Nat} : rn sc d 83 69 [l0, l1, l2, l3] (.ref a :: st) M Q = rn_o (hp_f M a 7 4) (fun v => rn sc d 83 72 [l0, l1, l2, l3] (v :: st) M Q) := ru_get rfl rfl
set_option maxRecDepth 100000 in
theorem s83_72 {x : Int32} : rn sc d 83 72 [l0, some (.int x), l2, l3] st M Q = rn sc d 83 73 [l0, some (.int x), l2, l3] (.int x :: st) M Q := ru_1 rfl rfl rfl rfl rfl
set_option maxRecDepth 100000 in
theorem s83_73 {a : Nat} {j : Int32} : rn sc d 83 73 [l0, l1, l2, l3] (.int j :: .ref a :: st) M Q = rn_o (hp_i sc M a j) (fun v => rn sc d 83 74 [l0, l1, l2, l3] (.int v :: st) M Q) := ru_iald rfl
set_option maxRecDepth 100000 in
theorem s83_74 {a : Nat} : rn sc d 83 74 [some (.ref a), l1, l2, l3] st M Q = rn sc d 83 75 [some (.ref a), l1, l2, l3] (.ref a :: st) M Q := ru_1 rfl rfl rfl rfl rfl
set_option maxRecDepth 100000 in
theorem s83_75 {a : Nat} : rn sc d 83 75 [l0, l1, l2, l3] (.ref a :: st) M Q = rn_o (hp_f M a 7 13) (fun v => rn sc d 83 78 [l0, l1, l2, l3] (v :: st) M Q) := ru_get rfl rfl
set_option maxRecDepth 100000 in
theorem s83_78 {u v : Int32} : rn sc d 83 78 [l0, l1, l2, l3] (.int v :: .int u :: st) M Q = rn sc d 83 79 [l0, l1, l2, l3] (.int (u - v) :: st) M Q := ru_1 rfl rfl rfl rfl rfl
set_option maxRecDepth 100000 in
theorem s83_79 {x : Int32} : rn sc d 83 79 [l0, l1, l2, l3] (.int x :: st) M Q = rn sc d 83 80 [l0, l1, some (.int x), l3] st M Q := ru_1 rfl rfl rfl rfl rfl
set_option maxRecDepth 100000 in
theorem s83_80 : rn sc d 83 80 [l0, l1, l2, l3] st M Q = rn sc d 83 81 [l0, l1, l2, l3] (.int 0 :: st) M Q := ru_k rfl rfl rfl rfl rfl (by decide)
set_option maxRecDepth 100000 in
theorem s83_81 {x : Int32} : rn sc d 83 81 [l0, l1, l2, l3] (.int x :: st) M Q = rn sc d 83 82 [l0, l1, l2, some (.int x)] st M Q := ru_1 rfl rfl rfl rfl rfl
set_option maxRecDepth 100000 in
theorem s83_82 {x : Int32} : rn sc d 83 82 [l0, l1, l2, some (.int x)] st M Q = rn sc d 83 83 [l0, l1, l2, some (.int x)] (.int x :: st) M Q := ru_1 rfl rfl rfl rfl rfl
set_option maxRecDepth 100000 in
theorem s83_83 {x : Int32} : rn sc d 83 83 [l0, l1, some (.int x), l3] st M Q = rn sc d 83 84 [l0, l1, some (.int x), l3] (.int x :: st) M Q := ru_1 rfl rfl rfl rfl rfl
set_option maxRecDepth 100000 in
theorem s83_84 {u v : Int32} : rn sc d 83 84 [l0, l1, l2, l3] (.int v :: .int u :: st) M Q = if v ≤ u then rn sc d 83 115 [l0, l1, l2, l3] st M Q else rn sc d 83 87 [l0, l1, l2, l3] st M Q := ru_ic pc_ge rfl (by decide)
set_option maxRecDepth 100000 in
theorem s83_87 {a : Nat} : rn sc d 83 87 [some (.ref a), l1, l2, l3] st M Q = rn sc d 83 88 [some (.ref a), l1, l2, l3] (.ref a :: st) M Q := ru_1 rfl rfl rfl rfl rfl
set_option maxRecDepth 100000 in
theorem s83_88 {a : Nat} : rn sc d 83 88 [l0, l1, l2, l3] (.ref a :: st) M Q = rn_o (hp_f M a 7 15) (fun v => rn sc d 83 91 [l0, l1, l2, l3] (v :: st) M Q) := ru_get rfl rfl
set_option maxRecDepth 100000 in
theorem s83_91 {x : Int32} : rn sc d 83 91 [l0, l1, l2, some (.int x)] st M Q = rn sc d 83 92 [l0, l1, l2, some (.int x)] (.int x :: st) M Q := ru_1 rfl rfl rfl rfl rfl
set_option maxRecDepth 100000 in
theorem s83_92 {a : Nat} : rn sc d 83 92 [some (.ref a), l1, l2, l3] st M Q = rn sc d 83 93 [some (.ref a), l1, l2, l3] (.ref a :: st) M Q := ru_1 rfl rfl rfl rfl rfl
set_option maxRecDepth 100000 in
theorem s83_93 {a : Nat} : rn sc d 83 93 [l0, l1, l2, l3] (.ref a :: st) M Q = rn_o (hp_f M a 7 3) (fun v => rn sc d 83 96 [l0, l1, l2, l3] (v :: st) M Q) := ru_get rfl rfl
set_option maxRecDepth 100000 in
theorem s83_96 : rn sc d 83 96 [l0, l1, l2, l3] st M Q = rn sc d 83 98 [l0, l1, l2, l3] (.int 64 :: st) M Q := ru_k rfl rfl rfl rfl rfl (by decide)
set_option maxRecDepth 100000 in
theorem s83_98 {x : Int32} : rn sc d 83 98 [l0, some (.int x), l2, l3] st M Q = rn sc d 83 99 [l0, some (.int x), l2, l3] (.int x :: st) M Q := ru_1 rfl rfl rfl rfl rfl
set_option maxRecDepth 100000 in
theorem s83_99 {u v : Int32} : rn sc d 83 99 [l0, l1, l2, l3] (.int v :: .int u :: st) M Q = rn sc d 83 100 [l0, l1, l2, l3] (.int (u * v) :: st) M Q := ru_1 rfl rfl rfl rfl rfl
set_option maxRecDepth 100000 in
theorem s83_100 {a : Nat} : rn sc d 83 100 [some (.ref a), l1, l2, l3] st M Q = rn sc d 83 101 [some (.ref a), l1, l2, l3] (.ref a :: st) M Q := ru_1 rfl rfl rfl rfl rfl
set_option maxRecDepth 100000 in
theorem s83_101 {a : Nat} : rn sc d 83 101 [l0, l1, l2, l3] (.ref a :: st) M Q = rn_o (hp_f M a 7 13) (fun v => rn sc d 83 104 [l0, l1, l2, l3] (v :: st) M Q) := ru_get rfl rfl
set_option maxRecDepth 100000 in
theorem s83_104 {u v : Int32} : rn sc d 83 104 [l0, l1, l2, l3] (.int v :: .int u :: st) M Q = rn sc d 83 105 [l0, l1, l2, l3] (.int (u + v) :: st) M Q := ru_1 rfl rfl rfl rfl rfl
set_option maxRecDepth 100000 in
theorem s83_105 {x : Int32} : rn sc d 83 105 [l0, l1, l2, some (.int x)] st M Q = rn sc d 83 106 [l0, l1, l2, some (.int x)] (.int x :: st) M Q := ru_1 rfl rfl rfl rfl rfl
set_option maxRecDepth 100000 in
theorem s83_106 {u v : Int32} : rn sc d 83 106 [l0, l1, l2, l3] (.int v :: .int u :: st) M Q = rn sc d 83 107 [l0, l1, l2, l3] (.int (u + v) :: st) M Q := ru_1 rfl rfl rfl rfl rfl
set_option maxRecDepth 100000 in
theorem s83_107 {a : Nat} {j : Int32} : rn sc d 83 107 [l0, l1, l2, l3] (.int j :: .ref a :: st) M Q = rn_o (hp_b M a j) (fun v => rn sc d 83 108 [l0, l1, l2, l3] (.int v :: st) M Q) := ru_bald rfl
set_option maxRecDepth 100000 in
theorem s83_108 {a : Nat} {j x : Int32} : rn sc d 83 108 [l0, l1, l2, l3] (.int x :: .int j :: .ref a :: st) M Q = rn_o (hp_pb M a j x) (fun M' => rn sc d 83 109 [l0, l1, l2, l3] st M' Q) := ru_bast rfl
set_option maxRecDepth 100000 in
theorem s83_109 {x : Int32} : rn sc d 83 109 [l0, l1, l2, some (.int x)] st M Q = rn sc d 83 112 [l0, l1, l2, some (.int (x + 1))] st M Q := ru_1 rfl rfl rfl rfl rfl
set_option maxRecDepth 100000 in
theorem s83_112 : rn sc d 83 112 [l0, l1, l2, l3] st M Q = rn sc d 83 82 [l0, l1, l2, l3] st M Q := ru_go rfl (by decide)
set_option maxRecDepth 100000 in
theorem s83_115 : rn sc d 83 115 [l0, l1, l2, l3] st M Q = rn sc d 83 116 [l0, l1, l2, l3] (.int 0 :: st) M Q := ru_k rfl rfl rfl rfl rfl (by decide)
set_option maxRecDepth 100000 in
theorem s83_116 {x : Int32} : rn sc d 83 116 [l0, l1, l2, l3] (.int x :: st) M Q = rn sc d 83 117 [l0, l1, l2, some (.int x)] st M Q := ru_1 rfl rfl rfl rfl rfl
set_option maxRecDepth 100000 in
theorem s83_117 {x : Int32} : rn sc d 83 117 [l0, l1, l2, some (.int x)] st M Q = rn sc d 83 118 [l0, l1, l2, some (.int x)] (.int x :: st) M Q := ru_1 rfl rfl rfl rfl rfl
set_option maxRecDepth 100000 in
theorem s83_118 {a : Nat} : rn sc d 83 118 [some (.ref a), l1, l2, l3] st M Q = rn sc d 83 119 [some (.ref a), l1, l2, l3] (.ref a :: st) M Q := ru_1 rfl rfl rfl rfl rfl
set_option maxRecDepth 100000 in
theorem s83_119 {a : Nat} : rn sc d 83 119 [l0, l1, l2, l3] (.ref a :: st) M Q = rn_o (hp_f M a 7 2) (fun v => rn sc d 83 122 [l0, l1, l2, l3] (v :: st) M Q) := ru_get rfl rfl
set_option maxRecDepth 100000 in
theorem s83_122 {u v : Int32} : rn sc d 83 122 [l0, l1, l2, l3] (.int v :: .int u :: st) M Q = if v ≤ u then rn sc d 83 153 [l0, l1, l2, l3] st M Q else rn sc d 83 125 [l0, l1, l2, l3] st M Q := ru_ic pc_ge rfl (by decide)
set_option maxRecDepth 100000 in
theorem s83_125 {a : Nat} : rn sc d 83 125 [some (.ref a), l1, l2, l3] st M Q = rn sc d 83 126 [some (.ref a), l1, l2, l3] (.ref a :: st) M Q := ru_1 rfl rfl rfl rfl rfl
set_option maxRecDepth 100000 in
theorem s83_126 {a : Nat} : rn sc d 83 126 [l0, l1, l2, l3] (.ref a :: st) M Q = rn_o (hp_f M a 7 3) (fun v => rn sc d 83 129 [l0, l1, l2, l3] (v :: st) M Q) := ru_get rfl rfl
set_option maxRecDepth 100000 in
theorem s83_129 : rn sc d 83 129 [l0, l1, l2, l3] st M Q = rn sc d 83 131 [l0, l1, l2, l3] (.int 64 :: st) M Q := ru_k rfl rfl rfl rfl rfl (by decide)
set_option maxRecDepth 100000 in
theorem s83_131 {x : Int32} : rn sc d 83 131 [l0, some (.int x), l2, l3] st M Q = rn sc d 83 132 [l0, some (.int x), l2, l3] (.int x :: st) M Q := ru_1 rfl rfl rfl rfl rfl
set_option maxRecDepth 100000 in
theorem s83_132 {u v : Int32} : rn sc d 83 132 [l0, l1, l2, l3] (.int v :: .int u :: st) M Q = rn sc d 83 133 [l0, l1, l2, l3] (.int (u * v) :: st) M Q := ru_1 rfl rfl rfl rfl rfl
set_option maxRecDepth 100000 in
theorem s83_133 {a : Nat} : rn sc d 83 133 [some (.ref a), l1, l2, l3] st M Q = rn sc d 83 134 [some (.ref a), l1, l2, l3] (.ref a :: st) M Q := ru_1 rfl rfl rfl rfl rfl
set_option maxRecDepth 100000 in
theorem s83_134 {a : Nat} : rn sc d 83 134 [l0, l1, l2, l3] (.ref a :: st) M Q = rn_o (hp_f M a 7 12) (fun v => rn sc d 83 137 [l0, l1, l2, l3] (v :: st) M Q) := ru_get rfl rfl
set_option maxRecDepth 100000 in
theorem s83_137 {u v : Int32} : rn sc d 83 137 [l0, l1, l2, l3] (.int v :: .int u :: st) M Q = rn sc d 83 138 [l0, l1, l2, l3] (.int (u + v) :: st) M Q := ru_1 rfl rfl rfl rfl rfl
set_option maxRecDepth 100000 in
theorem s83_138 {x : Int32} : rn sc d 83 138 [l0, l1, l2, some (.int x)] st M Q = rn sc d 83 139 [l0, l1, l2, some (.int x)] (.int x :: st) M Q := ru_1 rfl rfl rfl rfl rfl
set_option maxRecDepth 100000 in
theorem s83_139 {u v : Int32} : rn sc d 83 139 [l0, l1, l2, l3] (.int v :: .int u :: st) M Q = rn sc d 83 140 [l0, l1, l2, l3] (.int (u + v) :: st) M Q := ru_1 rfl rfl rfl rfl rfl
set_option maxRecDepth 100000 in
theorem s83_140 {a : Nat} : rn sc d 83 140 [some (.ref a), l1, l2, l3] st M Q = rn sc d 83 141 [some (.ref a), l1, l2, l3] (.ref a :: st) M Q := ru_1 rfl rfl rfl rfl rfl
set_option maxRecDepth 100000 in
theorem s83_141 {a : Nat} : rn sc d 83 141 [l0, l1, l2, l3] (.ref a :: st) M Q = rn_o (hp_f M a 7 1) (fun v => rn sc d 83 144 [l0, l1, l2, l3] (v :: st) M Q) := ru_get rfl rfl
set_option maxRecDepth 100000 in
theorem s83_144 {x : Int32} : rn sc d 83 144 [l0, l1, l2, some (.int x)] st M Q = rn sc d 83 145 [l0, l1, l2, some (.int x)] (.int x :: st) M Q := ru_1 rfl rfl rfl rfl rfl
set_option maxRecDepth 100000 in
theorem s83_145 {a : Nat} {j : Int32} : rn sc d 83 145 [l0, l1, l2, l3] (.int j :: .ref a :: st) M Q = rn_o (hp_b M a j) (fun v => rn sc d 83 146 [l0, l1, l2, l3] (.int v :: st) M Q) := ru_bald rfl
set_option maxRecDepth 100000 in
theorem s83_146 {a : Nat} {j x : Int32} : rn sc d 83 146 [l0, l1, l2, l3] (.int x :: .int j :: .ref a :: st) M Q = rn_o (hp_pb M a j x) (fun M' => rn sc d 83 147 [l0, l1, l2, l3] st M' Q) := ru_bast rfl
set_option maxRecDepth 100000 in
theorem s83_147 {x : Int32} : rn sc d 83 147 [l0, l1, l2, some (.int x)] st M Q = rn sc d 83 150 [l0, l1, l2, some (.int (x + 1))] st M Q := ru_1 rfl rfl rfl rfl rfl
set_option maxRecDepth 100000 in
theorem s83_150 : rn sc d 83 150 [l0, l1, l2, l3] st M Q = rn sc d 83 117 [l0, l1, l2, l3] st M Q := ru_go rfl (by decide)
set_option maxRecDepth 100000 in
theorem s83_153 : rn sc d 83 153 [l0, l1, l2, l3] st M Q = rn sc d 83 154 [l0, l1, l2, l3] (.int 0 :: st) M Q := ru_k rfl rfl rfl rfl rfl (by decide)
set_option maxRecDepth 100000 in
theorem s83_154 {x : Int32} : rn sc d 83 154 [l0, l1, l2, l3] (.int x :: st) M Q = rn sc d 83 155 [l0, l1, l2, some (.int x)] st M Q := ru_1 rfl rfl rfl rfl rfl
set_option maxRecDepth 100000 in
theorem s83_155 {x : Int32} : rn sc d 83 155 [l0, l1, l2, some (.int x)] st M Q = rn sc d 83 156 [l0, l1, l2, some (.int x)] (.int x :: st) M Q := ru_1 rfl rfl rfl rfl rfl
set_option maxRecDepth 100000 in
theorem s83_156 {x : Int32} : rn sc d 83 156 [l0, l1, some (.int x), l3] st M Q = rn sc d 83 157 [l0, l1, some (.int x), l3] (.int x :: st) M Q := ru_1 rfl rfl rfl rfl rfl
set_option maxRecDepth 100000 in
theorem s83_157 {u v : Int32} : rn sc d 83 157 [l0, l1, l2, l3] (.int v :: .int u :: st) M Q = if v ≤ u then rn sc d 83 193 [l0, l1, l2, l3] st M Q else rn sc d 83 160 [l0, l1, l2, l3] st M Q := ru_ic pc_ge rfl (by decide)
set_option maxRecDepth 100000 in
theorem s83_160 {a : Nat} : rn sc d 83 160 [some (.ref a), l1, l2, l3] st M Q = rn sc d 83 161 [some (.ref a), l1, l2, l3] (.ref a :: st) M Q := ru_1 rfl rfl rfl rfl rfl
set_option maxRecDepth 100000 in
theorem s83_161 {a : Nat} : rn sc d 83 161 [l0, l1, l2, l3] (.ref a :: st) M Q = rn_o (hp_f M a 7 3) (fun v => rn sc d 83 164 [l0, l1, l2, l3] (v :: st) M Q) := ru_get rfl rfl
set_option maxRecDepth 100000 in
theorem s83_164 : rn sc d 83 164 [l0, l1, l2, l3] st M Q = rn sc d 83 166 [l0, l1, l2, l3] (.int 64 :: st) M Q := ru_k rfl rfl rfl rfl rfl (by decide)
set_option maxRecDepth 100000 in
theorem s83_166 {x : Int32} : rn sc d 83 166 [l0, some (.int x), l2, l3] st M Q = rn sc d 83 167 [l0, some (.int x), l2, l3] (.int x :: st) M Q := ru_1 rfl rfl rfl rfl rfl
set_option maxRecDepth 100000 in
theorem s83_167 {u v : Int32} : rn sc d 83 167 [l0, l1, l2, l3] (.int v :: .int u :: st) M Q = rn sc d 83 168 [l0, l1, l2, l3] (.int (u * v) :: st) M Q := ru_1 rfl rfl rfl rfl rfl
set_option maxRecDepth 100000 in
theorem s83_168 {a : Nat} : rn sc d 83 168 [some (.ref a), l1, l2, l3] st M Q = rn sc d 83 169 [some (.ref a), l1, l2, l3] (.ref a :: st) M Q := ru_1 rfl rfl rfl rfl rfl
set_option maxRecDepth 100000 in
theorem s83_169 {a : Nat} : rn sc d 83 169 [l0, l1, l2, l3] (.ref a :: st) M Q = rn_o (hp_f M a 7 12) (fun v => rn sc d 83 172 [l0, l1, l2, l3] (v :: st) M Q) := ru_get rfl rfl
set_option maxRecDepth 100000 in
theorem s83_172 {u v : Int32} : rn sc d 83 172 [l0, l1, l2, l3] (.int v :: .int u :: st) M Q = rn sc d 83 173 [l0, l1, l2, l3] (.int (u + v) :: st) M Q := ru_1 rfl rfl rfl rfl rfl
set_option maxRecDepth 100000 in
theorem s83_173 {a : Nat} : rn sc d 83 173 [some (.ref a), l1, l2, l3] st M Q = rn sc d 83 174 [some (.ref a), l1, l2, l3] (.ref a :: st) M Q := ru_1 rfl rfl rfl rfl rfl
set_option maxRecDepth 100000 in
theorem s83_174 {a : Nat} : rn sc d 83 174 [l0, l1, l2, l3] (.ref a :: st) M Q = rn_o (hp_f M a 7 2) (fun v => rn sc d 83 177 [l0, l1, l2, l3] (v :: st) M Q) := ru_get rfl rfl
set_option maxRecDepth 100000 in
theorem s83_177 {u v : Int32} : rn sc d 83 177 [l0, l1, l2, l3] (.int v :: .int u :: st) M Q = rn sc d 83 178 [l0, l1, l2, l3] (.int (u + v) :: st) M Q := ru_1 rfl rfl rfl rfl rfl
set_option maxRecDepth 100000 in
theorem s83_178 {x : Int32} : rn sc d 83 178 [l0, l1, l2, some (.int x)] st M Q = rn sc d 83 179 [l0, l1, l2, some (.int x)] (.int x :: st) M Q := ru_1 rfl rfl rfl rfl rfl
set_option maxRecDepth 100000 in
theorem s83_179 {u v : Int32} : rn sc d 83 179 [l0, l1, l2, l3] (.int v :: .int u :: st) M Q = rn sc d 83 180 [l0, l1, l2, l3] (.int (u + v) :: st) M Q := ru_1 rfl rfl rfl rfl rfl
set_option maxRecDepth 100000 in
theorem s83_180 {a : Nat} : rn sc d 83 180 [some (.ref a), l1, l2, l3] st M Q = rn sc d 83 181 [some (.ref a), l1, l2, l3] (.ref a :: st) M Q := ru_1 rfl rfl rfl rfl rfl
set_option maxRecDepth 100000 in
theorem s83_181 {a : Nat} : rn sc d 83 181 [l0, l1, l2, l3] (.ref a :: st) M Q = rn_o (hp_f M a 7 15) (fun v => rn sc d 83 184 [l0, l1, l2, l3] (v :: st) M Q) := ru_get rfl rfl
set_option maxRecDepth 100000 in
theorem s83_184 {x : Int32} : rn sc d 83 184 [l0, l1, l2, some (.int x)] st M Q = rn sc d 83 185 [l0, l1, l2, some (.int x)] (.int x :: st) M Q := ru_1 rfl rfl rfl rfl rfl
set_option maxRecDepth 100000 in
theorem s83_185 {a : Nat} {j : Int32} : rn sc d 83 185 [l0, l1, l2, l3] (.int j :: .ref a :: st) M Q = rn_o (hp_b M a j) (fun v => rn sc d 83 186 [l0, l1, l2, l3] (.int v :: st) M Q) := ru_bald rfl
set_option maxRecDepth 100000 in
theorem s83_186 {a : Nat} {j x : Int32} : rn sc d 83 186 [l0, l1, l2, l3] (.int x :: .int j :: .ref a :: st) M Q = rn_o (hp_pb M a j x) (fun M' => rn sc d 83 187 [l0, l1, l2, l3] st M' Q) := ru_bast rfl
set_option maxRecDepth 100000 in
theorem s83_187 {x : Int32} : rn sc d 83 187 [l0, l1, l2, some (.int x)] st M Q = rn sc d 83 190 [l0, l1, l2, some (.int (x + 1))] st M Q := ru_1 rfl rfl rfl rfl rfl
set_option maxRecDepth 100000 in
theorem s83_190 : rn sc d 83 190 [l0, l1, l2, l3] st M Q = rn sc d 83 155 [l0, l1, l2, l3] st M Q := ru_go rfl (by decide)
set_option maxRecDepth 100000 in
theorem s83_193 {a : Nat} : rn sc d 83 193 [some (.ref a), l1, l2, l3] st M Q = rn sc d 83 194 [some (.ref a), l1, l2, l3] (.ref a :: st) M Q := ru_1 rfl rfl rfl rfl rfl
set_option maxRecDepth 100000 in
theorem s83_194 {a : Nat} : rn sc d 83 194 [l0, l1, l2, l3] (.ref a :: st) M Q = rn_o (hp_f M a 7 4) (fun v => rn sc d 83 197 [l0, l1, l2, l3] (v :: st) M Q) := ru_get rfl rfl
set_option maxRecDepth 100000 in
theorem s83_197 {x : Int32} : rn sc d 83 197 [l0, some (.int x), l2, l3] st M Q = rn sc d 83 198 [l0, some (.int x), l2, l3] (.int x :: st) M Q := ru_1 rfl rfl rfl rfl rfl
set_option maxRecDepth 100000 in
theorem s83_198 {a : Nat} : rn sc d 83 198 [some (.ref a), l1, l2, l3] st M Q = rn sc d 83 199 [some (.ref a), l1, l2, l3] (.ref a :: st) M Q := ru_1 rfl rfl rfl rfl rfl
set_option maxRecDepth 100000 in
theorem s83_199 {a : Nat} : rn sc d 83 199 [l0, l1, l2, l3] (.ref a :: st) M Q = rn_o (hp_f M a 7 12) (fun v => rn sc d 83 202 [l0, l1, l2, l3] (v :: st) M Q) := ru_get rfl rfl
set_option maxRecDepth 100000 in
theorem s83_202 {a : Nat} : rn sc d 83 202 [some (.ref a), l1, l2, l3] st M Q = rn sc d 83 203 [some (.ref a), l1, l2, l3] (.ref a :: st) M Q := ru_1 rfl rfl rfl rfl rfl
set_option maxRecDepth 100000 in
theorem s83_203 {a : Nat} : rn sc d 83 203 [l0, l1, l2, l3] (.ref a :: st) M Q = rn_o (hp_f M a 7 2) (fun v => rn sc d 83 206 [l0, l1, l2, l3] (v :: st) M Q) := ru_get rfl rfl
set_option maxRecDepth 100000 in
theorem s83_206 {u v : Int32} : rn sc d 83 206 [l0, l1, l2, l3] (.int v :: .int u :: st) M Q = rn sc d 83 207 [l0, l1, l2, l3] (.int (u + v) :: st) M Q := ru_1 rfl rfl rfl rfl rfl
set_option maxRecDepth 100000 in
theorem s83_207 {x : Int32} : rn sc d 83 207 [l0, l1, some (.int x), l3] st M Q = rn sc d 83 208 [l0, l1, some (.int x), l3] (.int x :: st) M Q := ru_1 rfl rfl rfl rfl rfl
set_option maxRecDepth 100000 in
theorem s83_208 {u v : Int32} : rn sc d 83 208 [l0, l1, l2, l3] (.int v :: .int u :: st) M Q = rn sc d 83 209 [l0, l1, l2, l3] (.int (u + v) :: st) M Q := ru_1 rfl rfl rfl rfl rfl
set_option maxRecDepth 100000 in
theorem s83_209 {a : Nat} {j x : Int32} : rn sc d 83 209 [l0, l1, l2, l3] (.int x :: .int j :: .ref a :: st) M Q = rn_o (hp_pi M a j x) (fun M' => rn sc d 83 210 [l0, l1, l2, l3] st M' Q) := ru_iast rfl
set_option maxRecDepth 100000 in
theorem s83_210 {a : Nat} : rn sc d 83 210 [some (.ref a), l1, l2, l3] st M Q = rn sc d 83 211 [some (.ref a), l1, l2, l3] (.ref a :: st) M Q := ru_1 rfl rfl rfl rfl rfl
set_option maxRecDepth 100000 in
theorem s83_211 : rn sc d 83 211 [l0, l1, l2, l3] st M Q = rn sc d 83 212 [l0, l1, l2, l3] (.int 0 :: st) M Q := ru_k rfl rfl rfl rfl rfl (by decide)
set_option maxRecDepth 100000 in
theorem s83_212 {a : Nat} {v : Value} : rn sc d 83 212 [l0, l1, l2, l3] (v :: .ref a :: st) M Q = rn_o (hp_pf M a 7 2 v) (fun M' => rn sc d 83 215 [l0, l1, l2, l3] st M' Q) := ru_put rfl rfl rfl
set_option maxRecDepth 100000 in
theorem s83_215 : rn sc d 83 215 [l0, l1, l2, l3] st M Q = rn sc d 83 216 [l0, l1, l2, l3] (.int 1 :: st) M Q := ru_k rfl rfl rfl rfl rfl (by decide)
set_option maxRecDepth 100000 in
theorem s83_216 {v : Int32} (h : narrow .boolean (.int v) = .int v) : rn sc d 83 216 [l0, l1, l2, l3] [.int v] M Q = Q (some (.int v)) M := ru_rz rfl rfl h
end
