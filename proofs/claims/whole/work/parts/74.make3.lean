section
variable {B n s o k v i : Nat} {U W : Nat → Option xm_E} {sc : xm_Sc} {d : Nat} {Q : Option Value → xm_M → Prop} {f : Nat → Option Nat}
/-- all cells of the class at their start -/
def allC (B : Nat) (U : Nat → Option xm_E) : Prop :=
  (U 0 = some (.inr (6, [.ref (B + 1), .ref (B + 3), .ref (B + 214), .int (-1), .int (-1), .int (-1)])) ∧ U 1 = some (.inr (5, [.ref (B + 2), .int 0])) ∧ U 2 = some (.inl (0, 64, .inl (fun _ => 0)))) ∧
  (U 3 = some (.inr (4, [.ref (B + 4), .ref (B + 5), .int 0])) ∧ U 4 = some (.inl (3, 8, me_q (me_vs B))) ∧ U 5 = some (.inl (4, 64, me_q (me_ns B)))) ∧
  (∀ v, v < 8 → U (6 + 2 * v) = some (.inr (5, [.ref (B + (6 + 2 * v + 1)), .int 0])) ∧ U (6 + 2 * v + 1) = some (.inl (0, 64, .inl (fun _ => 0)))) ∧
  (∀ i, i < 64 → U (22 + 3 * i) = some (.inr (0, [.ref (B + (22 + 3 * i + 1)), .int 0, .int 0, .int 0])) ∧ U (22 + 3 * i + 1) = some (.inr (5, [.ref (B + (22 + 3 * i + 1 + 1)), .int 0])) ∧ U (22 + 3 * i + 1 + 1) = some (.inl (0, 64, .inl (fun _ => 0)))) ∧
  (U 214 = some (.inr (2, [.ref (B + 3), .ref (B + 215), .ref (B + 217), .ref (B + 223), .ref (B + 225), .int 0, .int 0, .int 0, .int 2, .null, .int 0])) ∧ U 215 = some (.inr (5, [.ref (B + 216), .int 0])) ∧ U 216 = some (.inl (0, 64, .inl (fun _ => 0)))) ∧
  (U 217 = some (.inr (3, [.ref (B + 218), .ref (B + 219), .ref (B + 220), .ref (B + 221), .ref (B + 222), .int 0])) ∧ U 218 = some (.inl (4, 3001, .inr (.inr (.inr (.inr (fun _ => none)))))) ∧ ∀ o, 219 ≤ o → o ≤ 222 → U o = some (.inl (0, 3001, .inl (fun _ => 0)))) ∧
  (U 223 = some (.inr (1, [.ref (B + 224), .int 0])) ∧ U 224 = some (.inl (0, 3000, .inl (fun _ => 0))) ∧ U 225 = some (.inr (1, [.ref (B + 226), .int 0])) ∧ U 226 = some (.inl (0, 3000, .inl (fun _ => 0))))
/-- PatternMill -/
theorem k1 (h : allC B U) : rn sc (d + 4) 1 0 [some (.ref (B + 0))] [] (xm_new (pm B 0 s U) 6 (.inr (6, [.null, .null, .null, .int 0, .int 0, .int 0]))) Q = Q none (pm B 227 (s + 26247) U) := by
  obtain ⟨⟨h0, h1, h2⟩, ⟨h3, h4, h5⟩, h6, h7, ⟨h8, h9, h10⟩, ⟨h11, h12, h13⟩, h14, h15, h16, h17⟩ := h
  have a1 : ∀ (s : Nat) (X : Option xm_E) (Q : Option Value → xm_M → Prop), rn sc (d + 3) 2 0 [some (.ref (B + 1))] [] (xm_new (pm B 1 s (va_up U 0 X)) 2 (.inr (5, [.null, .int 0]))) Q = Q none (pm B 3 (s + 66) (va_up U 0 X)) := fun s X Q => k2 (n := 1) (by rw [up_n (by decide)]; exact h1) (by rw [up_n (by decide)]; exact h2)
  have a2 : ∀ (s : Nat) (X : Option xm_E) (Q : Option Value → xm_M → Prop), rn sc (d + 3) 3 0 [some (.ref (B + 3)), none] [] (xm_new (pm B 3 s (va_up U 0 X)) 3 (.inr (4, [.null, .null, .int 0]))) Q = Q none (pm B 214 (s + 5083) (va_up U 0 X)) := fun s X Q => k3 (by rw [up_n (by decide)]; exact h3) (by rw [up_n (by decide)]; exact h4) (by rw [up_n (by decide)]; exact h5) (fun v hv => ⟨by rw [up_n (by omega)]; exact (h6 v hv).1, by rw [up_n (by omega)]; exact (h6 v hv).2⟩) (fun i hi => ⟨by rw [up_n (by omega)]; exact (h7 i hi).1, by rw [up_n (by omega)]; exact (h7 i hi).2.1, by rw [up_n (by omega)]; exact (h7 i hi).2.2⟩)
  have a3 : ∀ (s : Nat) (X : Option xm_E) (Q : Option Value → xm_M → Prop), rn sc (d + 3) 5 0 [some (.ref (B + 214)), some (.ref (B + 3))] [] (xm_new (pm B 214 s (va_up U 0 X)) 11 (.inr (2, [.null, .null, .null, .null, .null, .int 0, .int 0, .int 0, .int 0, .null, .int 0]))) Q = Q none (pm B 227 (s + 21092) (va_up U 0 X)) := fun s X Q => k5 (by rw [up_n (by decide)]; exact h8) (by rw [up_n (by decide)]; exact h9) (by rw [up_n (by decide)]; exact h10) (by rw [up_n (by decide)]; exact h11) (by rw [up_n (by decide)]; exact h12) (fun o q q' => by rw [up_n (by omega)]; exact h13 o q q') (by rw [up_n (by decide)]; exact h14) (by rw [up_n (by decide)]; exact h15) (by rw [up_n (by decide)]; exact h16) (by rw [up_n (by decide)]; exact h17)
  have g : ∀ (s k : Nat) (e : xm_E) (v0 v1 v2 v3 v4 v5 : Value), hp_f (xm_new (pm B 214 s (va_up U 0 (some (.inr (6, [v0, v1, v2, v3, v4, v5]))))) k e) (B + 0) 6 1 = some v1 := fun s k e v0 v1 v2 v3 v4 v5 => by
    rw [pm_new]
    exact pf_g (o := 0) (ci := 6) (fs := [v0, v1, v2, v3, v4, v5]) (by rw [up_n (by decide), up_s]) (by decide)
  rw [pm_new]
  simp only [s1_0, s1_1, s1_4, s1_5, s1_8, s1_8I, s1_9, s1_12, s1_15, s1_16, s1_19, s1_19I, s1_20, s1_23, s1_26, s1_27, s1_30, s1_30I, s1_31, s1_32, s1_35, s1_38, s1_41, s1_42, s1_43, s1_46, s1_47, s1_48, s1_51, s1_52, s1_53, s1_56, rn_os, rn_on, Option.toList_some, Option.toList_none, List.cons_append, List.nil_append, wt0, wti, wtr, wtn, nb0, nb1, va_rf, eq_self, a2_s, a2_n, p1_s, p1_n, f2_s, f2_n, false_and, and_false, true_and, and_true, not_false_eq_true, ne_eq, Nat.reduceEqDiff, Nat.reduceAdd, Nat.reduceLeDiff, Nat.reduceSub, Nat.reduceMul, Bool.false_eq_true, a1, a2, a3, g, pm_1, pk_6_0 (show 0 < 3 by decide), pk_6_1 (show 0 < 214 by decide), pk_6_2 (show 0 < 227 by decide), pk_6_3 (show 0 < 227 by decide), pk_6_4 (show 0 < 227 by decide), pk_6_5 (show 0 < 227 by decide)]
  exact (congrArg (fun W => Q none (pm B 227 (s + 6 + 66 + 5083 + 21092) W)) (up_id h0)).trans (congrArg (fun u => Q none (pm B 227 u U)) (show s + 6 + 66 + 5083 + 21092 = s + 26247 by omega))
/-! what the cells hold at the start -/
def F00 : Nat → Nat → Int32 := fun o k => if o = 0 ∧ 3 ≤ k ∧ k ≤ 5 then -1 else if o = 214 ∧ k = 8 then 2 else 0
def N00 : Nat → Nat → Int32 := fun _ _ => 0
def P00 : Nat → Int32 := fun _ => 0
def G00 : Nat → Option Nat := fun _ => none
def Z00 (B : Nat) : Nat → Option xm_E := me_c B F00 N00 G00 none P00 N00
theorem F00_z (h1 : o ≠ 0) (h2 : o ≠ 214) : F00 o k = 0 := by
  unfold F00
  rw [if_neg (by omega), if_neg (by omega)]
theorem Z00_t (h : me_tx o) (h2 : o ≠ 0) (h3 : o ≠ 214) : Z00 B o = some (.inr (5, [.ref (B + (o + 1)), .int 0])) := by
  have := (me_at (B := B) (S := 0) (F := F00) (A := N00) (G := G00) (X := none) (P := P00) (T := N00) o).symm.trans (me_txt h)
  rw [F00_z h2 h3] at this
  exact this
theorem Z00_a (h : me_ar o) : Z00 B o = some (.inl (0, 64, .inl (fun _ => 0))) := (me_at (B := B) (S := 0) (F := F00) (A := N00) (G := G00) (X := none) (P := P00) (T := N00) o).symm.trans (me_arr h)
theorem Z00_n (h : i < 64) : Z00 B (22 + 3 * i) = some (.inr (0, [.ref (B + (22 + 3 * i + 1)), .int 0, .int 0, .int 0])) := by
  have := (me_at (B := B) (S := 0) (F := F00) (A := N00) (G := G00) (X := none) (P := P00) (T := N00) (22 + 3 * i)).symm.trans (me_nod h)
  rw [F00_z (by omega) (by omega), F00_z (by omega) (by omega), F00_z (by omega) (by omega)] at this
  exact this
theorem Z00_s (h : 219 ≤ o) (h' : o ≤ 222) : Z00 B o = some (.inl (0, 3001, .inl (fun _ => 0))) := by
  have : o = 219 ∨ o = 220 ∨ o = 221 ∨ o = 222 := by omega
  rcases this with rfl | rfl | rfl | rfl <;> rfl
theorem Z00_all : allC B (Z00 B) :=
  ⟨⟨rfl, rfl, rfl⟩, ⟨rfl, rfl, rfl⟩, fun v hv => ⟨Z00_t (me_txv hv) (by omega) (by omega), Z00_a (Or.inr (Or.inl (by omega)))⟩, fun i hi => ⟨Z00_n hi, Z00_t (me_txn hi) (by omega) (by omega), Z00_a (Or.inr (Or.inr (Or.inl (by omega))))⟩, ⟨rfl, rfl, rfl⟩, ⟨rfl, rfl, fun o h h' => Z00_s h h'⟩, rfl, rfl, rfl, rfl⟩
theorem Z00_m : Z00 B 227 = some (.inr (7, [.int 0, .ref (B + 228), .int 0, .ref (B + 229), .ref (B + 230), .int 0, .ref (B + 231), .ref (B + 232), .ref (B + 233), .ref (B + 234), .ref (B + 235), .int 0, .int 0, .int 0, .int 0, .ref (B + 236), .int 0, .ref (B + 237), .ref (B + 238), .ref (B + 239), .ref (B + 240), .ref (B + 241), .ref (B + 242), .ref (B + 243), .ref (B + 244), .int 0, .int 0, .int 0, .int 0, .int 0, .ref (B + 245)])) := rfl
theorem ml_o {t n : Nat} (h : me_ml o = some (t, n)) : 228 ≤ o ∧ o ≤ 245 := by
  unfold me_ml at h
  split at h <;> first | (cases h; done) | omega
theorem Z00_T (o t n : Nat) (h : me_ml o = some (t, n)) : Z00 B o = some (.inl (t, n, .inl (fun _ => 0))) := by
  have ho := ml_o h
  unfold Z00 me_c
  rw [if_neg (by omega), if_neg (by omega), if_neg (by omega), if_neg (by omega), if_neg (by omega), if_neg (by omega), if_neg (by omega), if_neg (by omega), if_neg (by omega), if_neg (by omega), if_neg (by omega), h]
  rfl
theorem Z00_o (h : 246 ≤ o) {F A : Nat → Nat → Int32} {G : Nat → Option Nat} {X : Option Nat} {P : Nat → Int32} {T : Nat → Nat → Int32} : me_c B F A G X P T o = none := by
  have hm : me_ml o = none := by
    cases e : me_ml o with
    | none => rfl
    | some q =>
      have := ml_o (t := q.1) (n := q.2) e
      omega
  unfold me_c
  rw [if_neg (by omega), if_neg (by omega), if_neg (by omega), if_neg (by omega), if_neg (by omega), if_neg (by omega), if_neg (by omega), if_neg (by omega), if_neg (by omega), if_neg (by omega), if_neg (by omega), hm]
  dsimp only
  rw [if_neg (by omega), if_neg (by omega), if_neg (by omega)]
theorem pm_mk {S : Nat} : pm B 246 S (Z00 B) = mk B S F00 N00 G00 none P00 N00 := by
  unfold pm mk
  refine Prod.ext rfl (Prod.ext rfl (funext fun a => ?_))
  show (if a < B then none else if a - B < 246 then Z00 B (a - B) else none) = if a < B then none else me_c B F00 N00 G00 none P00 N00 (a - B)
  by_cases h : a < B
  · rw [if_pos h, if_pos h]
  · rw [if_neg h, if_neg h]
    by_cases h2 : a - B < 246
    · rw [if_pos h2]; rfl
    · rw [if_neg h2, Z00_o (by omega)]
theorem pm_00 : ((B, 0, fun _ => none) : xm_M) = pm B 0 0 (Z00 B) := by
  unfold pm
  refine Prod.ext rfl (Prod.ext rfl (funext fun a => ?_))
  show none = if a < B then none else if a - B < 0 then Z00 B (a - B) else none
  by_cases h : a < B
  · rw [if_pos h]
  · rw [if_neg h, if_neg (by omega)]
/-- it stands at the start -/
theorem Inv.start : Inv F00 N00 P00 N00 :=
  ⟨(0, 0, fun _ => 0, fun _ => 0, fun _ => 0, fun _ => 0, fun _ => 0, fun _ _ => 0, F00, N00, P00, N00), fun _ => 0, fun _ _ => 0, 0, fun _ => 0, ⟨Nat.zero_le _, Nat.zero_le _, fun i hi => absurd hi (Nat.not_lt_zero i)⟩, ⟨rfl, fun i hi => absurd hi (Nat.not_lt_zero i)⟩, ⟨rfl, fun i hi => absurd hi (Nat.not_lt_zero i)⟩, fun u hu => ⟨F00_z (by omega) (by omega), Nat.zero_le _, fun j hj => absurd hj (Nat.not_lt_zero j)⟩, fun u hu => ⟨rfl, Nat.zero_le _, fun j hj => absurd hj (Nat.not_lt_zero j)⟩, ⟨rfl, Nat.zero_le _, fun j hj => absurd hj (Nat.not_lt_zero j)⟩, ⟨rfl, Nat.zero_le _, fun j hj => absurd hj (Nat.not_lt_zero j)⟩, Or.inl ⟨rfl, rfl, rfl, rfl⟩⟩
/-- the law makes its two objects -/
theorem law_mk {b : Nat} : rn sc 10 0 0 [some (.ref b), none, none, none] [] (B, 0, fun _ => none) Q = rn sc 10 0 18 [some (.ref b), some (.ref B), some (.ref (B + 227)), some (.int (nI 0))] [] (mk B 58278 F00 N00 G00 none P00 N00) Q := by
  have q1 : ∀ Q : Option Value → xm_M → Prop, rn sc 9 1 0 [some (.ref B)] [] (xm_new (pm B 0 0 (Z00 B)) 6 (.inr (6, [.null, .null, .null, .int 0, .int 0, .int 0]))) Q = Q none (pm B 227 26247 (Z00 B)) := fun Q => (k1 (d := 5) (s := 0) Z00_all).trans (congrArg (fun u => Q none (pm B 227 u (Z00 B))) (Nat.zero_add 26247))
  have q2 : ∀ Q : Option Value → xm_M → Prop, rn sc 9 54 0 [some (.ref (B + 227))] [] (xm_new (pm B 227 26247 (Z00 B)) 31 (.inr (7, [.int 0, .null, .int 0, .null, .null, .int 0, .null, .null, .null, .null, .null, .int 0, .int 0, .int 0, .int 0, .null, .int 0, .null, .null, .null, .null, .null, .null, .null, .null, .int 0, .int 0, .int 0, .int 0, .int 0, .null]))) Q = Q none (pm B 246 58278 (Z00 B)) := fun Q => (k54 (d := 8) (s := 26247) Z00_m Z00_T).trans (congrArg (fun u => Q none (pm B 246 u (Z00 B))) (show 26247 + 32031 = 58278 by decide))
  rw [pm_00, ← pm_mk, nI_0]
  simp only [s0_0, s0_3, s0_3I, s0_4, s0_7, s0_7N, s0_8, s0_11, s0_11I, s0_12, s0_15, s0_15N, s0_16, s0_17, s0_19, s0_20, s0_21, s0_22, s0_23, s0_26, s0_27, s0_28, s0_29, s0_31, s0_32_0, s0_32_1, s0_32_2, s0_32_3, s0_32_4, s0_32_5, s0_32_6, s0_32_7, s0_32_8, s0_32_9, s0_32_d, s0_88, s0_88N, s0_89, s0_90, s0_91, s0_92, s0_93, s0_94, s0_97, s0_97N, s0_98, s0_99, s0_100, s0_101, s0_102, s0_103, s0_106, s0_109, s0_110 nb0, s0_110 nb1, s0_110 nb_bi, s0_111, s0_111N, s0_112, s0_113, s0_114, s0_115, s0_116, s0_117, s0_120, s0_120N, s0_121, s0_122, s0_123, s0_124, s0_125, s0_126, s0_129, s0_132, s0_133 nb0, s0_133 nb1, s0_133 nb_bi, s0_134, s0_134N, s0_135, s0_136, s0_137, s0_138, s0_139, s0_140, s0_141, s0_142, s0_143, s0_144, s0_145, s0_148, s0_148N, s0_149, s0_150, s0_151, s0_152, s0_153, s0_154, s0_155, s0_156, s0_157, s0_158, s0_159, s0_162, s0_165, s0_166 nb0, s0_166 nb1, s0_166 nb_bi, s0_167, s0_167N, s0_168, s0_169, s0_170, s0_171, s0_172, s0_173, s0_176, s0_176N, s0_177, s0_178, s0_179, s0_180, s0_181, s0_182, s0_185, s0_188, s0_189 nb0, s0_189 nb1, s0_189 nb_bi, s0_190, s0_190N, s0_191, s0_192, s0_193, s0_194, s0_195, s0_196, s0_197, s0_198, s0_199, s0_200, s0_201, s0_202, s0_203, s0_204, s0_205, s0_206, s0_209, s0_209N, s0_210, s0_211, s0_212, s0_213, s0_214, s0_215, s0_216, s0_217, s0_218, s0_219, s0_220, s0_221, s0_222, s0_223, s0_224, s0_225, s0_228, s0_231, s0_232 nb0, s0_232 nb1, s0_232 nb_bi, s0_233, s0_233N, s0_234, s0_237, s0_237N, s0_238, s0_241, s0_244, s0_244N, s0_245, s0_246, s0_247, s0_248, s0_249, s0_250, s0_251, s0_252, s0_253, s0_254, s0_255, s0_258, s0_258N, s0_259, s0_260, s0_261, s0_262, s0_263, s0_264, s0_265, s0_266, s0_267, s0_268, s0_269, s0_272, s0_275, s0_276 nb0, s0_276 nb1, s0_276 nb_bi, s0_277, s0_277N, s0_278, s0_279, s0_280, s0_281, s0_282, s0_283, s0_284, s0_285, s0_286, s0_287, s0_288, s0_289, s0_290, s0_291, s0_292, s0_293, s0_296, s0_297, s0_300, s0_301, s0_304, s0_304N, s0_305, s0_306, s0_307, s0_308, s0_309, s0_310, s0_311, s0_312, s0_313, s0_314, s0_315, s0_316, s0_317, s0_318, s0_319, s0_320, s0_323, s0_324, s0_327, s0_328, s0_331, s0_334, s0_335 nb0, s0_335 nb1, s0_335 nb_bi, s0_336, s0_336N, s0_337, s0_338, s0_339, s0_340, s0_341, s0_342, s0_345, s0_345N, s0_346, s0_347, s0_348, s0_349, s0_350, s0_351, s0_354, s0_357, s0_358 nb0, s0_358 nb1, s0_358 nb_bi, s0_359, s0_359N, s0_360, s0_361, s0_362, s0_363, s0_364, s0_365, s0_368, s0_368N, s0_369, s0_370, s0_371, s0_372, s0_373, s0_374, s0_377, s0_380, s0_381 nb0, s0_381 nb1, s0_381 nb_bi, s0_382, s0_385, s0_388, s0_389 nb0, s0_389 nb1, s0_389 nb_bi,  rn_os, rn_on, Option.toList_some, Option.toList_none, List.cons_append, List.nil_append, wt0, wti, wtr, wtn, nb0, nb1, va_rf, eq_self, a2_s, a2_n, p1_s, p1_n, f2_s, f2_n, false_and, and_false, true_and, and_true, not_false_eq_true, ne_eq, Nat.reduceEqDiff, Nat.reduceAdd, Nat.reduceLeDiff, Nat.reduceSub, Nat.reduceMul, Bool.false_eq_true, pm_1, q1, q2, Nat.add_zero]
end
