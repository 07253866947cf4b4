section
variable {sc : xm_Sc} {B S : Nat} {F A : Nat → Nat → Int32} {G : Nat → Option Nat} {X : Option Nat} {P : Nat → Int32} {T : Nat → Nat → Int32} {v : Int32} {i j n : Nat}
theorem me_at0 : (mk B S F A G X P T).2.2 B = me_c B F A G X P T 0 := me_at 0
theorem me_set0 {F' A' : Nat → Nat → Int32} {G' : Nat → Option Nat} {X' : Option Nat} {P' : Nat → Int32} {T' : Nat → Nat → Int32} {e : xm_E} (hF : ∀ o', o' ≠ 0 → ∀ k, F' o' k = F o' k) (hA : ∀ o', o' ≠ 0 → A' o' = A o') (hG : G' = G) (hX : X' = X) (hP : P' = P) (hT : T' = T) (he : me_c B F' A' G' X' P' T' 0 = some e) : xm_set (mk B S F A G X P T) B e = mk B S F' A' G' X' P' T' := me_set (o := 0) hF hA (fun _ => hG) (fun _ => hX) (fun _ => hP) (fun _ _ => by rw [hT]) he
theorem e0_is : hp_is (mk B S F A G X P T) B 6 := ⟨_, me_at0.trans rfl⟩
theorem g0_0 : hp_f (mk B S F A G X P T) B 6 0 = some (.ref (B + 1)) := by
  rw [hp_f, me_at0]
  rfl
theorem g0_1 : hp_f (mk B S F A G X P T) B 6 1 = some (.ref (B + 3)) := by
  rw [hp_f, me_at0]
  rfl
theorem g0_2 : hp_f (mk B S F A G X P T) B 6 2 = some (.ref (B + 214)) := by
  rw [hp_f, me_at0]
  rfl
theorem g0_3 : hp_f (mk B S F A G X P T) B 6 3 = some (.int (F 0 3)) := by
  rw [hp_f, me_at0]
  rfl
theorem w0_3 : hp_pf (mk B S F A G X P T) B 6 3 (.int v) = some (mk B S (f2 F 0 3 v) A G X P T) := by
  rw [hp_pf, me_at0]
  exact (if_pos ⟨rfl, rfl, rfl, Nat.le_of_ble_eq_true rfl⟩).trans (congrArg some (me_set0 f2_other (fun _ _ => rfl) rfl rfl rfl rfl rfl))
theorem g0_4 : hp_f (mk B S F A G X P T) B 6 4 = some (.int (F 0 4)) := by
  rw [hp_f, me_at0]
  rfl
theorem w0_4 : hp_pf (mk B S F A G X P T) B 6 4 (.int v) = some (mk B S (f2 F 0 4 v) A G X P T) := by
  rw [hp_pf, me_at0]
  exact (if_pos ⟨rfl, rfl, rfl, Nat.le_of_ble_eq_true rfl⟩).trans (congrArg some (me_set0 f2_other (fun _ _ => rfl) rfl rfl rfl rfl rfl))
theorem g0_5 : hp_f (mk B S F A G X P T) B 6 5 = some (.int (F 0 5)) := by
  rw [hp_f, me_at0]
  rfl
theorem w0_5 : hp_pf (mk B S F A G X P T) B 6 5 (.int v) = some (mk B S (f2 F 0 5 v) A G X P T) := by
  rw [hp_pf, me_at0]
  exact (if_pos ⟨rfl, rfl, rfl, Nat.le_of_ble_eq_true rfl⟩).trans (congrArg some (me_set0 f2_other (fun _ _ => rfl) rfl rfl rfl rfl rfl))
theorem e3_is : hp_is (mk B S F A G X P T) (B + 3) 4 := ⟨_, (me_at 3).trans rfl⟩
theorem g3_0 : hp_f (mk B S F A G X P T) (B + 3) 4 0 = some (.ref (B + 4)) := by
  rw [hp_f, me_at]
  rfl
theorem g3_1 : hp_f (mk B S F A G X P T) (B + 3) 4 1 = some (.ref (B + 5)) := by
  rw [hp_f, me_at]
  rfl
theorem g3_2 : hp_f (mk B S F A G X P T) (B + 3) 4 2 = some (.int (F 3 2)) := by
  rw [hp_f, me_at]
  rfl
theorem w3_2 : hp_pf (mk B S F A G X P T) (B + 3) 4 2 (.int v) = some (mk B S (f2 F 3 2 v) A G X P T) := by
  rw [hp_pf, me_at]
  exact (if_pos ⟨rfl, rfl, rfl, Nat.le_of_ble_eq_true rfl⟩).trans (congrArg some (me_set f2_other (fun _ _ => rfl) (fun _ => rfl) (fun _ => rfl) (fun _ => rfl) (fun _ _ => rfl) rfl))
theorem e214_is : hp_is (mk B S F A G X P T) (B + 214) 2 := ⟨_, (me_at 214).trans rfl⟩
theorem g214_0 : hp_f (mk B S F A G X P T) (B + 214) 2 0 = some (.ref (B + 3)) := by
  rw [hp_f, me_at]
  rfl
theorem g214_1 : hp_f (mk B S F A G X P T) (B + 214) 2 1 = some (.ref (B + 215)) := by
  rw [hp_f, me_at]
  rfl
theorem g214_2 : hp_f (mk B S F A G X P T) (B + 214) 2 2 = some (.ref (B + 217)) := by
  rw [hp_f, me_at]
  rfl
theorem g214_3 : hp_f (mk B S F A G X P T) (B + 214) 2 3 = some (.ref (B + 223)) := by
  rw [hp_f, me_at]
  rfl
theorem g214_4 : hp_f (mk B S F A G X P T) (B + 214) 2 4 = some (.ref (B + 225)) := by
  rw [hp_f, me_at]
  rfl
theorem g214_5 : hp_f (mk B S F A G X P T) (B + 214) 2 5 = some (.int (F 214 5)) := by
  rw [hp_f, me_at]
  rfl
theorem w214_5 : hp_pf (mk B S F A G X P T) (B + 214) 2 5 (.int v) = some (mk B S (f2 F 214 5 v) A G X P T) := by
  rw [hp_pf, me_at]
  exact (if_pos ⟨rfl, rfl, rfl, Nat.le_of_ble_eq_true rfl⟩).trans (congrArg some (me_set f2_other (fun _ _ => rfl) (fun _ => rfl) (fun _ => rfl) (fun _ => rfl) (fun _ _ => rfl) rfl))
theorem g214_6 : hp_f (mk B S F A G X P T) (B + 214) 2 6 = some (.int (F 214 6)) := by
  rw [hp_f, me_at]
  rfl
theorem w214_6 : hp_pf (mk B S F A G X P T) (B + 214) 2 6 (.int v) = some (mk B S (f2 F 214 6 v) A G X P T) := by
  rw [hp_pf, me_at]
  exact (if_pos ⟨rfl, rfl, rfl, Nat.le_of_ble_eq_true rfl⟩).trans (congrArg some (me_set f2_other (fun _ _ => rfl) (fun _ => rfl) (fun _ => rfl) (fun _ => rfl) (fun _ _ => rfl) rfl))
theorem g214_7 : hp_f (mk B S F A G X P T) (B + 214) 2 7 = some (.int (F 214 7)) := by
  rw [hp_f, me_at]
  rfl
theorem w214_7 : hp_pf (mk B S F A G X P T) (B + 214) 2 7 (.int v) = some (mk B S (f2 F 214 7 v) A G X P T) := by
  rw [hp_pf, me_at]
  exact (if_pos ⟨rfl, rfl, rfl, Nat.le_of_ble_eq_true rfl⟩).trans (congrArg some (me_set f2_other (fun _ _ => rfl) (fun _ => rfl) (fun _ => rfl) (fun _ => rfl) (fun _ _ => rfl) rfl))
theorem g214_8 : hp_f (mk B S F A G X P T) (B + 214) 2 8 = some (.int (F 214 8)) := by
  rw [hp_f, me_at]
  rfl
theorem w214_8 : hp_pf (mk B S F A G X P T) (B + 214) 2 8 (.int v) = some (mk B S (f2 F 214 8 v) A G X P T) := by
  rw [hp_pf, me_at]
  exact (if_pos ⟨rfl, rfl, rfl, Nat.le_of_ble_eq_true rfl⟩).trans (congrArg some (me_set f2_other (fun _ _ => rfl) (fun _ => rfl) (fun _ => rfl) (fun _ => rfl) (fun _ _ => rfl) rfl))
theorem g214_9 : hp_f (mk B S F A G X P T) (B + 214) 2 9 = some (va_rf X) := by
  rw [hp_f, me_at]
  rfl
theorem w214_9 {a : Nat} : hp_pf (mk B S F A G X P T) (B + 214) 2 9 (.ref a) = some (mk B S F A G (some a) P T) := by
  rw [hp_pf, me_at]
  exact (if_pos ⟨rfl, rfl, rfl, Nat.le_of_ble_eq_true rfl⟩).trans (congrArg some (me_set (fun _ _ _ => rfl) (fun _ _ => rfl) (fun _ => rfl) (fun h => absurd rfl h) (fun _ => rfl) (fun _ _ => rfl) rfl))
theorem w214_9N : hp_pf (mk B S F A G X P T) (B + 214) 2 9 .null = some (mk B S F A G none P T) := by
  rw [hp_pf, me_at]
  exact (if_pos ⟨rfl, rfl, rfl, Nat.le_of_ble_eq_true rfl⟩).trans (congrArg some (me_set (fun _ _ _ => rfl) (fun _ _ => rfl) (fun _ => rfl) (fun h => absurd rfl h) (fun _ => rfl) (fun _ _ => rfl) rfl))
theorem g214_10 : hp_f (mk B S F A G X P T) (B + 214) 2 10 = some (.int (F 214 10)) := by
  rw [hp_f, me_at]
  rfl
theorem w214_10 : hp_pf (mk B S F A G X P T) (B + 214) 2 10 (.int v) = some (mk B S (f2 F 214 10 v) A G X P T) := by
  rw [hp_pf, me_at]
  exact (if_pos ⟨rfl, rfl, rfl, Nat.le_of_ble_eq_true rfl⟩).trans (congrArg some (me_set f2_other (fun _ _ => rfl) (fun _ => rfl) (fun _ => rfl) (fun _ => rfl) (fun _ _ => rfl) rfl))
theorem e217_is : hp_is (mk B S F A G X P T) (B + 217) 3 := ⟨_, (me_at 217).trans rfl⟩
theorem g217_0 : hp_f (mk B S F A G X P T) (B + 217) 3 0 = some (.ref (B + 218)) := by
  rw [hp_f, me_at]
  rfl
theorem g217_1 : hp_f (mk B S F A G X P T) (B + 217) 3 1 = some (.ref (B + 219)) := by
  rw [hp_f, me_at]
  rfl
theorem g217_2 : hp_f (mk B S F A G X P T) (B + 217) 3 2 = some (.ref (B + 220)) := by
  rw [hp_f, me_at]
  rfl
theorem g217_3 : hp_f (mk B S F A G X P T) (B + 217) 3 3 = some (.ref (B + 221)) := by
  rw [hp_f, me_at]
  rfl
theorem g217_4 : hp_f (mk B S F A G X P T) (B + 217) 3 4 = some (.ref (B + 222)) := by
  rw [hp_f, me_at]
  rfl
theorem g217_5 : hp_f (mk B S F A G X P T) (B + 217) 3 5 = some (.int (F 217 5)) := by
  rw [hp_f, me_at]
  rfl
theorem w217_5 : hp_pf (mk B S F A G X P T) (B + 217) 3 5 (.int v) = some (mk B S (f2 F 217 5 v) A G X P T) := by
  rw [hp_pf, me_at]
  exact (if_pos ⟨rfl, rfl, rfl, Nat.le_of_ble_eq_true rfl⟩).trans (congrArg some (me_set f2_other (fun _ _ => rfl) (fun _ => rfl) (fun _ => rfl) (fun _ => rfl) (fun _ _ => rfl) rfl))
theorem e223_is : hp_is (mk B S F A G X P T) (B + 223) 1 := ⟨_, (me_at 223).trans rfl⟩
theorem g223_0 : hp_f (mk B S F A G X P T) (B + 223) 1 0 = some (.ref (B + 224)) := by
  rw [hp_f, me_at]
  rfl
theorem g223_1 : hp_f (mk B S F A G X P T) (B + 223) 1 1 = some (.int (F 223 1)) := by
  rw [hp_f, me_at]
  rfl
theorem w223_1 : hp_pf (mk B S F A G X P T) (B + 223) 1 1 (.int v) = some (mk B S (f2 F 223 1 v) A G X P T) := by
  rw [hp_pf, me_at]
  exact (if_pos ⟨rfl, rfl, rfl, Nat.le_of_ble_eq_true rfl⟩).trans (congrArg some (me_set f2_other (fun _ _ => rfl) (fun _ => rfl) (fun _ => rfl) (fun _ => rfl) (fun _ _ => rfl) rfl))
theorem e225_is : hp_is (mk B S F A G X P T) (B + 225) 1 := ⟨_, (me_at 225).trans rfl⟩
theorem g225_0 : hp_f (mk B S F A G X P T) (B + 225) 1 0 = some (.ref (B + 226)) := by
  rw [hp_f, me_at]
  rfl
theorem g225_1 : hp_f (mk B S F A G X P T) (B + 225) 1 1 = some (.int (F 225 1)) := by
  rw [hp_f, me_at]
  rfl
theorem w225_1 : hp_pf (mk B S F A G X P T) (B + 225) 1 1 (.int v) = some (mk B S (f2 F 225 1 v) A G X P T) := by
  rw [hp_pf, me_at]
  exact (if_pos ⟨rfl, rfl, rfl, Nat.le_of_ble_eq_true rfl⟩).trans (congrArg some (me_set f2_other (fun _ _ => rfl) (fun _ => rfl) (fun _ => rfl) (fun _ => rfl) (fun _ _ => rfl) rfl))
theorem e227_is : hp_is (mk B S F A G X P T) (B + 227) 7 := ⟨_, (me_at 227).trans rfl⟩
theorem g227_0 : hp_f (mk B S F A G X P T) (B + 227) 7 0 = some (.int (P 0)) := by
  rw [hp_f, me_at]
  rfl
theorem w227_0 : hp_pf (mk B S F A G X P T) (B + 227) 7 0 (.int v) = some (mk B S F A G X (p1 P 0 v) T) := by
  rw [hp_pf, me_at]
  exact (if_pos ⟨rfl, rfl, rfl, Nat.le_of_ble_eq_true rfl⟩).trans (congrArg some (me_set (fun _ _ _ => rfl) (fun _ _ => rfl) (fun _ => rfl) (fun _ => rfl) (fun h => absurd rfl h) (fun _ _ => rfl) rfl))
theorem g227_1 : hp_f (mk B S F A G X P T) (B + 227) 7 1 = some (.ref (B + 228)) := by
  rw [hp_f, me_at]
  rfl
theorem g227_2 : hp_f (mk B S F A G X P T) (B + 227) 7 2 = some (.int (P 2)) := by
  rw [hp_f, me_at]
  rfl
theorem w227_2 : hp_pf (mk B S F A G X P T) (B + 227) 7 2 (.int v) = some (mk B S F A G X (p1 P 2 v) T) := by
  rw [hp_pf, me_at]
  exact (if_pos ⟨rfl, rfl, rfl, Nat.le_of_ble_eq_true rfl⟩).trans (congrArg some (me_set (fun _ _ _ => rfl) (fun _ _ => rfl) (fun _ => rfl) (fun _ => rfl) (fun h => absurd rfl h) (fun _ _ => rfl) rfl))
theorem g227_3 : hp_f (mk B S F A G X P T) (B + 227) 7 3 = some (.ref (B + 229)) := by
  rw [hp_f, me_at]
  rfl
theorem g227_4 : hp_f (mk B S F A G X P T) (B + 227) 7 4 = some (.ref (B + 230)) := by
  rw [hp_f, me_at]
  rfl
theorem g227_5 : hp_f (mk B S F A G X P T) (B + 227) 7 5 = some (.int (P 5)) := by
  rw [hp_f, me_at]
  rfl
theorem w227_5 : hp_pf (mk B S F A G X P T) (B + 227) 7 5 (.int v) = some (mk B S F A G X (p1 P 5 v) T) := by
  rw [hp_pf, me_at]
  exact (if_pos ⟨rfl, rfl, rfl, Nat.le_of_ble_eq_true rfl⟩).trans (congrArg some (me_set (fun _ _ _ => rfl) (fun _ _ => rfl) (fun _ => rfl) (fun _ => rfl) (fun h => absurd rfl h) (fun _ _ => rfl) rfl))
theorem g227_6 : hp_f (mk B S F A G X P T) (B + 227) 7 6 = some (.ref (B + 231)) := by
  rw [hp_f, me_at]
  rfl
theorem g227_7 : hp_f (mk B S F A G X P T) (B + 227) 7 7 = some (.ref (B + 232)) := by
  rw [hp_f, me_at]
  rfl
theorem g227_8 : hp_f (mk B S F A G X P T) (B + 227) 7 8 = some (.ref (B + 233)) := by
  rw [hp_f, me_at]
  rfl
theorem g227_9 : hp_f (mk B S F A G X P T) (B + 227) 7 9 = some (.ref (B + 234)) := by
  rw [hp_f, me_at]
  rfl
theorem g227_10 : hp_f (mk B S F A G X P T) (B + 227) 7 10 = some (.ref (B + 235)) := by
  rw [hp_f, me_at]
  rfl
theorem g227_11 : hp_f (mk B S F A G X P T) (B + 227) 7 11 = some (.int (P 11)) := by
  rw [hp_f, me_at]
  rfl
theorem w227_11 (h : v = 0 ∨ v = 1) : hp_pf (mk B S F A G X P T) (B + 227) 7 11 (.int v) = some (mk B S F A G X (p1 P 11 v) T) := by
  rw [hp_pf, me_at]
  exact (if_pos ⟨rfl, by rcases h with rfl | rfl <;> rfl, by rcases h with rfl | rfl <;> rfl, Nat.le_of_ble_eq_true rfl⟩).trans (congrArg some (me_set (fun _ _ _ => rfl) (fun _ _ => rfl) (fun _ => rfl) (fun _ => rfl) (fun h => absurd rfl h) (fun _ _ => rfl) rfl))
theorem g227_12 : hp_f (mk B S F A G X P T) (B + 227) 7 12 = some (.int (P 12)) := by
  rw [hp_f, me_at]
  rfl
theorem w227_12 : hp_pf (mk B S F A G X P T) (B + 227) 7 12 (.int v) = some (mk B S F A G X (p1 P 12 v) T) := by
  rw [hp_pf, me_at]
  exact (if_pos ⟨rfl, rfl, rfl, Nat.le_of_ble_eq_true rfl⟩).trans (congrArg some (me_set (fun _ _ _ => rfl) (fun _ _ => rfl) (fun _ => rfl) (fun _ => rfl) (fun h => absurd rfl h) (fun _ _ => rfl) rfl))
theorem g227_13 : hp_f (mk B S F A G X P T) (B + 227) 7 13 = some (.int (P 13)) := by
  rw [hp_f, me_at]
  rfl
theorem w227_13 : hp_pf (mk B S F A G X P T) (B + 227) 7 13 (.int v) = some (mk B S F A G X (p1 P 13 v) T) := by
  rw [hp_pf, me_at]
  exact (if_pos ⟨rfl, rfl, rfl, Nat.le_of_ble_eq_true rfl⟩).trans (congrArg some (me_set (fun _ _ _ => rfl) (fun _ _ => rfl) (fun _ => rfl) (fun _ => rfl) (fun h => absurd rfl h) (fun _ _ => rfl) rfl))
theorem g227_14 : hp_f (mk B S F A G X P T) (B + 227) 7 14 = some (.int (P 14)) := by
  rw [hp_f, me_at]
  rfl
theorem w227_14 : hp_pf (mk B S F A G X P T) (B + 227) 7 14 (.int v) = some (mk B S F A G X (p1 P 14 v) T) := by
  rw [hp_pf, me_at]
  exact (if_pos ⟨rfl, rfl, rfl, Nat.le_of_ble_eq_true rfl⟩).trans (congrArg some (me_set (fun _ _ _ => rfl) (fun _ _ => rfl) (fun _ => rfl) (fun _ => rfl) (fun h => absurd rfl h) (fun _ _ => rfl) rfl))
theorem g227_15 : hp_f (mk B S F A G X P T) (B + 227) 7 15 = some (.ref (B + 236)) := by
  rw [hp_f, me_at]
  rfl
theorem g227_16 : hp_f (mk B S F A G X P T) (B + 227) 7 16 = some (.int (P 16)) := by
  rw [hp_f, me_at]
  rfl
theorem w227_16 : hp_pf (mk B S F A G X P T) (B + 227) 7 16 (.int v) = some (mk B S F A G X (p1 P 16 v) T) := by
  rw [hp_pf, me_at]
  exact (if_pos ⟨rfl, rfl, rfl, Nat.le_of_ble_eq_true rfl⟩).trans (congrArg some (me_set (fun _ _ _ => rfl) (fun _ _ => rfl) (fun _ => rfl) (fun _ => rfl) (fun h => absurd rfl h) (fun _ _ => rfl) rfl))
theorem g227_17 : hp_f (mk B S F A G X P T) (B + 227) 7 17 = some (.ref (B + 237)) := by
  rw [hp_f, me_at]
  rfl
theorem g227_18 : hp_f (mk B S F A G X P T) (B + 227) 7 18 = some (.ref (B + 238)) := by
  rw [hp_f, me_at]
  rfl
theorem g227_19 : hp_f (mk B S F A G X P T) (B + 227) 7 19 = some (.ref (B + 239)) := by
  rw [hp_f, me_at]
  rfl
theorem g227_20 : hp_f (mk B S F A G X P T) (B + 227) 7 20 = some (.ref (B + 240)) := by
  rw [hp_f, me_at]
  rfl
theorem g227_21 : hp_f (mk B S F A G X P T) (B + 227) 7 21 = some (.ref (B + 241)) := by
  rw [hp_f, me_at]
  rfl
theorem g227_22 : hp_f (mk B S F A G X P T) (B + 227) 7 22 = some (.ref (B + 242)) := by
  rw [hp_f, me_at]
  rfl
theorem g227_23 : hp_f (mk B S F A G X P T) (B + 227) 7 23 = some (.ref (B + 243)) := by
  rw [hp_f, me_at]
  rfl
theorem g227_24 : hp_f (mk B S F A G X P T) (B + 227) 7 24 = some (.ref (B + 244)) := by
  rw [hp_f, me_at]
  rfl
theorem g227_25 : hp_f (mk B S F A G X P T) (B + 227) 7 25 = some (.int (P 25)) := by
  rw [hp_f, me_at]
  rfl
theorem w227_25 : hp_pf (mk B S F A G X P T) (B + 227) 7 25 (.int v) = some (mk B S F A G X (p1 P 25 v) T) := by
  rw [hp_pf, me_at]
  exact (if_pos ⟨rfl, rfl, rfl, Nat.le_of_ble_eq_true rfl⟩).trans (congrArg some (me_set (fun _ _ _ => rfl) (fun _ _ => rfl) (fun _ => rfl) (fun _ => rfl) (fun h => absurd rfl h) (fun _ _ => rfl) rfl))
theorem g227_26 : hp_f (mk B S F A G X P T) (B + 227) 7 26 = some (.int (P 26)) := by
  rw [hp_f, me_at]
  rfl
theorem w227_26 : hp_pf (mk B S F A G X P T) (B + 227) 7 26 (.int v) = some (mk B S F A G X (p1 P 26 v) T) := by
  rw [hp_pf, me_at]
  exact (if_pos ⟨rfl, rfl, rfl, Nat.le_of_ble_eq_true rfl⟩).trans (congrArg some (me_set (fun _ _ _ => rfl) (fun _ _ => rfl) (fun _ => rfl) (fun _ => rfl) (fun h => absurd rfl h) (fun _ _ => rfl) rfl))
theorem g227_27 : hp_f (mk B S F A G X P T) (B + 227) 7 27 = some (.int (P 27)) := by
  rw [hp_f, me_at]
  rfl
theorem w227_27 : hp_pf (mk B S F A G X P T) (B + 227) 7 27 (.int v) = some (mk B S F A G X (p1 P 27 v) T) := by
  rw [hp_pf, me_at]
  exact (if_pos ⟨rfl, rfl, rfl, Nat.le_of_ble_eq_true rfl⟩).trans (congrArg some (me_set (fun _ _ _ => rfl) (fun _ _ => rfl) (fun _ => rfl) (fun _ => rfl) (fun h => absurd rfl h) (fun _ _ => rfl) rfl))
theorem g227_28 : hp_f (mk B S F A G X P T) (B + 227) 7 28 = some (.int (P 28)) := by
  rw [hp_f, me_at]
  rfl
theorem w227_28 (h : v = 0 ∨ v = 1) : hp_pf (mk B S F A G X P T) (B + 227) 7 28 (.int v) = some (mk B S F A G X (p1 P 28 v) T) := by
  rw [hp_pf, me_at]
  exact (if_pos ⟨rfl, by rcases h with rfl | rfl <;> rfl, by rcases h with rfl | rfl <;> rfl, Nat.le_of_ble_eq_true rfl⟩).trans (congrArg some (me_set (fun _ _ _ => rfl) (fun _ _ => rfl) (fun _ => rfl) (fun _ => rfl) (fun h => absurd rfl h) (fun _ _ => rfl) rfl))
theorem g227_29 : hp_f (mk B S F A G X P T) (B + 227) 7 29 = some (.int (P 29)) := by
  rw [hp_f, me_at]
  rfl
theorem w227_29 (h : v = 0 ∨ v = 1) : hp_pf (mk B S F A G X P T) (B + 227) 7 29 (.int v) = some (mk B S F A G X (p1 P 29 v) T) := by
  rw [hp_pf, me_at]
  exact (if_pos ⟨rfl, by rcases h with rfl | rfl <;> rfl, by rcases h with rfl | rfl <;> rfl, Nat.le_of_ble_eq_true rfl⟩).trans (congrArg some (me_set (fun _ _ _ => rfl) (fun _ _ => rfl) (fun _ => rfl) (fun _ => rfl) (fun h => absurd rfl h) (fun _ _ => rfl) rfl))
theorem g227_30 : hp_f (mk B S F A G X P T) (B + 227) 7 30 = some (.ref (B + 245)) := by
  rw [hp_f, me_at]
  rfl
theorem e1_is : hp_is (mk B S F A G X P T) (B + 1) 5 := ⟨_, (me_at 1).trans rfl⟩
theorem g1_0 : hp_f (mk B S F A G X P T) (B + 1) 5 0 = some (.ref (B + 2)) := by
  rw [hp_f, me_at]
  rfl
theorem g1_1 : hp_f (mk B S F A G X P T) (B + 1) 5 1 = some (.int (F 1 1)) := by
  rw [hp_f, me_at]
  rfl
theorem w1_1 : hp_pf (mk B S F A G X P T) (B + 1) 5 1 (.int v) = some (mk B S (f2 F 1 1 v) A G X P T) := by
  rw [hp_pf, me_at]
  exact (if_pos ⟨rfl, rfl, rfl, Nat.le_of_ble_eq_true rfl⟩).trans (congrArg some (me_set f2_other (fun _ _ => rfl) (fun _ => rfl) (fun _ => rfl) (fun _ => rfl) (fun _ _ => rfl) rfl))
theorem e215_is : hp_is (mk B S F A G X P T) (B + 215) 5 := ⟨_, (me_at 215).trans rfl⟩
theorem g215_0 : hp_f (mk B S F A G X P T) (B + 215) 5 0 = some (.ref (B + 216)) := by
  rw [hp_f, me_at]
  rfl
theorem g215_1 : hp_f (mk B S F A G X P T) (B + 215) 5 1 = some (.int (F 215 1)) := by
  rw [hp_f, me_at]
  rfl
theorem w215_1 : hp_pf (mk B S F A G X P T) (B + 215) 5 1 (.int v) = some (mk B S (f2 F 215 1 v) A G X P T) := by
  rw [hp_pf, me_at]
  exact (if_pos ⟨rfl, rfl, rfl, Nat.le_of_ble_eq_true rfl⟩).trans (congrArg some (me_set f2_other (fun _ _ => rfl) (fun _ => rfl) (fun _ => rfl) (fun _ => rfl) (fun _ _ => rfl) rfl))
theorem g2 (h : i < 64) : hp_i sc (mk B S F A G X P T) (B + 2) (nI i) = some (A 2 i) := by
  rw [hp_i, me_at]
  show (if 0 = 0 then (if nI i < 0 ∨ 64 ≤ (nI i).toNatClampNeg then none else some (A 2 (nI i).toNatClampNeg)) else none) = _
  rw [if_pos rfl, if_neg (nI_in h (by decide)), nI_clamp (by omega)]
theorem w2 (h : i < 64) : hp_pi (mk B S F A G X P T) (B + 2) (nI i) v = some (mk B S F (a2 A 2 (upd (A 2) i v)) G X P T) := by
  rw [hp_pi, me_at]
  show (if 0 = 0 then (if nI i < 0 ∨ 64 ≤ (nI i).toNatClampNeg then none else some (xm_set (mk B S F A G X P T) (B + 2) (.inl (0, 64, .inl (upd (A 2) (nI i).toNatClampNeg v))))) else none) = _
  rw [if_pos rfl, if_neg (nI_in h (by decide)), nI_clamp (by omega)]
  exact congrArg some (me_set (fun _ _ _ => rfl) a2_other (fun _ => rfl) (fun _ => rfl) (fun _ => rfl) (fun _ _ => rfl) rfl)
theorem g216 (h : i < 64) : hp_i sc (mk B S F A G X P T) (B + 216) (nI i) = some (A 216 i) := by
  rw [hp_i, me_at]
  show (if 0 = 0 then (if nI i < 0 ∨ 64 ≤ (nI i).toNatClampNeg then none else some (A 216 (nI i).toNatClampNeg)) else none) = _
  rw [if_pos rfl, if_neg (nI_in h (by decide)), nI_clamp (by omega)]
theorem w216 (h : i < 64) : hp_pi (mk B S F A G X P T) (B + 216) (nI i) v = some (mk B S F (a2 A 216 (upd (A 216) i v)) G X P T) := by
  rw [hp_pi, me_at]
  show (if 0 = 0 then (if nI i < 0 ∨ 64 ≤ (nI i).toNatClampNeg then none else some (xm_set (mk B S F A G X P T) (B + 216) (.inl (0, 64, .inl (upd (A 216) (nI i).toNatClampNeg v))))) else none) = _
  rw [if_pos rfl, if_neg (nI_in h (by decide)), nI_clamp (by omega)]
  exact congrArg some (me_set (fun _ _ _ => rfl) a2_other (fun _ => rfl) (fun _ => rfl) (fun _ => rfl) (fun _ _ => rfl) rfl)
theorem g219 (h : i < 3001) : hp_i sc (mk B S F A G X P T) (B + 219) (nI i) = some (A 219 i) := by
  rw [hp_i, me_at]
  show (if 0 = 0 then (if nI i < 0 ∨ 3001 ≤ (nI i).toNatClampNeg then none else some (A 219 (nI i).toNatClampNeg)) else none) = _
  rw [if_pos rfl, if_neg (nI_in h (by decide)), nI_clamp (by omega)]
theorem w219 (h : i < 3001) : hp_pi (mk B S F A G X P T) (B + 219) (nI i) v = some (mk B S F (a2 A 219 (upd (A 219) i v)) G X P T) := by
  rw [hp_pi, me_at]
  show (if 0 = 0 then (if nI i < 0 ∨ 3001 ≤ (nI i).toNatClampNeg then none else some (xm_set (mk B S F A G X P T) (B + 219) (.inl (0, 3001, .inl (upd (A 219) (nI i).toNatClampNeg v))))) else none) = _
  rw [if_pos rfl, if_neg (nI_in h (by decide)), nI_clamp (by omega)]
  exact congrArg some (me_set (fun _ _ _ => rfl) a2_other (fun _ => rfl) (fun _ => rfl) (fun _ => rfl) (fun _ _ => rfl) rfl)
theorem g220 (h : i < 3001) : hp_i sc (mk B S F A G X P T) (B + 220) (nI i) = some (A 220 i) := by
  rw [hp_i, me_at]
  show (if 0 = 0 then (if nI i < 0 ∨ 3001 ≤ (nI i).toNatClampNeg then none else some (A 220 (nI i).toNatClampNeg)) else none) = _
  rw [if_pos rfl, if_neg (nI_in h (by decide)), nI_clamp (by omega)]
theorem w220 (h : i < 3001) : hp_pi (mk B S F A G X P T) (B + 220) (nI i) v = some (mk B S F (a2 A 220 (upd (A 220) i v)) G X P T) := by
  rw [hp_pi, me_at]
  show (if 0 = 0 then (if nI i < 0 ∨ 3001 ≤ (nI i).toNatClampNeg then none else some (xm_set (mk B S F A G X P T) (B + 220) (.inl (0, 3001, .inl (upd (A 220) (nI i).toNatClampNeg v))))) else none) = _
  rw [if_pos rfl, if_neg (nI_in h (by decide)), nI_clamp (by omega)]
  exact congrArg some (me_set (fun _ _ _ => rfl) a2_other (fun _ => rfl) (fun _ => rfl) (fun _ => rfl) (fun _ _ => rfl) rfl)
theorem g221 (h : i < 3001) : hp_i sc (mk B S F A G X P T) (B + 221) (nI i) = some (A 221 i) := by
  rw [hp_i, me_at]
  show (if 0 = 0 then (if nI i < 0 ∨ 3001 ≤ (nI i).toNatClampNeg then none else some (A 221 (nI i).toNatClampNeg)) else none) = _
  rw [if_pos rfl, if_neg (nI_in h (by decide)), nI_clamp (by omega)]
theorem w221 (h : i < 3001) : hp_pi (mk B S F A G X P T) (B + 221) (nI i) v = some (mk B S F (a2 A 221 (upd (A 221) i v)) G X P T) := by
  rw [hp_pi, me_at]
  show (if 0 = 0 then (if nI i < 0 ∨ 3001 ≤ (nI i).toNatClampNeg then none else some (xm_set (mk B S F A G X P T) (B + 221) (.inl (0, 3001, .inl (upd (A 221) (nI i).toNatClampNeg v))))) else none) = _
  rw [if_pos rfl, if_neg (nI_in h (by decide)), nI_clamp (by omega)]
  exact congrArg some (me_set (fun _ _ _ => rfl) a2_other (fun _ => rfl) (fun _ => rfl) (fun _ => rfl) (fun _ _ => rfl) rfl)
theorem g222 (h : i < 3001) : hp_i sc (mk B S F A G X P T) (B + 222) (nI i) = some (A 222 i) := by
  rw [hp_i, me_at]
  show (if 0 = 0 then (if nI i < 0 ∨ 3001 ≤ (nI i).toNatClampNeg then none else some (A 222 (nI i).toNatClampNeg)) else none) = _
  rw [if_pos rfl, if_neg (nI_in h (by decide)), nI_clamp (by omega)]
theorem w222 (h : i < 3001) : hp_pi (mk B S F A G X P T) (B + 222) (nI i) v = some (mk B S F (a2 A 222 (upd (A 222) i v)) G X P T) := by
  rw [hp_pi, me_at]
  show (if 0 = 0 then (if nI i < 0 ∨ 3001 ≤ (nI i).toNatClampNeg then none else some (xm_set (mk B S F A G X P T) (B + 222) (.inl (0, 3001, .inl (upd (A 222) (nI i).toNatClampNeg v))))) else none) = _
  rw [if_pos rfl, if_neg (nI_in h (by decide)), nI_clamp (by omega)]
  exact congrArg some (me_set (fun _ _ _ => rfl) a2_other (fun _ => rfl) (fun _ => rfl) (fun _ => rfl) (fun _ _ => rfl) rfl)
theorem g224 (h : i < 3000) : hp_i sc (mk B S F A G X P T) (B + 224) (nI i) = some (A 224 i) := by
  rw [hp_i, me_at]
  show (if 0 = 0 then (if nI i < 0 ∨ 3000 ≤ (nI i).toNatClampNeg then none else some (A 224 (nI i).toNatClampNeg)) else none) = _
  rw [if_pos rfl, if_neg (nI_in h (by decide)), nI_clamp (by omega)]
theorem w224 (h : i < 3000) : hp_pi (mk B S F A G X P T) (B + 224) (nI i) v = some (mk B S F (a2 A 224 (upd (A 224) i v)) G X P T) := by
  rw [hp_pi, me_at]
  show (if 0 = 0 then (if nI i < 0 ∨ 3000 ≤ (nI i).toNatClampNeg then none else some (xm_set (mk B S F A G X P T) (B + 224) (.inl (0, 3000, .inl (upd (A 224) (nI i).toNatClampNeg v))))) else none) = _
  rw [if_pos rfl, if_neg (nI_in h (by decide)), nI_clamp (by omega)]
  exact congrArg some (me_set (fun _ _ _ => rfl) a2_other (fun _ => rfl) (fun _ => rfl) (fun _ => rfl) (fun _ _ => rfl) rfl)
theorem g226 (h : i < 3000) : hp_i sc (mk B S F A G X P T) (B + 226) (nI i) = some (A 226 i) := by
  rw [hp_i, me_at]
  show (if 0 = 0 then (if nI i < 0 ∨ 3000 ≤ (nI i).toNatClampNeg then none else some (A 226 (nI i).toNatClampNeg)) else none) = _
  rw [if_pos rfl, if_neg (nI_in h (by decide)), nI_clamp (by omega)]
theorem w226 (h : i < 3000) : hp_pi (mk B S F A G X P T) (B + 226) (nI i) v = some (mk B S F (a2 A 226 (upd (A 226) i v)) G X P T) := by
  rw [hp_pi, me_at]
  show (if 0 = 0 then (if nI i < 0 ∨ 3000 ≤ (nI i).toNatClampNeg then none else some (xm_set (mk B S F A G X P T) (B + 226) (.inl (0, 3000, .inl (upd (A 226) (nI i).toNatClampNeg v))))) else none) = _
  rw [if_pos rfl, if_neg (nI_in h (by decide)), nI_clamp (by omega)]
  exact congrArg some (me_set (fun _ _ _ => rfl) a2_other (fun _ => rfl) (fun _ => rfl) (fun _ => rfl) (fun _ _ => rfl) rfl)
theorem g228 (h : i < 64) : hp_b (mk B S F A G X P T) (B + 228) (nI i) = some (T 228 i) := by
  rw [hp_b, me_at]
  show (if 1 = 1 ∨ 1 = 2 then (if nI i < 0 ∨ 64 ≤ (nI i).toNatClampNeg then none else some (T 228 (nI i).toNatClampNeg)) else none) = _
  rw [if_pos (by decide), if_neg (nI_in h (by decide)), nI_clamp (by omega)]
theorem w228 (h : i < 64) : hp_pb (mk B S F A G X P T) (B + 228) (nI i) v = some (mk B S F A G X P (a2 T 228 (upd (T 228) i (vp_nar .byte v)))) := by
  rw [hp_pb, me_at]
  refine Eq.trans (b := some (xm_set (mk B S F A G X P T) (B + 228) (.inl (1, 64, .inl (upd (T 228) (nI i).toNatClampNeg (vp_nar .byte v)))))) ?_ ?_
  · exact (if_neg (nI_in h (by decide))).trans (if_pos rfl)
  · rw [nI_clamp (by omega)]
    exact congrArg some (me_set (fun _ _ _ => rfl) (fun _ _ => rfl) (fun _ => rfl) (fun _ => rfl) (fun _ => rfl) a2_other rfl)
theorem g229 (h : i < 512) : hp_b (mk B S F A G X P T) (B + 229) (nI i) = some (T 229 i) := by
  rw [hp_b, me_at]
  show (if 1 = 1 ∨ 1 = 2 then (if nI i < 0 ∨ 512 ≤ (nI i).toNatClampNeg then none else some (T 229 (nI i).toNatClampNeg)) else none) = _
  rw [if_pos (by decide), if_neg (nI_in h (by decide)), nI_clamp (by omega)]
theorem w229 (h : i < 512) : hp_pb (mk B S F A G X P T) (B + 229) (nI i) v = some (mk B S F A G X P (a2 T 229 (upd (T 229) i (vp_nar .byte v)))) := by
  rw [hp_pb, me_at]
  refine Eq.trans (b := some (xm_set (mk B S F A G X P T) (B + 229) (.inl (1, 512, .inl (upd (T 229) (nI i).toNatClampNeg (vp_nar .byte v)))))) ?_ ?_
  · exact (if_neg (nI_in h (by decide))).trans (if_pos rfl)
  · rw [nI_clamp (by omega)]
    exact congrArg some (me_set (fun _ _ _ => rfl) (fun _ _ => rfl) (fun _ => rfl) (fun _ => rfl) (fun _ => rfl) a2_other rfl)
theorem g230 (h : i < 8) : hp_i sc (mk B S F A G X P T) (B + 230) (nI i) = some (T 230 i) := by
  rw [hp_i, me_at]
  show (if 0 = 0 then (if nI i < 0 ∨ 8 ≤ (nI i).toNatClampNeg then none else some (T 230 (nI i).toNatClampNeg)) else none) = _
  rw [if_pos rfl, if_neg (nI_in h (by decide)), nI_clamp (by omega)]
theorem w230 (h : i < 8) : hp_pi (mk B S F A G X P T) (B + 230) (nI i) v = some (mk B S F A G X P (a2 T 230 (upd (T 230) i v))) := by
  rw [hp_pi, me_at]
  show (if 0 = 0 then (if nI i < 0 ∨ 8 ≤ (nI i).toNatClampNeg then none else some (xm_set (mk B S F A G X P T) (B + 230) (.inl (0, 8, .inl (upd (T 230) (nI i).toNatClampNeg v))))) else none) = _
  rw [if_pos rfl, if_neg (nI_in h (by decide)), nI_clamp (by omega)]
  exact congrArg some (me_set (fun _ _ _ => rfl) (fun _ _ => rfl) (fun _ => rfl) (fun _ => rfl) (fun _ => rfl) a2_other rfl)
theorem g231 (h : i < 64) : hp_i sc (mk B S F A G X P T) (B + 231) (nI i) = some (T 231 i) := by
  rw [hp_i, me_at]
  show (if 0 = 0 then (if nI i < 0 ∨ 64 ≤ (nI i).toNatClampNeg then none else some (T 231 (nI i).toNatClampNeg)) else none) = _
  rw [if_pos rfl, if_neg (nI_in h (by decide)), nI_clamp (by omega)]
theorem w231 (h : i < 64) : hp_pi (mk B S F A G X P T) (B + 231) (nI i) v = some (mk B S F A G X P (a2 T 231 (upd (T 231) i v))) := by
  rw [hp_pi, me_at]
  show (if 0 = 0 then (if nI i < 0 ∨ 64 ≤ (nI i).toNatClampNeg then none else some (xm_set (mk B S F A G X P T) (B + 231) (.inl (0, 64, .inl (upd (T 231) (nI i).toNatClampNeg v))))) else none) = _
  rw [if_pos rfl, if_neg (nI_in h (by decide)), nI_clamp (by omega)]
  exact congrArg some (me_set (fun _ _ _ => rfl) (fun _ _ => rfl) (fun _ => rfl) (fun _ => rfl) (fun _ => rfl) a2_other rfl)
theorem g232 (h : i < 64) : hp_i sc (mk B S F A G X P T) (B + 232) (nI i) = some (T 232 i) := by
  rw [hp_i, me_at]
  show (if 0 = 0 then (if nI i < 0 ∨ 64 ≤ (nI i).toNatClampNeg then none else some (T 232 (nI i).toNatClampNeg)) else none) = _
  rw [if_pos rfl, if_neg (nI_in h (by decide)), nI_clamp (by omega)]
theorem w232 (h : i < 64) : hp_pi (mk B S F A G X P T) (B + 232) (nI i) v = some (mk B S F A G X P (a2 T 232 (upd (T 232) i v))) := by
  rw [hp_pi, me_at]
  show (if 0 = 0 then (if nI i < 0 ∨ 64 ≤ (nI i).toNatClampNeg then none else some (xm_set (mk B S F A G X P T) (B + 232) (.inl (0, 64, .inl (upd (T 232) (nI i).toNatClampNeg v))))) else none) = _
  rw [if_pos rfl, if_neg (nI_in h (by decide)), nI_clamp (by omega)]
  exact congrArg some (me_set (fun _ _ _ => rfl) (fun _ _ => rfl) (fun _ => rfl) (fun _ => rfl) (fun _ => rfl) a2_other rfl)
theorem g233 (h : i < 64) : hp_i sc (mk B S F A G X P T) (B + 233) (nI i) = some (T 233 i) := by
  rw [hp_i, me_at]
  show (if 0 = 0 then (if nI i < 0 ∨ 64 ≤ (nI i).toNatClampNeg then none else some (T 233 (nI i).toNatClampNeg)) else none) = _
  rw [if_pos rfl, if_neg (nI_in h (by decide)), nI_clamp (by omega)]
theorem w233 (h : i < 64) : hp_pi (mk B S F A G X P T) (B + 233) (nI i) v = some (mk B S F A G X P (a2 T 233 (upd (T 233) i v))) := by
  rw [hp_pi, me_at]
  show (if 0 = 0 then (if nI i < 0 ∨ 64 ≤ (nI i).toNatClampNeg then none else some (xm_set (mk B S F A G X P T) (B + 233) (.inl (0, 64, .inl (upd (T 233) (nI i).toNatClampNeg v))))) else none) = _
  rw [if_pos rfl, if_neg (nI_in h (by decide)), nI_clamp (by omega)]
  exact congrArg some (me_set (fun _ _ _ => rfl) (fun _ _ => rfl) (fun _ => rfl) (fun _ => rfl) (fun _ => rfl) a2_other rfl)
theorem g234 (h : i < 4096) : hp_b (mk B S F A G X P T) (B + 234) (nI i) = some (T 234 i) := by
  rw [hp_b, me_at]
  show (if 1 = 1 ∨ 1 = 2 then (if nI i < 0 ∨ 4096 ≤ (nI i).toNatClampNeg then none else some (T 234 (nI i).toNatClampNeg)) else none) = _
  rw [if_pos (by decide), if_neg (nI_in h (by decide)), nI_clamp (by omega)]
theorem w234 (h : i < 4096) : hp_pb (mk B S F A G X P T) (B + 234) (nI i) v = some (mk B S F A G X P (a2 T 234 (upd (T 234) i (vp_nar .byte v)))) := by
  rw [hp_pb, me_at]
  refine Eq.trans (b := some (xm_set (mk B S F A G X P T) (B + 234) (.inl (1, 4096, .inl (upd (T 234) (nI i).toNatClampNeg (vp_nar .byte v)))))) ?_ ?_
  · exact (if_neg (nI_in h (by decide))).trans (if_pos rfl)
  · rw [nI_clamp (by omega)]
    exact congrArg some (me_set (fun _ _ _ => rfl) (fun _ _ => rfl) (fun _ => rfl) (fun _ => rfl) (fun _ => rfl) a2_other rfl)
theorem g235 (h : i < 64) : hp_i sc (mk B S F A G X P T) (B + 235) (nI i) = some (T 235 i) := by
  rw [hp_i, me_at]
  show (if 0 = 0 then (if nI i < 0 ∨ 64 ≤ (nI i).toNatClampNeg then none else some (T 235 (nI i).toNatClampNeg)) else none) = _
  rw [if_pos rfl, if_neg (nI_in h (by decide)), nI_clamp (by omega)]
theorem w235 (h : i < 64) : hp_pi (mk B S F A G X P T) (B + 235) (nI i) v = some (mk B S F A G X P (a2 T 235 (upd (T 235) i v))) := by
  rw [hp_pi, me_at]
  show (if 0 = 0 then (if nI i < 0 ∨ 64 ≤ (nI i).toNatClampNeg then none else some (xm_set (mk B S F A G X P T) (B + 235) (.inl (0, 64, .inl (upd (T 235) (nI i).toNatClampNeg v))))) else none) = _
  rw [if_pos rfl, if_neg (nI_in h (by decide)), nI_clamp (by omega)]
  exact congrArg some (me_set (fun _ _ _ => rfl) (fun _ _ => rfl) (fun _ => rfl) (fun _ => rfl) (fun _ => rfl) a2_other rfl)
theorem g236 (h : i < 64) : hp_b (mk B S F A G X P T) (B + 236) (nI i) = some (T 236 i) := by
  rw [hp_b, me_at]
  show (if 1 = 1 ∨ 1 = 2 then (if nI i < 0 ∨ 64 ≤ (nI i).toNatClampNeg then none else some (T 236 (nI i).toNatClampNeg)) else none) = _
  rw [if_pos (by decide), if_neg (nI_in h (by decide)), nI_clamp (by omega)]
theorem w236 (h : i < 64) : hp_pb (mk B S F A G X P T) (B + 236) (nI i) v = some (mk B S F A G X P (a2 T 236 (upd (T 236) i (vp_nar .byte v)))) := by
  rw [hp_pb, me_at]
  refine Eq.trans (b := some (xm_set (mk B S F A G X P T) (B + 236) (.inl (1, 64, .inl (upd (T 236) (nI i).toNatClampNeg (vp_nar .byte v)))))) ?_ ?_
  · exact (if_neg (nI_in h (by decide))).trans (if_pos rfl)
  · rw [nI_clamp (by omega)]
    exact congrArg some (me_set (fun _ _ _ => rfl) (fun _ _ => rfl) (fun _ => rfl) (fun _ => rfl) (fun _ => rfl) a2_other rfl)
theorem g237 (h : i < 3000) : hp_i sc (mk B S F A G X P T) (B + 237) (nI i) = some (T 237 i) := by
  rw [hp_i, me_at]
  show (if 0 = 0 then (if nI i < 0 ∨ 3000 ≤ (nI i).toNatClampNeg then none else some (T 237 (nI i).toNatClampNeg)) else none) = _
  rw [if_pos rfl, if_neg (nI_in h (by decide)), nI_clamp (by omega)]
theorem w237 (h : i < 3000) : hp_pi (mk B S F A G X P T) (B + 237) (nI i) v = some (mk B S F A G X P (a2 T 237 (upd (T 237) i v))) := by
  rw [hp_pi, me_at]
  show (if 0 = 0 then (if nI i < 0 ∨ 3000 ≤ (nI i).toNatClampNeg then none else some (xm_set (mk B S F A G X P T) (B + 237) (.inl (0, 3000, .inl (upd (T 237) (nI i).toNatClampNeg v))))) else none) = _
  rw [if_pos rfl, if_neg (nI_in h (by decide)), nI_clamp (by omega)]
  exact congrArg some (me_set (fun _ _ _ => rfl) (fun _ _ => rfl) (fun _ => rfl) (fun _ => rfl) (fun _ => rfl) a2_other rfl)
theorem g238 (h : i < 3000) : hp_i sc (mk B S F A G X P T) (B + 238) (nI i) = some (T 238 i) := by
  rw [hp_i, me_at]
  show (if 0 = 0 then (if nI i < 0 ∨ 3000 ≤ (nI i).toNatClampNeg then none else some (T 238 (nI i).toNatClampNeg)) else none) = _
  rw [if_pos rfl, if_neg (nI_in h (by decide)), nI_clamp (by omega)]
theorem w238 (h : i < 3000) : hp_pi (mk B S F A G X P T) (B + 238) (nI i) v = some (mk B S F A G X P (a2 T 238 (upd (T 238) i v))) := by
  rw [hp_pi, me_at]
  show (if 0 = 0 then (if nI i < 0 ∨ 3000 ≤ (nI i).toNatClampNeg then none else some (xm_set (mk B S F A G X P T) (B + 238) (.inl (0, 3000, .inl (upd (T 238) (nI i).toNatClampNeg v))))) else none) = _
  rw [if_pos rfl, if_neg (nI_in h (by decide)), nI_clamp (by omega)]
  exact congrArg some (me_set (fun _ _ _ => rfl) (fun _ _ => rfl) (fun _ => rfl) (fun _ => rfl) (fun _ => rfl) a2_other rfl)
theorem g239 (h : i < 3000) : hp_i sc (mk B S F A G X P T) (B + 239) (nI i) = some (T 239 i) := by
  rw [hp_i, me_at]
  show (if 0 = 0 then (if nI i < 0 ∨ 3000 ≤ (nI i).toNatClampNeg then none else some (T 239 (nI i).toNatClampNeg)) else none) = _
  rw [if_pos rfl, if_neg (nI_in h (by decide)), nI_clamp (by omega)]
theorem w239 (h : i < 3000) : hp_pi (mk B S F A G X P T) (B + 239) (nI i) v = some (mk B S F A G X P (a2 T 239 (upd (T 239) i v))) := by
  rw [hp_pi, me_at]
  show (if 0 = 0 then (if nI i < 0 ∨ 3000 ≤ (nI i).toNatClampNeg then none else some (xm_set (mk B S F A G X P T) (B + 239) (.inl (0, 3000, .inl (upd (T 239) (nI i).toNatClampNeg v))))) else none) = _
  rw [if_pos rfl, if_neg (nI_in h (by decide)), nI_clamp (by omega)]
  exact congrArg some (me_set (fun _ _ _ => rfl) (fun _ _ => rfl) (fun _ => rfl) (fun _ => rfl) (fun _ => rfl) a2_other rfl)
theorem g240 (h : i < 3000) : hp_i sc (mk B S F A G X P T) (B + 240) (nI i) = some (T 240 i) := by
  rw [hp_i, me_at]
  show (if 0 = 0 then (if nI i < 0 ∨ 3000 ≤ (nI i).toNatClampNeg then none else some (T 240 (nI i).toNatClampNeg)) else none) = _
  rw [if_pos rfl, if_neg (nI_in h (by decide)), nI_clamp (by omega)]
theorem w240 (h : i < 3000) : hp_pi (mk B S F A G X P T) (B + 240) (nI i) v = some (mk B S F A G X P (a2 T 240 (upd (T 240) i v))) := by
  rw [hp_pi, me_at]
  show (if 0 = 0 then (if nI i < 0 ∨ 3000 ≤ (nI i).toNatClampNeg then none else some (xm_set (mk B S F A G X P T) (B + 240) (.inl (0, 3000, .inl (upd (T 240) (nI i).toNatClampNeg v))))) else none) = _
  rw [if_pos rfl, if_neg (nI_in h (by decide)), nI_clamp (by omega)]
  exact congrArg some (me_set (fun _ _ _ => rfl) (fun _ _ => rfl) (fun _ => rfl) (fun _ => rfl) (fun _ => rfl) a2_other rfl)
theorem g241 (h : i < 3000) : hp_i sc (mk B S F A G X P T) (B + 241) (nI i) = some (T 241 i) := by
  rw [hp_i, me_at]
  show (if 0 = 0 then (if nI i < 0 ∨ 3000 ≤ (nI i).toNatClampNeg then none else some (T 241 (nI i).toNatClampNeg)) else none) = _
  rw [if_pos rfl, if_neg (nI_in h (by decide)), nI_clamp (by omega)]
theorem w241 (h : i < 3000) : hp_pi (mk B S F A G X P T) (B + 241) (nI i) v = some (mk B S F A G X P (a2 T 241 (upd (T 241) i v))) := by
  rw [hp_pi, me_at]
  show (if 0 = 0 then (if nI i < 0 ∨ 3000 ≤ (nI i).toNatClampNeg then none else some (xm_set (mk B S F A G X P T) (B + 241) (.inl (0, 3000, .inl (upd (T 241) (nI i).toNatClampNeg v))))) else none) = _
  rw [if_pos rfl, if_neg (nI_in h (by decide)), nI_clamp (by omega)]
  exact congrArg some (me_set (fun _ _ _ => rfl) (fun _ _ => rfl) (fun _ => rfl) (fun _ => rfl) (fun _ => rfl) a2_other rfl)
theorem g242 (h : i < 3000) : hp_i sc (mk B S F A G X P T) (B + 242) (nI i) = some (T 242 i) := by
  rw [hp_i, me_at]
  show (if 0 = 0 then (if nI i < 0 ∨ 3000 ≤ (nI i).toNatClampNeg then none else some (T 242 (nI i).toNatClampNeg)) else none) = _
  rw [if_pos rfl, if_neg (nI_in h (by decide)), nI_clamp (by omega)]
theorem w242 (h : i < 3000) : hp_pi (mk B S F A G X P T) (B + 242) (nI i) v = some (mk B S F A G X P (a2 T 242 (upd (T 242) i v))) := by
  rw [hp_pi, me_at]
  show (if 0 = 0 then (if nI i < 0 ∨ 3000 ≤ (nI i).toNatClampNeg then none else some (xm_set (mk B S F A G X P T) (B + 242) (.inl (0, 3000, .inl (upd (T 242) (nI i).toNatClampNeg v))))) else none) = _
  rw [if_pos rfl, if_neg (nI_in h (by decide)), nI_clamp (by omega)]
  exact congrArg some (me_set (fun _ _ _ => rfl) (fun _ _ => rfl) (fun _ => rfl) (fun _ => rfl) (fun _ => rfl) a2_other rfl)
theorem g243 (h : i < 3000) : hp_b (mk B S F A G X P T) (B + 243) (nI i) = some (T 243 i) := by
  rw [hp_b, me_at]
  show (if 2 = 1 ∨ 2 = 2 then (if nI i < 0 ∨ 3000 ≤ (nI i).toNatClampNeg then none else some (T 243 (nI i).toNatClampNeg)) else none) = _
  rw [if_pos (by decide), if_neg (nI_in h (by decide)), nI_clamp (by omega)]
theorem w243 (h : i < 3000) : hp_pb (mk B S F A G X P T) (B + 243) (nI i) v = some (mk B S F A G X P (a2 T 243 (upd (T 243) i (vp_nar .boolean v)))) := by
  rw [hp_pb, me_at]
  refine Eq.trans (b := some (xm_set (mk B S F A G X P T) (B + 243) (.inl (2, 3000, .inl (upd (T 243) (nI i).toNatClampNeg (vp_nar .boolean v)))))) ?_ ?_
  · exact (if_neg (nI_in h (by decide))).trans ((if_neg (by decide)).trans (if_pos rfl))
  · rw [nI_clamp (by omega)]
    exact congrArg some (me_set (fun _ _ _ => rfl) (fun _ _ => rfl) (fun _ => rfl) (fun _ => rfl) (fun _ => rfl) a2_other rfl)
theorem g244 (h : i < 3000) : hp_i sc (mk B S F A G X P T) (B + 244) (nI i) = some (T 244 i) := by
  rw [hp_i, me_at]
  show (if 0 = 0 then (if nI i < 0 ∨ 3000 ≤ (nI i).toNatClampNeg then none else some (T 244 (nI i).toNatClampNeg)) else none) = _
  rw [if_pos rfl, if_neg (nI_in h (by decide)), nI_clamp (by omega)]
theorem w244 (h : i < 3000) : hp_pi (mk B S F A G X P T) (B + 244) (nI i) v = some (mk B S F A G X P (a2 T 244 (upd (T 244) i v))) := by
  rw [hp_pi, me_at]
  show (if 0 = 0 then (if nI i < 0 ∨ 3000 ≤ (nI i).toNatClampNeg then none else some (xm_set (mk B S F A G X P T) (B + 244) (.inl (0, 3000, .inl (upd (T 244) (nI i).toNatClampNeg v))))) else none) = _
  rw [if_pos rfl, if_neg (nI_in h (by decide)), nI_clamp (by omega)]
  exact congrArg some (me_set (fun _ _ _ => rfl) (fun _ _ => rfl) (fun _ => rfl) (fun _ => rfl) (fun _ => rfl) a2_other rfl)
theorem g245 (h : i < 3000) : hp_i sc (mk B S F A G X P T) (B + 245) (nI i) = some (T 245 i) := by
  rw [hp_i, me_at]
  show (if 0 = 0 then (if nI i < 0 ∨ 3000 ≤ (nI i).toNatClampNeg then none else some (T 245 (nI i).toNatClampNeg)) else none) = _
  rw [if_pos rfl, if_neg (nI_in h (by decide)), nI_clamp (by omega)]
theorem w245 (h : i < 3000) : hp_pi (mk B S F A G X P T) (B + 245) (nI i) v = some (mk B S F A G X P (a2 T 245 (upd (T 245) i v))) := by
  rw [hp_pi, me_at]
  show (if 0 = 0 then (if nI i < 0 ∨ 3000 ≤ (nI i).toNatClampNeg then none else some (xm_set (mk B S F A G X P T) (B + 245) (.inl (0, 3000, .inl (upd (T 245) (nI i).toNatClampNeg v))))) else none) = _
  rw [if_pos rfl, if_neg (nI_in h (by decide)), nI_clamp (by omega)]
  exact congrArg some (me_set (fun _ _ _ => rfl) (fun _ _ => rfl) (fun _ => rfl) (fun _ => rfl) (fun _ => rfl) a2_other rfl)
theorem g4 (h : i < 8) : hp_q (mk B S F A G X P T) (B + 4) (nI i) = some (.ref (B + (6 + 2 * i))) := by
  rw [hp_q, me_at]
  show (if 3 ≤ 3 ∧ 3 < pg_at.length then (if nI i < 0 ∨ 8 ≤ (nI i).toNatClampNeg then none else some (va_rf (me_vs B (nI i).toNatClampNeg))) else none) = _
  rw [if_pos (by decide), if_neg (nI_in h (by decide)), nI_clamp (by omega), me_vs, if_pos h]
  rfl
theorem g5 (h : i < 64) : hp_q (mk B S F A G X P T) (B + 5) (nI i) = some (.ref (B + (22 + 3 * i))) := by
  rw [hp_q, me_at]
  show (if 3 ≤ 4 ∧ 4 < pg_at.length then (if nI i < 0 ∨ 64 ≤ (nI i).toNatClampNeg then none else some (va_rf (me_ns B (nI i).toNatClampNeg))) else none) = _
  rw [if_pos (by decide), if_neg (nI_in h (by decide)), nI_clamp (by omega), me_ns, if_pos h]
  rfl
theorem g218 (h : i < 3001) : hp_q (mk B S F A G X P T) (B + 218) (nI i) = some (va_rf (G i)) := by
  rw [hp_q, me_at]
  show (if 3 ≤ 4 ∧ 4 < pg_at.length then (if nI i < 0 ∨ 3001 ≤ (nI i).toNatClampNeg then none else some (va_rf (G (nI i).toNatClampNeg))) else none) = _
  rw [if_pos (by decide), if_neg (nI_in h (by decide)), nI_clamp (by omega)]
theorem me_txt {o : Nat} (h : me_tx o) : (mk B S F A G X P T).2.2 (B + o) = some (.inr (5, [.ref (B + (o + 1)), .int (F o 1)])) := by
  rw [me_at]
  have hm : me_ml o = none := by
    unfold me_ml
    unfold me_tx at h
    split <;> first | rfl | (exfalso; omega)
  unfold me_c
  rw [hm]
  unfold me_tx at h
  rw [if_neg (by omega), if_neg (by omega), if_neg (by omega), if_neg (by omega), if_neg (by omega), if_neg (by omega), if_neg (by omega), if_neg (by omega), if_neg (by omega), if_neg (by omega), if_neg (by omega)]
  exact if_pos h
theorem me_arr {o : Nat} (h : me_ar o) : (mk B S F A G X P T).2.2 (B + o) = some (.inl (0, 64, .inl (A o))) := by
  rw [me_at]
  have hm : me_ml o = none := by
    unfold me_ml
    unfold me_ar at h
    split <;> first | rfl | (exfalso; omega)
  unfold me_c
  rw [hm]
  unfold me_ar at h
  rw [if_neg (by omega), if_neg (by omega), if_neg (by omega), if_neg (by omega), if_neg (by omega), if_neg (by omega), if_neg (by omega), if_neg (by omega), if_neg (by omega), if_neg (by omega), if_neg (by omega)]
  dsimp only
  rw [if_neg (by omega)]
  exact if_pos h
theorem me_nod (h : i < 64) : (mk B S F A G X P T).2.2 (B + (22 + 3 * i)) = some (.inr (0, [.ref (B + (22 + 3 * i + 1)), .int (F (22 + 3 * i) 1), .int (F (22 + 3 * i) 2), .int (F (22 + 3 * i) 3)])) := by
  rw [me_at]
  have hm : me_ml (22 + 3 * i) = none := by
    generalize ho : 22 + 3 * i = o
    unfold me_ml
    split <;> first | rfl | (exfalso; omega)
  unfold me_c
  rw [hm]
  rw [if_neg (by omega), if_neg (by omega), if_neg (by omega), if_neg (by omega), if_neg (by omega), if_neg (by omega), if_neg (by omega), if_neg (by omega), if_neg (by omega), if_neg (by omega), if_neg (by omega)]
  dsimp only
  rw [if_neg (by omega), if_neg (by omega)]
  exact if_pos (by omega)
theorem me_txS {o : Nat} (h : me_tx o) : xm_set (mk B S F A G X P T) (B + o) (.inr (5, [.ref (B + (o + 1)), .int v])) = mk B S (f2 F o 1 v) A G X P T := by
  refine me_set f2_other (fun _ _ => rfl) (fun _ => rfl) (fun _ => rfl) (fun _ => rfl) (fun _ _ => rfl) ?_
  rw [← me_at (S := S), me_txt h, f2_s]
theorem me_arS {o : Nat} {f : Nat → Int32} (h : me_ar o) : xm_set (mk B S F A G X P T) (B + o) (.inl (0, 64, .inl f)) = mk B S F (a2 A o f) G X P T := by
  refine me_set (fun _ _ _ => rfl) a2_other (fun _ => rfl) (fun _ => rfl) (fun _ => rfl) (fun _ _ => rfl) ?_
  rw [← me_at (S := S), me_arr h, a2_s]
theorem wn_1 (h : i < 64) : hp_pf (mk B S F A G X P T) (B + (22 + 3 * i)) 0 1 (.int v) = some (mk B S (f2 F (22 + 3 * i) 1 v) A G X P T) := by
  rw [hp_pf, me_nod h]
  refine (if_pos ⟨rfl, rfl, rfl, Nat.le_of_ble_eq_true rfl⟩).trans (congrArg some (me_set f2_other (fun _ _ => rfl) (fun _ => rfl) (fun _ => rfl) (fun _ => rfl) (fun _ _ => rfl) ?_))
  rw [← me_at (S := S), me_nod h]
  simp [f2]
theorem wn_2 (h : i < 64) : hp_pf (mk B S F A G X P T) (B + (22 + 3 * i)) 0 2 (.int v) = some (mk B S (f2 F (22 + 3 * i) 2 v) A G X P T) := by
  rw [hp_pf, me_nod h]
  refine (if_pos ⟨rfl, rfl, rfl, Nat.le_of_ble_eq_true rfl⟩).trans (congrArg some (me_set f2_other (fun _ _ => rfl) (fun _ => rfl) (fun _ => rfl) (fun _ => rfl) (fun _ _ => rfl) ?_))
  rw [← me_at (S := S), me_nod h]
  simp [f2]
theorem wn_3 (h : i < 64) : hp_pf (mk B S F A G X P T) (B + (22 + 3 * i)) 0 3 (.int v) = some (mk B S (f2 F (22 + 3 * i) 3 v) A G X P T) := by
  rw [hp_pf, me_nod h]
  refine (if_pos ⟨rfl, rfl, rfl, Nat.le_of_ble_eq_true rfl⟩).trans (congrArg some (me_set f2_other (fun _ _ => rfl) (fun _ => rfl) (fun _ => rfl) (fun _ => rfl) (fun _ _ => rfl) ?_))
  rw [← me_at (S := S), me_nod h]
  simp [f2]
theorem gn_0 (h : i < 64) : hp_f (mk B S F A G X P T) (B + (22 + 3 * i)) 0 0 = some (.ref (B + (22 + 3 * i + 1))) := by
  rw [hp_f, me_nod h]
  rfl
theorem gn_1 (h : i < 64) : hp_f (mk B S F A G X P T) (B + (22 + 3 * i)) 0 1 = some (.int (F (22 + 3 * i) 1)) := by
  rw [hp_f, me_nod h]
  rfl
theorem gn_2 (h : i < 64) : hp_f (mk B S F A G X P T) (B + (22 + 3 * i)) 0 2 = some (.int (F (22 + 3 * i) 2)) := by
  rw [hp_f, me_nod h]
  rfl
theorem gn_3 (h : i < 64) : hp_f (mk B S F A G X P T) (B + (22 + 3 * i)) 0 3 = some (.int (F (22 + 3 * i) 3)) := by
  rw [hp_f, me_nod h]
  rfl
theorem w218 (h : i < 3001) (hj : j < 64) : hp_pq (mk B S F A G X P T) (B + 218) (nI i) (B + (22 + 3 * j)) = some (mk B S F A (va_up G i (some (B + (22 + 3 * j)))) X P T) := by
  rw [hp_pq, me_at, me_nod hj]
  show (if pg_ok 4 0 = true then (if nI i < 0 ∨ 3001 ≤ (nI i).toNatClampNeg then none else some (xm_set (mk B S F A G X P T) (B + 218) (.inl (4, 3001, me_q (va_up G (nI i).toNatClampNeg (some (B + (22 + 3 * j)))))))) else none) = _
  rw [if_pos (by decide +kernel), if_neg (nI_in h (by decide)), nI_clamp (by omega)]
  exact congrArg some (me_set (fun _ _ _ => rfl) (fun _ _ => rfl) (fun q => absurd rfl q) (fun _ => rfl) (fun _ => rfl) (fun _ _ => rfl) rfl)
theorem en_is (h : i < 64) : hp_is (mk B S F A G X P T) (B + (22 + 3 * i)) 0 := ⟨_, me_nod h⟩
theorem et_is {o : Nat} (h : me_tx o) : hp_is (mk B S F A G X P T) (B + o) 5 := ⟨_, me_txt h⟩
theorem gt_0 {o : Nat} (h : me_tx o) : hp_f (mk B S F A G X P T) (B + o) 5 0 = some (.ref (B + (o + 1))) := by
  rw [hp_f, me_txt h]
  rfl
theorem gt_1 {o : Nat} (h : me_tx o) : hp_f (mk B S F A G X P T) (B + o) 5 1 = some (.int (F o 1)) := by
  rw [hp_f, me_txt h]
  rfl
theorem wt_1 {o : Nat} (h : me_tx o) : hp_pf (mk B S F A G X P T) (B + o) 5 1 (.int v) = some (mk B S (f2 F o 1 v) A G X P T) := by
  rw [hp_pf, me_txt h]
  exact (if_pos ⟨rfl, rfl, rfl, Nat.le_of_ble_eq_true rfl⟩).trans (congrArg some (me_txS h))
theorem ga {o : Nat} (ho : me_ar o) (h : i < 64) : hp_i sc (mk B S F A G X P T) (B + o) (nI i) = some (A o i) := by
  rw [hp_i, me_arr ho]
  show (if 0 = 0 then (if nI i < 0 ∨ 64 ≤ (nI i).toNatClampNeg then none else some (A o (nI i).toNatClampNeg)) else none) = _
  rw [if_pos rfl, if_neg (nI_in h (by decide)), nI_clamp (by omega)]
theorem wa {o : Nat} (ho : me_ar o) (h : i < 64) : hp_pi (mk B S F A G X P T) (B + o) (nI i) v = some (mk B S F (a2 A o (upd (A o) i v)) G X P T) := by
  rw [hp_pi, me_arr ho]
  show (if 0 = 0 then (if nI i < 0 ∨ 64 ≤ (nI i).toNatClampNeg then none else some (xm_set (mk B S F A G X P T) (B + o) (.inl (0, 64, .inl (upd (A o) (nI i).toNatClampNeg v))))) else none) = _
  rw [if_pos rfl, if_neg (nI_in h (by decide)), nI_clamp (by omega)]
  exact congrArg some (me_arS ho)
end
