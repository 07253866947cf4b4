/-! THE HEAP OF THE LAW, once both objects are made: cell o stands at B + o; F: the fields that are numbers, A: the arrays of numbers, G: the nodes of Steps.begun, X: Search.next.
 0 PatternMill, 1 slip, 3 Stock, 4 variables, 5 nodes, 6 + 2 v the variables' texts, 22 + 3 i the nodes (their texts behind them), 214 Search, 215 subject, 217 Steps (218 .. 222), 223 choices, 225 kept, 227 the model (228 .. 245); a text's signs stand behind it -/
def me_q (f : Nat → Option Nat) : (Nat → Int32) ⊕ (Nat → Int64) ⊕ (Nat → UInt32) ⊕ (Nat → UInt64) ⊕ (Nat → Option Nat) := .inr (.inr (.inr (.inr f)))
def me_vs (B : Nat) : Nat → Option Nat := fun v => if v < 8 then some (B + (6 + 2 * v)) else none
def me_ns (B : Nat) : Nat → Option Nat := fun i => if i < 64 then some (B + (22 + 3 * i)) else none
def me_tx (o : Nat) : Prop := o = 1 ∨ (6 ≤ o ∧ o < 22 ∧ o % 2 = 0) ∨ (22 ≤ o ∧ o < 214 ∧ o % 3 = 2) ∨ o = 215
def me_ar (o : Nat) : Prop := o = 2 ∨ (6 ≤ o ∧ o < 22 ∧ o % 2 = 1) ∨ (22 ≤ o ∧ o < 214 ∧ o % 3 = 0) ∨ o = 216
/-- of the model's arrays: kind and length -/
def me_ml (o : Nat) : Option (Nat × Nat) := match o with
  | 228 => some (1, 64) | 229 => some (1, 512) | 230 => some (0, 8) | 231 => some (0, 64) | 232 => some (0, 64) | 233 => some (0, 64) | 234 => some (1, 4096) | 235 => some (0, 64) | 236 => some (1, 64)
  | 237 => some (0, 3000) | 238 => some (0, 3000) | 239 => some (0, 3000) | 240 => some (0, 3000) | 241 => some (0, 3000) | 242 => some (0, 3000) | 243 => some (2, 3000) | 244 => some (0, 3000) | 245 => some (0, 3000)
  | _ => none
def me_c (B : Nat) (F A : Nat → Nat → Int32) (G : Nat → Option Nat) (X : Option Nat) (P : Nat → Int32) (T : Nat → Nat → Int32) (o : Nat) : Option xm_E :=
  if o = 0 then some (.inr (6, [.ref (B + 1), .ref (B + 3), .ref (B + 214), .int (F o 3), .int (F o 4), .int (F o 5)]))
  else if o = 3 then some (.inr (4, [.ref (B + 4), .ref (B + 5), .int (F o 2)]))
  else if o = 4 then some (.inl (3, 8, me_q (me_vs B)))
  else if o = 5 then some (.inl (4, 64, me_q (me_ns B)))
  else if o = 214 then some (.inr (2, [.ref (B + 3), .ref (B + 215), .ref (B + 217), .ref (B + 223), .ref (B + 225), .int (F o 5), .int (F o 6), .int (F o 7), .int (F o 8), va_rf X, .int (F o 10)]))
  else if o = 217 then some (.inr (3, [.ref (B + 218), .ref (B + 219), .ref (B + 220), .ref (B + 221), .ref (B + 222), .int (F o 5)]))
  else if o = 218 then some (.inl (4, 3001, me_q G))
  else if 219 ≤ o ∧ o ≤ 222 then some (.inl (0, 3001, .inl (A o)))
  else if o = 223 ∨ o = 225 then some (.inr (1, [.ref (B + (o + 1)), .int (F o 1)]))
  else if o = 224 ∨ o = 226 then some (.inl (0, 3000, .inl (A o)))
  else if o = 227 then some (.inr (7, [.int (P 0), .ref (B + 228), .int (P 2), .ref (B + 229), .ref (B + 230), .int (P 5), .ref (B + 231), .ref (B + 232), .ref (B + 233), .ref (B + 234), .ref (B + 235), .int (P 11), .int (P 12), .int (P 13), .int (P 14), .ref (B + 236), .int (P 16), .ref (B + 237), .ref (B + 238), .ref (B + 239), .ref (B + 240), .ref (B + 241), .ref (B + 242), .ref (B + 243), .ref (B + 244), .int (P 25), .int (P 26), .int (P 27), .int (P 28), .int (P 29), .ref (B + 245)]))
  else match me_ml o with
    | some (t, n) => some (.inl (t, n, .inl (T o)))
    | none => if o = 1 ∨ (6 ≤ o ∧ o < 22 ∧ o % 2 = 0) ∨ (22 ≤ o ∧ o < 214 ∧ o % 3 = 2) ∨ o = 215 then some (.inr (5, [.ref (B + (o + 1)), .int (F o 1)]))
      else if o = 2 ∨ (6 ≤ o ∧ o < 22 ∧ o % 2 = 1) ∨ (22 ≤ o ∧ o < 214 ∧ o % 3 = 0) ∨ o = 216 then some (.inl (0, 64, .inl (A o)))
      else if 22 ≤ o ∧ o < 214 ∧ o % 3 = 1 then some (.inr (0, [.ref (B + (o + 1)), .int (F o 1), .int (F o 2), .int (F o 3)]))
      else none
def mk (B S : Nat) (F A : Nat → Nat → Int32) (G : Nat → Option Nat) (X : Option Nat) (P : Nat → Int32) (T : Nat → Nat → Int32) : xm_M := (B + 246, S, fun a => if a < B then none else me_c B F A G X P T (a - B))
def f2 (F : Nat → Nat → Int32) (o k : Nat) (v : Int32) : Nat → Nat → Int32 := fun o' k' => if o' = o ∧ k' = k then v else F o' k'
def p1 (P : Nat → Int32) (k : Nat) (v : Int32) : Nat → Int32 := fun k' => if k' = k then v else P k'
def a2 (A : Nat → Nat → Int32) (o : Nat) (f : Nat → Int32) : Nat → Nat → Int32 := fun o' => if o' = o then f else A o'
section ME
variable {B S : Nat} {F A F' A' : Nat → Nat → Int32} {G G' : Nat → Option Nat} {X X' : Option Nat} {P P' : Nat → Int32} {T T' : Nat → Nat → Int32} {o k : Nat}
theorem me_at (o : Nat) : (mk B S F A G X P T).2.2 (B + o) = me_c B F A G X P T o := by
  show (if B + o < B then none else me_c B F A G X P T (B + o - B)) = _
  rw [if_neg (by omega), Nat.add_sub_cancel_left]
theorem me_set {e : xm_E} (hF : ∀ o', o' ≠ o → ∀ k, F' o' k = F o' k) (hA : ∀ o', o' ≠ o → A' o' = A o') (hG : o ≠ 218 → G' = G) (hX : o ≠ 214 → X' = X) (hP : o ≠ 227 → P' = P) (hT : ∀ o', o' ≠ o → T' o' = T o') (he : me_c B F' A' G' X' P' T' o = some e) : xm_set (mk B S F A G X P T) (B + o) e = mk B S F' A' G' X' P' T' := by
  unfold xm_set mk
  refine Prod.ext rfl (Prod.ext rfl (funext fun a => ?_))
  show va_up _ (B + o) (some e) a = _
  unfold va_up
  by_cases h : a = B + o
  · subst h
    rw [if_pos rfl]
    show some e = if B + o < B then none else me_c B F' A' G' X' P' T' (B + o - B)
    rw [if_neg (by omega), Nat.add_sub_cancel_left, he]
  · rw [if_neg h]
    show (if a < B then none else me_c B F A G X P T (a - B)) = if a < B then none else me_c B F' A' G' X' P' T' (a - B)
    by_cases hb : a < B
    · rw [if_pos hb, if_pos hb]
    · rw [if_neg hb, if_neg hb]
      have hne : a - B ≠ o := by omega
      have h1 := hF (a - B) hne
      have h2 := hA (a - B) hne
      have h3 := hT (a - B) hne
      generalize a - B = q at hne h1 h2 h3
      unfold me_c
      simp only [h1, h2, h3]
      by_cases q1 : q = 218
      · subst q1
        rw [hG (Ne.symm hne)]
        simp
      · by_cases q2 : q = 214
        · subst q2
          rw [hX (Ne.symm hne)]
          simp
        · by_cases q3 : q = 227
          · subst q3
            rw [hP (Ne.symm hne)]
            simp
          · simp [q1, q2, q3]
theorem f2_s {v : Int32} : f2 F o k v o k = v := by simp [f2]
theorem f2_n {v : Int32} {o' k' : Nat} (h : ¬ (o' = o ∧ k' = k)) : f2 F o k v o' k' = F o' k' := by simp [f2, h]
theorem a2_s {f : Nat → Int32} : a2 A o f o = f := by simp [a2]
theorem a2_n {f : Nat → Int32} {o' : Nat} (h : o' ≠ o) : a2 A o f o' = A o' := by simp [a2, h]
theorem f2_other {v : Int32} : ∀ o', o' ≠ o → ∀ k', f2 F o k v o' k' = F o' k' := fun o' h k' => f2_n (fun q => h q.1)
theorem a2_other {f : Nat → Int32} : ∀ o', o' ≠ o → a2 A o f o' = A o' := fun o' h => a2_n h
theorem p1_s {v : Int32} : p1 P k v k = v := by simp [p1]
theorem p1_n {v : Int32} {k' : Nat} (h : k' ≠ k) : p1 P k v k' = P k' := by simp [p1, h]
end ME
