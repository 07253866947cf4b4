theorem wt0 : xm_wt [] = 0 := by simp [xm_wt]
theorem wti {x : Int32} {st : List Value} : xm_wt (.int x :: st) = 1 + xm_wt st := by simp [xm_wt, Value.category]
theorem wtr {a : Nat} {st : List Value} : xm_wt (.ref a :: st) = 1 + xm_wt st := by simp [xm_wt, Value.category]
theorem wtn {st : List Value} : xm_wt (.null :: st) = 1 + xm_wt st := by simp [xm_wt, Value.category]
theorem nb0 : narrow .boolean (.int 0) = .int 0 := by simp [narrow]
theorem nb1 : narrow .boolean (.int 1) = .int 1 := by simp [narrow]
def bi (p : Prop) [Decidable p] : Int32 := if p then 1 else 0
theorem nb_bi {p : Prop} [Decidable p] : narrow .boolean (.int (bi p)) = .int (bi p) := by
  unfold bi
  split <;> rfl
