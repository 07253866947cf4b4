theorem wt0 : xm_wt [] = 0 := rfl
theorem wti {x : Int32} {st : List Value} : xm_wt (.int x :: st) = 1 + xm_wt st := by simp [xm_wt, Value.category]
theorem wtr {a : Nat} {st : List Value} : xm_wt (.ref a :: st) = 1 + xm_wt st := by simp [xm_wt, Value.category]
theorem wtn {st : List Value} : xm_wt (.null :: st) = 1 + xm_wt st := by simp [xm_wt, Value.category]
theorem nb0 : narrow .boolean (.int 0) = .int 0 := rfl
theorem nb1 : narrow .boolean (.int 1) = .int 1 := rfl
