section
-- ===== PART A: goes FIRST, ahead of the names: the tables' words, and 'selects' of the private methods out of them =====
/-- a private method of a class that the tables say can be made, by its rows of tables_1 -/
def lw_okq (q : MethodName × Nat) : Prop := (q.1.cls ≠ "java/lang/invoke/MethodHandle" ∧ q.1.cls ≠ "java/lang/invoke/VarHandle") ∧ Cond.instantiable q.1.cls q.2 ∈ tables_1 ∧ Cond.privateMethod q.1 ∈ tables_1 ∧ Cond.instanceMethod q.1 ∈ tables_1
theorem lw_p0 : lw_okq (⟨"PatternMill$Stock", "hasParts", "(III)Z"⟩, 3) := ⟨⟨by decide +kernel, by decide +kernel⟩, List.mem_of_getElem? (i := 36) (by decide +kernel), List.mem_of_getElem? (i := 249) (by decide +kernel), List.mem_of_getElem? (i := 250) (by decide +kernel)⟩
theorem lw_p1 : lw_okq (⟨"PatternMill$Search", "runFrom", "(LPatternMill$Node;I)V"⟩, 11) := ⟨⟨by decide +kernel, by decide +kernel⟩, List.mem_of_getElem? (i := 90) (by decide +kernel), List.mem_of_getElem? (i := 283) (by decide +kernel), List.mem_of_getElem? (i := 284) (by decide +kernel)⟩
theorem lw_p2 : lw_okq (⟨"PatternMill$Search", "begin", "(LPatternMill$Node;II)V"⟩, 11) := ⟨⟨by decide +kernel, by decide +kernel⟩, List.mem_of_getElem? (i := 90) (by decide +kernel), List.mem_of_getElem? (i := 287) (by decide +kernel), List.mem_of_getElem? (i := 288) (by decide +kernel)⟩
theorem lw_p3 : lw_okq (⟨"PatternMill$Search", "takeStep", "()V"⟩, 11) := ⟨⟨by decide +kernel, by decide +kernel⟩, List.mem_of_getElem? (i := 90) (by decide +kernel), List.mem_of_getElem? (i := 292) (by decide +kernel), List.mem_of_getElem? (i := 293) (by decide +kernel)⟩
theorem lw_p4 : lw_okq (⟨"PatternMill$Search", "succeedWithChoice", "(II)V"⟩, 11) := ⟨⟨by decide +kernel, by decide +kernel⟩, List.mem_of_getElem? (i := 90) (by decide +kernel), List.mem_of_getElem? (i := 300) (by decide +kernel), List.mem_of_getElem? (i := 301) (by decide +kernel)⟩
theorem lw_p5 : lw_okq (⟨"PatternMill$Search", "succeedAt", "(I)V"⟩, 11) := ⟨⟨by decide +kernel, by decide +kernel⟩, List.mem_of_getElem? (i := 90) (by decide +kernel), List.mem_of_getElem? (i := 308) (by decide +kernel), List.mem_of_getElem? (i := 309) (by decide +kernel)⟩
theorem lw_p6 : lw_okq (⟨"PatternMill$Search", "onlyPlace", "(LPatternMill$Node;I)I"⟩, 11) := ⟨⟨by decide +kernel, by decide +kernel⟩, List.mem_of_getElem? (i := 90) (by decide +kernel), List.mem_of_getElem? (i := 318) (by decide +kernel), List.mem_of_getElem? (i := 319) (by decide +kernel)⟩
theorem lw_p7 : lw_okq (⟨"PatternMill$Search", "notePlace", "(LPatternMill$Text;I)I"⟩, 11) := ⟨⟨by decide +kernel, by decide +kernel⟩, List.mem_of_getElem? (i := 90) (by decide +kernel), List.mem_of_getElem? (i := 343) (by decide +kernel), List.mem_of_getElem? (i := 344) (by decide +kernel)⟩
theorem lw_p8 : lw_okq (⟨"PatternMill$Search", "behindValue", "(LPatternMill$Text;I)I"⟩, 11) := ⟨⟨by decide +kernel, by decide +kernel⟩, List.mem_of_getElem? (i := 90) (by decide +kernel), List.mem_of_getElem? (i := 351) (by decide +kernel), List.mem_of_getElem? (i := 352) (by decide +kernel)⟩
theorem lw_p9 : lw_okq (⟨"PatternMill$Search", "counted", "(III)I"⟩, 11) := ⟨⟨by decide +kernel, by decide +kernel⟩, List.mem_of_getElem? (i := 90) (by decide +kernel), List.mem_of_getElem? (i := 355) (by decide +kernel), List.mem_of_getElem? (i := 356) (by decide +kernel)⟩
theorem lw_p10 : lw_okq (⟨"PatternMill$Search", "goOn", "()V"⟩, 11) := ⟨⟨by decide +kernel, by decide +kernel⟩, List.mem_of_getElem? (i := 90) (by decide +kernel), List.mem_of_getElem? (i := 359) (by decide +kernel), List.mem_of_getElem? (i := 360) (by decide +kernel)⟩
theorem lw_p11 : lw_okq (⟨"PatternMill$Search", "awaitsMore", "(I)Z"⟩, 11) := ⟨⟨by decide +kernel, by decide +kernel⟩, List.mem_of_getElem? (i := 90) (by decide +kernel), List.mem_of_getElem? (i := 363) (by decide +kernel), List.mem_of_getElem? (i := 364) (by decide +kernel)⟩
theorem lw_p12 : lw_okq (⟨"PatternMill$Search", "storePart", "(I)V"⟩, 11) := ⟨⟨by decide +kernel, by decide +kernel⟩, List.mem_of_getElem? (i := 90) (by decide +kernel), List.mem_of_getElem? (i := 367) (by decide +kernel), List.mem_of_getElem? (i := 368) (by decide +kernel)⟩
theorem lw_p13 : lw_okq (⟨"PatternMill$Search", "setVariable", "(II)V"⟩, 11) := ⟨⟨by decide +kernel, by decide +kernel⟩, List.mem_of_getElem? (i := 90) (by decide +kernel), List.mem_of_getElem? (i := 371) (by decide +kernel), List.mem_of_getElem? (i := 372) (by decide +kernel)⟩
theorem lw_p14 : lw_okq (⟨"PatternMill$Search", "goBack", "()V"⟩, 11) := ⟨⟨by decide +kernel, by decide +kernel⟩, List.mem_of_getElem? (i := 90) (by decide +kernel), List.mem_of_getElem? (i := 376) (by decide +kernel), List.mem_of_getElem? (i := 377) (by decide +kernel)⟩
theorem lw_p15 : lw_okq (⟨"PatternMill$Search", "setKept", "()V"⟩, 11) := ⟨⟨by decide +kernel, by decide +kernel⟩, List.mem_of_getElem? (i := 90) (by decide +kernel), List.mem_of_getElem? (i := 380) (by decide +kernel), List.mem_of_getElem? (i := 381) (by decide +kernel)⟩
def lw_privs_1 : List (MethodName × Nat) := [(⟨"PatternMill$Stock", "hasParts", "(III)Z"⟩, 3), (⟨"PatternMill$Search", "runFrom", "(LPatternMill$Node;I)V"⟩, 11), (⟨"PatternMill$Search", "begin", "(LPatternMill$Node;II)V"⟩, 11), (⟨"PatternMill$Search", "takeStep", "()V"⟩, 11), (⟨"PatternMill$Search", "succeedWithChoice", "(II)V"⟩, 11), (⟨"PatternMill$Search", "succeedAt", "(I)V"⟩, 11), (⟨"PatternMill$Search", "onlyPlace", "(LPatternMill$Node;I)I"⟩, 11), (⟨"PatternMill$Search", "notePlace", "(LPatternMill$Text;I)I"⟩, 11), (⟨"PatternMill$Search", "behindValue", "(LPatternMill$Text;I)I"⟩, 11), (⟨"PatternMill$Search", "counted", "(III)I"⟩, 11), (⟨"PatternMill$Search", "goOn", "()V"⟩, 11), (⟨"PatternMill$Search", "awaitsMore", "(I)Z"⟩, 11), (⟨"PatternMill$Search", "storePart", "(I)V"⟩, 11), (⟨"PatternMill$Search", "setVariable", "(II)V"⟩, 11), (⟨"PatternMill$Search", "goBack", "()V"⟩, 11), (⟨"PatternMill$Search", "setKept", "()V"⟩, 11)]
theorem lw_r1 : ∀ q ∈ lw_privs_1, lw_okq q := List.forall_mem_cons.mpr ⟨lw_p0, List.forall_mem_cons.mpr ⟨lw_p1, List.forall_mem_cons.mpr ⟨lw_p2, List.forall_mem_cons.mpr ⟨lw_p3, List.forall_mem_cons.mpr ⟨lw_p4, List.forall_mem_cons.mpr ⟨lw_p5, List.forall_mem_cons.mpr ⟨lw_p6, List.forall_mem_cons.mpr ⟨lw_p7, List.forall_mem_cons.mpr ⟨lw_p8, List.forall_mem_cons.mpr ⟨lw_p9, List.forall_mem_cons.mpr ⟨lw_p10, List.forall_mem_cons.mpr ⟨lw_p11, List.forall_mem_cons.mpr ⟨lw_p12, List.forall_mem_cons.mpr ⟨lw_p13, List.forall_mem_cons.mpr ⟨lw_p14, List.forall_mem_cons.mpr ⟨lw_p15, fun _ h => absurd h List.not_mem_nil⟩⟩⟩⟩⟩⟩⟩⟩⟩⟩⟩⟩⟩⟩⟩⟩
theorem lw_p16 : lw_okq (⟨"PatternMillModel", "can", "(III)Z"⟩, 31) := ⟨⟨by decide +kernel, by decide +kernel⟩, List.mem_of_getElem? (i := 396) (by decide +kernel), List.mem_of_getElem? (i := 521) (by decide +kernel), List.mem_of_getElem? (i := 522) (by decide +kernel)⟩
theorem lw_p17 : lw_okq (⟨"PatternMillModel", "isNode", "(I)Z"⟩, 31) := ⟨⟨by decide +kernel, by decide +kernel⟩, List.mem_of_getElem? (i := 396) (by decide +kernel), List.mem_of_getElem? (i := 525) (by decide +kernel), List.mem_of_getElem? (i := 526) (by decide +kernel)⟩
theorem lw_p18 : lw_okq (⟨"PatternMillModel", "tries", "(II)I"⟩, 31) := ⟨⟨by decide +kernel, by decide +kernel⟩, List.mem_of_getElem? (i := 396) (by decide +kernel), List.mem_of_getElem? (i := 541) (by decide +kernel), List.mem_of_getElem? (i := 542) (by decide +kernel)⟩
theorem lw_p19 : lw_okq (⟨"PatternMillModel", "begin", "(III)V"⟩, 31) := ⟨⟨by decide +kernel, by decide +kernel⟩, List.mem_of_getElem? (i := 396) (by decide +kernel), List.mem_of_getElem? (i := 545) (by decide +kernel), List.mem_of_getElem? (i := 546) (by decide +kernel)⟩
theorem lw_p20 : lw_okq (⟨"PatternMillModel", "begins", "()V"⟩, 31) := ⟨⟨by decide +kernel, by decide +kernel⟩, List.mem_of_getElem? (i := 396) (by decide +kernel), List.mem_of_getElem? (i := 549) (by decide +kernel), List.mem_of_getElem? (i := 550) (by decide +kernel)⟩
theorem lw_p21 : lw_okq (⟨"PatternMillModel", "succeeds", "(I)V"⟩, 31) := ⟨⟨by decide +kernel, by decide +kernel⟩, List.mem_of_getElem? (i := 396) (by decide +kernel), List.mem_of_getElem? (i := 553) (by decide +kernel), List.mem_of_getElem? (i := 554) (by decide +kernel)⟩
theorem lw_p22 : lw_okq (⟨"PatternMillModel", "plain", "(II)I"⟩, 31) := ⟨⟨by decide +kernel, by decide +kernel⟩, List.mem_of_getElem? (i := 396) (by decide +kernel), List.mem_of_getElem? (i := 557) (by decide +kernel), List.mem_of_getElem? (i := 558) (by decide +kernel)⟩
theorem lw_p23 : lw_okq (⟨"PatternMillModel", "isIn", "(II)Z"⟩, 31) := ⟨⟨by decide +kernel, by decide +kernel⟩, List.mem_of_getElem? (i := 396) (by decide +kernel), List.mem_of_getElem? (i := 561) (by decide +kernel), List.mem_of_getElem? (i := 562) (by decide +kernel)⟩
theorem lw_p24 : lw_okq (⟨"PatternMillModel", "behind", "([BIII)I"⟩, 31) := ⟨⟨by decide +kernel, by decide +kernel⟩, List.mem_of_getElem? (i := 396) (by decide +kernel), List.mem_of_getElem? (i := 565) (by decide +kernel), List.mem_of_getElem? (i := 566) (by decide +kernel)⟩
theorem lw_p25 : lw_okq (⟨"PatternMillModel", "span", "(II)I"⟩, 31) := ⟨⟨by decide +kernel, by decide +kernel⟩, List.mem_of_getElem? (i := 396) (by decide +kernel), List.mem_of_getElem? (i := 569) (by decide +kernel), List.mem_of_getElem? (i := 570) (by decide +kernel)⟩
theorem lw_p26 : lw_okq (⟨"PatternMillModel", "stop", "(II)I"⟩, 31) := ⟨⟨by decide +kernel, by decide +kernel⟩, List.mem_of_getElem? (i := 396) (by decide +kernel), List.mem_of_getElem? (i := 573) (by decide +kernel), List.mem_of_getElem? (i := 574) (by decide +kernel)⟩
theorem lw_p27 : lw_okq (⟨"PatternMillModel", "balanced", "(II)I"⟩, 31) := ⟨⟨by decide +kernel, by decide +kernel⟩, List.mem_of_getElem? (i := 396) (by decide +kernel), List.mem_of_getElem? (i := 577) (by decide +kernel), List.mem_of_getElem? (i := 578) (by decide +kernel)⟩
theorem lw_p28 : lw_okq (⟨"PatternMillModel", "told", "(II)I"⟩, 31) := ⟨⟨by decide +kernel, by decide +kernel⟩, List.mem_of_getElem? (i := 396) (by decide +kernel), List.mem_of_getElem? (i := 581) (by decide +kernel), List.mem_of_getElem? (i := 582) (by decide +kernel)⟩
theorem lw_p29 : lw_okq (⟨"PatternMillModel", "goesBack", "()V"⟩, 31) := ⟨⟨by decide +kernel, by decide +kernel⟩, List.mem_of_getElem? (i := 396) (by decide +kernel), List.mem_of_getElem? (i := 585) (by decide +kernel), List.mem_of_getElem? (i := 586) (by decide +kernel)⟩
theorem lw_p30 : lw_okq (⟨"PatternMillModel", "hasSucceeded", "(I)V"⟩, 31) := ⟨⟨by decide +kernel, by decide +kernel⟩, List.mem_of_getElem? (i := 396) (by decide +kernel), List.mem_of_getElem? (i := 589) (by decide +kernel), List.mem_of_getElem? (i := 590) (by decide +kernel)⟩
theorem lw_p31 : lw_okq (⟨"PatternMillModel", "becomes", "(II)V"⟩, 31) := ⟨⟨by decide +kernel, by decide +kernel⟩, List.mem_of_getElem? (i := 396) (by decide +kernel), List.mem_of_getElem? (i := 593) (by decide +kernel), List.mem_of_getElem? (i := 594) (by decide +kernel)⟩
def lw_privs_2 : List (MethodName × Nat) := [(⟨"PatternMillModel", "can", "(III)Z"⟩, 31), (⟨"PatternMillModel", "isNode", "(I)Z"⟩, 31), (⟨"PatternMillModel", "tries", "(II)I"⟩, 31), (⟨"PatternMillModel", "begin", "(III)V"⟩, 31), (⟨"PatternMillModel", "begins", "()V"⟩, 31), (⟨"PatternMillModel", "succeeds", "(I)V"⟩, 31), (⟨"PatternMillModel", "plain", "(II)I"⟩, 31), (⟨"PatternMillModel", "isIn", "(II)Z"⟩, 31), (⟨"PatternMillModel", "behind", "([BIII)I"⟩, 31), (⟨"PatternMillModel", "span", "(II)I"⟩, 31), (⟨"PatternMillModel", "stop", "(II)I"⟩, 31), (⟨"PatternMillModel", "balanced", "(II)I"⟩, 31), (⟨"PatternMillModel", "told", "(II)I"⟩, 31), (⟨"PatternMillModel", "goesBack", "()V"⟩, 31), (⟨"PatternMillModel", "hasSucceeded", "(I)V"⟩, 31), (⟨"PatternMillModel", "becomes", "(II)V"⟩, 31)]
theorem lw_r2 : ∀ q ∈ lw_privs_2, lw_okq q := List.forall_mem_cons.mpr ⟨lw_p16, List.forall_mem_cons.mpr ⟨lw_p17, List.forall_mem_cons.mpr ⟨lw_p18, List.forall_mem_cons.mpr ⟨lw_p19, List.forall_mem_cons.mpr ⟨lw_p20, List.forall_mem_cons.mpr ⟨lw_p21, List.forall_mem_cons.mpr ⟨lw_p22, List.forall_mem_cons.mpr ⟨lw_p23, List.forall_mem_cons.mpr ⟨lw_p24, List.forall_mem_cons.mpr ⟨lw_p25, List.forall_mem_cons.mpr ⟨lw_p26, List.forall_mem_cons.mpr ⟨lw_p27, List.forall_mem_cons.mpr ⟨lw_p28, List.forall_mem_cons.mpr ⟨lw_p29, List.forall_mem_cons.mpr ⟨lw_p30, List.forall_mem_cons.mpr ⟨lw_p31, fun _ h => absurd h List.not_mem_nil⟩⟩⟩⟩⟩⟩⟩⟩⟩⟩⟩⟩⟩⟩⟩⟩
theorem lw_p32 : lw_okq (⟨"PatternMillModel", "hasFailed", "(I)V"⟩, 31) := ⟨⟨by decide +kernel, by decide +kernel⟩, List.mem_of_getElem? (i := 396) (by decide +kernel), List.mem_of_getElem? (i := 597) (by decide +kernel), List.mem_of_getElem? (i := 598) (by decide +kernel)⟩
theorem lw_p33 : lw_okq (⟨"PatternMillModel", "keep", "(I)V"⟩, 31) := ⟨⟨by decide +kernel, by decide +kernel⟩, List.mem_of_getElem? (i := 396) (by decide +kernel), List.mem_of_getElem? (i := 601) (by decide +kernel), List.mem_of_getElem? (i := 602) (by decide +kernel)⟩
def lw_privs_3 : List (MethodName × Nat) := [(⟨"PatternMillModel", "hasFailed", "(I)V"⟩, 31), (⟨"PatternMillModel", "keep", "(I)V"⟩, 31)]
theorem lw_r3 : ∀ q ∈ lw_privs_3, lw_okq q := List.forall_mem_cons.mpr ⟨lw_p32, List.forall_mem_cons.mpr ⟨lw_p33, fun _ h => absurd h List.not_mem_nil⟩⟩
def lw_privs : List (MethodName × Nat) := lw_privs_1 ++ (lw_privs_2 ++ (lw_privs_3))
def lw_tbl : List Cond := k2_sels lw_privs ++ tables_1
theorem lw_privs_ok : ∀ q ∈ lw_privs, lw_okq q := by
  show ∀ q ∈ lw_privs_1 ++ (lw_privs_2 ++ (lw_privs_3)), lw_okq q
  exact List.forall_mem_append.mpr ⟨lw_r1, List.forall_mem_append.mpr ⟨lw_r2, lw_r3⟩⟩
-- ===== end of PART A; then your names; then what follows =====
end
section
/-! THE TABLES OF THE PROGRAM (written by wip/whole/gen_tables.py out of the claim's printed texts): classes, methods, code, what the pool's entries link; the numbers at the rows' ends are places in lw_tbl -/
def pg_T0 : u_T := fun k => match k with
  | 0 => ("PatternMill$Node", "text", "LPatternMill$Text;", true)
  | 1 => ("PatternMill$Node", "kind", "I", false)
  | 2 => ("PatternMill$Node", "a", "I", false)
  | _ => ("PatternMill$Node", "b", "I", false)
def pg_T1 : u_T := fun k => match k with
  | 0 => ("PatternMill$Pile", "steps", "[I", true)
  | _ => ("PatternMill$Pile", "size", "I", false)
def pg_T2 : u_T := fun k => match k with
  | 0 => ("PatternMill$Search", "stock", "LPatternMill$Stock;", true)
  | 1 => ("PatternMill$Search", "subject", "LPatternMill$Text;", true)
  | 2 => ("PatternMill$Search", "steps", "LPatternMill$Steps;", true)
  | 3 => ("PatternMill$Search", "choices", "LPatternMill$Pile;", true)
  | 4 => ("PatternMill$Search", "kept", "LPatternMill$Pile;", true)
  | 5 => ("PatternMill$Search", "start", "I", false)
  | 6 => ("PatternMill$Search", "place", "I", false)
  | 7 => ("PatternMill$Search", "outcome", "I", false)
  | 8 => ("PatternMill$Search", "move", "I", false)
  | 9 => ("PatternMill$Search", "next", "LPatternMill$Node;", false)
  | _ => ("PatternMill$Search", "waiter", "I", false)
def pg_T3 : u_T := fun k => match k with
  | 0 => ("PatternMill$Steps", "begun", "[LPatternMill$Node;", true)
  | 1 => ("PatternMill$Steps", "from", "[I", true)
  | 2 => ("PatternMill$Steps", "to", "[I", true)
  | 3 => ("PatternMill$Steps", "waiter", "[I", true)
  | 4 => ("PatternMill$Steps", "keeps", "[I", true)
  | _ => ("PatternMill$Steps", "count", "I", false)
def pg_T4 : u_T := fun k => match k with
  | 0 => ("PatternMill$Stock", "variables", "[LPatternMill$Text;", true)
  | 1 => ("PatternMill$Stock", "nodes", "[LPatternMill$Node;", true)
  | _ => ("PatternMill$Stock", "nodeCount", "I", false)
def pg_T5 : u_T := fun k => match k with
  | 0 => ("PatternMill$Text", "signs", "[I", true)
  | _ => ("PatternMill$Text", "size", "I", false)
def pg_T6 : u_T := fun k => match k with
  | 0 => ("PatternMill", "slip", "LPatternMill$Text;", true)
  | 1 => ("PatternMill", "stock", "LPatternMill$Stock;", true)
  | 2 => ("PatternMill", "search", "LPatternMill$Search;", true)
  | 3 => ("PatternMill", "latestFrom", "I", false)
  | 4 => ("PatternMill", "latestTo", "I", false)
  | _ => ("PatternMill", "latestSteps", "I", false)
def pg_T7 : u_T := fun k => match k with
  | 0 => ("PatternMillModel", "thrown", "I", false)
  | 1 => ("PatternMillModel", "slip", "[B", true)
  | 2 => ("PatternMillModel", "slipSize", "I", false)
  | 3 => ("PatternMillModel", "texts", "[B", true)
  | 4 => ("PatternMillModel", "sizes", "[I", true)
  | 5 => ("PatternMillModel", "nodes", "I", false)
  | 6 => ("PatternMillModel", "kinds", "[I", true)
  | 7 => ("PatternMillModel", "firsts", "[I", true)
  | 8 => ("PatternMillModel", "seconds", "[I", true)
  | 9 => ("PatternMillModel", "words", "[B", true)
  | 10 => ("PatternMillModel", "wordSizes", "[I", true)
  | 11 => ("PatternMillModel", "matched", "Z", false)
  | 12 => ("PatternMillModel", "from", "I", false)
  | 13 => ("PatternMillModel", "to", "I", false)
  | 14 => ("PatternMillModel", "steps", "I", false)
  | 15 => ("PatternMillModel", "subject", "[B", true)
  | 16 => ("PatternMillModel", "n", "I", false)
  | 17 => ("PatternMillModel", "node", "[I", true)
  | 18 => ("PatternMillModel", "start", "[I", true)
  | 19 => ("PatternMillModel", "end", "[I", true)
  | 20 => ("PatternMillModel", "up", "[I", true)
  | 21 => ("PatternMillModel", "one", "[I", true)
  | 22 => ("PatternMillModel", "two", "[I", true)
  | 23 => ("PatternMillModel", "second", "[Z", true)
  | 24 => ("PatternMillModel", "stamp", "[I", true)
  | 25 => ("PatternMillModel", "clock", "I", false)
  | 26 => ("PatternMillModel", "row", "I", false)
  | 27 => ("PatternMillModel", "mode", "I", false)
  | 28 => ("PatternMillModel", "aborted", "Z", false)
  | 29 => ("PatternMillModel", "over", "Z", false)
  | _ => ("PatternMillModel", "parts", "[I", true)
abbrev classes : List vw_C := [("PatternMill$Node", pg_T0, 4), ("PatternMill$Pile", pg_T1, 2), ("PatternMill$Search", pg_T2, 11), ("PatternMill$Steps", pg_T3, 6), ("PatternMill$Stock", pg_T4, 3), ("PatternMill$Text", pg_T5, 2), ("PatternMill", pg_T6, 6), ("PatternMillModel", pg_T7, 31)]
def pg_ftl : List (List FieldType) := [[.object "PatternMill$Text", .int, .int, .int], [.array .int, .int], [.object "PatternMill$Stock", .object "PatternMill$Text", .object "PatternMill$Steps", .object "PatternMill$Pile", .object "PatternMill$Pile", .int, .int, .int, .int, .object "PatternMill$Node", .int], [.array (.object "PatternMill$Node"), .array .int, .array .int, .array .int, .array .int, .int], [.array (.object "PatternMill$Text"), .array (.object "PatternMill$Node"), .int], [.array .int, .int], [.object "PatternMill$Text", .object "PatternMill$Stock", .object "PatternMill$Search", .int, .int, .int], [.int, .array .byte, .int, .array .byte, .array .int, .int, .array .int, .array .int, .array .int, .array .byte, .array .int, .boolean, .int, .int, .int, .array .byte, .int, .array .int, .array .int, .array .int, .array .int, .array .int, .array .int, .array .boolean, .array .int, .int, .int, .int, .boolean, .boolean, .array .int]]
def pg_ft (ci k : Nat) : FieldType := (pg_ftl.getD ci []).getD k .int
def pg_at : List FieldType := [.int, .byte, .boolean, .object "PatternMill$Text", .object "PatternMill$Node"]
def pg_AO : List String := ["PatternMill$Text", "PatternMill$Node"]
def pg_n : Nat := 84
/-- who owns a method: 0 .. 7 the classes of the list, 8 the law -/
def pg_on : List String := ["PatternMill$Node", "PatternMill$Pile", "PatternMill$Search", "PatternMill$Steps", "PatternMill$Stock", "PatternMill$Text", "PatternMill", "PatternMillModel", "PatternMillLaw"]
def pg_ms : List (MethodName × Nat × Option FieldType × Nat × Nat) := [
  (⟨"PatternMillLaw", "law", "([I)Z"⟩, 4, some .boolean, 8, 0),
  (⟨"PatternMill", "<init>", "()V"⟩, 1, none, 6, 48),
  (⟨"PatternMill$Text", "<init>", "()V"⟩, 1, none, 5, 56),
  (⟨"PatternMill$Stock", "<init>", "()V"⟩, 2, none, 4, 73),
  (⟨"PatternMill$Node", "<init>", "()V"⟩, 1, none, 0, 83),
  (⟨"PatternMill$Search", "<init>", "(LPatternMill$Stock;)V"⟩, 2, none, 2, 127),
  (⟨"PatternMill$Steps", "<init>", "()V"⟩, 1, none, 3, 135),
  (⟨"PatternMill$Pile", "<init>", "()V"⟩, 1, none, 1, 168),
  (⟨"PatternMill", "sign", "(I)I"⟩, 2, some .int, 6, 238),
  (⟨"PatternMill$Text", "add", "(I)Z"⟩, 2, some .boolean, 5, 242),
  (⟨"PatternMill", "let", "(I)Z"⟩, 3, some .boolean, 6, 246),
  (⟨"PatternMill$Stock", "variable", "(I)LPatternMill$Text;"⟩, 2, some (.object "PatternMill$Text"), 4, 250),
  (⟨"PatternMill$Text", "become", "(LPatternMill$Text;)V"⟩, 2, none, 5, 254),
  (⟨"PatternMill$Text", "becomePart", "(LPatternMill$Text;II)V"⟩, 4, none, 5, 258),
  (⟨"PatternMill", "value", "(II)I"⟩, 4, some .int, 6, 265),
  (⟨"PatternMill$Text", "at", "(I)I"⟩, 2, some .int, 5, 269),
  (⟨"PatternMill", "length", "(I)I"⟩, 3, some .int, 6, 273),
  (⟨"PatternMill", "node", "(III)I"⟩, 4, some .int, 6, 277),
  (⟨"PatternMill$Stock", "make", "(IIILPatternMill$Text;)I"⟩, 6, some .int, 4, 281),
  (⟨"PatternMill$Stock", "hasParts", "(III)Z"⟩, 4, some .boolean, 4, 285),
  (⟨"PatternMill$Stock", "nodeOf", "(I)LPatternMill$Node;"⟩, 2, some (.object "PatternMill$Node"), 4, 289),
  (⟨"PatternMill$Stock", "usesA", "(I)Z"⟩, 1, some .boolean, 4, 293),
  (⟨"PatternMill$Stock", "usesB", "(I)Z"⟩, 1, some .boolean, 4, 296),
  (⟨"PatternMill", "clear", "()V"⟩, 1, none, 6, 301),
  (⟨"PatternMill", "about", "(II)I"⟩, 4, some .int, 6, 305),
  (⟨"PatternMill", "match", "(IIZ)I"⟩, 7, some .int, 6, 310),
  (⟨"PatternMill$Search", "run", "(LPatternMill$Text;LPatternMill$Node;Z)I"⟩, 6, some .int, 2, 314),
  (⟨"PatternMill$Search", "runFrom", "(LPatternMill$Node;I)V"⟩, 4, none, 2, 319),
  (⟨"PatternMill$Search", "begin", "(LPatternMill$Node;II)V"⟩, 4, none, 2, 323),
  (⟨"PatternMill$Search", "takeStep", "()V"⟩, 2, none, 2, 328),
  (⟨"PatternMill$Steps", "add", "(LPatternMill$Node;III)Z"⟩, 5, some .boolean, 3, 332),
  (⟨"PatternMill$Search", "succeedWithChoice", "(II)V"⟩, 3, none, 2, 336),
  (⟨"PatternMill$Pile", "push", "(I)V"⟩, 2, none, 1, 340),
  (⟨"PatternMill$Search", "succeedAt", "(I)V"⟩, 2, none, 2, 344),
  (⟨"PatternMill$Text", "behindBalanced", "(I)I"⟩, 4, some .int, 5, 348),
  (⟨"PatternMill$Search", "onlyPlace", "(LPatternMill$Node;I)I"⟩, 3, some .int, 2, 354),
  (⟨"PatternMill$Text", "behindWord", "(LPatternMill$Text;I)I"⟩, 4, some .int, 5, 358),
  (⟨"PatternMill$Text", "behindSign", "(LPatternMill$Text;ZI)I"⟩, 4, some .int, 5, 362),
  (⟨"PatternMill$Text", "holds", "(I)Z"⟩, 3, some .boolean, 5, 366),
  (⟨"PatternMill$Text", "behindRun", "(LPatternMill$Text;I)I"⟩, 4, some .int, 5, 370),
  (⟨"PatternMill$Text", "beforeFirst", "(LPatternMill$Text;I)I"⟩, 4, some .int, 5, 374),
  (⟨"PatternMill$Search", "notePlace", "(LPatternMill$Text;I)I"⟩, 3, some .int, 2, 379),
  (⟨"PatternMill$Text", "becomeDigits", "(I)V"⟩, 2, none, 5, 383),
  (⟨"PatternMill$Search", "behindValue", "(LPatternMill$Text;I)I"⟩, 3, some .int, 2, 387),
  (⟨"PatternMill$Search", "counted", "(III)I"⟩, 5, some .int, 2, 391),
  (⟨"PatternMill$Search", "goOn", "()V"⟩, 3, none, 2, 395),
  (⟨"PatternMill$Search", "awaitsMore", "(I)Z"⟩, 3, some .boolean, 2, 399),
  (⟨"PatternMill$Search", "storePart", "(I)V"⟩, 2, none, 2, 403),
  (⟨"PatternMill$Search", "setVariable", "(II)V"⟩, 4, none, 2, 407),
  (⟨"PatternMill$Search", "goBack", "()V"⟩, 3, none, 2, 412),
  (⟨"PatternMill$Search", "setKept", "()V"⟩, 2, none, 2, 416),
  (⟨"PatternMill", "latest", "(I)I"⟩, 2, some .int, 6, 420),
  (⟨"PatternMill", "replace", "(I)Z"⟩, 3, some .boolean, 6, 424),
  (⟨"PatternMill$Text", "exchange", "(IILPatternMill$Text;)Z"⟩, 5, some .boolean, 5, 428),
  (⟨"PatternMillModel", "<init>", "()V"⟩, 1, none, 7, 433),
  (⟨"PatternMillModel", "sign", "(I)I"⟩, 2, some .int, 7, 534),
  (⟨"PatternMillModel", "let", "(I)Z"⟩, 3, some .boolean, 7, 538),
  (⟨"PatternMillModel", "isVariable", "(I)Z"⟩, 1, some .boolean, 7, 541),
  (⟨"PatternMillModel", "value", "(II)I"⟩, 3, some .int, 7, 545),
  (⟨"PatternMillModel", "length", "(I)I"⟩, 2, some .int, 7, 549),
  (⟨"PatternMillModel", "node", "(III)I"⟩, 7, some .int, 7, 553),
  (⟨"PatternMillModel", "can", "(III)Z"⟩, 4, some .boolean, 7, 557),
  (⟨"PatternMillModel", "isNode", "(I)Z"⟩, 2, some .boolean, 7, 561),
  (⟨"PatternMillModel", "clear", "()V"⟩, 1, none, 7, 565),
  (⟨"PatternMillModel", "about", "(II)I"⟩, 3, some .int, 7, 569),
  (⟨"PatternMillModel", "match", "(IIZ)I"⟩, 7, some .int, 7, 573),
  (⟨"PatternMillModel", "tries", "(II)I"⟩, 5, some .int, 7, 577),
  (⟨"PatternMillModel", "begin", "(III)V"⟩, 4, none, 7, 581),
  (⟨"PatternMillModel", "begins", "()V"⟩, 4, none, 7, 585),
  (⟨"PatternMillModel", "succeeds", "(I)V"⟩, 2, none, 7, 589),
  (⟨"PatternMillModel", "plain", "(II)I"⟩, 5, some .int, 7, 593),
  (⟨"PatternMillModel", "isIn", "(II)Z"⟩, 4, some .boolean, 7, 597),
  (⟨"PatternMillModel", "behind", "([BIII)I"⟩, 6, some .int, 7, 601),
  (⟨"PatternMillModel", "span", "(II)I"⟩, 4, some .int, 7, 605),
  (⟨"PatternMillModel", "stop", "(II)I"⟩, 4, some .int, 7, 609),
  (⟨"PatternMillModel", "balanced", "(II)I"⟩, 5, some .int, 7, 613),
  (⟨"PatternMillModel", "told", "(II)I"⟩, 3, some .int, 7, 617),
  (⟨"PatternMillModel", "goesBack", "()V"⟩, 3, none, 7, 621),
  (⟨"PatternMillModel", "hasSucceeded", "(I)V"⟩, 5, none, 7, 625),
  (⟨"PatternMillModel", "becomes", "(II)V"⟩, 4, none, 7, 629),
  (⟨"PatternMillModel", "hasFailed", "(I)V"⟩, 5, none, 7, 633),
  (⟨"PatternMillModel", "keep", "(I)V"⟩, 6, none, 7, 637),
  (⟨"PatternMillModel", "latest", "(I)I"⟩, 2, some .int, 7, 641),
  (⟨"PatternMillModel", "replace", "(I)Z"⟩, 4, some .boolean, 7, 645)]
def pg_m (z : Nat) : MethodName × Nat × Option FieldType × Nat × Nat := pg_ms.getD z (⟨"", "", ""⟩, 0, none, 99, 0)
def pg_y (z : Nat) : MethodName := (pg_m z).1
def pg_l (z : Nat) : Nat := (pg_m z).2.1
def pg_r (z : Nat) : Option FieldType := (pg_m z).2.2.1
def pg_o1 (z : Nat) : Nat := (pg_m z).2.2.2.1
def pg_c0 : List (Nat × Instr × Nat) := [(0, .new 7, 3), (3, .dup, 1), (4, .invokespecial 9, 3), (7, .astore_n 1, 1), (8, .new 10, 3), (11, .dup, 1), (12, .invokespecial 12, 3), (15, .astore_n 2, 1), (16, .iconst 0, 1), (17, .istore_n 3, 1), (18, .iload_n 3, 1), (19, .aload_n 0, 1), (20, .arraylength, 1), (21, .iconst 4, 1), (22, .isub, 1), (23, .if_icmp .gt 365, 3), (26, .aload_n 0, 1), (27, .iload_n 3, 1), (28, .iaload, 1), (29, .bipush 15, 2), (31, .iand, 1), (32, .tableswitch 350 0 9 #[56, 79, 102, 135, 158, 201, 212, 245, 304, 327], 56), (88, .aload_n 1, 1), (89, .aload_n 0, 1), (90, .iload_n 3, 1), (91, .iconst 1, 1), (92, .iadd, 1), (93, .iaload, 1), (94, .invokevirtual 13, 3), (97, .aload_n 2, 1), (98, .aload_n 0, 1), (99, .iload_n 3, 1), (100, .iconst 1, 1), (101, .iadd, 1), (102, .iaload, 1), (103, .invokevirtual 17, 3), (106, .if_icmp .eq 276, 3), (109, .iconst 0, 1), (110, .ireturn, 1), (111, .aload_n 1, 1), (112, .aload_n 0, 1), (113, .iload_n 3, 1), (114, .iconst 1, 1), (115, .iadd, 1), (116, .iaload, 1), (117, .invokevirtual 18, 3), (120, .aload_n 2, 1), (121, .aload_n 0, 1), (122, .iload_n 3, 1), (123, .iconst 1, 1), (124, .iadd, 1), (125, .iaload, 1), (126, .invokevirtual 22, 3), (129, .if_icmp .eq 253, 3), (132, .iconst 0, 1), (133, .ireturn, 1), (134, .aload_n 1, 1), (135, .aload_n 0, 1), (136, .iload_n 3, 1), (137, .iconst 1, 1), (138, .iadd, 1), (139, .iaload, 1), (140, .aload_n 0, 1), (141, .iload_n 3, 1), (142, .iconst 2, 1), (143, .iadd, 1), (144, .iaload, 1), (145, .invokevirtual 23, 3), (148, .aload_n 2, 1), (149, .aload_n 0, 1), (150, .iload_n 3, 1), (151, .iconst 1, 1), (152, .iadd, 1), (153, .iaload, 1), (154, .aload_n 0, 1), (155, .iload_n 3, 1), (156, .iconst 2, 1), (157, .iadd, 1), (158, .iaload, 1), (159, .invokevirtual 27, 3), (162, .if_icmp .eq 220, 3), (165, .iconst 0, 1), (166, .ireturn, 1), (167, .aload_n 1, 1), (168, .aload_n 0, 1), (169, .iload_n 3, 1), (170, .iconst 1, 1), (171, .iadd, 1), (172, .iaload, 1), (173, .invokevirtual 28, 3), (176, .aload_n 2, 1), (177, .aload_n 0, 1), (178, .iload_n 3, 1), (179, .iconst 1, 1), (180, .iadd, 1), (181, .iaload, 1), (182, .invokevirtual 31, 3), (185, .if_icmp .eq 197, 3), (188, .iconst 0, 1), (189, .ireturn, 1), (190, .aload_n 1, 1), (191, .aload_n 0, 1), (192, .iload_n 3, 1), (193, .iconst 1, 1), (194, .iadd, 1), (195, .iaload, 1), (196, .aload_n 0, 1), (197, .iload_n 3, 1), (198, .iconst 2, 1), (199, .iadd, 1), (200, .iaload, 1), (201, .aload_n 0, 1), (202, .iload_n 3, 1), (203, .iconst 3, 1), (204, .iadd, 1), (205, .iaload, 1), (206, .invokevirtual 32, 3), (209, .aload_n 2, 1), (210, .aload_n 0, 1), (211, .iload_n 3, 1), (212, .iconst 1, 1), (213, .iadd, 1), (214, .iaload, 1), (215, .aload_n 0, 1), (216, .iload_n 3, 1), (217, .iconst 2, 1), (218, .iadd, 1), (219, .iaload, 1), (220, .aload_n 0, 1), (221, .iload_n 3, 1), (222, .iconst 3, 1), (223, .iadd, 1), (224, .iaload, 1), (225, .invokevirtual 36, 3), (228, .if_icmp .eq 154, 3), (231, .iconst 0, 1), (232, .ireturn, 1), (233, .aload_n 1, 1), (234, .invokevirtual 37, 3), (237, .aload_n 2, 1), (238, .invokevirtual 40, 3), (241, .goto 141, 3), (244, .aload_n 1, 1), (245, .aload_n 0, 1), (246, .iload_n 3, 1), (247, .iconst 1, 1), (248, .iadd, 1), (249, .iaload, 1), (250, .aload_n 0, 1), (251, .iload_n 3, 1), (252, .iconst 2, 1), (253, .iadd, 1), (254, .iaload, 1), (255, .invokevirtual 41, 3), (258, .aload_n 2, 1), (259, .aload_n 0, 1), (260, .iload_n 3, 1), (261, .iconst 1, 1), (262, .iadd, 1), (263, .iaload, 1), (264, .aload_n 0, 1), (265, .iload_n 3, 1), (266, .iconst 2, 1), (267, .iadd, 1), (268, .iaload, 1), (269, .invokevirtual 44, 3), (272, .if_icmp .eq 110, 3), (275, .iconst 0, 1), (276, .ireturn, 1), (277, .aload_n 1, 1), (278, .aload_n 0, 1), (279, .iload_n 3, 1), (280, .iconst 1, 1), (281, .iadd, 1), (282, .iaload, 1), (283, .aload_n 0, 1), (284, .iload_n 3, 1), (285, .iconst 2, 1), (286, .iadd, 1), (287, .iaload, 1), (288, .aload_n 0, 1), (289, .iload_n 3, 1), (290, .iconst 3, 1), (291, .iadd, 1), (292, .iaload, 1), (293, .ifCond .eq 7, 3), (296, .iconst 1, 1), (297, .goto 4, 3), (300, .iconst 0, 1), (301, .invokevirtual 45, 3), (304, .aload_n 2, 1), (305, .aload_n 0, 1), (306, .iload_n 3, 1), (307, .iconst 1, 1), (308, .iadd, 1), (309, .iaload, 1), (310, .aload_n 0, 1), (311, .iload_n 3, 1), (312, .iconst 2, 1), (313, .iadd, 1), (314, .iaload, 1), (315, .aload_n 0, 1), (316, .iload_n 3, 1), (317, .iconst 3, 1), (318, .iadd, 1), (319, .iaload, 1), (320, .ifCond .eq 7, 3), (323, .iconst 1, 1), (324, .goto 4, 3), (327, .iconst 0, 1), (328, .invokevirtual 49, 3), (331, .if_icmp .eq 51, 3), (334, .iconst 0, 1), (335, .ireturn, 1), (336, .aload_n 1, 1), (337, .aload_n 0, 1), (338, .iload_n 3, 1), (339, .iconst 1, 1), (340, .iadd, 1), (341, .iaload, 1), (342, .invokevirtual 50, 3), (345, .aload_n 2, 1), (346, .aload_n 0, 1), (347, .iload_n 3, 1), (348, .iconst 1, 1), (349, .iadd, 1), (350, .iaload, 1), (351, .invokevirtual 53, 3), (354, .if_icmp .eq 28, 3), (357, .iconst 0, 1), (358, .ireturn, 1), (359, .aload_n 1, 1), (360, .aload_n 0, 1), (361, .iload_n 3, 1), (362, .iconst 1, 1), (363, .iadd, 1), (364, .iaload, 1), (365, .invokevirtual 54, 3), (368, .aload_n 2, 1), (369, .aload_n 0, 1), (370, .iload_n 3, 1), (371, .iconst 1, 1), (372, .iadd, 1), (373, .iaload, 1), (374, .invokevirtual 57, 3), (377, .if_icmp .eq 5, 3), (380, .iconst 0, 1), (381, .ireturn, 1), (382, .iinc 3 4, 3), (385, .goto (-367), 3), (388, .iconst 1, 1), (389, .ireturn, 1)]
def pg_c1 : List (Nat × Instr × Nat) := [(0, .aload_n 0, 1), (1, .invokespecial 1, 3), (4, .aload_n 0, 1), (5, .new 7, 3), (8, .dup, 1), (9, .invokespecial 9, 3), (12, .putfield 10, 3), (15, .aload_n 0, 1), (16, .new 16, 3), (19, .dup, 1), (20, .invokespecial 18, 3), (23, .putfield 19, 3), (26, .aload_n 0, 1), (27, .new 23, 3), (30, .dup, 1), (31, .aload_n 0, 1), (32, .getfield 19, 3), (35, .invokespecial 25, 3), (38, .putfield 28, 3), (41, .aload_n 0, 1), (42, .iconst (-1), 1), (43, .putfield 32, 3), (46, .aload_n 0, 1), (47, .iconst (-1), 1), (48, .putfield 36, 3), (51, .aload_n 0, 1), (52, .iconst (-1), 1), (53, .putfield 39, 3), (56, .return_, 1)]
def pg_c2 : List (Nat × Instr × Nat) := [(0, .aload_n 0, 1), (1, .invokespecial 3, 3), (4, .aload_n 0, 1), (5, .bipush 64, 2), (7, .newarray .int, 2), (9, .putfield 9, 3), (12, .aload_n 0, 1), (13, .iconst 0, 1), (14, .putfield 15, 3), (17, .return_, 1)]
def pg_c3 : List (Nat × Instr × Nat) := [(0, .aload_n 0, 1), (1, .invokespecial 3, 3), (4, .aload_n 0, 1), (5, .bipush 8, 2), (7, .anewarray 9, 3), (10, .putfield 11, 3), (13, .aload_n 0, 1), (14, .bipush 64, 2), (16, .anewarray 17, 3), (19, .putfield 19, 3), (22, .aload_n 0, 1), (23, .iconst 0, 1), (24, .putfield 23, 3), (27, .iconst 0, 1), (28, .istore_n 1, 1), (29, .iload_n 1, 1), (30, .bipush 8, 2), (32, .if_icmp .ge 22, 3), (35, .aload_n 0, 1), (36, .getfield 11, 3), (39, .iload_n 1, 1), (40, .new 9, 3), (43, .dup, 1), (44, .invokespecial 27, 3), (47, .aastore, 1), (48, .iinc 1 1, 3), (51, .goto (-22), 3), (54, .iconst 0, 1), (55, .istore_n 1, 1), (56, .iload_n 1, 1), (57, .bipush 64, 2), (59, .if_icmp .ge 22, 3), (62, .aload_n 0, 1), (63, .getfield 19, 3), (66, .iload_n 1, 1), (67, .new 17, 3), (70, .dup, 1), (71, .invokespecial 28, 3), (74, .aastore, 1), (75, .iinc 1 1, 3), (78, .goto (-22), 3), (81, .return_, 1)]
def pg_c4 : List (Nat × Instr × Nat) := [(0, .aload_n 0, 1), (1, .invokespecial 1, 3), (4, .aload_n 0, 1), (5, .new 7, 3), (8, .dup, 1), (9, .invokespecial 9, 3), (12, .putfield 10, 3), (15, .aload_n 0, 1), (16, .iconst 0, 1), (17, .putfield 16, 3), (20, .aload_n 0, 1), (21, .iconst 0, 1), (22, .putfield 20, 3), (25, .aload_n 0, 1), (26, .iconst 0, 1), (27, .putfield 23, 3), (30, .return_, 1)]
def pg_c5 : List (Nat × Instr × Nat) := [(0, .aload_n 0, 1), (1, .invokespecial 3, 3), (4, .aload_n 0, 1), (5, .new 9, 3), (8, .dup, 1), (9, .invokespecial 11, 3), (12, .putfield 12, 3), (15, .aload_n 0, 1), (16, .new 18, 3), (19, .dup, 1), (20, .invokespecial 20, 3), (23, .putfield 21, 3), (26, .aload_n 0, 1), (27, .new 25, 3), (30, .dup, 1), (31, .invokespecial 27, 3), (34, .putfield 28, 3), (37, .aload_n 0, 1), (38, .new 25, 3), (41, .dup, 1), (42, .invokespecial 27, 3), (45, .putfield 32, 3), (48, .aload_n 0, 1), (49, .iconst 0, 1), (50, .putfield 35, 3), (53, .aload_n 0, 1), (54, .iconst 0, 1), (55, .putfield 39, 3), (58, .aload_n 0, 1), (59, .iconst 0, 1), (60, .putfield 42, 3), (63, .aload_n 0, 1), (64, .iconst 2, 1), (65, .putfield 45, 3), (68, .aload_n 0, 1), (69, .aconst_null, 1), (70, .putfield 48, 3), (73, .aload_n 0, 1), (74, .iconst 0, 1), (75, .putfield 52, 3), (78, .aload_n 0, 1), (79, .aload_n 1, 1), (80, .putfield 55, 3), (83, .return_, 1)]
def pg_c6 : List (Nat × Instr × Nat) := [(0, .aload_n 0, 1), (1, .invokespecial 3, 3), (4, .aload_n 0, 1), (5, .sipush 3001, 3), (8, .anewarray 9, 3), (11, .putfield 11, 3), (14, .aload_n 0, 1), (15, .sipush 3001, 3), (18, .newarray .int, 2), (20, .putfield 17, 3), (23, .aload_n 0, 1), (24, .sipush 3001, 3), (27, .newarray .int, 2), (29, .putfield 21, 3), (32, .aload_n 0, 1), (33, .sipush 3001, 3), (36, .newarray .int, 2), (38, .putfield 24, 3), (41, .aload_n 0, 1), (42, .sipush 3001, 3), (45, .newarray .int, 2), (47, .putfield 27, 3), (50, .aload_n 0, 1), (51, .iconst 0, 1), (52, .putfield 30, 3), (55, .return_, 1)]
def pg_c7 : List (Nat × Instr × Nat) := [(0, .aload_n 0, 1), (1, .invokespecial 3, 3), (4, .aload_n 0, 1), (5, .sipush 3000, 3), (8, .newarray .int, 2), (10, .putfield 9, 3), (13, .aload_n 0, 1), (14, .iconst 0, 1), (15, .putfield 15, 3), (18, .return_, 1)]
def pg_c8 : List (Nat × Instr × Nat) := [(0, .aload_n 0, 1), (1, .getfield 10, 3), (4, .iload_n 1, 1), (5, .sipush 255, 3), (8, .iand, 1), (9, .invokevirtual 42, 3), (12, .ifCond .eq 13, 3), (15, .aload_n 0, 1), (16, .getfield 10, 3), (19, .getfield 46, 3), (22, .goto 4, 3), (25, .iconst (-1), 1), (26, .ireturn, 1)]
def pg_c9 : List (Nat × Instr × Nat) := [(0, .aload_n 0, 1), (1, .getfield 15, 3), (4, .bipush 64, 2), (6, .if_icmp .lt 5, 3), (9, .iconst 0, 1), (10, .ireturn, 1), (11, .aload_n 0, 1), (12, .getfield 9, 3), (15, .aload_n 0, 1), (16, .getfield 15, 3), (19, .iload_n 1, 1), (20, .iastore, 1), (21, .aload_n 0, 1), (22, .dup, 1), (23, .getfield 15, 3), (26, .iconst 1, 1), (27, .iadd, 1), (28, .putfield 15, 3), (31, .iconst 1, 1), (32, .ireturn, 1)]
def pg_c10 : List (Nat × Instr × Nat) := [(0, .aload_n 0, 1), (1, .getfield 19, 3), (4, .iload_n 1, 1), (5, .invokevirtual 49, 3), (8, .astore_n 2, 1), (9, .aload_n 2, 1), (10, .ifnonnull 5, 3), (13, .iconst 0, 1), (14, .ireturn, 1), (15, .aload_n 2, 1), (16, .aload_n 0, 1), (17, .getfield 10, 3), (20, .invokevirtual 53, 3), (23, .aload_n 0, 1), (24, .getfield 10, 3), (27, .iconst 0, 1), (28, .putfield 46, 3), (31, .iconst 1, 1), (32, .ireturn, 1)]
def pg_c11 : List (Nat × Instr × Nat) := [(0, .iload_n 1, 1), (1, .ifCond .lt 18, 3), (4, .iload_n 1, 1), (5, .bipush 8, 2), (7, .if_icmp .ge 12, 3), (10, .aload_n 0, 1), (11, .getfield 11, 3), (14, .iload_n 1, 1), (15, .aaload, 1), (16, .goto 4, 3), (19, .aconst_null, 1), (20, .areturn, 1)]
def pg_c12 : List (Nat × Instr × Nat) := [(0, .aload_n 0, 1), (1, .aload_n 1, 1), (2, .iconst 0, 1), (3, .aload_n 1, 1), (4, .getfield 15, 3), (7, .invokevirtual 19, 3), (10, .return_, 1)]
def pg_c13 : List (Nat × Instr × Nat) := [(0, .iload_n 2, 1), (1, .ifCond .lt 16, 3), (4, .iload_n 2, 1), (5, .iload_n 3, 1), (6, .if_icmp .gt 11, 3), (9, .iload_n 3, 1), (10, .aload_n 1, 1), (11, .getfield 15, 3), (14, .if_icmp .le 4, 3), (17, .return_, 1), (18, .aload_n 1, 1), (19, .getfield 9, 3), (22, .iload_n 2, 1), (23, .aload_n 0, 1), (24, .getfield 9, 3), (27, .iconst 0, 1), (28, .iload_n 3, 1), (29, .iload_n 2, 1), (30, .isub, 1), (31, .invokestatic 23, 3), (34, .aload_n 0, 1), (35, .iload_n 3, 1), (36, .iload_n 2, 1), (37, .isub, 1), (38, .putfield 15, 3), (41, .return_, 1)]
def pg_c14 : List (Nat × Instr × Nat) := [(0, .aload_n 0, 1), (1, .getfield 19, 3), (4, .iload_n 1, 1), (5, .invokevirtual 49, 3), (8, .astore_n 3, 1), (9, .aload_n 3, 1), (10, .ifnonnull 7, 3), (13, .iconst (-1), 1), (14, .goto 8, 3), (17, .aload_n 3, 1), (18, .iload_n 2, 1), (19, .invokevirtual 57, 3), (22, .ireturn, 1)]
def pg_c15 : List (Nat × Instr × Nat) := [(0, .iload_n 1, 1), (1, .ifCond .lt 20, 3), (4, .iload_n 1, 1), (5, .aload_n 0, 1), (6, .getfield 15, 3), (9, .if_icmp .ge 12, 3), (12, .aload_n 0, 1), (13, .getfield 9, 3), (16, .iload_n 1, 1), (17, .iaload, 1), (18, .goto 4, 3), (21, .iconst (-1), 1), (22, .ireturn, 1)]
def pg_c16 : List (Nat × Instr × Nat) := [(0, .aload_n 0, 1), (1, .getfield 19, 3), (4, .iload_n 1, 1), (5, .invokevirtual 49, 3), (8, .astore_n 2, 1), (9, .aload_n 2, 1), (10, .ifnonnull 7, 3), (13, .iconst (-1), 1), (14, .goto 7, 3), (17, .aload_n 2, 1), (18, .getfield 46, 3), (21, .ireturn, 1)]
def pg_c17 : List (Nat × Instr × Nat) := [(0, .aload_n 0, 1), (1, .getfield 19, 3), (4, .iload_n 1, 1), (5, .iload_n 2, 1), (6, .iload_n 3, 1), (7, .aload_n 0, 1), (8, .getfield 10, 3), (11, .invokevirtual 61, 3), (14, .ireturn, 1)]
def pg_c18 : List (Nat × Instr × Nat) := [(0, .aload_n 0, 1), (1, .getfield 23, 3), (4, .bipush 64, 2), (6, .if_icmp .ge 23, 3), (9, .iload_n 1, 1), (10, .ifCond .lt 19, 3), (13, .iload_n 1, 1), (14, .bipush 23, 2), (16, .if_icmp .gt 13, 3), (19, .aload_n 0, 1), (20, .iload_n 1, 1), (21, .iload_n 2, 1), (22, .iload_n 3, 1), (23, .invokevirtual 37, 3), (26, .ifCond .ne 5, 3), (29, .iconst (-1), 1), (30, .ireturn, 1), (31, .aload_n 0, 1), (32, .getfield 19, 3), (35, .aload_n 0, 1), (36, .getfield 23, 3), (39, .aaload, 1), (40, .astore 5, 2), (42, .aload 5, 2), (44, .iload_n 1, 1), (45, .putfield 41, 3), (48, .aload 5, 2), (50, .iload_n 1, 1), (51, .invokestatic 44, 3), (54, .ifCond .eq 7, 3), (57, .iload_n 2, 1), (58, .goto 4, 3), (61, .iconst 0, 1), (62, .putfield 48, 3), (65, .aload 5, 2), (67, .iload_n 1, 1), (68, .invokestatic 51, 3), (71, .ifCond .eq 7, 3), (74, .iload_n 3, 1), (75, .goto 4, 3), (78, .iconst 0, 1), (79, .putfield 54, 3), (82, .aload 5, 2), (84, .getfield 57, 3), (87, .iconst 0, 1), (88, .putfield 61, 3), (91, .iload_n 1, 1), (92, .iconst 4, 1), (93, .if_icmp .gt 19, 3), (96, .aload 5, 2), (98, .getfield 57, 3), (101, .aload 4, 2), (103, .invokevirtual 64, 3), (106, .aload 4, 2), (108, .iconst 0, 1), (109, .putfield 61, 3), (112, .aload_n 0, 1), (113, .dup, 1), (114, .getfield 23, 3), (117, .iconst 1, 1), (118, .iadd, 1), (119, .putfield 23, 3), (122, .aload_n 0, 1), (123, .getfield 23, 3), (126, .iconst 1, 1), (127, .isub, 1), (128, .ireturn, 1)]
def pg_c19 : List (Nat × Instr × Nat) := [(0, .iload_n 1, 1), (1, .tableswitch 189 5 23 #[91, 91, 91, 91, 91, 189, 189, 189, 189, 189, 189, 101, 115, 115, 137, 137, 159, 159, 173], 91), (92, .iload_n 2, 1), (93, .ifCond .lt 7, 3), (96, .iconst 1, 1), (97, .goto 4, 3), (100, .iconst 0, 1), (101, .ireturn, 1), (102, .aload_n 0, 1), (103, .iload_n 2, 1), (104, .invokevirtual 29, 3), (107, .ifnull 7, 3), (110, .iconst 1, 1), (111, .goto 4, 3), (114, .iconst 0, 1), (115, .ireturn, 1), (116, .aload_n 0, 1), (117, .iload_n 2, 1), (118, .invokevirtual 29, 3), (121, .ifnull 15, 3), (124, .aload_n 0, 1), (125, .iload_n 3, 1), (126, .invokevirtual 29, 3), (129, .ifnull 7, 3), (132, .iconst 1, 1), (133, .goto 4, 3), (136, .iconst 0, 1), (137, .ireturn, 1), (138, .aload_n 0, 1), (139, .iload_n 2, 1), (140, .invokevirtual 29, 3), (143, .ifnull 15, 3), (146, .aload_n 0, 1), (147, .iload_n 3, 1), (148, .invokevirtual 33, 3), (151, .ifnull 7, 3), (154, .iconst 1, 1), (155, .goto 4, 3), (158, .iconst 0, 1), (159, .ireturn, 1), (160, .aload_n 0, 1), (161, .iload_n 2, 1), (162, .invokevirtual 33, 3), (165, .ifnull 7, 3), (168, .iconst 1, 1), (169, .goto 4, 3), (172, .iconst 0, 1), (173, .ireturn, 1), (174, .iload_n 2, 1), (175, .ifCond .lt 13, 3), (178, .iload_n 2, 1), (179, .bipush 64, 2), (181, .if_icmp .ge 7, 3), (184, .iconst 1, 1), (185, .goto 4, 3), (188, .iconst 0, 1), (189, .ireturn, 1), (190, .iconst 1, 1), (191, .ireturn, 1)]
def pg_c20 : List (Nat × Instr × Nat) := [(0, .iload_n 1, 1), (1, .ifCond .lt 20, 3), (4, .iload_n 1, 1), (5, .aload_n 0, 1), (6, .getfield 23, 3), (9, .if_icmp .ge 12, 3), (12, .aload_n 0, 1), (13, .getfield 19, 3), (16, .iload_n 1, 1), (17, .aaload, 1), (18, .goto 4, 3), (21, .aconst_null, 1), (22, .areturn, 1)]
def pg_c21 : List (Nat × Instr × Nat) := [(0, .iload_n 0, 1), (1, .iconst 5, 1), (2, .if_icmp .lt 9, 3), (5, .iload_n 0, 1), (6, .bipush 9, 2), (8, .if_icmp .le 9, 3), (11, .iload_n 0, 1), (12, .bipush 16, 2), (14, .if_icmp .lt 7, 3), (17, .iconst 1, 1), (18, .goto 4, 3), (21, .iconst 0, 1), (22, .ireturn, 1)]
def pg_c22 : List (Nat × Instr × Nat) := [(0, .iload_n 0, 1), (1, .bipush 17, 2), (3, .if_icmp .lt 13, 3), (6, .iload_n 0, 1), (7, .bipush 20, 2), (9, .if_icmp .gt 7, 3), (12, .iconst 1, 1), (13, .goto 4, 3), (16, .iconst 0, 1), (17, .ireturn, 1)]
def pg_c23 : List (Nat × Instr × Nat) := [(0, .aload_n 0, 1), (1, .getfield 19, 3), (4, .iconst 0, 1), (5, .putfield 65, 3), (8, .return_, 1)]
def pg_c24 : List (Nat × Instr × Nat) := [(0, .aload_n 0, 1), (1, .getfield 19, 3), (4, .iload_n 1, 1), (5, .invokevirtual 68, 3), (8, .astore_n 3, 1), (9, .aload_n 3, 1), (10, .ifnonnull 5, 3), (13, .iconst (-1), 1), (14, .ireturn, 1), (15, .iload_n 2, 1), (16, .tableswitch 55 0 3 #[32, 37, 42, 47], 32), (48, .aload_n 3, 1), (49, .getfield 72, 3), (52, .ireturn, 1), (53, .aload_n 3, 1), (54, .getfield 77, 3), (57, .ireturn, 1), (58, .aload_n 3, 1), (59, .getfield 80, 3), (62, .ireturn, 1), (63, .aload_n 3, 1), (64, .getfield 83, 3), (67, .getfield 46, 3), (70, .ireturn, 1), (71, .iconst (-1), 1), (72, .ireturn, 1)]
def pg_c25 : List (Nat × Instr × Nat) := [(0, .aload_n 0, 1), (1, .getfield 19, 3), (4, .iload_n 1, 1), (5, .invokevirtual 49, 3), (8, .astore 4, 2), (10, .aload_n 0, 1), (11, .getfield 19, 3), (14, .iload_n 2, 1), (15, .invokevirtual 68, 3), (18, .astore 5, 2), (20, .aload 4, 2), (22, .ifnull 8, 3), (25, .aload 5, 2), (27, .ifnonnull 5, 3), (30, .iconst (-1), 1), (31, .ireturn, 1), (32, .aload_n 0, 1), (33, .getfield 28, 3), (36, .aload 4, 2), (38, .aload 5, 2), (40, .iload_n 3, 1), (41, .invokevirtual 86, 3), (44, .istore 6, 2), (46, .aload_n 0, 1), (47, .iload 6, 2), (49, .iconst 1, 1), (50, .if_icmp .ne 13, 3), (53, .aload_n 0, 1), (54, .getfield 28, 3), (57, .getfield 90, 3), (60, .goto 4, 3), (63, .iconst (-1), 1), (64, .putfield 32, 3), (67, .aload_n 0, 1), (68, .iload 6, 2), (70, .iconst 1, 1), (71, .if_icmp .ne 13, 3), (74, .aload_n 0, 1), (75, .getfield 28, 3), (78, .getfield 93, 3), (81, .goto 4, 3), (84, .iconst (-1), 1), (85, .putfield 36, 3), (88, .aload_n 0, 1), (89, .aload_n 0, 1), (90, .getfield 28, 3), (93, .getfield 96, 3), (96, .getfield 100, 3), (99, .putfield 39, 3), (102, .iload 6, 2), (104, .ireturn, 1)]
def pg_c26 : List (Nat × Instr × Nat) := [(0, .aload_n 0, 1), (1, .getfield 12, 3), (4, .aload_n 1, 1), (5, .invokevirtual 59, 3), (8, .aload_n 0, 1), (9, .getfield 21, 3), (12, .iconst 0, 1), (13, .putfield 63, 3), (16, .aload_n 0, 1), (17, .iconst 0, 1), (18, .putfield 42, 3), (21, .iload_n 3, 1), (22, .ifCond .eq 7, 3), (25, .iconst 0, 1), (26, .goto 10, 3), (29, .aload_n 0, 1), (30, .getfield 12, 3), (33, .getfield 66, 3), (36, .istore 4, 2), (38, .iconst 0, 1), (39, .istore 5, 2), (41, .iload 5, 2), (43, .iload 4, 2), (45, .if_icmp .gt 23, 3), (48, .aload_n 0, 1), (49, .getfield 42, 3), (52, .ifCond .ne 16, 3), (55, .aload_n 0, 1), (56, .aload_n 2, 1), (57, .iload 5, 2), (59, .invokevirtual 69, 3), (62, .iinc 5 1, 3), (65, .goto (-24), 3), (68, .aload_n 0, 1), (69, .getfield 42, 3), (72, .iconst 1, 1), (73, .if_icmp .ne 7, 3), (76, .aload_n 0, 1), (77, .invokevirtual 73, 3), (80, .aload_n 0, 1), (81, .getfield 42, 3), (84, .ireturn, 1)]
def pg_c27 : List (Nat × Instr × Nat) := [(0, .aload_n 0, 1), (1, .iload_n 2, 1), (2, .putfield 35, 3), (5, .aload_n 0, 1), (6, .getfield 28, 3), (9, .iconst 0, 1), (10, .putfield 76, 3), (13, .aload_n 0, 1), (14, .getfield 32, 3), (17, .iconst 0, 1), (18, .putfield 76, 3), (21, .aload_n 0, 1), (22, .iconst 4, 1), (23, .putfield 42, 3), (26, .aload_n 0, 1), (27, .aload_n 1, 1), (28, .iload_n 2, 1), (29, .iconst 0, 1), (30, .invokevirtual 77, 3), (33, .iconst 0, 1), (34, .istore_n 3, 1), (35, .iload_n 3, 1), (36, .ldc 81, 2), (38, .if_icmp .ge 66, 3), (41, .aload_n 0, 1), (42, .getfield 42, 3), (45, .iconst 4, 1), (46, .if_icmp .ne 58, 3), (49, .aload_n 0, 1), (50, .getfield 45, 3), (53, .lookupswitch 41 #[(0, 27), (1, 34)], 27), (80, .aload_n 0, 1), (81, .invokevirtual 82, 3), (84, .goto 14, 3), (87, .aload_n 0, 1), (88, .invokevirtual 85, 3), (91, .goto 7, 3), (94, .aload_n 0, 1), (95, .invokevirtual 88, 3), (98, .iinc 3 1, 3), (101, .goto (-66), 3), (104, .return_, 1)]
def pg_c28 : List (Nat × Instr × Nat) := [(0, .aload_n 0, 1), (1, .aload_n 1, 1), (2, .putfield 48, 3), (5, .aload_n 0, 1), (6, .iload_n 2, 1), (7, .putfield 39, 3), (10, .aload_n 0, 1), (11, .iload_n 3, 1), (12, .putfield 52, 3), (15, .aload_n 0, 1), (16, .aload_n 1, 1), (17, .ifnonnull 7, 3), (20, .iconst 2, 1), (21, .goto 4, 3), (24, .iconst 0, 1), (25, .putfield 45, 3), (28, .return_, 1)]
def pg_c29 : List (Nat × Instr × Nat) := [(0, .aload_n 0, 1), (1, .getfield 21, 3), (4, .aload_n 0, 1), (5, .getfield 48, 3), (8, .aload_n 0, 1), (9, .getfield 39, 3), (12, .aload_n 0, 1), (13, .getfield 52, 3), (16, .aload_n 0, 1), (17, .getfield 32, 3), (20, .getfield 76, 3), (23, .invokevirtual 123, 3), (26, .ifCond .ne 9, 3), (29, .aload_n 0, 1), (30, .iconst 3, 1), (31, .putfield 42, 3), (34, .return_, 1), (35, .aload_n 0, 1), (36, .getfield 21, 3), (39, .getfield 63, 3), (42, .istore_n 1, 1), (43, .aload_n 0, 1), (44, .getfield 48, 3), (47, .getfield 127, 3), (50, .tableswitch 197 11 23 #[74, 86, 197, 74, 66, 74, 171, 105, 171, 171, 197, 197, 142], 66), (116, .aload_n 0, 1), (117, .iconst 2, 1), (118, .putfield 42, 3), (121, .goto 142, 3), (124, .aload_n 0, 1), (125, .iload_n 1, 1), (126, .aload_n 0, 1), (127, .getfield 39, 3), (130, .invokevirtual 130, 3), (133, .goto 130, 3), (136, .aload_n 0, 1), (137, .iload_n 1, 1), (138, .aload_n 0, 1), (139, .getfield 12, 3), (142, .aload_n 0, 1), (143, .getfield 39, 3), (146, .invokevirtual 133, 3), (149, .invokevirtual 130, 3), (152, .goto 111, 3), (155, .aload_n 0, 1), (156, .getfield 28, 3), (159, .iload_n 1, 1), (160, .invokevirtual 137, 3), (163, .aload_n 0, 1), (164, .aload_n 0, 1), (165, .getfield 55, 3), (168, .aload_n 0, 1), (169, .getfield 48, 3), (172, .getfield 141, 3), (175, .invokevirtual 144, 3), (178, .aload_n 0, 1), (179, .getfield 39, 3), (182, .aload_n 0, 1), (183, .getfield 52, 3), (186, .invokevirtual 77, 3), (189, .goto 74, 3), (192, .aload_n 0, 1), (193, .aload_n 0, 1), (194, .getfield 55, 3), (197, .aload_n 0, 1), (198, .getfield 48, 3), (201, .getfield 141, 3), (204, .invokevirtual 144, 3), (207, .aload_n 0, 1), (208, .getfield 39, 3), (211, .aload_n 0, 1), (212, .getfield 52, 3), (215, .invokevirtual 77, 3), (218, .goto 45, 3), (221, .aload_n 0, 1), (222, .aload_n 0, 1), (223, .getfield 55, 3), (226, .aload_n 0, 1), (227, .getfield 48, 3), (230, .getfield 141, 3), (233, .invokevirtual 144, 3), (236, .aload_n 0, 1), (237, .getfield 39, 3), (240, .iload_n 1, 1), (241, .invokevirtual 77, 3), (244, .goto 19, 3), (247, .aload_n 0, 1), (248, .aload_n 0, 1), (249, .aload_n 0, 1), (250, .getfield 48, 3), (253, .aload_n 0, 1), (254, .getfield 39, 3), (257, .invokevirtual 148, 3), (260, .invokevirtual 152, 3), (263, .return_, 1)]
def pg_c30 : List (Nat × Instr × Nat) := [(0, .aload_n 0, 1), (1, .getfield 30, 3), (4, .sipush 3000, 3), (7, .if_icmp .lt 5, 3), (10, .iconst 0, 1), (11, .ireturn, 1), (12, .aload_n 0, 1), (13, .dup, 1), (14, .getfield 30, 3), (17, .iconst 1, 1), (18, .iadd, 1), (19, .putfield 30, 3), (22, .aload_n 0, 1), (23, .getfield 11, 3), (26, .aload_n 0, 1), (27, .getfield 30, 3), (30, .aload_n 1, 1), (31, .aastore, 1), (32, .aload_n 0, 1), (33, .getfield 17, 3), (36, .aload_n 0, 1), (37, .getfield 30, 3), (40, .iload_n 2, 1), (41, .iastore, 1), (42, .aload_n 0, 1), (43, .getfield 21, 3), (46, .aload_n 0, 1), (47, .getfield 30, 3), (50, .iload_n 2, 1), (51, .iastore, 1), (52, .aload_n 0, 1), (53, .getfield 24, 3), (56, .aload_n 0, 1), (57, .getfield 30, 3), (60, .iload_n 3, 1), (61, .iastore, 1), (62, .aload_n 0, 1), (63, .getfield 27, 3), (66, .aload_n 0, 1), (67, .getfield 30, 3), (70, .iload 4, 2), (72, .iastore, 1), (73, .iconst 1, 1), (74, .ireturn, 1)]
def pg_c31 : List (Nat × Instr × Nat) := [(0, .iload_n 2, 1), (1, .iconst (-1), 1), (2, .if_icmp .eq 21, 3), (5, .aload_n 0, 1), (6, .getfield 21, 3), (9, .getfield 94, 3), (12, .iload_n 1, 1), (13, .iload_n 2, 1), (14, .iastore, 1), (15, .aload_n 0, 1), (16, .getfield 28, 3), (19, .iload_n 1, 1), (20, .invokevirtual 137, 3), (23, .aload_n 0, 1), (24, .iload_n 2, 1), (25, .invokevirtual 152, 3), (28, .return_, 1)]
def pg_c32 : List (Nat × Instr × Nat) := [(0, .aload_n 0, 1), (1, .getfield 15, 3), (4, .sipush 3000, 3), (7, .if_icmp .ge 23, 3), (10, .aload_n 0, 1), (11, .getfield 9, 3), (14, .aload_n 0, 1), (15, .getfield 15, 3), (18, .iload_n 1, 1), (19, .iastore, 1), (20, .aload_n 0, 1), (21, .dup, 1), (22, .getfield 15, 3), (25, .iconst 1, 1), (26, .iadd, 1), (27, .putfield 15, 3), (30, .return_, 1)]
def pg_c33 : List (Nat × Instr × Nat) := [(0, .iload_n 1, 1), (1, .iconst (-1), 1), (2, .if_icmp .ne 11, 3), (5, .aload_n 0, 1), (6, .iconst 2, 1), (7, .putfield 45, 3), (10, .goto 13, 3), (13, .aload_n 0, 1), (14, .iload_n 1, 1), (15, .putfield 39, 3), (18, .aload_n 0, 1), (19, .iconst 1, 1), (20, .putfield 45, 3), (23, .return_, 1)]
def pg_c34 : List (Nat × Instr × Nat) := [(0, .iconst 0, 1), (1, .istore_n 2, 1), (2, .iload_n 1, 1), (3, .istore_n 3, 1), (4, .iload_n 3, 1), (5, .aload_n 0, 1), (6, .getfield 15, 3), (9, .if_icmp .ge 52, 3), (12, .aload_n 0, 1), (13, .iload_n 3, 1), (14, .invokevirtual 29, 3), (17, .bipush 40, 2), (19, .if_icmp .ne 9, 3), (22, .iinc 2 1, 3), (25, .goto 16, 3), (28, .aload_n 0, 1), (29, .iload_n 3, 1), (30, .invokevirtual 29, 3), (33, .bipush 41, 2), (35, .if_icmp .ne 6, 3), (38, .iinc 2 (-1), 3), (41, .iload_n 2, 1), (42, .ifCond .ge 5, 3), (45, .iconst (-1), 1), (46, .ireturn, 1), (47, .iload_n 2, 1), (48, .ifCond .ne 7, 3), (51, .iload_n 3, 1), (52, .iconst 1, 1), (53, .iadd, 1), (54, .ireturn, 1), (55, .iinc 3 1, 3), (58, .goto (-54), 3), (61, .iconst (-1), 1), (62, .ireturn, 1)]
def pg_c35 : List (Nat × Instr × Nat) := [(0, .aload_n 1, 1), (1, .getfield 127, 3), (4, .tableswitch 209 0 22 #[108, 121, 135, 149, 162, 209, 209, 209, 209, 209, 209, 209, 209, 209, 209, 209, 209, 209, 209, 209, 209, 175, 192], 108), (112, .aload_n 0, 1), (113, .getfield 12, 3), (116, .aload_n 1, 1), (117, .getfield 155, 3), (120, .iload_n 2, 1), (121, .invokevirtual 158, 3), (124, .ireturn, 1), (125, .aload_n 0, 1), (126, .getfield 12, 3), (129, .aload_n 1, 1), (130, .getfield 155, 3), (133, .iconst 1, 1), (134, .iload_n 2, 1), (135, .invokevirtual 162, 3), (138, .ireturn, 1), (139, .aload_n 0, 1), (140, .getfield 12, 3), (143, .aload_n 1, 1), (144, .getfield 155, 3), (147, .iconst 0, 1), (148, .iload_n 2, 1), (149, .invokevirtual 162, 3), (152, .ireturn, 1), (153, .aload_n 0, 1), (154, .getfield 12, 3), (157, .aload_n 1, 1), (158, .getfield 155, 3), (161, .iload_n 2, 1), (162, .invokevirtual 166, 3), (165, .ireturn, 1), (166, .aload_n 0, 1), (167, .getfield 12, 3), (170, .aload_n 1, 1), (171, .getfield 155, 3), (174, .iload_n 2, 1), (175, .invokevirtual 169, 3), (178, .ireturn, 1), (179, .aload_n 0, 1), (180, .aload_n 0, 1), (181, .getfield 55, 3), (184, .aload_n 1, 1), (185, .getfield 141, 3), (188, .invokevirtual 110, 3), (191, .iload_n 2, 1), (192, .invokevirtual 172, 3), (195, .ireturn, 1), (196, .aload_n 0, 1), (197, .aload_n 0, 1), (198, .getfield 55, 3), (201, .aload_n 1, 1), (202, .getfield 141, 3), (205, .invokevirtual 110, 3), (208, .iload_n 2, 1), (209, .invokevirtual 175, 3), (212, .ireturn, 1), (213, .aload_n 0, 1), (214, .aload_n 1, 1), (215, .getfield 127, 3), (218, .aload_n 1, 1), (219, .getfield 141, 3), (222, .iload_n 2, 1), (223, .invokevirtual 178, 3), (226, .ireturn, 1)]
def pg_c36 : List (Nat × Instr × Nat) := [(0, .aload_n 1, 1), (1, .getfield 15, 3), (4, .aload_n 0, 1), (5, .getfield 15, 3), (8, .iload_n 2, 1), (9, .isub, 1), (10, .if_icmp .le 5, 3), (13, .iconst (-1), 1), (14, .ireturn, 1), (15, .iconst 0, 1), (16, .istore_n 3, 1), (17, .iload_n 3, 1), (18, .aload_n 1, 1), (19, .getfield 15, 3), (22, .if_icmp .ge 26, 3), (25, .aload_n 0, 1), (26, .iload_n 2, 1), (27, .iload_n 3, 1), (28, .iadd, 1), (29, .invokevirtual 29, 3), (32, .aload_n 1, 1), (33, .iload_n 3, 1), (34, .invokevirtual 29, 3), (37, .if_icmp .eq 5, 3), (40, .iconst (-1), 1), (41, .ireturn, 1), (42, .iinc 3 1, 3), (45, .goto (-28), 3), (48, .iload_n 2, 1), (49, .aload_n 1, 1), (50, .getfield 15, 3), (53, .iadd, 1), (54, .ireturn, 1)]
def pg_c37 : List (Nat × Instr × Nat) := [(0, .iload_n 3, 1), (1, .aload_n 0, 1), (2, .getfield 15, 3), (5, .if_icmp .ge 22, 3), (8, .aload_n 1, 1), (9, .aload_n 0, 1), (10, .iload_n 3, 1), (11, .invokevirtual 29, 3), (14, .invokevirtual 33, 3), (17, .iload_n 2, 1), (18, .if_icmp .ne 9, 3), (21, .iload_n 3, 1), (22, .iconst 1, 1), (23, .iadd, 1), (24, .goto 4, 3), (27, .iconst (-1), 1), (28, .ireturn, 1)]
def pg_c38 : List (Nat × Instr × Nat) := [(0, .iconst 0, 1), (1, .istore_n 2, 1), (2, .iload_n 2, 1), (3, .aload_n 0, 1), (4, .getfield 15, 3), (7, .if_icmp .ge 21, 3), (10, .aload_n 0, 1), (11, .getfield 9, 3), (14, .iload_n 2, 1), (15, .iaload, 1), (16, .iload_n 1, 1), (17, .if_icmp .ne 5, 3), (20, .iconst 1, 1), (21, .ireturn, 1), (22, .iinc 2 1, 3), (25, .goto (-23), 3), (28, .iconst 0, 1), (29, .ireturn, 1)]
def pg_c39 : List (Nat × Instr × Nat) := [(0, .iload_n 2, 1), (1, .istore_n 3, 1), (2, .iload_n 3, 1), (3, .aload_n 0, 1), (4, .getfield 15, 3), (7, .if_icmp .ge 22, 3), (10, .aload_n 1, 1), (11, .aload_n 0, 1), (12, .getfield 9, 3), (15, .iload_n 3, 1), (16, .iaload, 1), (17, .invokevirtual 33, 3), (20, .ifCond .eq 9, 3), (23, .iinc 3 1, 3), (26, .goto (-24), 3), (29, .iload_n 3, 1), (30, .iload_n 2, 1), (31, .if_icmp .le 7, 3), (34, .iload_n 3, 1), (35, .goto 4, 3), (38, .iconst (-1), 1), (39, .ireturn, 1)]
def pg_c40 : List (Nat × Instr × Nat) := [(0, .iload_n 2, 1), (1, .istore_n 3, 1), (2, .iload_n 3, 1), (3, .aload_n 0, 1), (4, .getfield 15, 3), (7, .if_icmp .ge 24, 3), (10, .aload_n 1, 1), (11, .aload_n 0, 1), (12, .getfield 9, 3), (15, .iload_n 3, 1), (16, .iaload, 1), (17, .invokevirtual 33, 3), (20, .ifCond .eq 5, 3), (23, .iload_n 3, 1), (24, .ireturn, 1), (25, .iinc 3 1, 3), (28, .goto (-26), 3), (31, .iconst (-1), 1), (32, .ireturn, 1)]
def pg_c41 : List (Nat × Instr × Nat) := [(0, .aload_n 1, 1), (1, .ifnull 8, 3), (4, .aload_n 1, 1), (5, .iload_n 2, 1), (6, .invokevirtual 182, 3), (9, .iload_n 2, 1), (10, .ireturn, 1)]
def pg_c42 : List (Nat × Instr × Nat) := [(0, .aload_n 0, 1), (1, .iload_n 1, 1), (2, .bipush 10, 2), (4, .if_icmp .lt 7, 3), (7, .iconst 2, 1), (8, .goto 4, 3), (11, .iconst 1, 1), (12, .putfield 15, 3), (15, .aload_n 0, 1), (16, .getfield 9, 3), (19, .iconst 0, 1), (20, .bipush 48, 2), (22, .iload_n 1, 1), (23, .bipush 10, 2), (25, .idiv, 1), (26, .iadd, 1), (27, .iastore, 1), (28, .aload_n 0, 1), (29, .getfield 9, 3), (32, .aload_n 0, 1), (33, .getfield 15, 3), (36, .iconst 1, 1), (37, .isub, 1), (38, .bipush 48, 2), (40, .iload_n 1, 1), (41, .bipush 10, 2), (43, .irem, 1), (44, .iadd, 1), (45, .iastore, 1), (46, .return_, 1)]
def pg_c43 : List (Nat × Instr × Nat) := [(0, .aload_n 1, 1), (1, .ifnonnull 7, 3), (4, .iconst (-1), 1), (5, .goto 12, 3), (8, .aload_n 0, 1), (9, .getfield 12, 3), (12, .aload_n 1, 1), (13, .iload_n 2, 1), (14, .invokevirtual 158, 3), (17, .ireturn, 1)]
def pg_c44 : List (Nat × Instr × Nat) := [(0, .aload_n 0, 1), (1, .getfield 12, 3), (4, .getfield 66, 3), (7, .istore 4, 2), (9, .iload_n 1, 1), (10, .tableswitch 116 5 10 #[38, 54, 65, 79, 96, 113], 38), (48, .iload_n 2, 1), (49, .iload 4, 2), (51, .iload_n 3, 1), (52, .isub, 1), (53, .if_icmp .gt 9, 3), (56, .iload_n 3, 1), (57, .iload_n 2, 1), (58, .iadd, 1), (59, .goto 4, 3), (62, .iconst (-1), 1), (63, .ireturn, 1), (64, .iload_n 3, 1), (65, .iload_n 2, 1), (66, .if_icmp .ne 7, 3), (69, .iload_n 3, 1), (70, .goto 4, 3), (73, .iconst (-1), 1), (74, .ireturn, 1), (75, .iload_n 3, 1), (76, .iload 4, 2), (78, .iload_n 2, 1), (79, .isub, 1), (80, .if_icmp .ne 7, 3), (83, .iload_n 3, 1), (84, .goto 4, 3), (87, .iconst (-1), 1), (88, .ireturn, 1), (89, .iload_n 2, 1), (90, .iload_n 3, 1), (91, .if_icmp .lt 13, 3), (94, .iload_n 2, 1), (95, .iload 4, 2), (97, .if_icmp .gt 7, 3), (100, .iload_n 2, 1), (101, .goto 4, 3), (104, .iconst (-1), 1), (105, .ireturn, 1), (106, .iload 4, 2), (108, .iload_n 2, 1), (109, .isub, 1), (110, .iload_n 3, 1), (111, .if_icmp .lt 10, 3), (114, .iload 4, 2), (116, .iload_n 2, 1), (117, .isub, 1), (118, .goto 4, 3), (121, .iconst (-1), 1), (122, .ireturn, 1), (123, .iload 4, 2), (125, .ireturn, 1), (126, .iconst (-1), 1), (127, .ireturn, 1)]
def pg_c45 : List (Nat × Instr × Nat) := [(0, .aload_n 0, 1), (1, .getfield 52, 3), (4, .istore_n 1, 1), (5, .sipush 3000, 3), (8, .istore_n 2, 1), (9, .iload_n 2, 1), (10, .ifCond .le 36, 3), (13, .iload_n 1, 1), (14, .ifCond .eq 32, 3), (17, .aload_n 0, 1), (18, .iload_n 1, 1), (19, .invokevirtual 185, 3), (22, .ifCond .ne 24, 3), (25, .aload_n 0, 1), (26, .iload_n 1, 1), (27, .invokevirtual 189, 3), (30, .aload_n 0, 1), (31, .getfield 21, 3), (34, .getfield 192, 3), (37, .iload_n 1, 1), (38, .iaload, 1), (39, .istore_n 1, 1), (40, .iinc 2 (-1), 3), (43, .goto (-34), 3), (46, .iload_n 1, 1), (47, .ifCond .ne 9, 3), (50, .aload_n 0, 1), (51, .iconst 1, 1), (52, .putfield 42, 3), (55, .return_, 1), (56, .aload_n 0, 1), (57, .getfield 21, 3), (60, .getfield 101, 3), (63, .iload_n 1, 1), (64, .aaload, 1), (65, .astore_n 2, 1), (66, .aload_n 0, 1), (67, .aload_n 2, 1), (68, .getfield 127, 3), (71, .bipush 17, 2), (73, .if_icmp .ne 17, 3), (76, .aload_n 0, 1), (77, .getfield 55, 3), (80, .aload_n 2, 1), (81, .getfield 105, 3), (84, .invokevirtual 144, 3), (87, .goto 4, 3), (90, .aload_n 2, 1), (91, .aload_n 0, 1), (92, .getfield 39, 3), (95, .aload_n 0, 1), (96, .getfield 21, 3), (99, .getfield 192, 3), (102, .iload_n 1, 1), (103, .iaload, 1), (104, .invokevirtual 77, 3), (107, .return_, 1)]
def pg_c46 : List (Nat × Instr × Nat) := [(0, .aload_n 0, 1), (1, .getfield 21, 3), (4, .getfield 101, 3), (7, .iload_n 1, 1), (8, .aaload, 1), (9, .getfield 127, 3), (12, .istore_n 2, 1), (13, .iload_n 2, 1), (14, .bipush 17, 2), (16, .if_icmp .eq 9, 3), (19, .iload_n 2, 1), (20, .bipush 16, 2), (22, .if_icmp .ne 7, 3), (25, .iconst 1, 1), (26, .goto 4, 3), (29, .iconst 0, 1), (30, .ireturn, 1)]
def pg_c47 : List (Nat × Instr × Nat) := [(0, .aload_n 0, 1), (1, .getfield 21, 3), (4, .getfield 101, 3), (7, .iload_n 1, 1), (8, .aaload, 1), (9, .getfield 127, 3), (12, .bipush 20, 2), (14, .if_icmp .ne 15, 3), (17, .aload_n 0, 1), (18, .iload_n 1, 1), (19, .aload_n 0, 1), (20, .getfield 39, 3), (23, .invokevirtual 97, 3), (26, .goto 24, 3), (29, .aload_n 0, 1), (30, .getfield 21, 3), (33, .getfield 94, 3), (36, .iload_n 1, 1), (37, .aload_n 0, 1), (38, .getfield 39, 3), (41, .iastore, 1), (42, .aload_n 0, 1), (43, .getfield 32, 3), (46, .iload_n 1, 1), (47, .invokevirtual 137, 3), (50, .return_, 1)]
def pg_c48 : List (Nat × Instr × Nat) := [(0, .aload_n 0, 1), (1, .getfield 55, 3), (4, .aload_n 0, 1), (5, .getfield 21, 3), (8, .getfield 101, 3), (11, .iload_n 1, 1), (12, .aaload, 1), (13, .getfield 105, 3), (16, .invokevirtual 110, 3), (19, .astore_n 3, 1), (20, .aload_n 3, 1), (21, .ifnull 21, 3), (24, .aload_n 3, 1), (25, .aload_n 0, 1), (26, .getfield 12, 3), (29, .aload_n 0, 1), (30, .getfield 21, 3), (33, .getfield 116, 3), (36, .iload_n 1, 1), (37, .iaload, 1), (38, .iload_n 2, 1), (39, .invokevirtual 119, 3), (42, .return_, 1)]
def pg_c49 : List (Nat × Instr × Nat) := [(0, .aload_n 0, 1), (1, .getfield 28, 3), (4, .getfield 76, 3), (7, .ifCond .ne 9, 3), (10, .aload_n 0, 1), (11, .iconst 0, 1), (12, .putfield 42, 3), (15, .return_, 1), (16, .aload_n 0, 1), (17, .getfield 28, 3), (20, .dup, 1), (21, .getfield 76, 3), (24, .iconst 1, 1), (25, .isub, 1), (26, .putfield 76, 3), (29, .aload_n 0, 1), (30, .getfield 28, 3), (33, .getfield 91, 3), (36, .aload_n 0, 1), (37, .getfield 28, 3), (40, .getfield 76, 3), (43, .iaload, 1), (44, .istore_n 1, 1), (45, .aload_n 0, 1), (46, .getfield 32, 3), (49, .aload_n 0, 1), (50, .getfield 21, 3), (53, .getfield 194, 3), (56, .iload_n 1, 1), (57, .iaload, 1), (58, .putfield 76, 3), (61, .aload_n 0, 1), (62, .aload_n 0, 1), (63, .getfield 21, 3), (66, .getfield 192, 3), (69, .iload_n 1, 1), (70, .iaload, 1), (71, .putfield 52, 3), (74, .aload_n 0, 1), (75, .getfield 21, 3), (78, .getfield 101, 3), (81, .iload_n 1, 1), (82, .aaload, 1), (83, .astore_n 2, 1), (84, .aload_n 2, 1), (85, .getfield 127, 3), (88, .tableswitch 154 11 18 #[48, 71, 154, 154, 154, 95, 154, 123], 48), (136, .aload_n 0, 1), (137, .iload_n 1, 1), (138, .aload_n 0, 1), (139, .iconst 5, 1), (140, .iconst 1, 1), (141, .aload_n 0, 1), (142, .getfield 21, 3), (145, .getfield 94, 3), (148, .iload_n 1, 1), (149, .iaload, 1), (150, .invokevirtual 178, 3), (153, .invokevirtual 130, 3), (156, .goto 91, 3), (159, .aload_n 0, 1), (160, .iload_n 1, 1), (161, .aload_n 0, 1), (162, .getfield 12, 3), (165, .aload_n 0, 1), (166, .getfield 21, 3), (169, .getfield 94, 3), (172, .iload_n 1, 1), (173, .iaload, 1), (174, .invokevirtual 133, 3), (177, .invokevirtual 130, 3), (180, .goto 67, 3), (183, .aload_n 0, 1), (184, .aload_n 0, 1), (185, .getfield 55, 3), (188, .aload_n 2, 1), (189, .getfield 141, 3), (192, .invokevirtual 144, 3), (195, .aload_n 0, 1), (196, .getfield 21, 3), (199, .getfield 116, 3), (202, .iload_n 1, 1), (203, .iaload, 1), (204, .iload_n 1, 1), (205, .invokevirtual 77, 3), (208, .goto 39, 3), (211, .aload_n 0, 1), (212, .aload_n 0, 1), (213, .getfield 55, 3), (216, .aload_n 2, 1), (217, .getfield 105, 3), (220, .invokevirtual 144, 3), (223, .aload_n 0, 1), (224, .getfield 21, 3), (227, .getfield 116, 3), (230, .iload_n 1, 1), (231, .iaload, 1), (232, .aload_n 0, 1), (233, .getfield 52, 3), (236, .invokevirtual 77, 3), (239, .goto 8, 3), (242, .aload_n 0, 1), (243, .iconst 2, 1), (244, .putfield 42, 3), (247, .return_, 1)]
def pg_c50 : List (Nat × Instr × Nat) := [(0, .iconst 0, 1), (1, .istore_n 1, 1), (2, .iload_n 1, 1), (3, .aload_n 0, 1), (4, .getfield 32, 3), (7, .getfield 76, 3), (10, .if_icmp .ge 39, 3), (13, .aload_n 0, 1), (14, .aload_n 0, 1), (15, .getfield 32, 3), (18, .getfield 91, 3), (21, .iload_n 1, 1), (22, .iaload, 1), (23, .aload_n 0, 1), (24, .getfield 21, 3), (27, .getfield 94, 3), (30, .aload_n 0, 1), (31, .getfield 32, 3), (34, .getfield 91, 3), (37, .iload_n 1, 1), (38, .iaload, 1), (39, .iaload, 1), (40, .invokevirtual 97, 3), (43, .iinc 1 1, 3), (46, .goto (-44), 3), (49, .return_, 1)]
def pg_c51 : List (Nat × Instr × Nat) := [(0, .iload_n 1, 1), (1, .tableswitch 42 0 2 #[27, 32, 37], 27), (28, .aload_n 0, 1), (29, .getfield 32, 3), (32, .ireturn, 1), (33, .aload_n 0, 1), (34, .getfield 36, 3), (37, .ireturn, 1), (38, .aload_n 0, 1), (39, .getfield 39, 3), (42, .ireturn, 1), (43, .iconst (-1), 1), (44, .ireturn, 1)]
def pg_c52 : List (Nat × Instr × Nat) := [(0, .aload_n 0, 1), (1, .getfield 19, 3), (4, .iload_n 1, 1), (5, .invokevirtual 49, 3), (8, .astore_n 2, 1), (9, .aload_n 2, 1), (10, .ifnull 30, 3), (13, .aload_n 0, 1), (14, .getfield 32, 3), (17, .iconst (-1), 1), (18, .if_icmp .eq 22, 3), (21, .aload_n 2, 1), (22, .aload_n 0, 1), (23, .getfield 32, 3), (26, .aload_n 0, 1), (27, .getfield 36, 3), (30, .aload_n 0, 1), (31, .getfield 10, 3), (34, .invokevirtual 105, 3), (37, .ifCond .ne 5, 3), (40, .iconst 0, 1), (41, .ireturn, 1), (42, .aload_n 0, 1), (43, .getfield 10, 3), (46, .iconst 0, 1), (47, .putfield 46, 3), (50, .iconst 1, 1), (51, .ireturn, 1)]
def pg_c53 : List (Nat × Instr × Nat) := [(0, .aload_n 0, 1), (1, .getfield 15, 3), (4, .iload_n 2, 1), (5, .isub, 1), (6, .istore 4, 2), (8, .iload_n 1, 1), (9, .ifCond .lt 27, 3), (12, .iload_n 1, 1), (13, .iload_n 2, 1), (14, .if_icmp .gt 22, 3), (17, .iload 4, 2), (19, .ifCond .lt 17, 3), (22, .iload_n 1, 1), (23, .aload_n 3, 1), (24, .getfield 15, 3), (27, .iadd, 1), (28, .iload 4, 2), (30, .iadd, 1), (31, .bipush 64, 2), (33, .if_icmp .le 5, 3), (36, .iconst 0, 1), (37, .ireturn, 1), (38, .aload_n 0, 1), (39, .getfield 9, 3), (42, .iload_n 2, 1), (43, .aload_n 0, 1), (44, .getfield 9, 3), (47, .iload_n 1, 1), (48, .aload_n 3, 1), (49, .getfield 15, 3), (52, .iadd, 1), (53, .iload 4, 2), (55, .invokestatic 23, 3), (58, .aload_n 3, 1), (59, .getfield 9, 3), (62, .iconst 0, 1), (63, .aload_n 0, 1), (64, .getfield 9, 3), (67, .iload_n 1, 1), (68, .aload_n 3, 1), (69, .getfield 15, 3), (72, .invokestatic 23, 3), (75, .aload_n 0, 1), (76, .iload_n 1, 1), (77, .aload_n 3, 1), (78, .getfield 15, 3), (81, .iadd, 1), (82, .iload 4, 2), (84, .iadd, 1), (85, .putfield 15, 3), (88, .iconst 1, 1), (89, .ireturn, 1)]
def pg_c54 : List (Nat × Instr × Nat) := [(0, .aload_n 0, 1), (1, .invokespecial 1, 3), (4, .aload_n 0, 1), (5, .bipush 64, 2), (7, .newarray .byte, 2), (9, .putfield 7, 3), (12, .aload_n 0, 1), (13, .sipush 512, 3), (16, .newarray .byte, 2), (18, .putfield 13, 3), (21, .aload_n 0, 1), (22, .bipush 8, 2), (24, .newarray .int, 2), (26, .putfield 16, 3), (29, .aload_n 0, 1), (30, .bipush 64, 2), (32, .newarray .int, 2), (34, .putfield 20, 3), (37, .aload_n 0, 1), (38, .bipush 64, 2), (40, .newarray .int, 2), (42, .putfield 23, 3), (45, .aload_n 0, 1), (46, .bipush 64, 2), (48, .newarray .int, 2), (50, .putfield 26, 3), (53, .aload_n 0, 1), (54, .sipush 4096, 3), (57, .newarray .byte, 2), (59, .putfield 29, 3), (62, .aload_n 0, 1), (63, .bipush 64, 2), (65, .newarray .int, 2), (67, .putfield 32, 3), (70, .aload_n 0, 1), (71, .bipush 64, 2), (73, .newarray .byte, 2), (75, .putfield 35, 3), (78, .aload_n 0, 1), (79, .sipush 3000, 3), (82, .newarray .int, 2), (84, .putfield 38, 3), (87, .aload_n 0, 1), (88, .sipush 3000, 3), (91, .newarray .int, 2), (93, .putfield 41, 3), (96, .aload_n 0, 1), (97, .sipush 3000, 3), (100, .newarray .int, 2), (102, .putfield 44, 3), (105, .aload_n 0, 1), (106, .sipush 3000, 3), (109, .newarray .int, 2), (111, .putfield 47, 3), (114, .aload_n 0, 1), (115, .sipush 3000, 3), (118, .newarray .int, 2), (120, .putfield 50, 3), (123, .aload_n 0, 1), (124, .sipush 3000, 3), (127, .newarray .int, 2), (129, .putfield 53, 3), (132, .aload_n 0, 1), (133, .sipush 3000, 3), (136, .newarray .boolean, 2), (138, .putfield 56, 3), (141, .aload_n 0, 1), (142, .sipush 3000, 3), (145, .newarray .int, 2), (147, .putfield 60, 3), (150, .aload_n 0, 1), (151, .sipush 3000, 3), (154, .newarray .int, 2), (156, .putfield 63, 3), (159, .return_, 1)]
def pg_c55 : List (Nat × Instr × Nat) := [(0, .aload_n 0, 1), (1, .iconst 0, 1), (2, .putfield 66, 3), (5, .aload_n 0, 1), (6, .getfield 70, 3), (9, .bipush 64, 2), (11, .if_icmp .ne 5, 3), (14, .iconst (-1), 1), (15, .ireturn, 1), (16, .aload_n 0, 1), (17, .getfield 7, 3), (20, .aload_n 0, 1), (21, .getfield 70, 3), (24, .iload_n 1, 1), (25, .i2b, 1), (26, .bastore, 1), (27, .aload_n 0, 1), (28, .dup, 1), (29, .getfield 70, 3), (32, .iconst 1, 1), (33, .iadd, 1), (34, .putfield 70, 3), (37, .aload_n 0, 1), (38, .getfield 70, 3), (41, .ireturn, 1)]
def pg_c56 : List (Nat × Instr × Nat) := [(0, .aload_n 0, 1), (1, .iconst 0, 1), (2, .putfield 66, 3), (5, .iload_n 1, 1), (6, .invokestatic 73, 3), (9, .ifCond .ne 5, 3), (12, .iconst 0, 1), (13, .ireturn, 1), (14, .iconst 0, 1), (15, .istore_n 2, 1), (16, .iload_n 2, 1), (17, .aload_n 0, 1), (18, .getfield 70, 3), (21, .if_icmp .ge 26, 3), (24, .aload_n 0, 1), (25, .getfield 13, 3), (28, .bipush 64, 2), (30, .iload_n 1, 1), (31, .imul, 1), (32, .iload_n 2, 1), (33, .iadd, 1), (34, .aload_n 0, 1), (35, .getfield 7, 3), (38, .iload_n 2, 1), (39, .baload, 1), (40, .bastore, 1), (41, .iinc 2 1, 3), (44, .goto (-28), 3), (47, .aload_n 0, 1), (48, .getfield 16, 3), (51, .iload_n 1, 1), (52, .aload_n 0, 1), (53, .getfield 70, 3), (56, .iastore, 1), (57, .aload_n 0, 1), (58, .iconst 0, 1), (59, .putfield 70, 3), (62, .iconst 1, 1), (63, .ireturn, 1)]
def pg_c57 : List (Nat × Instr × Nat) := [(0, .iload_n 0, 1), (1, .ifCond .lt 13, 3), (4, .iload_n 0, 1), (5, .bipush 8, 2), (7, .if_icmp .ge 7, 3), (10, .iconst 1, 1), (11, .goto 4, 3), (14, .iconst 0, 1), (15, .ireturn, 1)]
def pg_c58 : List (Nat × Instr × Nat) := [(0, .aload_n 0, 1), (1, .iconst 0, 1), (2, .putfield 66, 3), (5, .iload_n 1, 1), (6, .invokestatic 73, 3), (9, .ifCond .eq 35, 3), (12, .iload_n 2, 1), (13, .ifCond .lt 31, 3), (16, .iload_n 2, 1), (17, .aload_n 0, 1), (18, .getfield 16, 3), (21, .iload_n 1, 1), (22, .iaload, 1), (23, .if_icmp .ge 21, 3), (26, .aload_n 0, 1), (27, .getfield 13, 3), (30, .bipush 64, 2), (32, .iload_n 1, 1), (33, .imul, 1), (34, .iload_n 2, 1), (35, .iadd, 1), (36, .baload, 1), (37, .sipush 255, 3), (40, .iand, 1), (41, .goto 4, 3), (44, .iconst (-1), 1), (45, .ireturn, 1)]
def pg_c59 : List (Nat × Instr × Nat) := [(0, .aload_n 0, 1), (1, .iconst 0, 1), (2, .putfield 66, 3), (5, .iload_n 1, 1), (6, .invokestatic 73, 3), (9, .ifCond .eq 12, 3), (12, .aload_n 0, 1), (13, .getfield 16, 3), (16, .iload_n 1, 1), (17, .iaload, 1), (18, .goto 4, 3), (21, .iconst (-1), 1), (22, .ireturn, 1)]
def pg_c60 : List (Nat × Instr × Nat) := [(0, .aload_n 0, 1), (1, .iconst 0, 1), (2, .putfield 66, 3), (5, .aload_n 0, 1), (6, .iload_n 1, 1), (7, .iload_n 2, 1), (8, .iload_n 3, 1), (9, .invokevirtual 83, 3), (12, .ifCond .ne 5, 3), (15, .iconst (-1), 1), (16, .ireturn, 1), (17, .iload_n 1, 1), (18, .iconst 4, 1), (19, .if_icmp .le 9, 3), (22, .iload_n 1, 1), (23, .bipush 10, 2), (25, .if_icmp .lt 9, 3), (28, .iload_n 1, 1), (29, .bipush 15, 2), (31, .if_icmp .le 7, 3), (34, .iconst 1, 1), (35, .goto 4, 3), (38, .iconst 0, 1), (39, .istore 4, 2), (41, .iload_n 1, 1), (42, .bipush 16, 2), (44, .if_icmp .le 13, 3), (47, .iload_n 1, 1), (48, .bipush 21, 2), (50, .if_icmp .ge 7, 3), (53, .iconst 1, 1), (54, .goto 4, 3), (57, .iconst 0, 1), (58, .istore 5, 2), (60, .aload_n 0, 1), (61, .getfield 20, 3), (64, .aload_n 0, 1), (65, .getfield 77, 3), (68, .iload_n 1, 1), (69, .iastore, 1), (70, .aload_n 0, 1), (71, .getfield 23, 3), (74, .aload_n 0, 1), (75, .getfield 77, 3), (78, .iload 4, 2), (80, .ifCond .eq 7, 3), (83, .iload_n 2, 1), (84, .goto 4, 3), (87, .iconst 0, 1), (88, .iastore, 1), (89, .aload_n 0, 1), (90, .getfield 26, 3), (93, .aload_n 0, 1), (94, .getfield 77, 3), (97, .iload 5, 2), (99, .ifCond .eq 7, 3), (102, .iload_n 3, 1), (103, .goto 4, 3), (106, .iconst 0, 1), (107, .iastore, 1), (108, .aload_n 0, 1), (109, .getfield 32, 3), (112, .aload_n 0, 1), (113, .getfield 77, 3), (116, .iconst 0, 1), (117, .iastore, 1), (118, .iload_n 1, 1), (119, .iconst 5, 1), (120, .if_icmp .ge 61, 3), (123, .iconst 0, 1), (124, .istore 6, 2), (126, .iload 6, 2), (128, .aload_n 0, 1), (129, .getfield 70, 3), (132, .if_icmp .ge 31, 3), (135, .aload_n 0, 1), (136, .getfield 29, 3), (139, .bipush 64, 2), (141, .aload_n 0, 1), (142, .getfield 77, 3), (145, .imul, 1), (146, .iload 6, 2), (148, .iadd, 1), (149, .aload_n 0, 1), (150, .getfield 7, 3), (153, .iload 6, 2), (155, .baload, 1), (156, .bastore, 1), (157, .iinc 6 1, 3), (160, .goto (-34), 3), (163, .aload_n 0, 1), (164, .getfield 32, 3), (167, .aload_n 0, 1), (168, .getfield 77, 3), (171, .aload_n 0, 1), (172, .getfield 70, 3), (175, .iastore, 1), (176, .aload_n 0, 1), (177, .iconst 0, 1), (178, .putfield 70, 3), (181, .aload_n 0, 1), (182, .dup, 1), (183, .getfield 77, 3), (186, .iconst 1, 1), (187, .iadd, 1), (188, .putfield 77, 3), (191, .aload_n 0, 1), (192, .getfield 77, 3), (195, .iconst 1, 1), (196, .isub, 1), (197, .ireturn, 1)]
def pg_c61 : List (Nat × Instr × Nat) := [(0, .iload_n 1, 1), (1, .ifCond .lt 18, 3), (4, .iload_n 1, 1), (5, .bipush 23, 2), (7, .if_icmp .gt 12, 3), (10, .aload_n 0, 1), (11, .getfield 77, 3), (14, .bipush 64, 2), (16, .if_icmp .ne 5, 3), (19, .iconst 0, 1), (20, .ireturn, 1), (21, .iload_n 1, 1), (22, .tableswitch 170 5 23 #[90, 90, 90, 90, 90, 170, 170, 170, 170, 170, 170, 100, 106, 106, 128, 128, 149, 149, 154], 90), (112, .iload_n 2, 1), (113, .ifCond .lt 7, 3), (116, .iconst 1, 1), (117, .goto 4, 3), (120, .iconst 0, 1), (121, .ireturn, 1), (122, .aload_n 0, 1), (123, .iload_n 2, 1), (124, .invokevirtual 80, 3), (127, .ireturn, 1), (128, .aload_n 0, 1), (129, .iload_n 2, 1), (130, .invokevirtual 80, 3), (133, .ifCond .eq 15, 3), (136, .aload_n 0, 1), (137, .iload_n 3, 1), (138, .invokevirtual 80, 3), (141, .ifCond .eq 7, 3), (144, .iconst 1, 1), (145, .goto 4, 3), (148, .iconst 0, 1), (149, .ireturn, 1), (150, .aload_n 0, 1), (151, .iload_n 2, 1), (152, .invokevirtual 80, 3), (155, .ifCond .eq 14, 3), (158, .iload_n 3, 1), (159, .invokestatic 73, 3), (162, .ifCond .eq 7, 3), (165, .iconst 1, 1), (166, .goto 4, 3), (169, .iconst 0, 1), (170, .ireturn, 1), (171, .iload_n 2, 1), (172, .invokestatic 73, 3), (175, .ireturn, 1), (176, .iload_n 2, 1), (177, .ifCond .lt 13, 3), (180, .iload_n 2, 1), (181, .bipush 64, 2), (183, .if_icmp .ge 7, 3), (186, .iconst 1, 1), (187, .goto 4, 3), (190, .iconst 0, 1), (191, .ireturn, 1), (192, .iconst 1, 1), (193, .ireturn, 1)]
def pg_c62 : List (Nat × Instr × Nat) := [(0, .iload_n 1, 1), (1, .ifCond .lt 15, 3), (4, .iload_n 1, 1), (5, .aload_n 0, 1), (6, .getfield 77, 3), (9, .if_icmp .ge 7, 3), (12, .iconst 1, 1), (13, .goto 4, 3), (16, .iconst 0, 1), (17, .ireturn, 1)]
def pg_c63 : List (Nat × Instr × Nat) := [(0, .aload_n 0, 1), (1, .iconst 0, 1), (2, .putfield 66, 3), (5, .aload_n 0, 1), (6, .iconst 0, 1), (7, .putfield 77, 3), (10, .return_, 1)]
def pg_c64 : List (Nat × Instr × Nat) := [(0, .aload_n 0, 1), (1, .iconst 0, 1), (2, .putfield 66, 3), (5, .aload_n 0, 1), (6, .iload_n 1, 1), (7, .invokevirtual 80, 3), (10, .ifCond .ne 5, 3), (13, .iconst (-1), 1), (14, .ireturn, 1), (15, .iload_n 2, 1), (16, .ifCond .ne 12, 3), (19, .aload_n 0, 1), (20, .getfield 20, 3), (23, .iload_n 1, 1), (24, .iaload, 1), (25, .goto 46, 3), (28, .iload_n 2, 1), (29, .iconst 1, 1), (30, .if_icmp .ne 12, 3), (33, .aload_n 0, 1), (34, .getfield 23, 3), (37, .iload_n 1, 1), (38, .iaload, 1), (39, .goto 32, 3), (42, .iload_n 2, 1), (43, .iconst 2, 1), (44, .if_icmp .ne 12, 3), (47, .aload_n 0, 1), (48, .getfield 26, 3), (51, .iload_n 1, 1), (52, .iaload, 1), (53, .goto 18, 3), (56, .iload_n 2, 1), (57, .iconst 3, 1), (58, .if_icmp .ne 12, 3), (61, .aload_n 0, 1), (62, .getfield 32, 3), (65, .iload_n 1, 1), (66, .iaload, 1), (67, .goto 4, 3), (70, .iconst (-1), 1), (71, .ireturn, 1)]
def pg_c65 : List (Nat × Instr × Nat) := [(0, .aload_n 0, 1), (1, .iconst 0, 1), (2, .putfield 66, 3), (5, .iload_n 1, 1), (6, .invokestatic 73, 3), (9, .ifCond .eq 11, 3), (12, .aload_n 0, 1), (13, .iload_n 2, 1), (14, .invokevirtual 80, 3), (17, .ifCond .ne 5, 3), (20, .iconst (-1), 1), (21, .ireturn, 1), (22, .aload_n 0, 1), (23, .aload_n 0, 1), (24, .getfield 16, 3), (27, .iload_n 1, 1), (28, .iaload, 1), (29, .putfield 87, 3), (32, .iconst 0, 1), (33, .istore 4, 2), (35, .iload 4, 2), (37, .aload_n 0, 1), (38, .getfield 87, 3), (41, .if_icmp .ge 28, 3), (44, .aload_n 0, 1), (45, .getfield 35, 3), (48, .iload 4, 2), (50, .aload_n 0, 1), (51, .getfield 13, 3), (54, .bipush 64, 2), (56, .iload_n 1, 1), (57, .imul, 1), (58, .iload 4, 2), (60, .iadd, 1), (61, .baload, 1), (62, .bastore, 1), (63, .iinc 4 1, 3), (66, .goto (-31), 3), (69, .aload_n 0, 1), (70, .iconst 1, 1), (71, .putfield 157, 3), (74, .aload_n 0, 1), (75, .iconst (-1), 1), (76, .putfield 160, 3), (79, .aload_n 0, 1), (80, .iconst (-1), 1), (81, .putfield 163, 3), (84, .aload_n 0, 1), (85, .iconst 0, 1), (86, .putfield 111, 3), (89, .aload_n 0, 1), (90, .iconst 0, 1), (91, .putfield 138, 3), (94, .aload_n 0, 1), (95, .iconst 0, 1), (96, .putfield 124, 3), (99, .aload_n 0, 1), (100, .iconst 0, 1), (101, .putfield 114, 3), (104, .iload_n 3, 1), (105, .ifCond .eq 7, 3), (108, .iconst 0, 1), (109, .goto 7, 3), (112, .aload_n 0, 1), (113, .getfield 87, 3), (116, .istore 4, 2), (118, .iconst (-1), 1), (119, .istore 5, 2), (121, .iconst 0, 1), (122, .istore 6, 2), (124, .iload 6, 2), (126, .iload 4, 2), (128, .if_icmp .gt 38, 3), (131, .iload 5, 2), (133, .iconst (-1), 1), (134, .if_icmp .ne 32, 3), (137, .aload_n 0, 1), (138, .getfield 124, 3), (141, .ifCond .ne 25, 3), (144, .aload_n 0, 1), (145, .getfield 114, 3), (148, .ifCond .ne 18, 3), (151, .aload_n 0, 1), (152, .iload_n 2, 1), (153, .iload 6, 2), (155, .invokevirtual 166, 3), (158, .istore 5, 2), (160, .iinc 6 1, 3), (163, .goto (-39), 3), (166, .iload 5, 2), (168, .iconst (-1), 1), (169, .if_icmp .eq 33, 3), (172, .aload_n 0, 1), (173, .aload_n 0, 1), (174, .getfield 41, 3), (177, .iload 5, 2), (179, .iaload, 1), (180, .putfield 160, 3), (183, .aload_n 0, 1), (184, .aload_n 0, 1), (185, .getfield 44, 3), (188, .iload 5, 2), (190, .iaload, 1), (191, .putfield 163, 3), (194, .aload_n 0, 1), (195, .iload 5, 2), (197, .invokevirtual 169, 3), (200, .iconst 1, 1), (201, .ireturn, 1), (202, .aload_n 0, 1), (203, .getfield 124, 3), (206, .ifCond .eq 7, 3), (209, .iconst 2, 1), (210, .goto 15, 3), (213, .aload_n 0, 1), (214, .getfield 114, 3), (217, .ifCond .eq 7, 3), (220, .iconst 3, 1), (221, .goto 4, 3), (224, .iconst 0, 1), (225, .ireturn, 1)]
def pg_c66 : List (Nat × Instr × Nat) := [(0, .aload_n 0, 1), (1, .iload_n 1, 1), (2, .iload_n 2, 1), (3, .iconst (-1), 1), (4, .invokevirtual 131, 3), (7, .aload_n 0, 1), (8, .getfield 118, 3), (11, .istore_n 3, 1), (12, .aload_n 0, 1), (13, .getfield 124, 3), (16, .ifCond .ne 106, 3), (19, .aload_n 0, 1), (20, .getfield 114, 3), (23, .ifCond .ne 99, 3), (26, .aload_n 0, 1), (27, .getfield 121, 3), (30, .ifCond .ne 10, 3), (33, .aload_n 0, 1), (34, .invokevirtual 145, 3), (37, .goto (-25), 3), (40, .aload_n 0, 1), (41, .getfield 121, 3), (44, .iconst 1, 1), (45, .if_icmp .ne 10, 3), (48, .aload_n 0, 1), (49, .invokevirtual 148, 3), (52, .goto (-40), 3), (55, .aload_n 0, 1), (56, .getfield 118, 3), (59, .iload_n 3, 1), (60, .if_icmp .ne 17, 3), (63, .aload_n 0, 1), (64, .getfield 121, 3), (67, .iconst 2, 1), (68, .if_icmp .ne 7, 3), (71, .iload_n 3, 1), (72, .goto 4, 3), (75, .iconst (-1), 1), (76, .ireturn, 1), (77, .aload_n 0, 1), (78, .getfield 118, 3), (81, .istore 4, 2), (83, .aload_n 0, 1), (84, .aload_n 0, 1), (85, .getfield 47, 3), (88, .aload_n 0, 1), (89, .getfield 118, 3), (92, .iaload, 1), (93, .putfield 118, 3), (96, .aload_n 0, 1), (97, .getfield 121, 3), (100, .iconst 2, 1), (101, .if_icmp .ne 12, 3), (104, .aload_n 0, 1), (105, .iload 4, 2), (107, .invokevirtual 151, 3), (110, .goto 9, 3), (113, .aload_n 0, 1), (114, .iload 4, 2), (116, .invokevirtual 154, 3), (119, .goto (-107), 3), (122, .iconst (-1), 1), (123, .ireturn, 1)]
def pg_c67 : List (Nat × Instr × Nat) := [(0, .aload_n 0, 1), (1, .getfield 111, 3), (4, .sipush 3000, 3), (7, .if_icmp .ne 9, 3), (10, .aload_n 0, 1), (11, .iconst 1, 1), (12, .putfield 114, 3), (15, .return_, 1), (16, .aload_n 0, 1), (17, .aload_n 0, 1), (18, .getfield 111, 3), (21, .putfield 118, 3), (24, .aload_n 0, 1), (25, .dup, 1), (26, .getfield 111, 3), (29, .iconst 1, 1), (30, .iadd, 1), (31, .putfield 111, 3), (34, .aload_n 0, 1), (35, .getfield 38, 3), (38, .aload_n 0, 1), (39, .getfield 118, 3), (42, .iload_n 1, 1), (43, .iastore, 1), (44, .aload_n 0, 1), (45, .getfield 41, 3), (48, .aload_n 0, 1), (49, .getfield 118, 3), (52, .iload_n 2, 1), (53, .iastore, 1), (54, .aload_n 0, 1), (55, .getfield 44, 3), (58, .aload_n 0, 1), (59, .getfield 118, 3), (62, .iload_n 2, 1), (63, .iastore, 1), (64, .aload_n 0, 1), (65, .getfield 47, 3), (68, .aload_n 0, 1), (69, .getfield 118, 3), (72, .iload_n 3, 1), (73, .iastore, 1), (74, .aload_n 0, 1), (75, .getfield 50, 3), (78, .aload_n 0, 1), (79, .getfield 118, 3), (82, .iconst (-1), 1), (83, .iastore, 1), (84, .aload_n 0, 1), (85, .getfield 53, 3), (88, .aload_n 0, 1), (89, .getfield 118, 3), (92, .iconst (-1), 1), (93, .iastore, 1), (94, .aload_n 0, 1), (95, .getfield 56, 3), (98, .aload_n 0, 1), (99, .getfield 118, 3), (102, .iconst 0, 1), (103, .bastore, 1), (104, .aload_n 0, 1), (105, .iconst 0, 1), (106, .putfield 121, 3), (109, .return_, 1)]
def pg_c68 : List (Nat × Instr × Nat) := [(0, .aload_n 0, 1), (1, .getfield 38, 3), (4, .aload_n 0, 1), (5, .getfield 118, 3), (8, .iaload, 1), (9, .istore_n 1, 1), (10, .aload_n 0, 1), (11, .getfield 41, 3), (14, .aload_n 0, 1), (15, .getfield 118, 3), (18, .iaload, 1), (19, .istore_n 2, 1), (20, .aload_n 0, 1), (21, .getfield 118, 3), (24, .istore_n 3, 1), (25, .aload_n 0, 1), (26, .getfield 20, 3), (29, .iload_n 1, 1), (30, .iaload, 1), (31, .tableswitch 136 15 23 #[49, 57, 65, 65, 65, 65, 136, 136, 90], 49), (80, .aload_n 0, 1), (81, .iconst 1, 1), (82, .putfield 124, 3), (85, .goto 92, 3), (88, .aload_n 0, 1), (89, .iload_n 2, 1), (90, .invokevirtual 127, 3), (93, .goto 84, 3), (96, .aload_n 0, 1), (97, .aload_n 0, 1), (98, .getfield 23, 3), (101, .iload_n 1, 1), (102, .iaload, 1), (103, .iload_n 2, 1), (104, .iload_n 3, 1), (105, .invokevirtual 131, 3), (108, .aload_n 0, 1), (109, .getfield 50, 3), (112, .iload_n 3, 1), (113, .aload_n 0, 1), (114, .getfield 118, 3), (117, .iastore, 1), (118, .goto 59, 3), (121, .aload_n 0, 1), (122, .aload_n 0, 1), (123, .getfield 23, 3), (126, .iload_n 1, 1), (127, .iaload, 1), (128, .invokevirtual 80, 3), (131, .ifCond .eq 28, 3), (134, .aload_n 0, 1), (135, .aload_n 0, 1), (136, .getfield 23, 3), (139, .iload_n 1, 1), (140, .iaload, 1), (141, .iload_n 2, 1), (142, .iload_n 3, 1), (143, .invokevirtual 131, 3), (146, .aload_n 0, 1), (147, .getfield 50, 3), (150, .iload_n 3, 1), (151, .aload_n 0, 1), (152, .getfield 118, 3), (155, .iastore, 1), (156, .goto 21, 3), (159, .aload_n 0, 1), (160, .iconst (-1), 1), (161, .invokevirtual 127, 3), (164, .goto 13, 3), (167, .aload_n 0, 1), (168, .aload_n 0, 1), (169, .iload_n 1, 1), (170, .iload_n 2, 1), (171, .invokevirtual 135, 3), (174, .invokevirtual 127, 3), (177, .return_, 1)]
def pg_c69 : List (Nat × Instr × Nat) := [(0, .aload_n 0, 1), (1, .getfield 44, 3), (4, .aload_n 0, 1), (5, .getfield 118, 3), (8, .iload_n 1, 1), (9, .iastore, 1), (10, .aload_n 0, 1), (11, .iload_n 1, 1), (12, .iconst (-1), 1), (13, .if_icmp .ne 7, 3), (16, .iconst 3, 1), (17, .goto 4, 3), (20, .iconst 2, 1), (21, .putfield 121, 3), (24, .return_, 1)]
def pg_c70 : List (Nat × Instr × Nat) := [(0, .aload_n 0, 1), (1, .getfield 23, 3), (4, .iload_n 1, 1), (5, .iaload, 1), (6, .istore_n 3, 1), (7, .iload_n 2, 1), (8, .aload_n 0, 1), (9, .getfield 87, 3), (12, .if_icmp .ge 16, 3), (15, .aload_n 0, 1), (16, .iload_n 1, 1), (17, .iload_n 2, 1), (18, .invokevirtual 90, 3), (21, .ifCond .eq 7, 3), (24, .iconst 1, 1), (25, .goto 4, 3), (28, .iconst 0, 1), (29, .istore 4, 2), (31, .aload_n 0, 1), (32, .getfield 20, 3), (35, .iload_n 1, 1), (36, .iaload, 1), (37, .tableswitch 301 0 22 #[107, 127, 140, 161, 168, 175, 193, 204, 220, 239, 260, 265, 267, 301, 265, 301, 301, 301, 301, 301, 301, 274, 281], 107), (144, .aload_n 0, 1), (145, .aload_n 0, 1), (146, .getfield 29, 3), (149, .bipush 64, 2), (151, .iload_n 1, 1), (152, .imul, 1), (153, .aload_n 0, 1), (154, .getfield 32, 3), (157, .iload_n 1, 1), (158, .iaload, 1), (159, .iload_n 2, 1), (160, .invokevirtual 94, 3), (163, .ireturn, 1), (164, .iload 4, 2), (166, .ifCond .eq 9, 3), (169, .iload_n 2, 1), (170, .iconst 1, 1), (171, .iadd, 1), (172, .goto 4, 3), (175, .iconst (-1), 1), (176, .ireturn, 1), (177, .iload_n 2, 1), (178, .aload_n 0, 1), (179, .getfield 87, 3), (182, .if_icmp .ge 14, 3), (185, .iload 4, 2), (187, .ifCond .ne 9, 3), (190, .iload_n 2, 1), (191, .iconst 1, 1), (192, .iadd, 1), (193, .goto 4, 3), (196, .iconst (-1), 1), (197, .ireturn, 1), (198, .aload_n 0, 1), (199, .iload_n 1, 1), (200, .iload_n 2, 1), (201, .invokevirtual 98, 3), (204, .ireturn, 1), (205, .aload_n 0, 1), (206, .iload_n 1, 1), (207, .iload_n 2, 1), (208, .invokevirtual 102, 3), (211, .ireturn, 1), (212, .iload_n 3, 1), (213, .aload_n 0, 1), (214, .getfield 87, 3), (217, .iload_n 2, 1), (218, .isub, 1), (219, .if_icmp .gt 9, 3), (222, .iload_n 2, 1), (223, .iload_n 3, 1), (224, .iadd, 1), (225, .goto 4, 3), (228, .iconst (-1), 1), (229, .ireturn, 1), (230, .iload_n 2, 1), (231, .iload_n 3, 1), (232, .if_icmp .ne 7, 3), (235, .iload_n 2, 1), (236, .goto 4, 3), (239, .iconst (-1), 1), (240, .ireturn, 1), (241, .aload_n 0, 1), (242, .getfield 87, 3), (245, .iload_n 2, 1), (246, .isub, 1), (247, .iload_n 3, 1), (248, .if_icmp .ne 7, 3), (251, .iload_n 2, 1), (252, .goto 4, 3), (255, .iconst (-1), 1), (256, .ireturn, 1), (257, .iload_n 3, 1), (258, .iload_n 2, 1), (259, .if_icmp .lt 15, 3), (262, .iload_n 3, 1), (263, .aload_n 0, 1), (264, .getfield 87, 3), (267, .if_icmp .gt 7, 3), (270, .iload_n 3, 1), (271, .goto 4, 3), (274, .iconst (-1), 1), (275, .ireturn, 1), (276, .iload_n 3, 1), (277, .aload_n 0, 1), (278, .getfield 87, 3), (281, .iload_n 2, 1), (282, .isub, 1), (283, .if_icmp .gt 12, 3), (286, .aload_n 0, 1), (287, .getfield 87, 3), (290, .iload_n 3, 1), (291, .isub, 1), (292, .goto 4, 3), (295, .iconst (-1), 1), (296, .ireturn, 1), (297, .aload_n 0, 1), (298, .getfield 87, 3), (301, .ireturn, 1), (302, .iload_n 2, 1), (303, .ireturn, 1), (304, .aload_n 0, 1), (305, .iload_n 2, 1), (306, .iload_n 2, 1), (307, .invokevirtual 105, 3), (310, .ireturn, 1), (311, .aload_n 0, 1), (312, .iload_n 3, 1), (313, .iload_n 2, 1), (314, .invokevirtual 108, 3), (317, .ireturn, 1), (318, .aload_n 0, 1), (319, .aload_n 0, 1), (320, .getfield 13, 3), (323, .bipush 64, 2), (325, .iload_n 3, 1), (326, .imul, 1), (327, .aload_n 0, 1), (328, .getfield 16, 3), (331, .iload_n 3, 1), (332, .iaload, 1), (333, .iload_n 2, 1), (334, .invokevirtual 94, 3), (337, .ireturn, 1), (338, .iconst (-1), 1), (339, .ireturn, 1)]
def pg_c71 : List (Nat × Instr × Nat) := [(0, .iconst 0, 1), (1, .istore_n 3, 1), (2, .iload_n 3, 1), (3, .aload_n 0, 1), (4, .getfield 32, 3), (7, .iload_n 1, 1), (8, .iaload, 1), (9, .if_icmp .ge 31, 3), (12, .aload_n 0, 1), (13, .getfield 29, 3), (16, .bipush 64, 2), (18, .iload_n 1, 1), (19, .imul, 1), (20, .iload_n 3, 1), (21, .iadd, 1), (22, .baload, 1), (23, .aload_n 0, 1), (24, .getfield 35, 3), (27, .iload_n 2, 1), (28, .baload, 1), (29, .if_icmp .ne 5, 3), (32, .iconst 1, 1), (33, .ireturn, 1), (34, .iinc 3 1, 3), (37, .goto (-35), 3), (40, .iconst 0, 1), (41, .ireturn, 1)]
def pg_c72 : List (Nat × Instr × Nat) := [(0, .iload_n 3, 1), (1, .aload_n 0, 1), (2, .getfield 87, 3), (5, .iload 4, 2), (7, .isub, 1), (8, .if_icmp .le 5, 3), (11, .iconst (-1), 1), (12, .ireturn, 1), (13, .iconst 0, 1), (14, .istore 5, 2), (16, .iload 5, 2), (18, .iload_n 3, 1), (19, .if_icmp .ge 30, 3), (22, .aload_n 1, 1), (23, .iload_n 2, 1), (24, .iload 5, 2), (26, .iadd, 1), (27, .baload, 1), (28, .aload_n 0, 1), (29, .getfield 35, 3), (32, .iload 4, 2), (34, .iload 5, 2), (36, .iadd, 1), (37, .baload, 1), (38, .if_icmp .eq 5, 3), (41, .iconst (-1), 1), (42, .ireturn, 1), (43, .iinc 5 1, 3), (46, .goto (-30), 3), (49, .iload 4, 2), (51, .iload_n 3, 1), (52, .iadd, 1), (53, .ireturn, 1)]
def pg_c73 : List (Nat × Instr × Nat) := [(0, .iload_n 2, 1), (1, .istore_n 3, 1), (2, .iload_n 3, 1), (3, .aload_n 0, 1), (4, .getfield 87, 3), (7, .if_icmp .ge 18, 3), (10, .aload_n 0, 1), (11, .iload_n 1, 1), (12, .iload_n 3, 1), (13, .invokevirtual 90, 3), (16, .ifCond .eq 9, 3), (19, .iinc 3 1, 3), (22, .goto (-20), 3), (25, .iload_n 3, 1), (26, .iload_n 2, 1), (27, .if_icmp .le 7, 3), (30, .iload_n 3, 1), (31, .goto 4, 3), (34, .iconst (-1), 1), (35, .ireturn, 1)]
def pg_c74 : List (Nat × Instr × Nat) := [(0, .iload_n 2, 1), (1, .istore_n 3, 1), (2, .iload_n 3, 1), (3, .aload_n 0, 1), (4, .getfield 87, 3), (7, .if_icmp .ge 18, 3), (10, .aload_n 0, 1), (11, .iload_n 1, 1), (12, .iload_n 3, 1), (13, .invokevirtual 90, 3), (16, .ifCond .ne 9, 3), (19, .iinc 3 1, 3), (22, .goto (-20), 3), (25, .iload_n 3, 1), (26, .aload_n 0, 1), (27, .getfield 87, 3), (30, .if_icmp .ge 7, 3), (33, .iload_n 3, 1), (34, .goto 4, 3), (37, .iconst (-1), 1), (38, .ireturn, 1)]
def pg_c75 : List (Nat × Instr × Nat) := [(0, .iconst 0, 1), (1, .istore_n 3, 1), (2, .iload_n 1, 1), (3, .istore 4, 2), (5, .iload 4, 2), (7, .aload_n 0, 1), (8, .getfield 87, 3), (11, .if_icmp .ge 68, 3), (14, .iload_n 3, 1), (15, .aload_n 0, 1), (16, .getfield 35, 3), (19, .iload 4, 2), (21, .baload, 1), (22, .bipush 40, 2), (24, .if_icmp .ne 7, 3), (27, .iconst 1, 1), (28, .goto 20, 3), (31, .aload_n 0, 1), (32, .getfield 35, 3), (35, .iload 4, 2), (37, .baload, 1), (38, .bipush 41, 2), (40, .if_icmp .ne 7, 3), (43, .iconst (-1), 1), (44, .goto 4, 3), (47, .iconst 0, 1), (48, .iadd, 1), (49, .istore_n 3, 1), (50, .iload_n 3, 1), (51, .ifCond .ge 5, 3), (54, .iconst (-1), 1), (55, .ireturn, 1), (56, .iload_n 3, 1), (57, .ifCond .ne 16, 3), (60, .iload 4, 2), (62, .iconst 1, 1), (63, .iadd, 1), (64, .iload_n 2, 1), (65, .if_icmp .le 8, 3), (68, .iload 4, 2), (70, .iconst 1, 1), (71, .iadd, 1), (72, .ireturn, 1), (73, .iinc 4 1, 3), (76, .goto (-71), 3), (79, .iconst (-1), 1), (80, .ireturn, 1)]
def pg_c76 : List (Nat × Instr × Nat) := [(0, .aload_n 0, 1), (1, .getfield 16, 3), (4, .iload_n 1, 1), (5, .iload_n 2, 1), (6, .bipush 9, 2), (8, .if_icmp .le 7, 3), (11, .iconst 2, 1), (12, .goto 4, 3), (15, .iconst 1, 1), (16, .iastore, 1), (17, .aload_n 0, 1), (18, .getfield 13, 3), (21, .bipush 64, 2), (23, .iload_n 1, 1), (24, .imul, 1), (25, .bipush 48, 2), (27, .iload_n 2, 1), (28, .bipush 9, 2), (30, .if_icmp .le 10, 3), (33, .iload_n 2, 1), (34, .bipush 10, 2), (36, .idiv, 1), (37, .goto 4, 3), (40, .iload_n 2, 1), (41, .iadd, 1), (42, .i2b, 1), (43, .bastore, 1), (44, .aload_n 0, 1), (45, .getfield 13, 3), (48, .bipush 64, 2), (50, .iload_n 1, 1), (51, .imul, 1), (52, .iconst 1, 1), (53, .iadd, 1), (54, .bipush 48, 2), (56, .iload_n 2, 1), (57, .bipush 10, 2), (59, .irem, 1), (60, .iadd, 1), (61, .i2b, 1), (62, .bastore, 1), (63, .iload_n 2, 1), (64, .ireturn, 1)]
def pg_c77 : List (Nat × Instr × Nat) := [(0, .aload_n 0, 1), (1, .getfield 38, 3), (4, .aload_n 0, 1), (5, .getfield 118, 3), (8, .iaload, 1), (9, .istore_n 1, 1), (10, .aload_n 0, 1), (11, .getfield 118, 3), (14, .istore_n 2, 1), (15, .aload_n 0, 1), (16, .getfield 20, 3), (19, .iload_n 1, 1), (20, .iaload, 1), (21, .tableswitch 221 11 23 #[67, 105, 221, 134, 221, 142, 195, 208, 208, 208, 221, 221, 208], 67), (88, .aload_n 0, 1), (89, .aload_n 0, 1), (90, .getfield 44, 3), (93, .aload_n 0, 1), (94, .getfield 118, 3), (97, .iaload, 1), (98, .aload_n 0, 1), (99, .getfield 87, 3), (102, .if_icmp .ge 17, 3), (105, .aload_n 0, 1), (106, .getfield 44, 3), (109, .aload_n 0, 1), (110, .getfield 118, 3), (113, .iaload, 1), (114, .iconst 1, 1), (115, .iadd, 1), (116, .goto 4, 3), (119, .iconst (-1), 1), (120, .invokevirtual 127, 3), (123, .goto 124, 3), (126, .aload_n 0, 1), (127, .aload_n 0, 1), (128, .aload_n 0, 1), (129, .getfield 41, 3), (132, .aload_n 0, 1), (133, .getfield 118, 3), (136, .iaload, 1), (137, .aload_n 0, 1), (138, .getfield 44, 3), (141, .aload_n 0, 1), (142, .getfield 118, 3), (145, .iaload, 1), (146, .invokevirtual 105, 3), (149, .invokevirtual 127, 3), (152, .goto 95, 3), (155, .aload_n 0, 1), (156, .iconst 1, 1), (157, .putfield 124, 3), (160, .goto 87, 3), (163, .aload_n 0, 1), (164, .getfield 50, 3), (167, .iload_n 2, 1), (168, .iaload, 1), (169, .iconst (-1), 1), (170, .if_icmp .ne 33, 3), (173, .aload_n 0, 1), (174, .aload_n 0, 1), (175, .getfield 23, 3), (178, .iload_n 1, 1), (179, .iaload, 1), (180, .aload_n 0, 1), (181, .getfield 41, 3), (184, .iload_n 2, 1), (185, .iaload, 1), (186, .iload_n 2, 1), (187, .invokevirtual 131, 3), (190, .aload_n 0, 1), (191, .getfield 50, 3), (194, .iload_n 2, 1), (195, .aload_n 0, 1), (196, .getfield 118, 3), (199, .iastore, 1), (200, .goto 47, 3), (203, .aload_n 0, 1), (204, .aload_n 0, 1), (205, .getfield 53, 3), (208, .iload_n 2, 1), (209, .iaload, 1), (210, .putfield 118, 3), (213, .goto 34, 3), (216, .aload_n 0, 1), (217, .aload_n 0, 1), (218, .getfield 53, 3), (221, .iload_n 2, 1), (222, .iaload, 1), (223, .putfield 118, 3), (226, .goto 21, 3), (229, .aload_n 0, 1), (230, .aload_n 0, 1), (231, .getfield 50, 3), (234, .iload_n 2, 1), (235, .iaload, 1), (236, .putfield 118, 3), (239, .goto 8, 3), (242, .aload_n 0, 1), (243, .iconst (-1), 1), (244, .invokevirtual 127, 3), (247, .return_, 1)]
def pg_c78 : List (Nat × Instr × Nat) := [(0, .aload_n 0, 1), (1, .getfield 118, 3), (4, .istore_n 2, 1), (5, .aload_n 0, 1), (6, .getfield 38, 3), (9, .iload_n 2, 1), (10, .iaload, 1), (11, .istore_n 3, 1), (12, .aload_n 0, 1), (13, .getfield 20, 3), (16, .iload_n 3, 1), (17, .iaload, 1), (18, .istore 4, 2), (20, .iload 4, 2), (22, .bipush 16, 2), (24, .if_icmp .eq 10, 3), (27, .iload 4, 2), (29, .bipush 17, 2), (31, .if_icmp .ne 52, 3), (34, .iload_n 1, 1), (35, .aload_n 0, 1), (36, .getfield 50, 3), (39, .iload_n 2, 1), (40, .iaload, 1), (41, .if_icmp .ne 42, 3), (44, .aload_n 0, 1), (45, .iload 4, 2), (47, .bipush 16, 2), (49, .if_icmp .ne 7, 3), (52, .iload_n 3, 1), (53, .goto 9, 3), (56, .aload_n 0, 1), (57, .getfield 26, 3), (60, .iload_n 3, 1), (61, .iaload, 1), (62, .aload_n 0, 1), (63, .getfield 44, 3), (66, .iload_n 1, 1), (67, .iaload, 1), (68, .iload_n 2, 1), (69, .invokevirtual 131, 3), (72, .aload_n 0, 1), (73, .getfield 53, 3), (76, .iload_n 2, 1), (77, .aload_n 0, 1), (78, .getfield 118, 3), (81, .iastore, 1), (82, .return_, 1), (83, .aload_n 0, 1), (84, .aload_n 0, 1), (85, .getfield 44, 3), (88, .iload_n 1, 1), (89, .iaload, 1), (90, .invokevirtual 127, 3), (93, .iload 4, 2), (95, .bipush 19, 2), (97, .if_icmp .ne 23, 3), (100, .aload_n 0, 1), (101, .dup, 1), (102, .getfield 138, 3), (105, .iconst 1, 1), (106, .iadd, 1), (107, .putfield 138, 3), (110, .aload_n 0, 1), (111, .getfield 60, 3), (114, .iload_n 2, 1), (115, .aload_n 0, 1), (116, .getfield 138, 3), (119, .iastore, 1), (120, .iload 4, 2), (122, .bipush 20, 2), (124, .if_icmp .ne 14, 3), (127, .aload_n 0, 1), (128, .aload_n 0, 1), (129, .getfield 26, 3), (132, .iload_n 3, 1), (133, .iaload, 1), (134, .iload_n 2, 1), (135, .invokevirtual 141, 3), (138, .return_, 1)]
def pg_c79 : List (Nat × Instr × Nat) := [(0, .aload_n 0, 1), (1, .getfield 16, 3), (4, .iload_n 1, 1), (5, .aload_n 0, 1), (6, .getfield 44, 3), (9, .iload_n 2, 1), (10, .iaload, 1), (11, .aload_n 0, 1), (12, .getfield 41, 3), (15, .iload_n 2, 1), (16, .iaload, 1), (17, .isub, 1), (18, .iastore, 1), (19, .iconst 0, 1), (20, .istore_n 3, 1), (21, .iload_n 3, 1), (22, .aload_n 0, 1), (23, .getfield 16, 3), (26, .iload_n 1, 1), (27, .iaload, 1), (28, .if_icmp .ge 33, 3), (31, .aload_n 0, 1), (32, .getfield 13, 3), (35, .bipush 64, 2), (37, .iload_n 1, 1), (38, .imul, 1), (39, .iload_n 3, 1), (40, .iadd, 1), (41, .aload_n 0, 1), (42, .getfield 35, 3), (45, .aload_n 0, 1), (46, .getfield 41, 3), (49, .iload_n 2, 1), (50, .iaload, 1), (51, .iload_n 3, 1), (52, .iadd, 1), (53, .baload, 1), (54, .bastore, 1), (55, .iinc 3 1, 3), (58, .goto (-37), 3), (61, .return_, 1)]
def pg_c80 : List (Nat × Instr × Nat) := [(0, .aload_n 0, 1), (1, .getfield 118, 3), (4, .istore_n 2, 1), (5, .aload_n 0, 1), (6, .getfield 38, 3), (9, .iload_n 2, 1), (10, .iaload, 1), (11, .istore_n 3, 1), (12, .aload_n 0, 1), (13, .getfield 20, 3), (16, .iload_n 3, 1), (17, .iaload, 1), (18, .istore 4, 2), (20, .iload 4, 2), (22, .bipush 16, 2), (24, .if_icmp .eq 10, 3), (27, .iload 4, 2), (29, .bipush 17, 2), (31, .if_icmp .ne 38, 3), (34, .iload_n 1, 1), (35, .aload_n 0, 1), (36, .getfield 53, 3), (39, .iload_n 2, 1), (40, .iaload, 1), (41, .if_icmp .ne 28, 3), (44, .aload_n 0, 1), (45, .getfield 53, 3), (48, .iload_n 2, 1), (49, .iconst (-1), 1), (50, .iastore, 1), (51, .aload_n 0, 1), (52, .aload_n 0, 1), (53, .getfield 50, 3), (56, .iload_n 2, 1), (57, .iaload, 1), (58, .putfield 118, 3), (61, .aload_n 0, 1), (62, .iconst 1, 1), (63, .putfield 121, 3), (66, .goto 61, 3), (69, .iload 4, 2), (71, .bipush 18, 2), (73, .if_icmp .ne 49, 3), (76, .aload_n 0, 1), (77, .getfield 56, 3), (80, .iload_n 2, 1), (81, .baload, 1), (82, .ifCond .ne 40, 3), (85, .aload_n 0, 1), (86, .getfield 56, 3), (89, .iload_n 2, 1), (90, .iconst 1, 1), (91, .bastore, 1), (92, .aload_n 0, 1), (93, .aload_n 0, 1), (94, .getfield 26, 3), (97, .iload_n 3, 1), (98, .iaload, 1), (99, .aload_n 0, 1), (100, .getfield 41, 3), (103, .iload_n 2, 1), (104, .iaload, 1), (105, .iload_n 2, 1), (106, .invokevirtual 131, 3), (109, .aload_n 0, 1), (110, .getfield 50, 3), (113, .iload_n 2, 1), (114, .aload_n 0, 1), (115, .getfield 118, 3), (118, .iastore, 1), (119, .goto 8, 3), (122, .aload_n 0, 1), (123, .iconst (-1), 1), (124, .invokevirtual 127, 3), (127, .return_, 1)]
def pg_c81 : List (Nat × Instr × Nat) := [(0, .iconst 1, 1), (1, .istore_n 2, 1), (2, .aload_n 0, 1), (3, .getfield 63, 3), (6, .iconst 0, 1), (7, .iload_n 1, 1), (8, .iastore, 1), (9, .iconst 0, 1), (10, .istore_n 3, 1), (11, .iload_n 3, 1), (12, .iload_n 2, 1), (13, .if_icmp .ge 71, 3), (16, .aload_n 0, 1), (17, .getfield 63, 3), (20, .iload_n 3, 1), (21, .iaload, 1), (22, .istore 4, 2), (24, .aload_n 0, 1), (25, .getfield 50, 3), (28, .iload 4, 2), (30, .iaload, 1), (31, .iconst (-1), 1), (32, .if_icmp .eq 19, 3), (35, .aload_n 0, 1), (36, .getfield 63, 3), (39, .iload_n 2, 1), (40, .aload_n 0, 1), (41, .getfield 50, 3), (44, .iload 4, 2), (46, .iaload, 1), (47, .iastore, 1), (48, .iinc 2 1, 3), (51, .aload_n 0, 1), (52, .getfield 53, 3), (55, .iload 4, 2), (57, .iaload, 1), (58, .iconst (-1), 1), (59, .if_icmp .eq 19, 3), (62, .aload_n 0, 1), (63, .getfield 63, 3), (66, .iload_n 2, 1), (67, .aload_n 0, 1), (68, .getfield 53, 3), (71, .iload 4, 2), (73, .iaload, 1), (74, .iastore, 1), (75, .iinc 2 1, 3), (78, .iinc 3 1, 3), (81, .goto (-70), 3), (84, .iconst 1, 1), (85, .istore_n 3, 1), (86, .iload_n 3, 1), (87, .aload_n 0, 1), (88, .getfield 138, 3), (91, .if_icmp .gt 79, 3), (94, .iconst 0, 1), (95, .istore 4, 2), (97, .iload 4, 2), (99, .iload_n 2, 1), (100, .if_icmp .ge 64, 3), (103, .aload_n 0, 1), (104, .getfield 63, 3), (107, .iload 4, 2), (109, .iaload, 1), (110, .istore 5, 2), (112, .aload_n 0, 1), (113, .getfield 20, 3), (116, .aload_n 0, 1), (117, .getfield 38, 3), (120, .iload 5, 2), (122, .iaload, 1), (123, .iaload, 1), (124, .bipush 19, 2), (126, .if_icmp .ne 32, 3), (129, .aload_n 0, 1), (130, .getfield 60, 3), (133, .iload 5, 2), (135, .iaload, 1), (136, .iload_n 3, 1), (137, .if_icmp .ne 21, 3), (140, .aload_n 0, 1), (141, .aload_n 0, 1), (142, .getfield 26, 3), (145, .aload_n 0, 1), (146, .getfield 38, 3), (149, .iload 5, 2), (151, .iaload, 1), (152, .iaload, 1), (153, .iload 5, 2), (155, .invokevirtual 141, 3), (158, .iinc 4 1, 3), (161, .goto (-64), 3), (164, .iinc 3 1, 3), (167, .goto (-81), 3), (170, .return_, 1)]
def pg_c82 : List (Nat × Instr × Nat) := [(0, .aload_n 0, 1), (1, .iconst 0, 1), (2, .putfield 66, 3), (5, .aload_n 0, 1), (6, .getfield 157, 3), (9, .ifCond .ne 7, 3), (12, .iconst (-1), 1), (13, .goto 39, 3), (16, .iload_n 1, 1), (17, .ifCond .ne 10, 3), (20, .aload_n 0, 1), (21, .getfield 160, 3), (24, .goto 28, 3), (27, .iload_n 1, 1), (28, .iconst 1, 1), (29, .if_icmp .ne 10, 3), (32, .aload_n 0, 1), (33, .getfield 163, 3), (36, .goto 16, 3), (39, .iload_n 1, 1), (40, .iconst 2, 1), (41, .if_icmp .ne 10, 3), (44, .aload_n 0, 1), (45, .getfield 111, 3), (48, .goto 4, 3), (51, .iconst (-1), 1), (52, .ireturn, 1)]
def pg_c83 : List (Nat × Instr × Nat) := [(0, .aload_n 0, 1), (1, .iconst 0, 1), (2, .putfield 66, 3), (5, .iload_n 1, 1), (6, .invokestatic 73, 3), (9, .ifCond .eq 57, 3), (12, .aload_n 0, 1), (13, .getfield 157, 3), (16, .ifCond .eq 50, 3), (19, .aload_n 0, 1), (20, .getfield 163, 3), (23, .iconst (-1), 1), (24, .if_icmp .eq 42, 3), (27, .aload_n 0, 1), (28, .getfield 16, 3), (31, .iload_n 1, 1), (32, .iaload, 1), (33, .aload_n 0, 1), (34, .getfield 163, 3), (37, .if_icmp .lt 29, 3), (40, .aload_n 0, 1), (41, .getfield 16, 3), (44, .iload_n 1, 1), (45, .iaload, 1), (46, .aload_n 0, 1), (47, .getfield 163, 3), (50, .aload_n 0, 1), (51, .getfield 160, 3), (54, .isub, 1), (55, .isub, 1), (56, .aload_n 0, 1), (57, .getfield 70, 3), (60, .iadd, 1), (61, .bipush 64, 2), (63, .if_icmp .le 5, 3), (66, .iconst 0, 1), (67, .ireturn, 1), (68, .aload_n 0, 1), (69, .getfield 16, 3), (72, .iload_n 1, 1), (73, .iaload, 1), (74, .aload_n 0, 1), (75, .getfield 163, 3), (78, .isub, 1), (79, .istore_n 2, 1), (80, .iconst 0, 1), (81, .istore_n 3, 1), (82, .iload_n 3, 1), (83, .iload_n 2, 1), (84, .if_icmp .ge 31, 3), (87, .aload_n 0, 1), (88, .getfield 35, 3), (91, .iload_n 3, 1), (92, .aload_n 0, 1), (93, .getfield 13, 3), (96, .bipush 64, 2), (98, .iload_n 1, 1), (99, .imul, 1), (100, .aload_n 0, 1), (101, .getfield 163, 3), (104, .iadd, 1), (105, .iload_n 3, 1), (106, .iadd, 1), (107, .baload, 1), (108, .bastore, 1), (109, .iinc 3 1, 3), (112, .goto (-30), 3), (115, .iconst 0, 1), (116, .istore_n 3, 1), (117, .iload_n 3, 1), (118, .aload_n 0, 1), (119, .getfield 70, 3), (122, .if_icmp .ge 31, 3), (125, .aload_n 0, 1), (126, .getfield 13, 3), (129, .bipush 64, 2), (131, .iload_n 1, 1), (132, .imul, 1), (133, .aload_n 0, 1), (134, .getfield 160, 3), (137, .iadd, 1), (138, .iload_n 3, 1), (139, .iadd, 1), (140, .aload_n 0, 1), (141, .getfield 7, 3), (144, .iload_n 3, 1), (145, .baload, 1), (146, .bastore, 1), (147, .iinc 3 1, 3), (150, .goto (-33), 3), (153, .iconst 0, 1), (154, .istore_n 3, 1), (155, .iload_n 3, 1), (156, .iload_n 2, 1), (157, .if_icmp .ge 36, 3), (160, .aload_n 0, 1), (161, .getfield 13, 3), (164, .bipush 64, 2), (166, .iload_n 1, 1), (167, .imul, 1), (168, .aload_n 0, 1), (169, .getfield 160, 3), (172, .iadd, 1), (173, .aload_n 0, 1), (174, .getfield 70, 3), (177, .iadd, 1), (178, .iload_n 3, 1), (179, .iadd, 1), (180, .aload_n 0, 1), (181, .getfield 35, 3), (184, .iload_n 3, 1), (185, .baload, 1), (186, .bastore, 1), (187, .iinc 3 1, 3), (190, .goto (-35), 3), (193, .aload_n 0, 1), (194, .getfield 16, 3), (197, .iload_n 1, 1), (198, .aload_n 0, 1), (199, .getfield 160, 3), (202, .aload_n 0, 1), (203, .getfield 70, 3), (206, .iadd, 1), (207, .iload_n 2, 1), (208, .iadd, 1), (209, .iastore, 1), (210, .aload_n 0, 1), (211, .iconst 0, 1), (212, .putfield 70, 3), (215, .iconst 1, 1), (216, .ireturn, 1)]
def pg_bcs : List (ByteArray × List (Nat × Instr × Nat)) := [(code, pg_c0), (prog_1_method_1_code, pg_c1), (prog_7_method_1_code, pg_c2), (prog_6_method_1_code, pg_c3), (prog_2_method_1_code, pg_c4), (prog_4_method_1_code, pg_c5), (prog_5_method_1_code, pg_c6), (prog_3_method_1_code, pg_c7), (prog_1_method_2_code, pg_c8), (prog_7_method_2_code, pg_c9), (prog_1_method_3_code, pg_c10), (prog_6_method_2_code, pg_c11), (prog_7_method_4_code, pg_c12), (prog_7_method_5_code, pg_c13), (prog_1_method_4_code, pg_c14), (prog_7_method_3_code, pg_c15), (prog_1_method_5_code, pg_c16), (prog_1_method_6_code, pg_c17), (prog_6_method_5_code, pg_c18), (prog_6_method_4_code, pg_c19), (prog_6_method_3_code, pg_c20), (prog_6_method_6_code, pg_c21), (prog_6_method_7_code, pg_c22), (prog_1_method_7_code, pg_c23), (prog_1_method_8_code, pg_c24), (prog_1_method_9_code, pg_c25), (prog_4_method_2_code, pg_c26), (prog_4_method_3_code, pg_c27), (prog_4_method_6_code, pg_c28), (prog_4_method_8_code, pg_c29), (prog_5_method_2_code, pg_c30), (prog_4_method_9_code, pg_c31), (prog_3_method_2_code, pg_c32), (prog_4_method_7_code, pg_c33), (prog_7_method_13_code, pg_c34), (prog_4_method_10_code, pg_c35), (prog_7_method_9_code, pg_c36), (prog_7_method_10_code, pg_c37), (prog_7_method_8_code, pg_c38), (prog_7_method_11_code, pg_c39), (prog_7_method_12_code, pg_c40), (prog_4_method_11_code, pg_c41), (prog_7_method_6_code, pg_c42), (prog_4_method_12_code, pg_c43), (prog_4_method_13_code, pg_c44), (prog_4_method_14_code, pg_c45), (prog_4_method_15_code, pg_c46), (prog_4_method_16_code, pg_c47), (prog_4_method_5_code, pg_c48), (prog_4_method_17_code, pg_c49), (prog_4_method_4_code, pg_c50), (prog_1_method_10_code, pg_c51), (prog_1_method_11_code, pg_c52), (prog_7_method_7_code, pg_c53), (prog_9_method_1_code, pg_c54), (prog_9_method_3_code, pg_c55), (prog_9_method_5_code, pg_c56), (prog_9_method_4_code, pg_c57), (prog_9_method_6_code, pg_c58), (prog_9_method_7_code, pg_c59), (prog_9_method_10_code, pg_c60), (prog_9_method_9_code, pg_c61), (prog_9_method_8_code, pg_c62), (prog_9_method_11_code, pg_c63), (prog_9_method_12_code, pg_c64), (prog_9_method_29_code, pg_c65), (prog_9_method_27_code, pg_c66), (prog_9_method_20_code, pg_c67), (prog_9_method_22_code, pg_c68), (prog_9_method_21_code, pg_c69), (prog_9_method_18_code, pg_c70), (prog_9_method_13_code, pg_c71), (prog_9_method_14_code, pg_c72), (prog_9_method_15_code, pg_c73), (prog_9_method_16_code, pg_c74), (prog_9_method_17_code, pg_c75), (prog_9_method_19_code, pg_c76), (prog_9_method_23_code, pg_c77), (prog_9_method_25_code, pg_c78), (prog_9_method_24_code, pg_c79), (prog_9_method_26_code, pg_c80), (prog_9_method_28_code, pg_c81), (prog_9_method_30_code, pg_c82), (prog_9_method_31_code, pg_c83)]
def pg_b (z : Nat) : ByteArray := (pg_bcs.getD z (code, [])).1
def pg_code (y pc : Nat) : Option (Instr × Nat) := (pg_bcs.getD y (code, [])).2.lookup pc
def pg_ftab : List (List (Nat × Nat × Nat × Option String × Nat)) := [[(10, 0, 0, none, 87), (16, 0, 1, none, 91), (20, 0, 2, none, 95), (23, 0, 3, none, 99)],
  [(9, 1, 0, none, 170), (15, 1, 1, none, 172)],
  [(12, 2, 1, none, 180), (21, 2, 2, none, 181), (28, 2, 3, none, 183), (32, 2, 4, none, 184), (35, 2, 5, none, 185), (39, 2, 6, none, 187), (42, 2, 7, none, 189), (45, 2, 8, none, 190), (48, 2, 9, none, 191), (52, 2, 10, none, 192), (55, 2, 0, none, 179), (63, 3, 5, none, 149), (66, 5, 1, none, 61), (76, 1, 1, none, 173), (91, 1, 0, none, 171), (94, 3, 2, none, 143), (101, 3, 0, none, 139), (105, 0, 3, none, 100), (116, 3, 1, none, 141), (127, 0, 1, none, 93), (141, 0, 2, none, 98), (155, 0, 0, none, 90), (192, 3, 3, none, 145), (194, 3, 4, none, 147)],
  [(11, 3, 0, none, 138), (17, 3, 1, none, 140), (21, 3, 2, none, 142), (24, 3, 3, none, 144), (27, 3, 4, none, 146), (30, 3, 5, none, 148)],
  [(11, 4, 0, none, 112), (19, 4, 1, none, 113), (23, 4, 2, none, 114), (41, 0, 1, none, 92), (48, 0, 2, none, 96), (54, 0, 3, none, 101), (57, 0, 0, none, 88), (61, 5, 1, none, 62)],
  [(9, 5, 0, none, 58), (15, 5, 1, none, 59)],
  [(10, 6, 0, none, 216), (19, 6, 1, none, 217), (28, 6, 2, none, 218), (32, 6, 3, none, 219), (36, 6, 4, none, 220), (39, 6, 5, none, 221), (46, 5, 1, none, 60), (65, 4, 2, none, 115), (72, 0, 1, none, 94), (77, 0, 2, none, 97), (80, 0, 3, none, 102), (83, 0, 0, none, 89), (90, 2, 5, none, 186), (93, 2, 6, none, 188), (96, 2, 2, none, 182), (100, 3, 5, none, 150)],
  [(7, 7, 1, none, 436), (13, 7, 3, none, 438), (16, 7, 4, none, 439), (20, 7, 6, none, 441), (23, 7, 7, none, 442), (26, 7, 8, none, 443), (29, 7, 9, none, 444), (32, 7, 10, none, 445), (35, 7, 15, none, 450), (38, 7, 17, none, 452), (41, 7, 18, none, 453), (44, 7, 19, none, 454), (47, 7, 20, none, 455), (50, 7, 21, none, 456), (53, 7, 22, none, 457), (56, 7, 23, none, 458), (60, 7, 24, none, 459), (63, 7, 30, none, 465), (66, 7, 0, none, 435), (70, 7, 2, none, 437), (77, 7, 5, none, 440), (87, 7, 16, none, 451), (111, 7, 14, none, 449), (114, 7, 29, none, 464), (118, 7, 26, none, 461), (121, 7, 27, none, 462), (124, 7, 28, none, 463), (138, 7, 25, none, 460), (157, 7, 11, none, 446), (160, 7, 12, none, 447), (163, 7, 13, none, 448)],
  []]
def pg_itab : List (List (Nat × Nat × Nat × Option String × Nat × Nat × Nat × Nat × Nat × Nat)) := [[(9, 2, 0, some "PatternMill", 5, 1, 86, 36, 55, 0)],
  [],
  [(11, 2, 0, some "PatternMill", 5, 1, 130, 36, 55, 0), (20, 6, 0, some "PatternMill", 3, 1, 133, 40, 134, 0), (27, 7, 0, some "PatternMill", 1, 1, 166, 41, 167, 0), (59, 12, 1, none, 5, 0, 315, 36, 252, 253), (69, 27, 2, none, 2, 0, 316, 39, 318, 1), (73, 50, 0, none, 2, 0, 413, 39, 415, 15), (77, 28, 3, none, 2, 0, 320, 39, 322, 2), (82, 29, 0, none, 2, 0, 325, 39, 327, 3), (85, 45, 0, none, 2, 0, 392, 39, 394, 10), (88, 49, 0, none, 2, 0, 409, 39, 411, 14), (97, 48, 2, none, 2, 0, 404, 39, 406, 13), (110, 11, 1, none, 4, 0, 375, 37, 248, 249), (119, 13, 3, none, 5, 0, 408, 36, 256, 257), (123, 30, 4, none, 3, 0, 329, 40, 330, 331), (130, 31, 2, none, 2, 0, 333, 39, 335, 4), (133, 34, 1, none, 5, 0, 345, 36, 346, 347), (137, 32, 1, none, 1, 0, 337, 41, 338, 339), (144, 20, 1, none, 4, 0, 350, 37, 287, 288), (148, 35, 2, none, 2, 0, 351, 39, 353, 6), (152, 33, 1, none, 2, 0, 341, 39, 343, 5), (158, 36, 2, none, 5, 0, 355, 36, 356, 357), (162, 37, 3, none, 5, 0, 359, 36, 360, 361), (166, 39, 2, none, 5, 0, 367, 36, 368, 369), (169, 40, 2, none, 5, 0, 371, 36, 372, 373), (172, 41, 2, none, 2, 0, 376, 39, 378, 7), (175, 43, 2, none, 2, 0, 384, 39, 386, 8), (178, 44, 3, none, 2, 0, 388, 39, 390, 9), (182, 42, 1, none, 5, 0, 380, 36, 381, 382), (185, 46, 1, none, 2, 0, 396, 39, 398, 11), (189, 47, 1, none, 2, 0, 400, 39, 402, 12)],
  [],
  [(27, 2, 0, some "PatternMill", 5, 1, 79, 36, 55, 0), (28, 4, 0, some "PatternMill", 0, 1, 81, 38, 82, 0), (29, 20, 1, none, 4, 0, 286, 37, 287, 288), (33, 11, 1, none, 4, 0, 290, 37, 248, 249), (37, 19, 3, none, 4, 0, 282, 37, 284, 0), (44, 21, 1, none, 4, 2, 291, 37, 292, 0), (51, 22, 1, none, 4, 2, 294, 37, 295, 0), (64, 12, 1, none, 5, 0, 297, 36, 252, 253)],
  [(19, 13, 3, none, 5, 0, 255, 36, 256, 257), (29, 15, 1, none, 5, 0, 349, 36, 267, 268), (33, 38, 1, none, 5, 0, 363, 36, 364, 365)],
  [(9, 2, 0, some "PatternMill", 5, 1, 54, 36, 55, 0), (18, 3, 0, none, 4, 1, 71, 37, 72, 0), (25, 5, 1, none, 2, 1, 125, 39, 126, 0), (42, 9, 1, none, 5, 0, 239, 36, 240, 241), (49, 11, 1, none, 4, 0, 247, 37, 248, 249), (53, 12, 1, none, 5, 0, 251, 36, 252, 253), (57, 15, 1, none, 5, 0, 266, 36, 267, 268), (61, 18, 4, none, 4, 0, 278, 37, 279, 280), (68, 20, 1, none, 4, 0, 306, 37, 287, 288), (86, 26, 3, none, 2, 0, 311, 39, 312, 313), (105, 53, 3, none, 5, 0, 425, 36, 426, 427)],
  [(73, 57, 1, none, 7, 2, 539, 42, 540, 0), (80, 62, 1, none, 7, 0, 558, 42, 560, 17), (83, 61, 3, none, 7, 0, 554, 42, 556, 16), (90, 71, 2, none, 7, 0, 594, 42, 596, 23), (94, 72, 4, none, 7, 0, 598, 42, 600, 24), (98, 73, 2, none, 7, 0, 602, 42, 604, 25), (102, 74, 2, none, 7, 0, 606, 42, 608, 26), (105, 75, 2, none, 7, 0, 610, 42, 612, 27), (108, 76, 2, none, 7, 0, 614, 42, 616, 28), (127, 69, 1, none, 7, 0, 586, 42, 588, 21), (131, 67, 3, none, 7, 0, 578, 42, 580, 19), (135, 70, 2, none, 7, 0, 590, 42, 592, 22), (141, 79, 2, none, 7, 0, 626, 42, 628, 31), (145, 68, 0, none, 7, 0, 582, 42, 584, 20), (148, 77, 0, none, 7, 0, 618, 42, 620, 29), (151, 78, 1, none, 7, 0, 622, 42, 624, 30), (154, 80, 1, none, 7, 0, 630, 42, 632, 32), (166, 66, 2, none, 7, 0, 574, 42, 576, 18), (169, 81, 1, none, 7, 0, 634, 42, 636, 33)],
  [(9, 1, 0, none, 6, 1, 46, 35, 47, 0), (12, 54, 0, none, 7, 1, 431, 42, 432, 0), (13, 8, 1, none, 6, 0, 235, 35, 236, 237), (17, 55, 1, none, 7, 0, 531, 42, 532, 533), (18, 10, 1, none, 6, 0, 243, 35, 244, 245), (22, 56, 1, none, 7, 0, 535, 42, 536, 537), (23, 14, 2, none, 6, 0, 262, 35, 263, 264), (27, 58, 2, none, 7, 0, 542, 42, 543, 544), (28, 16, 1, none, 6, 0, 270, 35, 271, 272), (31, 59, 1, none, 7, 0, 546, 42, 547, 548), (32, 17, 3, none, 6, 0, 274, 35, 275, 276), (36, 60, 3, none, 7, 0, 550, 42, 551, 552), (37, 23, 0, none, 6, 0, 298, 35, 299, 300), (40, 63, 0, none, 7, 0, 562, 42, 563, 564), (41, 24, 2, none, 6, 0, 302, 35, 303, 304), (44, 64, 2, none, 7, 0, 566, 42, 567, 568), (45, 25, 3, none, 6, 0, 307, 35, 308, 309), (49, 65, 3, none, 7, 0, 570, 42, 571, 572), (50, 51, 1, none, 6, 0, 417, 35, 418, 419), (53, 82, 1, none, 7, 0, 638, 42, 639, 640), (54, 52, 1, none, 6, 0, 421, 35, 422, 423), (57, 83, 1, none, 7, 0, 642, 42, 643, 644)]]
def pg_ctab : List (List (Nat × Nat × Nat)) := [[(7, 5, 85)],
  [],
  [(9, 5, 129), (18, 3, 131), (25, 1, 164)],
  [],
  [(9, 5, 75), (17, 0, 77)],
  [],
  [(7, 5, 52), (16, 4, 69), (23, 2, 123)],
  [],
  [(7, 6, 44), (10, 7, 429)]]
def pg_atab : List (List (Nat × Nat × Nat)) := [[],
  [],
  [],
  [(9, 4, 137)],
  [(9, 3, 75), (17, 4, 77)],
  [],
  [],
  [],
  []]
def pg_ktab : List (List (Nat × Int32 × Nat)) := [[],
  [],
  [(81, 1000000, 324)],
  [],
  [],
  [],
  [],
  [],
  []]
def pg_otab : List (List (Nat × Nat)) := [[(1, 84)],
  [(3, 169)],
  [(3, 128)],
  [(3, 136)],
  [(3, 74)],
  [(3, 57)],
  [(1, 49)],
  [(1, 434)],
  []]
def pg_actab : List (List (Nat × Nat)) := [[],
  [],
  [],
  [],
  [],
  [(23, 259)],
  [],
  [],
  []]
/-- of each class: where its words stand: instantiable, initialized, then its fields' -/
def pg_clp : List (Nat × Nat × List Nat) := [(80, 38, [103, 105, 107, 109]), (165, 41, [174, 176]), (124, 39, [193, 195, 197, 199, 201, 203, 205, 207, 209, 211, 213]), (132, 40, [151, 153, 155, 157, 159, 161]), (70, 37, [116, 118, 120]), (53, 36, [63, 65]), (45, 35, [222, 224, 226, 228, 230, 232]), (430, 42, [466, 468, 470, 472, 474, 476, 478, 480, 482, 484, 486, 488, 490, 492, 494, 496, 498, 500, 502, 504, 506, 508, 510, 512, 514, 516, 518, 520, 522, 524, 526])]
def pg_oip : Nat × Nat := (50, 51)
def pg_acp : Nat × Nat × Nat := (261, 260, 43)
def pg_arp : List Nat := [68, 529, 530]
def pg_aop : List Nat := [76, 78]
def pg_f (y x : Nat) : Option (Nat × Nat × Option String) := ((pg_ftab.getD (pg_o1 y) []).lookup x).map (fun e => (e.1, e.2.1, e.2.2.1))
def pg_i (y x : Nat) : Option (Nat × Nat × Option String × Nat × Nat) := ((pg_itab.getD (pg_o1 y) []).lookup x).map (fun e => (e.1, e.2.1, e.2.2.1, e.2.2.2.1, e.2.2.2.2.1))
def pg_c (y x : Nat) : Option Nat := ((pg_ctab.getD (pg_o1 y) []).lookup x).map (fun e => e.1)
def pg_a (y x : Nat) : Option Nat := ((pg_atab.getD (pg_o1 y) []).lookup x).map (fun e => e.1)
def pg_k (y x : Nat) : Option Int32 := ((pg_ktab.getD (pg_o1 y) []).lookup x).map (fun e => e.1)
def pg_o (y x : Nat) : Bool := ((pg_otab.getD (pg_o1 y) []).lookup x).isSome
def pg_ac (y x : Nat) : Bool := ((pg_actab.getD (pg_o1 y) []).lookup x).isSome
end
section
/-! what the tables say is what the Statement's words say -/
def xm_K : Nat := 37
def pg_nk : Cond → Bool
  | .fieldLinkNest _ _ _ _ _ _ => true
  | .methodLinkNest _ _ _ _ => true
  | _ => false
def pg_TS : List Cond := lw_tbl.filter goodWord
def pg_NS : List Cond := lw_tbl.filter pg_nk
theorem pg_NS_kind (w : Cond) (h : w ∈ pg_NS) : pg_nk w = true := (List.mem_filter.mp h).2
theorem pg_TS_good (w : Cond) (h : w ∈ pg_TS) : (w.onTables && w.keeps) = true ∨ ∃ ty, w = .arrayClass ty := good_of_word (List.mem_filter.mp h).2
theorem pg_in {p : Nat} {w : Cond} (h : lw_tbl[p]? = some w) (hg : goodWord w = true) : w ∈ pg_TS := List.mem_filter.mpr ⟨List.mem_of_getElem? h, hg⟩
theorem pg_inN {p : Nat} {w : Cond} (h : lw_tbl[p]? = some w) (hg : pg_nk w = true) : w ∈ pg_NS := List.mem_filter.mpr ⟨List.mem_of_getElem? h, hg⟩
theorem pg_lk {α : Type} {x : Nat} {e : α} : ∀ {l : List (Nat × α)}, l.lookup x = some e → (x, e) ∈ l
  | [], h => by simp at h
  | (a, b) :: l, h => by
    rw [List.lookup_cons] at h
    by_cases q : x = a
    · subst q
      simp at h
      subst h
      exact List.mem_cons_self
    · have : (x == a) = false := by simpa using q
      rw [this] at h
      exact List.mem_cons_of_mem _ (pg_lk h)
theorem pg_getD {α : Type} (l : List α) (d : α) {n : Nat} (h : l.length ≤ n) : l.getD n d = d := by
  rw [List.getD_eq_getElem?_getD, List.getElem?_eq_none h]
  rfl
theorem pg_all {α : Type} {t : List (List α)} {f : Nat → α → Bool} (h : (List.range t.length).all (fun o => (t.getD o []).all (f o)) = true) {o : Nat} {e : α} (he : e ∈ t.getD o []) : f o e = true := by
  by_cases ho : o < t.length
  · exact List.all_eq_true.mp (List.all_eq_true.mp h o (List.mem_range.mpr ho)) e he
  · rw [pg_getD _ _ (by omega)] at he
    cases he
def pg_own (o : Nat) : String := pg_on.getD o ""
theorem pg_own_ok0 : (List.range pg_n).all (fun y => decide (pg_own (pg_o1 y) = (pg_y y).cls)) = true := by decide +kernel
theorem pg_len : pg_ms.length = pg_n := by decide +kernel
theorem pg_big {y : Nat} (h : ¬ y < pg_n) : pg_o1 y = 99 := by
  unfold pg_o1 pg_m
  rw [pg_getD _ _ (by rw [pg_len]; omega)]
theorem pg_own_ok {y : Nat} (h : pg_o1 y ≠ 99) : pg_own (pg_o1 y) = (pg_y y).cls := by
  by_cases hy : y < pg_n
  · exact of_decide_eq_true (List.all_eq_true.mp pg_own_ok0 y (List.mem_range.mpr hy))
  · exact absurd (pg_big hy) h
theorem pg_no {α : Type} {t : List (List α)} {y : Nat} {e : α} (hl : t.length ≤ 99) (h : e ∈ t.getD (pg_o1 y) []) : pg_o1 y ≠ 99 := by
  intro q
  rw [q, pg_getD _ _ hl] at h
  cases h
def pg_fchk (o : Nat) (e : Nat × Nat × Nat × Option String × Nat) : Bool := match classes[e.2.1]? with
  | some q => decide (e.2.2.1 < q.2.2) && (match e.2.2.2.1 with
    | none => decide (lw_tbl[e.2.2.2.2]? = some (Cond.fieldLink (pg_own o) e.1 (q.2.1 e.2.2.1).1 (q.2.1 e.2.2.1).2.1 (q.2.1 e.2.2.1).2.2.1))
    | some h => decide (lw_tbl[e.2.2.2.2]? = some (Cond.fieldLinkNest (pg_own o) e.1 (q.2.1 e.2.2.1).1 (q.2.1 e.2.2.1).2.1 (q.2.1 e.2.2.1).2.2.1 h)))
  | none => false
theorem pg_fall : (List.range pg_ftab.length).all (fun o => (pg_ftab.getD o []).all (pg_fchk o)) = true := by decide +kernel
theorem pg_f_ok {y x ci k : Nat} {h : Option String} (hf : pg_f y x = some (ci, k, h)) : ∃ (C : String) (T : u_T) (N : Nat), classes[ci]? = some (C, T, N) ∧ k < N ∧ ((h = none ∧ Cond.fieldLink (pg_y y).cls x (T k).1 (T k).2.1 (T k).2.2.1 ∈ pg_TS) ∨ ∃ host, h = some host ∧ Cond.fieldLinkNest (pg_y y).cls x (T k).1 (T k).2.1 (T k).2.2.1 host ∈ pg_NS) := by
  unfold pg_f at hf
  obtain ⟨e, h1, h2⟩ := Option.map_eq_some_iff.mp hf
  obtain ⟨ci', k', h', ps⟩ := e
  simp only [Prod.mk.injEq] at h2
  obtain ⟨rfl, rfl, rfl⟩ := h2
  have hm := pg_lk h1
  have ho := pg_own_ok (pg_no (by decide) hm)
  have hc := pg_all pg_fall hm
  unfold pg_fchk at hc
  split at hc
  · next q hq =>
    rw [Bool.and_eq_true, decide_eq_true_eq] at hc
    obtain ⟨h3, h4⟩ := hc
    obtain ⟨C, T, N⟩ := q
    refine ⟨C, T, N, hq, h3, ?_⟩
    split at h4
    · next q9 =>
      rw [decide_eq_true_eq, ho] at h4
      exact Or.inl ⟨q9, pg_in h4 rfl⟩
    · next hh q9 =>
      rw [decide_eq_true_eq, ho] at h4
      exact Or.inr ⟨hh, q9, pg_inN h4 rfl⟩
  · cases hc
def pg_clchk (ci : Nat) (e : Nat × Nat × List Nat) : Bool := match classes[ci]? with
  | some q => decide (lw_tbl[e.1]? = some (Cond.instantiable q.1 q.2.2)) && decide (lw_tbl[e.2.1]? = some (Cond.initialized q.1)) && (List.range q.2.2).all (fun k => decide (lw_tbl[e.2.2.getD k 0]? = some (u_lay q.1 q.2.1 k)) && decide (parseFieldDescriptor (q.2.1 k).2.2.1 = some (pg_ft ci k)) && (List.range q.2.2).all (fun j => decide (k = j ∨ (q.2.1 k).2.1 ≠ (q.2.1 j).2.1)))
  | none => true
theorem pg_clall : (List.range classes.length).all (fun ci => pg_clchk ci (pg_clp.getD ci (0, 0, []))) = true := by decide +kernel
theorem pg_lay_good (C : String) (T : u_T) (k : Nat) : goodWord (u_lay C T k) = true := by
  unfold u_lay
  split <;> rfl
theorem pg_cl_ok {ci N : Nat} {C : String} {T : u_T} (h : classes[ci]? = some (C, T, N)) : (∀ w ∈ u_ws C T N, w ∈ pg_TS) ∧ (∀ k, k < N → parseFieldDescriptor (T k).2.2.1 = some (pg_ft ci k)) ∧ (∀ a, a < N → ∀ b, b < N → a ≠ b → (T a).2.1 ≠ (T b).2.1) ∧ Cond.instantiable C N ∈ pg_TS ∧ Cond.initialized C ∈ pg_TS := by
  have hl : ci < classes.length := (List.getElem?_eq_some_iff.mp h).1
  have hc := List.all_eq_true.mp pg_clall ci (List.mem_range.mpr hl)
  unfold pg_clchk at hc
  rw [h] at hc
  simp only [Bool.and_eq_true, decide_eq_true_eq, List.all_eq_true, List.mem_range] at hc
  obtain ⟨⟨h1, h2⟩, h3⟩ := hc
  refine ⟨fun w hw => ?_, fun k hk => (h3 k hk).1.2, fun a ha b hb hab => ((h3 a ha).2 b hb).resolve_left hab, pg_in h1 rfl, pg_in h2 rfl⟩
  obtain ⟨k, hk, rfl⟩ := List.mem_map.mp hw
  exact pg_in (h3 k (List.mem_range.mp hk)).1.1 (pg_lay_good C T k)
def pg_cchk (o : Nat) (e : Nat × Nat × Nat) : Bool := match classes[e.2.1]? with
  | some q => decide (lw_tbl[e.2.2]? = some (Cond.classLink (pg_own o) e.1 q.1))
  | none => false
theorem pg_call : (List.range pg_ctab.length).all (fun o => (pg_ctab.getD o []).all (pg_cchk o)) = true := by decide +kernel
theorem pg_c_ok {y x ci : Nat} (h : pg_c y x = some ci) : ∃ q, classes[ci]? = some q ∧ Cond.classLink (pg_y y).cls x q.1 ∈ pg_TS := by
  unfold pg_c at h
  obtain ⟨e, h1, rfl⟩ := Option.map_eq_some_iff.mp h
  have hm := pg_lk h1
  have ho := pg_own_ok (pg_no (by decide) hm)
  have hc := pg_all pg_call hm
  unfold pg_cchk at hc
  split at hc
  · next q hq =>
    rw [decide_eq_true_eq, ho] at hc
    exact ⟨q, hq, pg_in hc rfl⟩
  · cases hc
def pg_achk (o : Nat) (e : Nat × Nat × Nat) : Bool := match pg_at[e.2.1]? with
  | some (.object C) => decide (lw_tbl[e.2.2]? = some (Cond.classLink (pg_own o) e.1 C)) && decide (C ∈ pg_AO)
  | _ => false
theorem pg_aall : (List.range pg_atab.length).all (fun o => (pg_atab.getD o []).all (pg_achk o)) = true := by decide +kernel
theorem pg_a_ok {y x t : Nat} (h : pg_a y x = some t) : ∃ C, pg_at[t]? = some (.object C) ∧ Cond.classLink (pg_y y).cls x C ∈ pg_TS ∧ C ∈ pg_AO := by
  unfold pg_a at h
  obtain ⟨e, h1, rfl⟩ := Option.map_eq_some_iff.mp h
  have hm := pg_lk h1
  have ho := pg_own_ok (pg_no (by decide) hm)
  have hc := pg_all pg_aall hm
  unfold pg_achk at hc
  split at hc
  · next C hq =>
    rw [Bool.and_eq_true, decide_eq_true_eq, decide_eq_true_eq, ho] at hc
    exact ⟨C, hq, pg_in hc.1 rfl, hc.2⟩
  · cases hc
def pg_kchk (o : Nat) (e : Nat × Int32 × Nat) : Bool := decide (lw_tbl[e.2.2]? = some (Cond.constant (pg_own o) e.1 e.2.1))
theorem pg_kall : (List.range pg_ktab.length).all (fun o => (pg_ktab.getD o []).all (pg_kchk o)) = true := by decide +kernel
theorem pg_k_ok {y x : Nat} {v : Int32} (h : pg_k y x = some v) : Cond.constant (pg_y y).cls x v ∈ pg_TS := by
  unfold pg_k at h
  obtain ⟨e, h1, rfl⟩ := Option.map_eq_some_iff.mp h
  have hm := pg_lk h1
  have ho := pg_own_ok (pg_no (by decide) hm)
  have hc := pg_all pg_kall hm
  unfold pg_kchk at hc
  rw [decide_eq_true_eq, ho] at hc
  exact pg_in hc rfl
theorem pg_oall : (List.range pg_otab.length).all (fun o => (pg_otab.getD o []).all (fun e => decide (lw_tbl[e.2]? = some (Cond.methodLink (pg_own o) e.1 objectInit)))) = true := by decide +kernel
theorem pg_oi : Cond.instanceMethod objectInit ∈ pg_TS ∧ Cond.code objectInit ⟨#[0xb1]⟩ 1 none ∈ pg_TS := ⟨pg_in (p := pg_oip.1) (by decide +kernel) rfl, pg_in (p := pg_oip.2) (by decide +kernel) rfl⟩
theorem pg_o_ok {y x : Nat} (h : pg_o y x = true) : Cond.methodLink (pg_y y).cls x objectInit ∈ pg_TS ∧ Cond.instanceMethod objectInit ∈ pg_TS ∧ Cond.code objectInit ⟨#[0xb1]⟩ 1 none ∈ pg_TS := by
  unfold pg_o at h
  obtain ⟨e, h1⟩ := Option.isSome_iff_exists.mp h
  have hm := pg_lk h1
  have ho := pg_own_ok (pg_no (by decide) hm)
  have hc := pg_all pg_oall hm
  rw [decide_eq_true_eq, ho] at hc
  exact ⟨pg_in hc rfl, pg_oi⟩
theorem pg_acall : (List.range pg_actab.length).all (fun o => (pg_actab.getD o []).all (fun e => decide (lw_tbl[e.2]? = some (Cond.methodLink (pg_own o) e.1 arraycopyName)))) = true := by decide +kernel
theorem pg_aci : Cond.native arraycopyName ∈ pg_TS ∧ Cond.static arraycopyName ∈ pg_TS ∧ Cond.initialized "java/lang/System" ∈ pg_TS := ⟨pg_in (p := pg_acp.1) (by decide +kernel) rfl, pg_in (p := pg_acp.2.1) (by decide +kernel) rfl, pg_in (p := pg_acp.2.2) (by decide +kernel) rfl⟩
theorem pg_ac_ok {y x : Nat} (h : pg_ac y x = true) : Cond.methodLink (pg_y y).cls x arraycopyName ∈ pg_TS ∧ Cond.native arraycopyName ∈ pg_TS ∧ Cond.static arraycopyName ∈ pg_TS ∧ Cond.initialized "java/lang/System" ∈ pg_TS := by
  unfold pg_ac at h
  obtain ⟨e, h1⟩ := Option.isSome_iff_exists.mp h
  have hm := pg_lk h1
  have ho := pg_own_ok (pg_no (by decide) hm)
  have hc := pg_all pg_acall hm
  rw [decide_eq_true_eq, ho] at hc
  exact ⟨pg_in hc rfl, pg_aci⟩
theorem pg_at0 : pg_at[0]? = some .int := rfl
theorem pg_at1 : pg_at[1]? = some .byte := rfl
theorem pg_at2 : pg_at[2]? = some .boolean := rfl
theorem pg_at_obj0 : (List.range pg_at.length).all (fun t => decide (t < 3) || match pg_at[t]? with | some (.object _) => true | _ => false) = true := by decide +kernel
theorem pg_at_obj {t : Nat} (h : 3 ≤ t) (h2 : t < pg_at.length) : ∃ C, pg_at[t]? = some (.object C) := by
  have h3 := List.all_eq_true.mp pg_at_obj0 t (List.mem_range.mpr h2)
  rw [Bool.or_eq_true, decide_eq_true_eq] at h3
  rcases h3 with h3 | h3
  · omega
  · split at h3
    · next C hC => exact ⟨C, hC⟩
    · cases h3
theorem pg_ai : Cond.arrayClass .int ∈ pg_TS := pg_in (p := pg_arp.getD 0 0) (by decide +kernel) rfl
theorem pg_ab : Cond.arrayClass .byte ∈ pg_TS := pg_in (p := pg_arp.getD 1 0) (by decide +kernel) rfl
theorem pg_az : Cond.arrayClass .boolean ∈ pg_TS := pg_in (p := pg_arp.getD 2 0) (by decide +kernel) rfl
/-- z, n, host, ci, kind, then the places: link, initialized, instanceMethod or static, selects -/
def pg_ichk (o : Nat) (e : Nat × Nat × Nat × Option String × Nat × Nat × Nat × Nat × Nat × Nat) : Bool := match e with
  | (x, z, n, host, ci, kd, ps, pi, p1, p2) => decide (0 < z ∧ z < pg_n) && decide ((parseMethodDescriptor (pg_y z).desc).map (fun d => d.parameters.length) = some n) && decide (lw_tbl[pi]? = some (Cond.initialized (pg_y z).cls)) && decide ((pg_y z).cls ≠ "java/lang/invoke/MethodHandle" ∧ (pg_y z).cls ≠ "java/lang/invoke/VarHandle") && (match host with
    | none => decide (lw_tbl[ps]? = some (Cond.methodLink (pg_own o) x (pg_y z)))
    | some h => decide (lw_tbl[ps]? = some (Cond.methodLinkNest (pg_own o) x (pg_y z) h))) && (if kd = 0 then decide (lw_tbl[p1]? = some (Cond.instanceMethod (pg_y z))) && decide (lw_tbl[p2]? = some (Cond.selects (pg_y z).cls (pg_y z) (pg_y z))) && decide (classes[ci]?.map (fun q => q.1) = some (pg_y z).cls) else if kd = 1 then decide (lw_tbl[p1]? = some (Cond.instanceMethod (pg_y z))) && decide ((pg_y z).name = "<init>" ∧ pg_r z = none) else decide (kd = 2) && decide (lw_tbl[p1]? = some (Cond.static (pg_y z))))
theorem pg_iall : (List.range pg_itab.length).all (fun o => (pg_itab.getD o []).all (pg_ichk o)) = true := by decide +kernel
theorem pg_i_ok {y x z n ci kd : Nat} {h : Option String} (hi : pg_i y x = some (z, n, h, ci, kd)) : (0 < z ∧ z < pg_n) ∧ (parseMethodDescriptor (pg_y z).desc).map (fun d => d.parameters.length) = some n ∧ Cond.initialized (pg_y z).cls ∈ pg_TS ∧ ((pg_y z).cls ≠ "java/lang/invoke/MethodHandle" ∧ (pg_y z).cls ≠ "java/lang/invoke/VarHandle") ∧ ((h = none ∧ Cond.methodLink (pg_y y).cls x (pg_y z) ∈ pg_TS) ∨ ∃ host, h = some host ∧ Cond.methodLinkNest (pg_y y).cls x (pg_y z) host ∈ pg_NS) ∧
    (kd = 0 → Cond.instanceMethod (pg_y z) ∈ pg_TS ∧ Cond.selects (pg_y z).cls (pg_y z) (pg_y z) ∈ pg_TS ∧ ∃ q, classes[ci]? = some q ∧ q.1 = (pg_y z).cls) ∧ (kd = 1 → Cond.instanceMethod (pg_y z) ∈ pg_TS ∧ (pg_y z).name = "<init>" ∧ pg_r z = none) ∧ (kd = 2 → Cond.static (pg_y z) ∈ pg_TS) := by
  unfold pg_i at hi
  obtain ⟨e, h1, h2⟩ := Option.map_eq_some_iff.mp hi
  obtain ⟨z', n', h', ci', kd', ps, pi, p1, p2⟩ := e
  simp only [Prod.mk.injEq] at h2
  obtain ⟨rfl, rfl, rfl, rfl, rfl⟩ := h2
  have hm := pg_lk h1
  have ho := pg_own_ok (pg_no (by decide) hm)
  have hc := pg_all pg_iall hm
  simp only [pg_ichk, Bool.and_eq_true, decide_eq_true_eq, ho] at hc
  obtain ⟨⟨⟨⟨⟨c1, c2⟩, c3⟩, c4⟩, c5⟩, c6⟩ := hc
  refine ⟨c1, c2, pg_in c3 rfl, c4, ?_, ?_, ?_, ?_⟩
  · split at c5
    · rw [decide_eq_true_eq] at c5
      exact Or.inl ⟨rfl, pg_in c5 rfl⟩
    · next hh =>
      rw [decide_eq_true_eq] at c5
      exact Or.inr ⟨hh, rfl, pg_inN c5 rfl⟩
  · intro q
    subst q
    rw [if_pos rfl, Bool.and_eq_true, Bool.and_eq_true, decide_eq_true_eq, decide_eq_true_eq, decide_eq_true_eq] at c6
    obtain ⟨q, h3, h4⟩ := Option.map_eq_some_iff.mp c6.2
    exact ⟨pg_in c6.1.1 rfl, pg_in c6.1.2 rfl, q, h3, h4⟩
  · intro q
    subst q
    rw [if_neg (by decide), if_pos rfl, Bool.and_eq_true, decide_eq_true_eq, decide_eq_true_eq] at c6
    exact ⟨pg_in c6.1 rfl, c6.2⟩
  · intro q
    subst q
    rw [if_neg (by decide), if_neg (by decide), Bool.and_eq_true, decide_eq_true_eq, decide_eq_true_eq] at c6
    exact pg_in c6.2 rfl
end
section
theorem pg_k0 : pg_c0.all (fun e => decide (decode code e.1 = .ok e.2)) = true := by decide +kernel
theorem pg_k1 : pg_c1.all (fun e => decide (decode prog_1_method_1_code e.1 = .ok e.2)) = true := by decide +kernel
theorem pg_k2 : pg_c2.all (fun e => decide (decode prog_7_method_1_code e.1 = .ok e.2)) = true := by decide +kernel
theorem pg_k3 : pg_c3.all (fun e => decide (decode prog_6_method_1_code e.1 = .ok e.2)) = true := by decide +kernel
theorem pg_k4 : pg_c4.all (fun e => decide (decode prog_2_method_1_code e.1 = .ok e.2)) = true := by decide +kernel
theorem pg_k5 : pg_c5.all (fun e => decide (decode prog_4_method_1_code e.1 = .ok e.2)) = true := by decide +kernel
theorem pg_k6 : pg_c6.all (fun e => decide (decode prog_5_method_1_code e.1 = .ok e.2)) = true := by decide +kernel
theorem pg_k7 : pg_c7.all (fun e => decide (decode prog_3_method_1_code e.1 = .ok e.2)) = true := by decide +kernel
theorem pg_k8 : pg_c8.all (fun e => decide (decode prog_1_method_2_code e.1 = .ok e.2)) = true := by decide +kernel
theorem pg_k9 : pg_c9.all (fun e => decide (decode prog_7_method_2_code e.1 = .ok e.2)) = true := by decide +kernel
theorem pg_k10 : pg_c10.all (fun e => decide (decode prog_1_method_3_code e.1 = .ok e.2)) = true := by decide +kernel
theorem pg_k11 : pg_c11.all (fun e => decide (decode prog_6_method_2_code e.1 = .ok e.2)) = true := by decide +kernel
theorem pg_k12 : pg_c12.all (fun e => decide (decode prog_7_method_4_code e.1 = .ok e.2)) = true := by decide +kernel
theorem pg_k13 : pg_c13.all (fun e => decide (decode prog_7_method_5_code e.1 = .ok e.2)) = true := by decide +kernel
theorem pg_k14 : pg_c14.all (fun e => decide (decode prog_1_method_4_code e.1 = .ok e.2)) = true := by decide +kernel
theorem pg_k15 : pg_c15.all (fun e => decide (decode prog_7_method_3_code e.1 = .ok e.2)) = true := by decide +kernel
theorem pg_k16 : pg_c16.all (fun e => decide (decode prog_1_method_5_code e.1 = .ok e.2)) = true := by decide +kernel
theorem pg_k17 : pg_c17.all (fun e => decide (decode prog_1_method_6_code e.1 = .ok e.2)) = true := by decide +kernel
theorem pg_k18 : pg_c18.all (fun e => decide (decode prog_6_method_5_code e.1 = .ok e.2)) = true := by decide +kernel
theorem pg_k19 : pg_c19.all (fun e => decide (decode prog_6_method_4_code e.1 = .ok e.2)) = true := by decide +kernel
theorem pg_k20 : pg_c20.all (fun e => decide (decode prog_6_method_3_code e.1 = .ok e.2)) = true := by decide +kernel
theorem pg_k21 : pg_c21.all (fun e => decide (decode prog_6_method_6_code e.1 = .ok e.2)) = true := by decide +kernel
theorem pg_k22 : pg_c22.all (fun e => decide (decode prog_6_method_7_code e.1 = .ok e.2)) = true := by decide +kernel
theorem pg_k23 : pg_c23.all (fun e => decide (decode prog_1_method_7_code e.1 = .ok e.2)) = true := by decide +kernel
theorem pg_k24 : pg_c24.all (fun e => decide (decode prog_1_method_8_code e.1 = .ok e.2)) = true := by decide +kernel
theorem pg_k25 : pg_c25.all (fun e => decide (decode prog_1_method_9_code e.1 = .ok e.2)) = true := by decide +kernel
theorem pg_k26 : pg_c26.all (fun e => decide (decode prog_4_method_2_code e.1 = .ok e.2)) = true := by decide +kernel
theorem pg_k27 : pg_c27.all (fun e => decide (decode prog_4_method_3_code e.1 = .ok e.2)) = true := by decide +kernel
theorem pg_k28 : pg_c28.all (fun e => decide (decode prog_4_method_6_code e.1 = .ok e.2)) = true := by decide +kernel
theorem pg_k29 : pg_c29.all (fun e => decide (decode prog_4_method_8_code e.1 = .ok e.2)) = true := by decide +kernel
theorem pg_k30 : pg_c30.all (fun e => decide (decode prog_5_method_2_code e.1 = .ok e.2)) = true := by decide +kernel
theorem pg_k31 : pg_c31.all (fun e => decide (decode prog_4_method_9_code e.1 = .ok e.2)) = true := by decide +kernel
theorem pg_k32 : pg_c32.all (fun e => decide (decode prog_3_method_2_code e.1 = .ok e.2)) = true := by decide +kernel
theorem pg_k33 : pg_c33.all (fun e => decide (decode prog_4_method_7_code e.1 = .ok e.2)) = true := by decide +kernel
theorem pg_k34 : pg_c34.all (fun e => decide (decode prog_7_method_13_code e.1 = .ok e.2)) = true := by decide +kernel
theorem pg_k35 : pg_c35.all (fun e => decide (decode prog_4_method_10_code e.1 = .ok e.2)) = true := by decide +kernel
theorem pg_k36 : pg_c36.all (fun e => decide (decode prog_7_method_9_code e.1 = .ok e.2)) = true := by decide +kernel
theorem pg_k37 : pg_c37.all (fun e => decide (decode prog_7_method_10_code e.1 = .ok e.2)) = true := by decide +kernel
theorem pg_k38 : pg_c38.all (fun e => decide (decode prog_7_method_8_code e.1 = .ok e.2)) = true := by decide +kernel
theorem pg_k39 : pg_c39.all (fun e => decide (decode prog_7_method_11_code e.1 = .ok e.2)) = true := by decide +kernel
theorem pg_k40 : pg_c40.all (fun e => decide (decode prog_7_method_12_code e.1 = .ok e.2)) = true := by decide +kernel
theorem pg_k41 : pg_c41.all (fun e => decide (decode prog_4_method_11_code e.1 = .ok e.2)) = true := by decide +kernel
theorem pg_k42 : pg_c42.all (fun e => decide (decode prog_7_method_6_code e.1 = .ok e.2)) = true := by decide +kernel
theorem pg_k43 : pg_c43.all (fun e => decide (decode prog_4_method_12_code e.1 = .ok e.2)) = true := by decide +kernel
theorem pg_k44 : pg_c44.all (fun e => decide (decode prog_4_method_13_code e.1 = .ok e.2)) = true := by decide +kernel
theorem pg_k45 : pg_c45.all (fun e => decide (decode prog_4_method_14_code e.1 = .ok e.2)) = true := by decide +kernel
theorem pg_k46 : pg_c46.all (fun e => decide (decode prog_4_method_15_code e.1 = .ok e.2)) = true := by decide +kernel
theorem pg_k47 : pg_c47.all (fun e => decide (decode prog_4_method_16_code e.1 = .ok e.2)) = true := by decide +kernel
theorem pg_k48 : pg_c48.all (fun e => decide (decode prog_4_method_5_code e.1 = .ok e.2)) = true := by decide +kernel
theorem pg_k49 : pg_c49.all (fun e => decide (decode prog_4_method_17_code e.1 = .ok e.2)) = true := by decide +kernel
theorem pg_k50 : pg_c50.all (fun e => decide (decode prog_4_method_4_code e.1 = .ok e.2)) = true := by decide +kernel
theorem pg_k51 : pg_c51.all (fun e => decide (decode prog_1_method_10_code e.1 = .ok e.2)) = true := by decide +kernel
theorem pg_k52 : pg_c52.all (fun e => decide (decode prog_1_method_11_code e.1 = .ok e.2)) = true := by decide +kernel
theorem pg_k53 : pg_c53.all (fun e => decide (decode prog_7_method_7_code e.1 = .ok e.2)) = true := by decide +kernel
theorem pg_k54 : pg_c54.all (fun e => decide (decode prog_9_method_1_code e.1 = .ok e.2)) = true := by decide +kernel
theorem pg_k55 : pg_c55.all (fun e => decide (decode prog_9_method_3_code e.1 = .ok e.2)) = true := by decide +kernel
theorem pg_k56 : pg_c56.all (fun e => decide (decode prog_9_method_5_code e.1 = .ok e.2)) = true := by decide +kernel
theorem pg_k57 : pg_c57.all (fun e => decide (decode prog_9_method_4_code e.1 = .ok e.2)) = true := by decide +kernel
theorem pg_k58 : pg_c58.all (fun e => decide (decode prog_9_method_6_code e.1 = .ok e.2)) = true := by decide +kernel
theorem pg_k59 : pg_c59.all (fun e => decide (decode prog_9_method_7_code e.1 = .ok e.2)) = true := by decide +kernel
theorem pg_k60 : pg_c60.all (fun e => decide (decode prog_9_method_10_code e.1 = .ok e.2)) = true := by decide +kernel
theorem pg_k61 : pg_c61.all (fun e => decide (decode prog_9_method_9_code e.1 = .ok e.2)) = true := by decide +kernel
theorem pg_k62 : pg_c62.all (fun e => decide (decode prog_9_method_8_code e.1 = .ok e.2)) = true := by decide +kernel
theorem pg_k63 : pg_c63.all (fun e => decide (decode prog_9_method_11_code e.1 = .ok e.2)) = true := by decide +kernel
theorem pg_k64 : pg_c64.all (fun e => decide (decode prog_9_method_12_code e.1 = .ok e.2)) = true := by decide +kernel
theorem pg_k65 : pg_c65.all (fun e => decide (decode prog_9_method_29_code e.1 = .ok e.2)) = true := by decide +kernel
theorem pg_k66 : pg_c66.all (fun e => decide (decode prog_9_method_27_code e.1 = .ok e.2)) = true := by decide +kernel
theorem pg_k67 : pg_c67.all (fun e => decide (decode prog_9_method_20_code e.1 = .ok e.2)) = true := by decide +kernel
theorem pg_k68 : pg_c68.all (fun e => decide (decode prog_9_method_22_code e.1 = .ok e.2)) = true := by decide +kernel
theorem pg_k69 : pg_c69.all (fun e => decide (decode prog_9_method_21_code e.1 = .ok e.2)) = true := by decide +kernel
theorem pg_k70 : pg_c70.all (fun e => decide (decode prog_9_method_18_code e.1 = .ok e.2)) = true := by decide +kernel
theorem pg_k71 : pg_c71.all (fun e => decide (decode prog_9_method_13_code e.1 = .ok e.2)) = true := by decide +kernel
theorem pg_k72 : pg_c72.all (fun e => decide (decode prog_9_method_14_code e.1 = .ok e.2)) = true := by decide +kernel
theorem pg_k73 : pg_c73.all (fun e => decide (decode prog_9_method_15_code e.1 = .ok e.2)) = true := by decide +kernel
theorem pg_k74 : pg_c74.all (fun e => decide (decode prog_9_method_16_code e.1 = .ok e.2)) = true := by decide +kernel
theorem pg_k75 : pg_c75.all (fun e => decide (decode prog_9_method_17_code e.1 = .ok e.2)) = true := by decide +kernel
theorem pg_k76 : pg_c76.all (fun e => decide (decode prog_9_method_19_code e.1 = .ok e.2)) = true := by decide +kernel
theorem pg_k77 : pg_c77.all (fun e => decide (decode prog_9_method_23_code e.1 = .ok e.2)) = true := by decide +kernel
theorem pg_k78 : pg_c78.all (fun e => decide (decode prog_9_method_25_code e.1 = .ok e.2)) = true := by decide +kernel
theorem pg_k79 : pg_c79.all (fun e => decide (decode prog_9_method_24_code e.1 = .ok e.2)) = true := by decide +kernel
theorem pg_k80 : pg_c80.all (fun e => decide (decode prog_9_method_26_code e.1 = .ok e.2)) = true := by decide +kernel
theorem pg_k81 : pg_c81.all (fun e => decide (decode prog_9_method_28_code e.1 = .ok e.2)) = true := by decide +kernel
theorem pg_k82 : pg_c82.all (fun e => decide (decode prog_9_method_30_code e.1 = .ok e.2)) = true := by decide +kernel
theorem pg_k83 : pg_c83.all (fun e => decide (decode prog_9_method_31_code e.1 = .ok e.2)) = true := by decide +kernel
set_option maxRecDepth 100000 in
theorem pg_bcs_ok : ∀ q ∈ pg_bcs, q.2.all (fun e => decide (decode q.1 e.1 = .ok e.2)) = true := List.forall_mem_cons.mpr ⟨pg_k0, List.forall_mem_cons.mpr ⟨pg_k1, List.forall_mem_cons.mpr ⟨pg_k2, List.forall_mem_cons.mpr ⟨pg_k3, List.forall_mem_cons.mpr ⟨pg_k4, List.forall_mem_cons.mpr ⟨pg_k5, List.forall_mem_cons.mpr ⟨pg_k6, List.forall_mem_cons.mpr ⟨pg_k7, List.forall_mem_cons.mpr ⟨pg_k8, List.forall_mem_cons.mpr ⟨pg_k9, List.forall_mem_cons.mpr ⟨pg_k10, List.forall_mem_cons.mpr ⟨pg_k11, List.forall_mem_cons.mpr ⟨pg_k12, List.forall_mem_cons.mpr ⟨pg_k13, List.forall_mem_cons.mpr ⟨pg_k14, List.forall_mem_cons.mpr ⟨pg_k15, List.forall_mem_cons.mpr ⟨pg_k16, List.forall_mem_cons.mpr ⟨pg_k17, List.forall_mem_cons.mpr ⟨pg_k18, List.forall_mem_cons.mpr ⟨pg_k19, List.forall_mem_cons.mpr ⟨pg_k20, List.forall_mem_cons.mpr ⟨pg_k21, List.forall_mem_cons.mpr ⟨pg_k22, List.forall_mem_cons.mpr ⟨pg_k23, List.forall_mem_cons.mpr ⟨pg_k24, List.forall_mem_cons.mpr ⟨pg_k25, List.forall_mem_cons.mpr ⟨pg_k26, List.forall_mem_cons.mpr ⟨pg_k27, List.forall_mem_cons.mpr ⟨pg_k28, List.forall_mem_cons.mpr ⟨pg_k29, List.forall_mem_cons.mpr ⟨pg_k30, List.forall_mem_cons.mpr ⟨pg_k31, List.forall_mem_cons.mpr ⟨pg_k32, List.forall_mem_cons.mpr ⟨pg_k33, List.forall_mem_cons.mpr ⟨pg_k34, List.forall_mem_cons.mpr ⟨pg_k35, List.forall_mem_cons.mpr ⟨pg_k36, List.forall_mem_cons.mpr ⟨pg_k37, List.forall_mem_cons.mpr ⟨pg_k38, List.forall_mem_cons.mpr ⟨pg_k39, List.forall_mem_cons.mpr ⟨pg_k40, List.forall_mem_cons.mpr ⟨pg_k41, List.forall_mem_cons.mpr ⟨pg_k42, List.forall_mem_cons.mpr ⟨pg_k43, List.forall_mem_cons.mpr ⟨pg_k44, List.forall_mem_cons.mpr ⟨pg_k45, List.forall_mem_cons.mpr ⟨pg_k46, List.forall_mem_cons.mpr ⟨pg_k47, List.forall_mem_cons.mpr ⟨pg_k48, List.forall_mem_cons.mpr ⟨pg_k49, List.forall_mem_cons.mpr ⟨pg_k50, List.forall_mem_cons.mpr ⟨pg_k51, List.forall_mem_cons.mpr ⟨pg_k52, List.forall_mem_cons.mpr ⟨pg_k53, List.forall_mem_cons.mpr ⟨pg_k54, List.forall_mem_cons.mpr ⟨pg_k55, List.forall_mem_cons.mpr ⟨pg_k56, List.forall_mem_cons.mpr ⟨pg_k57, List.forall_mem_cons.mpr ⟨pg_k58, List.forall_mem_cons.mpr ⟨pg_k59, List.forall_mem_cons.mpr ⟨pg_k60, List.forall_mem_cons.mpr ⟨pg_k61, List.forall_mem_cons.mpr ⟨pg_k62, List.forall_mem_cons.mpr ⟨pg_k63, List.forall_mem_cons.mpr ⟨pg_k64, List.forall_mem_cons.mpr ⟨pg_k65, List.forall_mem_cons.mpr ⟨pg_k66, List.forall_mem_cons.mpr ⟨pg_k67, List.forall_mem_cons.mpr ⟨pg_k68, List.forall_mem_cons.mpr ⟨pg_k69, List.forall_mem_cons.mpr ⟨pg_k70, List.forall_mem_cons.mpr ⟨pg_k71, List.forall_mem_cons.mpr ⟨pg_k72, List.forall_mem_cons.mpr ⟨pg_k73, List.forall_mem_cons.mpr ⟨pg_k74, List.forall_mem_cons.mpr ⟨pg_k75, List.forall_mem_cons.mpr ⟨pg_k76, List.forall_mem_cons.mpr ⟨pg_k77, List.forall_mem_cons.mpr ⟨pg_k78, List.forall_mem_cons.mpr ⟨pg_k79, List.forall_mem_cons.mpr ⟨pg_k80, List.forall_mem_cons.mpr ⟨pg_k81, List.forall_mem_cons.mpr ⟨pg_k82, List.forall_mem_cons.mpr ⟨pg_k83, fun _ h => absurd h List.not_mem_nil⟩⟩⟩⟩⟩⟩⟩⟩⟩⟩⟩⟩⟩⟩⟩⟩⟩⟩⟩⟩⟩⟩⟩⟩⟩⟩⟩⟩⟩⟩⟩⟩⟩⟩⟩⟩⟩⟩⟩⟩⟩⟩⟩⟩⟩⟩⟩⟩⟩⟩⟩⟩⟩⟩⟩⟩⟩⟩⟩⟩⟩⟩⟩⟩⟩⟩⟩⟩⟩⟩⟩⟩⟩⟩⟩⟩⟩⟩⟩⟩⟩⟩⟩⟩
set_option maxRecDepth 100000 in
theorem pg_w1 : lw_tbl[48]? = some (Cond.code (pg_y 1) (pg_b 1) (pg_l 1) (pg_r 1)) := rfl
set_option maxRecDepth 100000 in
theorem pg_w2 : lw_tbl[56]? = some (Cond.code (pg_y 2) (pg_b 2) (pg_l 2) (pg_r 2)) := rfl
set_option maxRecDepth 100000 in
theorem pg_w3 : lw_tbl[73]? = some (Cond.code (pg_y 3) (pg_b 3) (pg_l 3) (pg_r 3)) := rfl
set_option maxRecDepth 100000 in
theorem pg_w4 : lw_tbl[83]? = some (Cond.code (pg_y 4) (pg_b 4) (pg_l 4) (pg_r 4)) := rfl
set_option maxRecDepth 100000 in
theorem pg_w5 : lw_tbl[127]? = some (Cond.code (pg_y 5) (pg_b 5) (pg_l 5) (pg_r 5)) := rfl
set_option maxRecDepth 100000 in
theorem pg_w6 : lw_tbl[135]? = some (Cond.code (pg_y 6) (pg_b 6) (pg_l 6) (pg_r 6)) := rfl
set_option maxRecDepth 100000 in
theorem pg_w7 : lw_tbl[168]? = some (Cond.code (pg_y 7) (pg_b 7) (pg_l 7) (pg_r 7)) := rfl
set_option maxRecDepth 100000 in
theorem pg_w8 : lw_tbl[238]? = some (Cond.code (pg_y 8) (pg_b 8) (pg_l 8) (pg_r 8)) := rfl
set_option maxRecDepth 100000 in
theorem pg_w9 : lw_tbl[242]? = some (Cond.code (pg_y 9) (pg_b 9) (pg_l 9) (pg_r 9)) := rfl
set_option maxRecDepth 100000 in
theorem pg_w10 : lw_tbl[246]? = some (Cond.code (pg_y 10) (pg_b 10) (pg_l 10) (pg_r 10)) := rfl
set_option maxRecDepth 100000 in
theorem pg_w11 : lw_tbl[250]? = some (Cond.code (pg_y 11) (pg_b 11) (pg_l 11) (pg_r 11)) := rfl
set_option maxRecDepth 100000 in
theorem pg_w12 : lw_tbl[254]? = some (Cond.code (pg_y 12) (pg_b 12) (pg_l 12) (pg_r 12)) := rfl
set_option maxRecDepth 100000 in
theorem pg_w13 : lw_tbl[258]? = some (Cond.code (pg_y 13) (pg_b 13) (pg_l 13) (pg_r 13)) := rfl
set_option maxRecDepth 100000 in
theorem pg_w14 : lw_tbl[265]? = some (Cond.code (pg_y 14) (pg_b 14) (pg_l 14) (pg_r 14)) := rfl
set_option maxRecDepth 100000 in
theorem pg_w15 : lw_tbl[269]? = some (Cond.code (pg_y 15) (pg_b 15) (pg_l 15) (pg_r 15)) := rfl
set_option maxRecDepth 100000 in
theorem pg_w16 : lw_tbl[273]? = some (Cond.code (pg_y 16) (pg_b 16) (pg_l 16) (pg_r 16)) := rfl
set_option maxRecDepth 100000 in
theorem pg_w17 : lw_tbl[277]? = some (Cond.code (pg_y 17) (pg_b 17) (pg_l 17) (pg_r 17)) := rfl
set_option maxRecDepth 100000 in
theorem pg_w18 : lw_tbl[281]? = some (Cond.code (pg_y 18) (pg_b 18) (pg_l 18) (pg_r 18)) := rfl
set_option maxRecDepth 100000 in
theorem pg_w19 : lw_tbl[285]? = some (Cond.code (pg_y 19) (pg_b 19) (pg_l 19) (pg_r 19)) := rfl
set_option maxRecDepth 100000 in
theorem pg_w20 : lw_tbl[289]? = some (Cond.code (pg_y 20) (pg_b 20) (pg_l 20) (pg_r 20)) := rfl
set_option maxRecDepth 100000 in
theorem pg_w21 : lw_tbl[293]? = some (Cond.code (pg_y 21) (pg_b 21) (pg_l 21) (pg_r 21)) := rfl
set_option maxRecDepth 100000 in
theorem pg_w22 : lw_tbl[296]? = some (Cond.code (pg_y 22) (pg_b 22) (pg_l 22) (pg_r 22)) := rfl
set_option maxRecDepth 100000 in
theorem pg_w23 : lw_tbl[301]? = some (Cond.code (pg_y 23) (pg_b 23) (pg_l 23) (pg_r 23)) := rfl
set_option maxRecDepth 100000 in
theorem pg_w24 : lw_tbl[305]? = some (Cond.code (pg_y 24) (pg_b 24) (pg_l 24) (pg_r 24)) := rfl
set_option maxRecDepth 100000 in
theorem pg_w25 : lw_tbl[310]? = some (Cond.code (pg_y 25) (pg_b 25) (pg_l 25) (pg_r 25)) := rfl
set_option maxRecDepth 100000 in
theorem pg_w26 : lw_tbl[314]? = some (Cond.code (pg_y 26) (pg_b 26) (pg_l 26) (pg_r 26)) := rfl
set_option maxRecDepth 100000 in
theorem pg_w27 : lw_tbl[319]? = some (Cond.code (pg_y 27) (pg_b 27) (pg_l 27) (pg_r 27)) := rfl
set_option maxRecDepth 100000 in
theorem pg_w28 : lw_tbl[323]? = some (Cond.code (pg_y 28) (pg_b 28) (pg_l 28) (pg_r 28)) := rfl
set_option maxRecDepth 100000 in
theorem pg_w29 : lw_tbl[328]? = some (Cond.code (pg_y 29) (pg_b 29) (pg_l 29) (pg_r 29)) := rfl
set_option maxRecDepth 100000 in
theorem pg_w30 : lw_tbl[332]? = some (Cond.code (pg_y 30) (pg_b 30) (pg_l 30) (pg_r 30)) := rfl
set_option maxRecDepth 100000 in
theorem pg_w31 : lw_tbl[336]? = some (Cond.code (pg_y 31) (pg_b 31) (pg_l 31) (pg_r 31)) := rfl
set_option maxRecDepth 100000 in
theorem pg_w32 : lw_tbl[340]? = some (Cond.code (pg_y 32) (pg_b 32) (pg_l 32) (pg_r 32)) := rfl
set_option maxRecDepth 100000 in
theorem pg_w33 : lw_tbl[344]? = some (Cond.code (pg_y 33) (pg_b 33) (pg_l 33) (pg_r 33)) := rfl
set_option maxRecDepth 100000 in
theorem pg_w34 : lw_tbl[348]? = some (Cond.code (pg_y 34) (pg_b 34) (pg_l 34) (pg_r 34)) := rfl
set_option maxRecDepth 100000 in
theorem pg_w35 : lw_tbl[354]? = some (Cond.code (pg_y 35) (pg_b 35) (pg_l 35) (pg_r 35)) := rfl
set_option maxRecDepth 100000 in
theorem pg_w36 : lw_tbl[358]? = some (Cond.code (pg_y 36) (pg_b 36) (pg_l 36) (pg_r 36)) := rfl
set_option maxRecDepth 100000 in
theorem pg_w37 : lw_tbl[362]? = some (Cond.code (pg_y 37) (pg_b 37) (pg_l 37) (pg_r 37)) := rfl
set_option maxRecDepth 100000 in
theorem pg_w38 : lw_tbl[366]? = some (Cond.code (pg_y 38) (pg_b 38) (pg_l 38) (pg_r 38)) := rfl
set_option maxRecDepth 100000 in
theorem pg_w39 : lw_tbl[370]? = some (Cond.code (pg_y 39) (pg_b 39) (pg_l 39) (pg_r 39)) := rfl
set_option maxRecDepth 100000 in
theorem pg_w40 : lw_tbl[374]? = some (Cond.code (pg_y 40) (pg_b 40) (pg_l 40) (pg_r 40)) := rfl
set_option maxRecDepth 100000 in
theorem pg_w41 : lw_tbl[379]? = some (Cond.code (pg_y 41) (pg_b 41) (pg_l 41) (pg_r 41)) := rfl
set_option maxRecDepth 100000 in
theorem pg_w42 : lw_tbl[383]? = some (Cond.code (pg_y 42) (pg_b 42) (pg_l 42) (pg_r 42)) := rfl
set_option maxRecDepth 100000 in
theorem pg_w43 : lw_tbl[387]? = some (Cond.code (pg_y 43) (pg_b 43) (pg_l 43) (pg_r 43)) := rfl
set_option maxRecDepth 100000 in
theorem pg_w44 : lw_tbl[391]? = some (Cond.code (pg_y 44) (pg_b 44) (pg_l 44) (pg_r 44)) := rfl
set_option maxRecDepth 100000 in
theorem pg_w45 : lw_tbl[395]? = some (Cond.code (pg_y 45) (pg_b 45) (pg_l 45) (pg_r 45)) := rfl
set_option maxRecDepth 100000 in
theorem pg_w46 : lw_tbl[399]? = some (Cond.code (pg_y 46) (pg_b 46) (pg_l 46) (pg_r 46)) := rfl
set_option maxRecDepth 100000 in
theorem pg_w47 : lw_tbl[403]? = some (Cond.code (pg_y 47) (pg_b 47) (pg_l 47) (pg_r 47)) := rfl
set_option maxRecDepth 100000 in
theorem pg_w48 : lw_tbl[407]? = some (Cond.code (pg_y 48) (pg_b 48) (pg_l 48) (pg_r 48)) := rfl
set_option maxRecDepth 100000 in
theorem pg_w49 : lw_tbl[412]? = some (Cond.code (pg_y 49) (pg_b 49) (pg_l 49) (pg_r 49)) := rfl
set_option maxRecDepth 100000 in
theorem pg_w50 : lw_tbl[416]? = some (Cond.code (pg_y 50) (pg_b 50) (pg_l 50) (pg_r 50)) := rfl
set_option maxRecDepth 100000 in
theorem pg_w51 : lw_tbl[420]? = some (Cond.code (pg_y 51) (pg_b 51) (pg_l 51) (pg_r 51)) := rfl
set_option maxRecDepth 100000 in
theorem pg_w52 : lw_tbl[424]? = some (Cond.code (pg_y 52) (pg_b 52) (pg_l 52) (pg_r 52)) := rfl
set_option maxRecDepth 100000 in
theorem pg_w53 : lw_tbl[428]? = some (Cond.code (pg_y 53) (pg_b 53) (pg_l 53) (pg_r 53)) := rfl
set_option maxRecDepth 100000 in
theorem pg_w54 : lw_tbl[433]? = some (Cond.code (pg_y 54) (pg_b 54) (pg_l 54) (pg_r 54)) := rfl
set_option maxRecDepth 100000 in
theorem pg_w55 : lw_tbl[534]? = some (Cond.code (pg_y 55) (pg_b 55) (pg_l 55) (pg_r 55)) := rfl
set_option maxRecDepth 100000 in
theorem pg_w56 : lw_tbl[538]? = some (Cond.code (pg_y 56) (pg_b 56) (pg_l 56) (pg_r 56)) := rfl
set_option maxRecDepth 100000 in
theorem pg_w57 : lw_tbl[541]? = some (Cond.code (pg_y 57) (pg_b 57) (pg_l 57) (pg_r 57)) := rfl
set_option maxRecDepth 100000 in
theorem pg_w58 : lw_tbl[545]? = some (Cond.code (pg_y 58) (pg_b 58) (pg_l 58) (pg_r 58)) := rfl
set_option maxRecDepth 100000 in
theorem pg_w59 : lw_tbl[549]? = some (Cond.code (pg_y 59) (pg_b 59) (pg_l 59) (pg_r 59)) := rfl
set_option maxRecDepth 100000 in
theorem pg_w60 : lw_tbl[553]? = some (Cond.code (pg_y 60) (pg_b 60) (pg_l 60) (pg_r 60)) := rfl
set_option maxRecDepth 100000 in
theorem pg_w61 : lw_tbl[557]? = some (Cond.code (pg_y 61) (pg_b 61) (pg_l 61) (pg_r 61)) := rfl
set_option maxRecDepth 100000 in
theorem pg_w62 : lw_tbl[561]? = some (Cond.code (pg_y 62) (pg_b 62) (pg_l 62) (pg_r 62)) := rfl
set_option maxRecDepth 100000 in
theorem pg_w63 : lw_tbl[565]? = some (Cond.code (pg_y 63) (pg_b 63) (pg_l 63) (pg_r 63)) := rfl
set_option maxRecDepth 100000 in
theorem pg_w64 : lw_tbl[569]? = some (Cond.code (pg_y 64) (pg_b 64) (pg_l 64) (pg_r 64)) := rfl
set_option maxRecDepth 100000 in
theorem pg_w65 : lw_tbl[573]? = some (Cond.code (pg_y 65) (pg_b 65) (pg_l 65) (pg_r 65)) := rfl
set_option maxRecDepth 100000 in
theorem pg_w66 : lw_tbl[577]? = some (Cond.code (pg_y 66) (pg_b 66) (pg_l 66) (pg_r 66)) := rfl
set_option maxRecDepth 100000 in
theorem pg_w67 : lw_tbl[581]? = some (Cond.code (pg_y 67) (pg_b 67) (pg_l 67) (pg_r 67)) := rfl
set_option maxRecDepth 100000 in
theorem pg_w68 : lw_tbl[585]? = some (Cond.code (pg_y 68) (pg_b 68) (pg_l 68) (pg_r 68)) := rfl
set_option maxRecDepth 100000 in
theorem pg_w69 : lw_tbl[589]? = some (Cond.code (pg_y 69) (pg_b 69) (pg_l 69) (pg_r 69)) := rfl
set_option maxRecDepth 100000 in
theorem pg_w70 : lw_tbl[593]? = some (Cond.code (pg_y 70) (pg_b 70) (pg_l 70) (pg_r 70)) := rfl
set_option maxRecDepth 100000 in
theorem pg_w71 : lw_tbl[597]? = some (Cond.code (pg_y 71) (pg_b 71) (pg_l 71) (pg_r 71)) := rfl
set_option maxRecDepth 100000 in
theorem pg_w72 : lw_tbl[601]? = some (Cond.code (pg_y 72) (pg_b 72) (pg_l 72) (pg_r 72)) := rfl
set_option maxRecDepth 100000 in
theorem pg_w73 : lw_tbl[605]? = some (Cond.code (pg_y 73) (pg_b 73) (pg_l 73) (pg_r 73)) := rfl
set_option maxRecDepth 100000 in
theorem pg_w74 : lw_tbl[609]? = some (Cond.code (pg_y 74) (pg_b 74) (pg_l 74) (pg_r 74)) := rfl
set_option maxRecDepth 100000 in
theorem pg_w75 : lw_tbl[613]? = some (Cond.code (pg_y 75) (pg_b 75) (pg_l 75) (pg_r 75)) := rfl
set_option maxRecDepth 100000 in
theorem pg_w76 : lw_tbl[617]? = some (Cond.code (pg_y 76) (pg_b 76) (pg_l 76) (pg_r 76)) := rfl
set_option maxRecDepth 100000 in
theorem pg_w77 : lw_tbl[621]? = some (Cond.code (pg_y 77) (pg_b 77) (pg_l 77) (pg_r 77)) := rfl
set_option maxRecDepth 100000 in
theorem pg_w78 : lw_tbl[625]? = some (Cond.code (pg_y 78) (pg_b 78) (pg_l 78) (pg_r 78)) := rfl
set_option maxRecDepth 100000 in
theorem pg_w79 : lw_tbl[629]? = some (Cond.code (pg_y 79) (pg_b 79) (pg_l 79) (pg_r 79)) := rfl
set_option maxRecDepth 100000 in
theorem pg_w80 : lw_tbl[633]? = some (Cond.code (pg_y 80) (pg_b 80) (pg_l 80) (pg_r 80)) := rfl
set_option maxRecDepth 100000 in
theorem pg_w81 : lw_tbl[637]? = some (Cond.code (pg_y 81) (pg_b 81) (pg_l 81) (pg_r 81)) := rfl
set_option maxRecDepth 100000 in
theorem pg_w82 : lw_tbl[641]? = some (Cond.code (pg_y 82) (pg_b 82) (pg_l 82) (pg_r 82)) := rfl
set_option maxRecDepth 100000 in
theorem pg_w83 : lw_tbl[645]? = some (Cond.code (pg_y 83) (pg_b 83) (pg_l 83) (pg_r 83)) := rfl
theorem pg_wall : ∀ z : Nat, 0 < z → z < pg_n → Cond.code (pg_y z) (pg_b z) (pg_l z) (pg_r z) ∈ pg_TS
  | 0, h, _ => absurd h (by decide)
  | 1, _, _ => pg_in pg_w1 rfl
  | 2, _, _ => pg_in pg_w2 rfl
  | 3, _, _ => pg_in pg_w3 rfl
  | 4, _, _ => pg_in pg_w4 rfl
  | 5, _, _ => pg_in pg_w5 rfl
  | 6, _, _ => pg_in pg_w6 rfl
  | 7, _, _ => pg_in pg_w7 rfl
  | 8, _, _ => pg_in pg_w8 rfl
  | 9, _, _ => pg_in pg_w9 rfl
  | 10, _, _ => pg_in pg_w10 rfl
  | 11, _, _ => pg_in pg_w11 rfl
  | 12, _, _ => pg_in pg_w12 rfl
  | 13, _, _ => pg_in pg_w13 rfl
  | 14, _, _ => pg_in pg_w14 rfl
  | 15, _, _ => pg_in pg_w15 rfl
  | 16, _, _ => pg_in pg_w16 rfl
  | 17, _, _ => pg_in pg_w17 rfl
  | 18, _, _ => pg_in pg_w18 rfl
  | 19, _, _ => pg_in pg_w19 rfl
  | 20, _, _ => pg_in pg_w20 rfl
  | 21, _, _ => pg_in pg_w21 rfl
  | 22, _, _ => pg_in pg_w22 rfl
  | 23, _, _ => pg_in pg_w23 rfl
  | 24, _, _ => pg_in pg_w24 rfl
  | 25, _, _ => pg_in pg_w25 rfl
  | 26, _, _ => pg_in pg_w26 rfl
  | 27, _, _ => pg_in pg_w27 rfl
  | 28, _, _ => pg_in pg_w28 rfl
  | 29, _, _ => pg_in pg_w29 rfl
  | 30, _, _ => pg_in pg_w30 rfl
  | 31, _, _ => pg_in pg_w31 rfl
  | 32, _, _ => pg_in pg_w32 rfl
  | 33, _, _ => pg_in pg_w33 rfl
  | 34, _, _ => pg_in pg_w34 rfl
  | 35, _, _ => pg_in pg_w35 rfl
  | 36, _, _ => pg_in pg_w36 rfl
  | 37, _, _ => pg_in pg_w37 rfl
  | 38, _, _ => pg_in pg_w38 rfl
  | 39, _, _ => pg_in pg_w39 rfl
  | 40, _, _ => pg_in pg_w40 rfl
  | 41, _, _ => pg_in pg_w41 rfl
  | 42, _, _ => pg_in pg_w42 rfl
  | 43, _, _ => pg_in pg_w43 rfl
  | 44, _, _ => pg_in pg_w44 rfl
  | 45, _, _ => pg_in pg_w45 rfl
  | 46, _, _ => pg_in pg_w46 rfl
  | 47, _, _ => pg_in pg_w47 rfl
  | 48, _, _ => pg_in pg_w48 rfl
  | 49, _, _ => pg_in pg_w49 rfl
  | 50, _, _ => pg_in pg_w50 rfl
  | 51, _, _ => pg_in pg_w51 rfl
  | 52, _, _ => pg_in pg_w52 rfl
  | 53, _, _ => pg_in pg_w53 rfl
  | 54, _, _ => pg_in pg_w54 rfl
  | 55, _, _ => pg_in pg_w55 rfl
  | 56, _, _ => pg_in pg_w56 rfl
  | 57, _, _ => pg_in pg_w57 rfl
  | 58, _, _ => pg_in pg_w58 rfl
  | 59, _, _ => pg_in pg_w59 rfl
  | 60, _, _ => pg_in pg_w60 rfl
  | 61, _, _ => pg_in pg_w61 rfl
  | 62, _, _ => pg_in pg_w62 rfl
  | 63, _, _ => pg_in pg_w63 rfl
  | 64, _, _ => pg_in pg_w64 rfl
  | 65, _, _ => pg_in pg_w65 rfl
  | 66, _, _ => pg_in pg_w66 rfl
  | 67, _, _ => pg_in pg_w67 rfl
  | 68, _, _ => pg_in pg_w68 rfl
  | 69, _, _ => pg_in pg_w69 rfl
  | 70, _, _ => pg_in pg_w70 rfl
  | 71, _, _ => pg_in pg_w71 rfl
  | 72, _, _ => pg_in pg_w72 rfl
  | 73, _, _ => pg_in pg_w73 rfl
  | 74, _, _ => pg_in pg_w74 rfl
  | 75, _, _ => pg_in pg_w75 rfl
  | 76, _, _ => pg_in pg_w76 rfl
  | 77, _, _ => pg_in pg_w77 rfl
  | 78, _, _ => pg_in pg_w78 rfl
  | 79, _, _ => pg_in pg_w79 rfl
  | 80, _, _ => pg_in pg_w80 rfl
  | 81, _, _ => pg_in pg_w81 rfl
  | 82, _, _ => pg_in pg_w82 rfl
  | 83, _, _ => pg_in pg_w83 rfl
  | n + 84, _, h => absurd h (by unfold pg_n; omega)
theorem pg_mall : (List.range pg_n).all (fun z => decide (z = 0) || (plainName (pg_y z).cls && decide (pg_l z + 19 ≤ xm_K))) = true := by decide +kernel
theorem pg_m_ok {z : Nat} (h0 : 0 < z) (h : z < pg_n) : Cond.code (pg_y z) (pg_b z) (pg_l z) (pg_r z) ∈ pg_TS ∧ plainName (pg_y z).cls = true ∧ pg_l z + 19 ≤ xm_K := by
  have hc := List.all_eq_true.mp pg_mall z (List.mem_range.mpr h)
  rw [Bool.or_eq_true, decide_eq_true_eq] at hc
  have hc := hc.resolve_left (by omega)
  rw [Bool.and_eq_true, decide_eq_true_eq] at hc
  exact ⟨pg_wall z h0 h, hc⟩
theorem pg_code_ok {y pc : Nat} {x : Instr × Nat} (h : pg_code y pc = some x) : decode (pg_b y) pc = .ok x := by
  unfold pg_code at h
  unfold pg_b
  by_cases hy : y < pg_bcs.length
  · rw [List.getD_eq_getElem?_getD, List.getElem?_eq_getElem hy, Option.getD_some] at h ⊢
    have h1 := pg_bcs_ok _ (List.getElem_mem hy)
    have h2 := List.all_eq_true.mp h1 _ (pg_lk h)
    rw [decide_eq_true_eq] at h2
    exact h2
  · rw [pg_getD _ _ (by omega)] at h
    cases h
end
section
/-! THE SMALL MACHINE: what the code of the tables does, as a function on pictures of the heap (own work; it rests on the kit's rows, one by one) -/
abbrev xm_E : Type := (Nat × vp_A) ⊕ (Nat × List Value)
/-- the heap's size, how many slots were made, the cells by their addresses -/
abbrev xm_M : Type := Nat × Nat × (Nat → Option xm_E)
/-- the law's script: its address, its length, its ints -/
abbrev xm_Sc : Type := Nat × Nat × (Nat → Int32)
abbrev xm_Ls : Type := List (Option Value)
/-- where the machine stands: pc, locals, stack, memory -/
abbrev xm_S : Type := Nat × xm_Ls × List Value × xm_M
def xm_e (dA : Nat → ClassId) (e : xm_E) : va_E := match e with
  | .inl a => .inl (dA a.1, a.2)
  | .inr o => .inr o
def xm_set (M : xm_M) (a : Nat) (e : xm_E) : xm_M := (M.1, M.2.1, va_up M.2.2 a (some e))
def xm_new (M : xm_M) (k : Nat) (e : xm_E) : xm_M := (M.1 + 1, M.2.1 + k, va_up M.2.2 M.1 (some e))
def xm_ld (ls : xm_Ls) (i : Nat) : Option Value := match ls[i]? with
  | some (some v) => some v
  | _ => none
def xm_wt (st : List Value) : Nat := (st.map fun v => v.category).sum
/-- may this method write that field: it isn't final, or it's the constructor's own -/
def pg_pok (y ci k : Nat) (h : Option String) : Bool := match classes[ci]? with
  | some q => if (q.2.1 k).2.2.2 = true then decide ((pg_y y).name = "<init>" ∧ (q.2.1 k).1 = (pg_y y).cls ∧ h = none) else true
  | none => false
/-- may an object of class ci stand in an array of kind t -/
def pg_ok (t ci : Nat) : Bool := match pg_at[t]?, classes[ci]? with
  | some (.object C), some q => decide (C = q.1)
  | _, _ => false
def xm_len (i : Instr) (k : Nat) : Nat := match i with
  | .iconst _ => 1 | .bipush _ => 2 | .sipush _ => 3 | .aconst_null => 1 | .ldc _ => 2
  | .iload _ => 2 | .iload_n _ => 1 | .aload _ => 2 | .aload_n _ => 1 | .istore _ => 2 | .istore_n _ => 1 | .astore _ => 2 | .astore_n _ => 1 | .iinc _ _ => 3
  | .i2b => 1 | .baload => 1 | .bastore => 1 | .iadd => 1 | .isub => 1 | .imul => 1 | .idiv => 1 | .irem => 1 | .iand => 1 | .ior => 1 | .ixor => 1 | .ineg => 1
  | .dup => 1 | .pop => 1 | .dup_x1 => 1 | .dup2 => 1 | .goto _ => 3 | .ifCond _ _ => 3 | .if_icmp _ _ => 3 | .ifnull _ => 3 | .ifnonnull _ => 3
  | .getfield _ => 3 | .putfield _ => 3 | .iaload => 1 | .iastore => 1 | .aaload => 1 | .aastore => 1 | .arraylength => 1 | .new _ => 3 | .newarray _ => 2 | .anewarray _ => 3
  | .invokespecial _ => 3 | .invokestatic _ => 3 | .invokevirtual _ => 3 | .ireturn => 1 | .areturn => 1 | .return_ => 1
  | _ => k
/-- constants, locals, stack, arithmetic -/
def xm_s1 (y pc : Nat) (i : Instr) (ls : xm_Ls) (st : List Value) : Option (Nat × xm_Ls × List Value) := match i with
  | .iconst n => some (pc + 1, ls, .int (Int32.ofInt n) :: st)
  | .bipush n => some (pc + 2, ls, .int (Int8.ofInt n).toInt32 :: st)
  | .sipush n => some (pc + 3, ls, .int (Int16.ofInt n).toInt32 :: st)
  | .aconst_null => some (pc + 1, ls, .null :: st)
  | .ldc x => match pg_k y x with
    | some v => some (pc + 2, ls, .int v :: st)
    | none => none
  | .iload x => match xm_ld ls x with
    | some (.int v) => some (pc + 2, ls, .int v :: st)
    | _ => none
  | .iload_n x => match xm_ld ls x with
    | some (.int v) => some (pc + 1, ls, .int v :: st)
    | _ => none
  | .aload x => match xm_ld ls x with
    | some (.ref v) => some (pc + 2, ls, .ref v :: st)
    | some .null => some (pc + 2, ls, .null :: st)
    | _ => none
  | .aload_n x => match xm_ld ls x with
    | some (.ref v) => some (pc + 1, ls, .ref v :: st)
    | some .null => some (pc + 1, ls, .null :: st)
    | _ => none
  | .istore x => match st with
    | .int v :: r => if x < ls.length then some (pc + 2, ls.set x (some (.int v)), r) else none
    | _ => none
  | .istore_n x => match st with
    | .int v :: r => if (x : Nat) < ls.length then some (pc + 1, ls.set x (some (.int v)), r) else none
    | _ => none
  | .astore x => match st with
    | .ref v :: r => if x < ls.length then some (pc + 2, ls.set x (some (.ref v)), r) else none
    | .null :: r => if x < ls.length then some (pc + 2, ls.set x (some .null), r) else none
    | _ => none
  | .astore_n x => match st with
    | .ref v :: r => if (x : Nat) < ls.length then some (pc + 1, ls.set x (some (.ref v)), r) else none
    | .null :: r => if (x : Nat) < ls.length then some (pc + 1, ls.set x (some .null), r) else none
    | _ => none
  | .iinc x n => match xm_ld ls x with
    | some (.int v) => some (pc + 3, ls.set x (some (.int (v + Int32.ofInt n))), st)
    | _ => none
  | .iadd => match st with
    | .int v :: .int u :: r => some (pc + 1, ls, .int (u + v) :: r)
    | _ => none
  | .isub => match st with
    | .int v :: .int u :: r => some (pc + 1, ls, .int (u - v) :: r)
    | _ => none
  | .imul => match st with
    | .int v :: .int u :: r => some (pc + 1, ls, .int (u * v) :: r)
    | _ => none
  | .idiv => match st with
    | .int v :: .int u :: r => if v = 0 then none else some (pc + 1, ls, .int (u / v) :: r)
    | _ => none
  | .irem => match st with
    | .int v :: .int u :: r => if v = 0 then none else some (pc + 1, ls, .int (u - u / v * v) :: r)
    | _ => none
  | .iand => match st with
    | .int v :: .int u :: r => some (pc + 1, ls, .int (u &&& v) :: r)
    | _ => none
  | .ior => match st with
    | .int v :: .int u :: r => some (pc + 1, ls, .int (u ||| v) :: r)
    | _ => none
  | .ixor => match st with
    | .int v :: .int u :: r => some (pc + 1, ls, .int (u ^^^ v) :: r)
    | _ => none
  | .ineg => match st with
    | .int u :: r => some (pc + 1, ls, .int (-u) :: r)
    | _ => none
  | .i2b => match st with
    | .int u :: r => some (pc + 1, ls, .int u.toInt8.toInt32 :: r)
    | _ => none
  | .dup => match st with
    | v :: r => if v.category = 1 then some (pc + 1, ls, v :: v :: r) else none
    | _ => none
  | .pop => match st with
    | v :: r => if v.category = 1 then some (pc + 1, ls, r) else none
    | _ => none
  | .dup_x1 => match st with
    | v :: u :: r => if v.category = 1 ∧ u.category = 1 then some (pc + 1, ls, v :: u :: v :: r) else none
    | _ => none
  | .dup2 => match st with
    | v :: u :: r => if v.category = 1 ∧ u.category = 1 then some (pc + 1, ls, v :: u :: v :: u :: r) else none
    | _ => none
  | _ => none
def xm_jmp (pc : Nat) (off : Int) : Option Nat := if 0 ≤ (pc : Int) + off then some ((pc : Int) + off).toNat else none
def xm_icb (c : ClassFile.Cond) (x y : Int32) : Bool := match c with
  | .eq => decide (x = y)
  | .ne => decide (¬ x = y)
  | .lt => decide (x < y)
  | .ge => decide (y ≤ x)
  | .gt => decide (y < x)
  | .le => decide (x ≤ y)
/-- jumps: the new pc and the stack -/
def xm_s2 (pc : Nat) (i : Instr) (st : List Value) : Option (Nat × List Value) := match i with
  | .goto off => (xm_jmp pc off).map (fun t => (t, st))
  | .ifCond c off => match st with
    | .int x :: r => (xm_jmp pc off).map (fun t => (if xm_icb c x 0 = true then t else pc + 3, r))
    | _ => none
  | .if_icmp c off => match st with
    | .int v :: .int u :: r => (xm_jmp pc off).map (fun t => (if xm_icb c u v = true then t else pc + 3, r))
    | _ => none
  | .ifnull off => match st with
    | .ref _ :: r => some (pc + 3, r)
    | .null :: r => (xm_jmp pc off).map (fun t => (t, r))
    | _ => none
  | .ifnonnull off => match st with
    | .ref _ :: r => (xm_jmp pc off).map (fun t => (t, r))
    | .null :: r => some (pc + 3, r)
    | _ => none
  | .tableswitch dflt lo hi offs => match st with
    | .int x :: r => if x.toInt < lo ∨ hi < x.toInt then (xm_jmp pc dflt).map (fun t => (t, r)) else match offs[(x.toInt - lo).toNat]? with
      | some off => (xm_jmp pc off).map (fun t => (t, r))
      | none => none
    | _ => none
  | .lookupswitch dflt ps => match st with
    | .int x :: r => if (ps.toList.zip (ps.toList.drop 1)).all (fun (a, next) => a.1 < next.1) = true then (xm_jmp pc (Op.lookupswitch.offset ps.toList dflt x.toInt)).map (fun t => (t, r)) else none
    | _ => none
  | _ => none
/-- the heap -/
def xm_s3 (sc : xm_Sc) (d y pc : Nat) (i : Instr) (st : List Value) (M : xm_M) : Option (Nat × List Value × xm_M) := match i with
  | .getfield x => match st with
    | .ref a :: r => match pg_f y x with
      | some (ci, k, _) => match M.2.2 a with
        | some (.inr (cj, fs)) => if cj = ci then match fs[k]? with
          | some v => some (pc + 3, v :: r, M)
          | none => none else none
        | _ => none
      | none => none
    | _ => none
  | .putfield x => match st with
    | v :: .ref a :: r => match pg_f y x with
      | some (ci, k, h) => match M.2.2 a with
        | some (.inr (cj, fs)) => if cj = ci ∧ pg_pok y ci k h = true ∧ narrow (pg_ft ci k) v = v ∧ fits (pg_ft ci k) v = true ∧ k < fs.length then some (pc + 3, r, xm_set M a (.inr (ci, fs.set k v))) else none
        | _ => none
      | none => none
    | _ => none
  | .iaload => match st with
    | .int j :: .ref a :: r => match M.2.2 a with
      | some (.inl (t, n, .inl f)) => if t = 0 then (if j < 0 ∨ n ≤ j.toNatClampNeg then none else some (pc + 1, .int (f j.toNatClampNeg) :: r, M)) else none
      | none => if a = sc.1 then (if j < 0 ∨ sc.2.1 ≤ j.toNatClampNeg then none else some (pc + 1, .int (sc.2.2 j.toNatClampNeg) :: r, M)) else none
      | _ => none
    | _ => none
  | .iastore => match st with
    | .int x :: .int j :: .ref a :: r => match M.2.2 a with
      | some (.inl (t, n, .inl f)) => if t = 0 then (if j < 0 ∨ n ≤ j.toNatClampNeg then none else some (pc + 1, r, xm_set M a (.inl (0, n, .inl (upd f j.toNatClampNeg x))))) else none
      | _ => none
    | _ => none
  | .baload => match st with
    | .int j :: .ref a :: r => match M.2.2 a with
      | some (.inl (t, n, .inl f)) => if t = 1 ∨ t = 2 then (if j < 0 ∨ n ≤ j.toNatClampNeg then none else some (pc + 1, .int (f j.toNatClampNeg) :: r, M)) else none
      | _ => none
    | _ => none
  | .bastore => match st with
    | .int x :: .int j :: .ref a :: r => match M.2.2 a with
      | some (.inl (t, n, .inl f)) => if j < 0 ∨ n ≤ j.toNatClampNeg then none else if t = 1 then some (pc + 1, r, xm_set M a (.inl (1, n, .inl (upd f j.toNatClampNeg (vp_nar .byte x))))) else if t = 2 then some (pc + 1, r, xm_set M a (.inl (2, n, .inl (upd f j.toNatClampNeg (vp_nar .boolean x))))) else none
      | _ => none
    | _ => none
  | .aaload => match st with
    | .int j :: .ref a :: r => match M.2.2 a with
      | some (.inl (t, n, .inr (.inr (.inr (.inr f))))) => if 3 ≤ t ∧ t < pg_at.length then (if j < 0 ∨ n ≤ j.toNatClampNeg then none else some (pc + 1, va_rf (f j.toNatClampNeg) :: r, M)) else none
      | _ => none
    | _ => none
  | .aastore => match st with
    | .ref v :: .int j :: .ref a :: r => match M.2.2 a with
      | some (.inl (t, n, .inr (.inr (.inr (.inr f))))) => match M.2.2 v with
        | some (.inr (ci, _)) => if pg_ok t ci = true then (if j < 0 ∨ n ≤ j.toNatClampNeg then none else some (pc + 1, r, xm_set M a (.inl (t, n, .inr (.inr (.inr (.inr (va_up f j.toNatClampNeg (some v))))))))) else none
        | _ => none
      | _ => none
    | _ => none
  | .arraylength => match st with
    | .ref a :: r => match M.2.2 a with
      | some (.inl (t, n, _)) => if t < pg_at.length then some (pc + 1, .int (Int32.ofNat n) :: r, M) else none
      | none => if a = sc.1 then some (pc + 1, .int (Int32.ofNat sc.2.1) :: r, M) else none
      | _ => none
    | _ => none
  | .new x => match pg_c y x with
    | some ci => match classes[ci]? with
      | some q => some (pc + 3, .ref M.1 :: st, xm_new M q.2.2 (.inr (ci, (List.range q.2.2).map (fun k => defaultValue (pg_ft ci k)))))
      | none => none
    | none => none
  | .newarray t => match st with
    | .int j :: r => if ¬ j < 0 ∧ j.toNatClampNeg ≤ 100000 then match t with
      | .int => some (pc + 2, .ref M.1 :: r, xm_new M j.toNatClampNeg (.inl (0, j.toNatClampNeg, .inl (fun _ => 0))))
      | .byte => some (pc + 2, .ref M.1 :: r, xm_new M j.toNatClampNeg (.inl (1, j.toNatClampNeg, .inl (fun _ => 0))))
      | .boolean => some (pc + 2, .ref M.1 :: r, xm_new M j.toNatClampNeg (.inl (2, j.toNatClampNeg, .inl (fun _ => 0))))
      | _ => none else none
    | _ => none
  | .anewarray x => match st with
    | .int j :: r => match pg_a y x with
      | some t => if ¬ j < 0 ∧ j.toNatClampNeg ≤ 100000 then some (pc + 3, .ref M.1 :: r, xm_new M j.toNatClampNeg (.inl (t, j.toNatClampNeg, .inr (.inr (.inr (.inr (fun _ => none))))))) else none
      | none => none
    | _ => none
  | .invokespecial x => match st with
    | .ref _ :: r => if pg_o y x = true ∧ 0 < d ∧ xm_wt r ≤ 8 then some (pc + 3, r, M) else none
    | _ => none
  | .invokestatic x => match st with
    | .int n :: .int dp :: .ref a1 :: .int sp :: .ref a0 :: r => if pg_ac y x = true ∧ 0 < d ∧ xm_wt r ≤ 8 ∧ ¬ sp < 0 ∧ ¬ dp < 0 ∧ ¬ n < 0 then match M.2.2 a0, M.2.2 a1 with
      | some (.inl (t0, n0, .inl f)), some (.inl (t1, n1, .inl g)) => if t0 = 0 ∧ t1 = 0 ∧ sp.toNatClampNeg + n.toNatClampNeg ≤ n0 ∧ dp.toNatClampNeg + n.toNatClampNeg ≤ n1 then some (pc + 3, r, xm_set M a1 (.inl (0, n1, .inl (va_cpy f g sp.toNatClampNeg dp.toNatClampNeg n.toNatClampNeg)))) else none
      | _, _ => none else none
    | _ => none
  | _ => none

def xm_step (sc : xm_Sc) (d y pc : Nat) (i : Instr) (ls : xm_Ls) (st : List Value) (M : xm_M) : Option xm_S := match xm_s1 y pc i ls st with
  | some q => some (q.1, q.2.1, q.2.2, M)
  | none => match xm_s2 pc i st with
    | some q => some (q.1, ls, q.2, M)
    | none => match xm_s3 sc d y pc i st M with
      | some q => some (q.1, ls, q.2.1, q.2.2)
      | none => none
/-- a return: what is answered -/
def xm_ret (y : Nat) (i : Instr) (st : List Value) : Option (Option Value) := match i with
  | .ireturn => match st, pg_r y with
    | [.int v], some ty => if narrow ty (.int v) = .int v then some (some (.int v)) else none
    | _, _ => none
  | .areturn => match st, pg_r y with
    | [.ref a], some (.object _) => some (some (.ref a))
    | [.null], some (.object _) => some (some .null)
    | _, _ => none
  | .return_ => match st, pg_r y with
    | [], none => some none
    | _, _ => none
  | _ => none
/-- a call: the callee, what it is given (the receiver first), what stays on the stack -/
def xm_inv (y : Nat) (i : Instr) (st : List Value) (M : xm_M) : Option (Nat × List Value × List Value) := match i with
  | .invokevirtual x => match pg_i y x with
    | some (z, n, _, ci, kd) => match st.drop n with
      | .ref a :: r => match M.2.2 a with
        | some (.inr (cj, _)) => if kd = 0 ∧ cj = ci ∧ (st.take n).length = n then some (z, .ref a :: (st.take n).reverse, r) else none
        | _ => none
      | _ => none
    | none => none
  | .invokespecial x => match pg_i y x with
    | some (z, n, _, _, kd) => match st.drop n with
      | .ref a :: r => if kd = 1 ∧ (st.take n).length = n then some (z, .ref a :: (st.take n).reverse, r) else none
      | _ => none
    | none => none
  | .invokestatic x => match pg_i y x with
    | some (z, n, _, _, kd) => if kd = 2 ∧ (st.take n).length = n then some (z, (st.take n).reverse, st.drop n) else none
    | none => none
  | _ => none
/-- the locals at a method's entry -/
def xm_entry (z : Nat) (as : List Value) : xm_Ls := as.map some ++ List.replicate (pg_l z - as.length) none
/-- n steps at most, calls at most d deep -/
def xm_ex (sc : xm_Sc) : Nat → Nat → Nat → Nat → xm_Ls → List Value → xm_M → Option (Option Value × xm_M)
  | 0, _, _, _, _, _, _ => none
  | n + 1, d, y, pc, ls, st, M => match pg_code y pc with
    | none => none
    | some (i, k) => if k = xm_len i k then match xm_ret y i st with
      | some r => some (r, M)
      | none => match xm_inv y i st M with
        | some (z, as, rest) => match d with
          | 0 => none
          | d' + 1 => if xm_wt rest ≤ 8 ∧ as.length ≤ pg_l z ∧ (as.all fun v => v.category == 1) = true then match xm_ex sc n d' z 0 (xm_entry z as) [] M with
            | some (r, M') => xm_ex sc n (d' + 1) y (pc + 3) ls (r.toList ++ rest) M'
            | none => none else none
        | none => match xm_step sc d y pc i ls st M with
          | some q => xm_ex sc n d y q.1 q.2.1 q.2.2.1 q.2.2.2
          | none => none else none
end
section
/-! the small machine's steps are the machine's -/
def xm_L (arr : Array Slot) (nL : Nat) (ls : xm_Ls) : Prop := arr.size = nL ∧ ls.length = nL ∧ lv_wf arr ∧ ∀ (i : Nat) (v : Value), ls[i]? = some (some v) → v.category = 1 ∧ arr[i]? = some (.val v)
def xm_lv (ls : xm_Ls) : List (Nat × Value) := (List.range ls.length).filterMap (fun i => (xm_ld ls i).map (fun v => (i, v)))
theorem xm_ld_iff {ls : xm_Ls} {i : Nat} {v : Value} : xm_ld ls i = some v ↔ ls[i]? = some (some v) := by
  unfold xm_ld
  split
  · next w h => rw [h]; simp
  · next h =>
    constructor
    · intro q; cases q
    · intro q; exact absurd q (h v)
theorem xm_lv_mem {ls : xm_Ls} {q : Nat × Value} : q ∈ xm_lv ls ↔ ls[q.1]? = some (some q.2) := by
  obtain ⟨i, v⟩ := q
  simp only [xm_lv, List.mem_filterMap, List.mem_range, Option.map_eq_some_iff, Prod.mk.injEq]
  constructor
  · rintro ⟨j, hj, w, hw, rfl, rfl⟩
    exact xm_ld_iff.mp hw
  · intro h
    exact ⟨i, (List.getElem?_eq_some_iff.mp h).1, v, xm_ld_iff.mpr h, rfl, rfl⟩
theorem xm_L.has {arr : Array Slot} {nL : Nat} {ls : xm_Ls} (h : xm_L arr nL ls) : lv_has arr nL (xm_lv ls) := ⟨h.1, h.2.2.1, fun q hq => (h.2.2.2 q.1 q.2 (xm_lv_mem.mp hq)).2⟩
theorem xm_L.get {arr : Array Slot} {nL i : Nat} {ls : xm_Ls} {v : Value} (h : xm_L arr nL ls) (hv : xm_ld ls i = some v) : arr[i]? = some (.val v) := (h.2.2.2 i v (xm_ld_iff.mp hv)).2
theorem xm_L.put {arr arr' : Array Slot} {nL i : Nat} {ls : xm_Ls} {v : Value} (h : xm_L arr nL ls) (hi : i < ls.length) (hc : v.category = 1) (h' : lv_has arr' nL ((i, v) :: (xm_lv ls).filter (fun q => !(q.1 == i) && !(q.1 + 1 == i && q.2.category == 2)))) : xm_L arr' nL (ls.set i (some v)) := by
  refine ⟨h'.1, by simp [h.2.1], h'.2.1, fun j w hj => ?_⟩
  rw [List.getElem?_set] at hj
  by_cases hij : i = j
  · subst hij
    rw [if_pos rfl, if_pos hi] at hj
    cases hj
    exact ⟨hc, h'.2.2 _ List.mem_cons_self⟩
  · rw [if_neg hij] at hj
    obtain ⟨h1, h2⟩ := h.2.2.2 j w hj
    refine ⟨h1, h'.2.2 (j, w) (List.mem_cons_of_mem _ (List.mem_filter.mpr ⟨xm_lv_mem.mpr hj, ?_⟩))⟩
    simp [h1, Ne.symm hij]
theorem xm_L.inc {arr : Array Slot} {nL i : Nat} {ls : xm_Ls} {v : Value} (h : xm_L arr nL ls) (hv : xm_ld ls i = some v) : i < nL ∧ ∃ k : Nat, (xm_lv ls)[k]? = some (i, v) := by
  have h1 := xm_ld_iff.mp hv
  refine ⟨by rw [← h.2.1]; exact (List.getElem?_eq_some_iff.mp h1).1, ?_⟩
  obtain ⟨k, hk⟩ := List.getElem?_of_mem (xm_lv_mem.mpr (show ls[((i, v) : Nat × Value).1]? = some (some ((i, v) : Nat × Value).2) from h1))
  exact ⟨k, hk⟩
theorem xm_args_mem : ∀ (as : List Value) (j i : Nat) (v : Value), (as.all fun v => v.category == 1) = true → as[i]? = some v → (j + i, v) ∈ lv_args j as
  | [], _, _, _, _, h => by simp at h
  | a :: as, j, i, v, hc, h => by
    simp only [List.all_cons, Bool.and_eq_true, beq_iff_eq] at hc
    cases i with
    | zero =>
      simp only [List.getElem?_cons_zero, Option.some.injEq] at h
      subst h
      simp [lv_args]
    | succ i =>
      simp only [List.getElem?_cons_succ] at h
      have := xm_args_mem as (j + 1) i v hc.2 h
      simp only [lv_args, hc.1]
      refine List.mem_cons_of_mem _ ?_
      rw [show j + (i + 1) = j + 1 + i by omega]
      simpa using this
theorem xm_sl_len : ∀ (as : List Value), (as.all fun v => v.category == 1) = true → (lg_sl as).length = as.length
  | [], _ => rfl
  | a :: as, hc => by
    simp only [List.all_cons, Bool.and_eq_true, beq_iff_eq] at hc
    have := xm_sl_len as hc.2
    simp only [lg_sl, List.flatMap_cons] at this ⊢
    simp [hc.1, this]
theorem xm_L.entry {as : List Value} {z : Nat} (hc : (as.all fun v => v.category == 1) = true) (hn : as.length ≤ pg_l z) : xm_L ((lg_sl as ++ List.replicate (pg_l z - (lg_sl as).length) Slot.unset).toArray) (pg_l z) (xm_entry z as) := by
  have h := lv_entry as (n := pg_l z) (by rw [xm_sl_len as hc]; exact hn)
  refine ⟨h.1, by simp [xm_entry]; omega, h.2.1, fun i v hv => ?_⟩
  have hi : as[i]? = some v := by
    unfold xm_entry at hv
    by_cases hl : i < as.length
    · rw [List.getElem?_append_left (by simpa using hl)] at hv
      simpa using hv
    · rw [List.getElem?_append_right (by simpa using hl)] at hv
      have h2 := List.mem_of_getElem? hv
      simp at h2
  have hcv : v.category = 1 := by
    have := List.all_eq_true.mp hc v (List.mem_of_getElem? hi)
    simpa using this
  have hm := xm_args_mem as 0 i v hc hi
  rw [Nat.zero_add] at hm
  exact ⟨hcv, h.2.2 _ hm⟩
/-- the machine's method is method y of the tables -/
def xm_C (p : Program) (m : MethodId) (c : Code) (meth : Method) (s : State) (args : Array Value) (y : Nat) : Prop :=
  p.tables.exec = Jvm.exec ∧ c.code = pg_b y ∧ c.maxLocals = pg_l y ∧ s.vm.findClass (pg_y y).cls = some m.cls ∧ (∀ w ∈ pg_TS, w.before args s = true) ∧ ((pg_y y).name = "<init>" → meth.name = "<init>")
def xm_tys (dA : Nat → ClassId) : List (ClassId × FieldType) := pg_at.mapIdx (fun t ty => (dA t, ty))
theorem xm_tys_at {dA : Nat → ClassId} {t : Nat} {ty : FieldType} (h : pg_at[t]? = some ty) : (xm_tys dA)[t]? = some (dA t, ty) := by
  simp [xm_tys, h]
/-- what the tables say at a state: the classes and array classes, the nest mates' links -/
def xm_U (dC : Nat → ClassId) (dI : Nat → Nat → Nat) (dA : Nat → ClassId) (U : State) : Prop :=
  va_K (dC, dI) classes (xm_tys dA) U ∧ (∀ w ∈ pg_NS, va_Nw w U) ∧ ∀ C ∈ pg_AO, va_AO C U
/-- the heap is the memory's: every cell of it, from b on -/
def xm_H (dC : Nat → ClassId) (dI : Nat → Nat → Nat) (dA : Nat → ClassId) (b : Nat) (M : xm_M) (H : Heap) : Prop :=
  H.size = M.1 ∧ ∀ (a : Nat) (e : xm_E), M.2.2 a = some e → b ≤ a ∧ va_at (dC, dI) classes (a, xm_e dA e) H
def xm_X (sc : xm_Sc) (b : Nat) (U : State) (H : Heap) : Prop := sc.1 < b ∧ va_X sc.1 sc.2.1 sc.2.2 U H
theorem xm_H.set {dC : Nat → ClassId} {dI : Nat → Nat → Nat} {dA : Nat → ClassId} {b a : Nat} {M : xm_M} {e0 e : xm_E} {H H1 : Heap} (h : xm_H dC dI dA b M H) (ha : M.2.2 a = some e0) (hat : va_at (dC, dI) classes (a, xm_e dA e) H1) (z : H1.size = H.size) (oq : ∀ q : Nat, q ≠ a → H1[q]? = H[q]?) : xm_H dC dI dA b (xm_set M a e) H1 := by
  refine ⟨z.trans h.1, fun q e' hq => ?_⟩
  simp only [xm_set, va_up] at hq
  split at hq
  · next hqa =>
    subst hqa
    cases hq
    exact ⟨(h.2 _ _ ha).1, hat⟩
  · next hqa => exact ⟨(h.2 q e' hq).1, (h.2 q e' hq).2.kept (oq q hqa)⟩
theorem xm_H.push {dC : Nat → ClassId} {dI : Nat → Nat → Nat} {dA : Nat → ClassId} {b k : Nat} {M : xm_M} {e : xm_E} {H H1 : Heap} (h : xm_H dC dI dA b M H) (hb : b ≤ M.1) (hat : va_at (dC, dI) classes (M.1, xm_e dA e) H1) (z : H1.size = M.1 + 1) (oq : ∀ q : Nat, q < M.1 → H1[q]? = H[q]?) : xm_H dC dI dA b (xm_new M k e) H1 := by
  refine ⟨z, fun q e' hq => ?_⟩
  simp only [xm_new, va_up] at hq
  split at hq
  · next hqa =>
    subst hqa
    cases hq
    exact ⟨hb, hat⟩
  · next hqa =>
    have h1 := h.2 q e' hq
    exact ⟨h1.1, h1.2.kept (oq q (by have := h1.2.lt; rw [h.1] at this; exact this))⟩
theorem xm_P1 {D : va_G} {cl : List vw_C} {q : Nat × va_E} {H : Heap} (h : va_at D cl q H) : va_P D cl [q] H := by
  intro k x hk
  have hz : k < 1 := (List.getElem?_eq_some_iff.mp hk).1
  rw [show k = 0 by omega] at hk
  cases hk
  exact h
section XM1
variable {p : Program} {l : Launch} {e : Env} {R : Room} {s : State} {m : MethodId} {args : Array Value} {below : List Frame} {meth : Method} {c : Code} {H : Heap} {locs : List Loc} {cells slots : Nat} {Q : State → Prop}
variable {y pc pc' k : Nat} {i : Instr} {ls ls' : xm_Ls} {st st' : List Value} {arr : Array Slot}
set_option maxHeartbeats 4000000 in
theorem xm_s1_ok (hC : xm_C p m c meth s args y) (hl : xm_L arr (pg_l y) ls) (hk : k = xm_len i k) (hdec : decode (pg_b y) pc = .ok (i, k)) (h : xm_s1 y pc i ls st = some (pc', ls', st'))
    (kk : ∀ arr' : Array Slot, xm_L arr' (pg_l y) ls' → W p l e R s m args below meth c H locs cells slots Q (F0 m pc' arr' st')) : W p l e R s m args below meth c H locs cells slots Q (F0 m pc arr st) := by
  obtain ⟨hx, hb, hml, hown, hts, hnm⟩ := hC
  unfold xm_s1 at h
  split at h
  · -- iconst
    cases h; dsimp only [xm_len] at hk; subst hk; exact lv_iconst hx hb hdec rfl (kk _ hl)
  · cases h; dsimp only [xm_len] at hk; subst hk; exact lv_bipush hx hb hdec rfl (kk _ hl)
  · cases h; dsimp only [xm_len] at hk; subst hk; exact lv_sipush hx hb hdec rfl (kk _ hl)
  · cases h; dsimp only [xm_len] at hk; subst hk; exact lv_null hx hb hdec (kk _ hl)
  · -- ldc
    dsimp only [xm_len] at hk; subst hk
    split at h
    · next v hv => cases h; exact lv_ldc hx hb hown (hts _ (pg_k_ok hv)) hdec (kk _ hl)
    · cases h
  · -- iload
    dsimp only [xm_len] at hk; subst hk
    split at h
    · next v hv => cases h; exact lv_iload hx hb hdec (hl.get hv) (kk _ hl)
    · cases h
  · dsimp only [xm_len] at hk; subst hk
    split at h
    · next v hv => cases h; exact lv_iload_n hx hb hdec rfl (hl.get hv) (kk _ hl)
    · cases h
  · -- aload
    dsimp only [xm_len] at hk; subst hk
    split at h
    · next v hv => cases h; exact lv_aload hx hb hdec (hl.get hv) (kk _ hl)
    · next hv => cases h; exact lv_aloadN hx hb hdec (hl.get hv) (kk _ hl)
    · cases h
  · dsimp only [xm_len] at hk; subst hk
    split at h
    · next v hv => cases h; exact lv_aload_n hx hb hdec rfl (hl.get hv) (kk _ hl)
    · next hv => cases h; exact lv_aload_nN hx hb hdec rfl (hl.get hv) (kk _ hl)
    · cases h
  · -- istore
    dsimp only [xm_len] at hk; subst hk
    split at h
    · split at h
      · next hlt => cases h; exact lv_istore hx hb hdec hl.has (by rw [← hl.2.1]; exact hlt) rfl (fun arr' h' => kk arr' (hl.put hlt rfl h'))
      · cases h
    · cases h
  · dsimp only [xm_len] at hk; subst hk
    split at h
    · split at h
      · next hlt => cases h; exact lv_istore_n hx hb hdec rfl hl.has (by rw [← hl.2.1]; exact hlt) rfl (fun arr' h' => kk arr' (hl.put hlt rfl h'))
      · cases h
    · cases h
  · -- astore
    dsimp only [xm_len] at hk; subst hk
    split at h
    · split at h
      · next hlt => cases h; exact lv_astore hx hb hdec hl.has (by rw [← hl.2.1]; exact hlt) rfl (fun arr' h' => kk arr' (hl.put hlt rfl h'))
      · cases h
    · split at h
      · next hlt => cases h; exact lv_astoreN hx hb hdec hl.has (by rw [← hl.2.1]; exact hlt) rfl (fun arr' h' => kk arr' (hl.put hlt rfl h'))
      · cases h
    · cases h
  · dsimp only [xm_len] at hk; subst hk
    split at h
    · split at h
      · next hlt => cases h; exact lv_astore_n hx hb hdec rfl hl.has (by rw [← hl.2.1]; exact hlt) rfl (fun arr' h' => kk arr' (hl.put hlt rfl h'))
      · cases h
    · split at h
      · next hlt => cases h; exact lv_astore_nN hx hb hdec rfl hl.has (by rw [← hl.2.1]; exact hlt) rfl (fun arr' h' => kk arr' (hl.put hlt rfl h'))
      · cases h
    · cases h
  · -- iinc
    dsimp only [xm_len] at hk; subst hk
    split at h
    · next v hv =>
      cases h
      obtain ⟨hlt, k0, hk0⟩ := hl.inc hv
      exact lv_iinc hx hb hdec hl.has hk0 rfl hlt rfl (fun arr' h' => kk arr' (hl.put (by rw [hl.2.1]; exact hlt) rfl h'))
    · cases h
  · dsimp only [xm_len] at hk; subst hk
    split at h
    · cases h; exact lv_iadd hx hb hdec (kk _ hl)
    · cases h
  · dsimp only [xm_len] at hk; subst hk
    split at h
    · cases h; exact lv_isub hx hb hdec (kk _ hl)
    · cases h
  · dsimp only [xm_len] at hk; subst hk
    split at h
    · cases h; exact lv_imul hx hb hdec (kk _ hl)
    · cases h
  · dsimp only [xm_len] at hk; subst hk
    split at h
    · split at h
      · cases h
      · next hne => cases h; exact lv_idiv hx hb hdec hne (kk _ hl)
    · cases h
  · dsimp only [xm_len] at hk; subst hk
    split at h
    · split at h
      · cases h
      · next hne => cases h; exact lv_irem hx hb hdec hne (kk _ hl)
    · cases h
  · dsimp only [xm_len] at hk; subst hk
    split at h
    · cases h; exact lv_iand hx hb hdec (kk _ hl)
    · cases h
  · dsimp only [xm_len] at hk; subst hk
    split at h
    · cases h; exact lv_ior hx hb hdec (kk _ hl)
    · cases h
  · dsimp only [xm_len] at hk; subst hk
    split at h
    · cases h; exact lv_ixor hx hb hdec (kk _ hl)
    · cases h
  · dsimp only [xm_len] at hk; subst hk
    split at h
    · cases h; exact lv_ineg hx hb hdec (kk _ hl)
    · cases h
  · dsimp only [xm_len] at hk; subst hk
    split at h
    · cases h; exact lv_i2b hx hb hdec rfl (kk _ hl)
    · cases h
  · -- dup
    dsimp only [xm_len] at hk; subst hk
    split at h
    · split at h
      · next hc => cases h; exact lv_dup hx hb hdec hc (kk _ hl)
      · cases h
    · cases h
  · dsimp only [xm_len] at hk; subst hk
    split at h
    · split at h
      · next hc => cases h; exact lv_pop hx hb hdec hc (kk _ hl)
      · cases h
    · cases h
  · dsimp only [xm_len] at hk; subst hk
    split at h
    · split at h
      · next hc => cases h; exact lv_dup_x1 hx hb hdec hc.1 hc.2 (kk _ hl)
      · cases h
    · cases h
  · dsimp only [xm_len] at hk; subst hk
    split at h
    · split at h
      · next hc => cases h; exact lv_dup2_11 hx hb hdec hc.1 hc.2 (kk _ hl)
      · cases h
    · cases h
  · cases h
theorem xm_jmp_ok {pc t : Nat} {off : Int} (h : xm_jmp pc off = some t) : (pc : Int) + off = (t : Int) := by
  unfold xm_jmp at h
  split at h
  · cases h; omega
  · cases h
set_option maxHeartbeats 4000000 in
theorem xm_s2_ok (hC : xm_C p m c meth s args y) (hk : k = xm_len i k) (hdec : decode (pg_b y) pc = .ok (i, k)) (h : xm_s2 pc i st = some (pc', st'))
    (kk : W p l e R s m args below meth c H locs cells slots Q (F0 m pc' arr st')) : W p l e R s m args below meth c H locs cells slots Q (F0 m pc arr st) := by
  obtain ⟨hx, hb, hml, hown, hts, hnm⟩ := hC
  have jm : ∀ {off : Int} {r : List Value}, (xm_jmp pc off).map (fun t => (t, r)) = some (pc', st') → (pc : Int) + off = (pc' : Int) ∧ r = st' := by
    intro off r q
    obtain ⟨t, h1, h2⟩ := Option.map_eq_some_iff.mp q
    cases h2
    exact ⟨xm_jmp_ok h1, rfl⟩
  unfold xm_s2 at h
  split at h
  · dsimp only [xm_len] at hk; subst hk
    obtain ⟨h1, rfl⟩ := jm h
    exact lv_goto hx hb hdec h1 kk
  · -- ifCond
    next cnd off =>
    dsimp only [xm_len] at hk; subst hk
    split at h
    · next x r =>
      obtain ⟨t, h1, h2⟩ := Option.map_eq_some_iff.mp h
      have h1 := xm_jmp_ok h1
      cases h2
      cases cnd
      · refine lv_if_eq hx hb hdec h1 (fun q => ?_) (fun q => ?_) <;> simpa [xm_icb, q] using kk
      · refine lv_if_ne hx hb hdec h1 (fun q => ?_) (fun q => ?_) <;> simpa [xm_icb, q] using kk
      · refine lv_if_lt hx hb hdec h1 (fun q => ?_) (fun q => ?_) <;> simpa only [xm_icb, q, decide_true, decide_false, if_true, if_false, Bool.false_eq_true] using kk
      · refine lv_if_ge hx hb hdec h1 (fun q => ?_) (fun q => ?_) <;> simpa only [xm_icb, q, decide_true, decide_false, if_true, if_false, Bool.false_eq_true] using kk
      · refine lv_if_gt hx hb hdec h1 (fun q => ?_) (fun q => ?_) <;> simpa only [xm_icb, q, decide_true, decide_false, if_true, if_false, Bool.false_eq_true] using kk
      · refine lv_if_le hx hb hdec h1 (fun q => ?_) (fun q => ?_) <;> simpa only [xm_icb, q, decide_true, decide_false, if_true, if_false, Bool.false_eq_true] using kk
    · cases h
  · -- if_icmp
    next cnd off =>
    dsimp only [xm_len] at hk; subst hk
    split at h
    · next v u r =>
      obtain ⟨t, h1, h2⟩ := Option.map_eq_some_iff.mp h
      have h1 := xm_jmp_ok h1
      cases h2
      cases cnd
      · refine lv_icmp_eq hx hb hdec h1 (fun q => ?_) (fun q => ?_) <;> simpa only [xm_icb, q, decide_true, decide_false, if_true, if_false, Bool.false_eq_true] using kk
      · refine lv_icmp_ne hx hb hdec h1 (fun q => ?_) (fun q => ?_) <;> simpa [xm_icb, q] using kk
      · refine lv_icmp_lt hx hb hdec h1 (fun q => ?_) (fun q => ?_) <;> simpa only [xm_icb, q, decide_true, decide_false, if_true, if_false, Bool.false_eq_true] using kk
      · refine lv_icmp_ge hx hb hdec h1 (fun q => ?_) (fun q => ?_) <;> simpa only [xm_icb, q, decide_true, decide_false, if_true, if_false, Bool.false_eq_true] using kk
      · refine lv_icmp_gt hx hb hdec h1 (fun q => ?_) (fun q => ?_) <;> simpa only [xm_icb, q, decide_true, decide_false, if_true, if_false, Bool.false_eq_true] using kk
      · refine lv_icmp_le hx hb hdec h1 (fun q => ?_) (fun q => ?_) <;> simpa only [xm_icb, q, decide_true, decide_false, if_true, if_false, Bool.false_eq_true] using kk
    · cases h
  · -- ifnull
    dsimp only [xm_len] at hk; subst hk
    split at h
    · cases h; exact lv_ifnull hx hb hdec kk
    · obtain ⟨h1, rfl⟩ := jm h; exact lv_ifnullN hx hb hdec h1 kk
    · cases h
  · dsimp only [xm_len] at hk; subst hk
    split at h
    · obtain ⟨h1, rfl⟩ := jm h; exact lv_ifnonnull hx hb hdec h1 kk
    · cases h; exact lv_ifnonnullN hx hb hdec kk
    · cases h
  · -- tableswitch
    split at h
    · next x r =>
      split at h
      · next ho => obtain ⟨h1, rfl⟩ := jm h; exact lv_tableOut hx hb hdec ho h1 kk
      · next ho =>
        split at h
        · next off hoff => obtain ⟨h1, rfl⟩ := jm h; exact lv_tableIn hx hb hdec (fun q => ho (Or.inl q)) (fun q => ho (Or.inr q)) hoff h1 kk
        · cases h
    · cases h
  · split at h
    · split at h
      · next hp => obtain ⟨h1, rfl⟩ := jm h; exact lv_lookup hx hb hdec hp rfl h1 kk
      · cases h
    · cases h
  · cases h
end XM1
end
section
section XM3
variable {p : Program} {l : Launch} {e : Env} {R : Room} {s : State} {m : MethodId} {args : Array Value} {below : List Frame} {meth : Method} {c : Code} {H : Heap} {locs : List Loc} {cells slots : Nat} {Q : State → Prop}
variable {y pc pc' k d b : Nat} {i : Instr} {ls : xm_Ls} {st st' : List Value} {arr : Array Slot} {sc : xm_Sc} {M M' : xm_M} {dC : Nat → ClassId} {dI : Nat → Nat → Nat} {dA : Nat → ClassId}
/-- what a step on the heap goes on with -/
abbrev xm_KK (p : Program) (l : Launch) (e : Env) (R : Room) (s : State) (m : MethodId) (args : Array Value) (below : List Frame) (meth : Method) (c : Code) (Q : State → Prop) (dC : Nat → ClassId) (dI : Nat → Nat → Nat) (dA : Nat → ClassId) (b : Nat) (M' : xm_M) (H : Heap) (cells slots pc' : Nat) (arr : Array Slot) (st' : List Value) : Prop :=
  ∀ (H' : Heap) (locs' : List Loc), xm_H dC dI dA b M' H' → (∀ q ∈ locs', b ≤ q.base) → (∀ q : Nat, q < b → H'[q]? = H[q]?) → W p l e R s m args below meth c H' locs' cells slots Q (F0 m pc' arr st')
theorem xm_put_ok (hC : xm_C p m c meth s args y) (hU : xm_U dC dI dA s) (hH : xm_H dC dI dA b M H) (hL : ∀ q ∈ locs, b ≤ q.base) {x a ci fk : Nat} {h : Option String} {fs : List Value} {v : Value} (hf : pg_f y x = some (ci, fk, h)) (ha : M.2.2 a = some (.inr (ci, fs))) (hp : pg_pok y ci fk h = true) (hn : narrow (pg_ft ci fk) v = v) (hfit : fits (pg_ft ci fk) v = true) (hlen : fk < fs.length) (hdec : decode (pg_b y) pc = .ok (.putfield x, 3))
    (kk : xm_KK p l e R s m args below meth c Q dC dI dA b (xm_set M a (.inr (ci, fs.set fk v))) H cells slots (pc + 3) arr st) : W p l e R s m args below meth c H locs cells slots Q (F0 m pc arr (v :: .ref a :: st)) := by
  obtain ⟨hx, hb, hml, hown, hts, hnm⟩ := hC
  obtain ⟨C, T, N, hc, hfk, hlink⟩ := pg_f_ok hf
  obtain ⟨hin, hty, hnms, -, -⟩ := pg_cl_ok hc
  obtain ⟨hK, hN, -⟩ := hU
  have hba := (hH.2 a _ ha).1
  have hap := va_apart (own := (pg_y y).cls) hts hin (pg_ft ci) hty hnms hK hc
  obtain ⟨r, h1, cell, q1, q2, q3, q4⟩ := (hH.2 a _ ha).2
  have hr : r = (C, T, N) := Option.some.inj (h1.symm.trans hc)
  subst hr
  obtain ⟨hS, hfc, kC, hkC, hkind⟩ := hK.1 ci _ hc
  obtain ⟨cf, kf, fi, f, hi, hsl⟩ := hS fk hfk
  have hst := (u_facts hfc hkC (u_lays hts hin hfk) hi).1
  have fin : ∀ H' : Heap, H'[a]? = some (cell.setSlot f.slot v) → H'.size = H.size → (∀ q, q ≠ a → H'[q]? = H[q]?) → W p l e R s m args below meth c H' (locs ++ [⟨a, f.slot⟩]) cells slots Q (F0 m (pc + 3) arr st) := by
    intro H' e1 e2 e3
    rw [hsl] at e1 ⊢
    refine kk H' _ (hH.set ha ⟨_, hc, t_OB.to (V := updV (vp_V fs) fk v) ⟨_, e1, q2, q3, t_set q4 hap hfk v⟩ (fun j _ => vp_updV_set hlen v j)⟩ e2 e3) (fun q hq => ?_) (fun q hq => e3 q (by omega))
    rcases List.mem_append.mp hq with h9 | h9
    · exact hL q h9
    · rw [List.mem_singleton.mp h9]; exact hba
  unfold pg_pok at hp
  rw [hc] at hp
  dsimp only at hp
  by_cases hfl : (T fk).2.2.2 = true
  · rw [if_pos hfl, decide_eq_true_eq] at hp
    obtain ⟨hp1, hp2, hp3⟩ := hp
    rcases hlink with ⟨-, hlink⟩ | ⟨host, hh, -⟩
    · have hlay := hts _ (hin _ (u_in_lay hfk))
      unfold u_lay at hlay
      rw [if_pos hfl] at hlay
      have hcf : m.cls = cf := by
        obtain ⟨_, _, c', _, _, _, -, -, hf', -, -, -, hown2, -⟩ := Cond.laysFinal_spec hlay
        have e1 : c' = cf := by have := hi.symm.trans hf'; simp at this; exact this.1.symm
        rw [hp2] at hown2
        rw [← e1]; exact Option.some.inj (hown.symm.trans hown2)
      have h6 := u_fits hfc hkC hkind (Or.inr hlay) hi (hty fk hfk) hn hfit
      exact W.putFinK hx hb hown (hts _ hlink) hi hst hcf (hnm hp1) (by rw [q2]; exact h6) q1 q3 (by rw [hsl]; exact k2_hasslot (q4 fk hfk)) rfl rfl hdec fin
    · rw [hp3] at hh; cases hh
  · have hlay := hts _ (hin _ (u_in_lay hfk))
    unfold u_lay at hlay
    rw [if_neg hfl] at hlay
    have h6 := u_store hfc hkC hkind hlay hi (hty fk hfk) hn hfit
    rcases hlink with ⟨-, hlink⟩ | ⟨host, -, hlink⟩
    · exact W.putK hx hb (f := f) ⟨hown, hts _ hlink, ⟨_, _, _, hi⟩, hst⟩ (by rw [q2]; exact h6) q1 q3 (by rw [hsl]; exact k2_hasslot (q4 fk hfk)) rfl rfl hdec fin
    · exact va_WputK hx hb (f := f) hown (va_Nw.use rfl (hN _ hlink)) hi hst (by rw [q2]; exact h6) q1 q3 (by rw [hsl]; exact k2_hasslot (q4 fk hfk)) rfl rfl hdec fin
theorem xm_iast_ok (hC : xm_C p m c meth s args y) (hU : xm_U dC dI dA s) (hH : xm_H dC dI dA b M H) (hL : ∀ q ∈ locs, b ≤ q.base) {a n : Nat} {f : Nat → Int32} {j x : Int32} (ha : M.2.2 a = some (.inl (0, n, .inl f))) (hin : ¬ (j < 0 ∨ n ≤ j.toNatClampNeg)) (hdec : decode (pg_b y) pc = .ok (.iastore, 1))
    (kk : xm_KK p l e R s m args below meth c Q dC dI dA b (xm_set M a (.inl (0, n, .inl (upd f j.toNatClampNeg x)))) H cells slots (pc + 1) arr st) : W p l e R s m args below meth c H locs cells slots Q (F0 m pc arr (.int x :: .int j :: .ref a :: st)) := by
  obtain ⟨hx, hb, hml, hown, hts, hnm⟩ := hC
  obtain ⟨hK, -, -⟩ := hU
  have hba := (hH.2 a _ ha).1
  refine W.iast hx hb (hH.2 a _ ha).2 ((hK.2 0 _ (xm_tys_at pg_at0)).1 n (fun j => .int (f j))) (fun q => by cases q) (by show ¬ (j < 0 ∨ (arrV _ _ _).slots.size ≤ _); rw [arrV_size]; exact hin) rfl rfl hdec fun H1 e1 z oq => ?_
  refine kk H1 _ (hH.set ha ?_ z oq) (fun q hq => ?_) (fun q hq => oq q (Nat.ne_of_lt (Nat.lt_of_lt_of_le hq hba)))
  · show H1[a]? = some (vp_cell _ _)
    rw [e1]
    rw [vp_cell_i, vp_cell_i, arrV_store]
    congr 2
    funext q
    by_cases hq : q = j.toNatClampNeg
    · subst hq
      simp [updV, upd]
    · simp [updV, upd, hq]
  · rcases List.mem_append.mp hq with h9 | h9
    · exact hL q h9
    · rw [List.mem_singleton.mp h9]; exact hba
theorem xm_bast_ok (hC : xm_C p m c meth s args y) (hU : xm_U dC dI dA s) (hH : xm_H dC dI dA b M H) (hL : ∀ q ∈ locs, b ≤ q.base) {a n : Nat} {f : Nat → Int32} {j x : Int32} (ha : M.2.2 a = some (.inl (1, n, .inl f))) (hin : ¬ (j < 0 ∨ n ≤ j.toNatClampNeg)) (hdec : decode (pg_b y) pc = .ok (.bastore, 1))
    (kk : xm_KK p l e R s m args below meth c Q dC dI dA b (xm_set M a (.inl (1, n, .inl (upd f j.toNatClampNeg (vp_nar .byte x))))) H cells slots (pc + 1) arr st) : W p l e R s m args below meth c H locs cells slots Q (F0 m pc arr (.int x :: .int j :: .ref a :: st)) := by
  obtain ⟨hx, hb, hml, hown, hts, hnm⟩ := hC
  obtain ⟨hK, -, -⟩ := hU
  have hba := (hH.2 a _ ha).1
  refine W.bast hx hb (hH.2 a _ ha).2 ((hK.2 1 _ (xm_tys_at pg_at1)).1 n (fun j => .int (f j))) (fun q => by cases q) (by show ¬ (j < 0 ∨ (arrV _ _ _).slots.size ≤ _); rw [arrV_size]; exact hin) rfl rfl hdec fun H1 e1 z oq => ?_
  refine kk H1 _ (hH.set ha ?_ z oq) (fun q hq => ?_) (fun q hq => oq q (Nat.ne_of_lt (Nat.lt_of_lt_of_le hq hba)))
  · show H1[a]? = some (vp_cell _ _)
    rw [e1]
    rw [vp_cell_i, vp_cell_i, arrV_store]
    congr 2
    funext q
    by_cases hq : q = j.toNatClampNeg
    · subst hq
      simp [updV, upd, vp_nar]
      try rfl
    · simp [updV, upd, hq]
  · rcases List.mem_append.mp hq with h9 | h9
    · exact hL q h9
    · rw [List.mem_singleton.mp h9]; exact hba
theorem xm_zast_ok (hC : xm_C p m c meth s args y) (hU : xm_U dC dI dA s) (hH : xm_H dC dI dA b M H) (hL : ∀ q ∈ locs, b ≤ q.base) {a n : Nat} {f : Nat → Int32} {j x : Int32} (ha : M.2.2 a = some (.inl (2, n, .inl f))) (hin : ¬ (j < 0 ∨ n ≤ j.toNatClampNeg)) (hdec : decode (pg_b y) pc = .ok (.bastore, 1))
    (kk : xm_KK p l e R s m args below meth c Q dC dI dA b (xm_set M a (.inl (2, n, .inl (upd f j.toNatClampNeg (vp_nar .boolean x))))) H cells slots (pc + 1) arr st) : W p l e R s m args below meth c H locs cells slots Q (F0 m pc arr (.int x :: .int j :: .ref a :: st)) := by
  obtain ⟨hx, hb, hml, hown, hts, hnm⟩ := hC
  obtain ⟨hK, -, -⟩ := hU
  have hba := (hH.2 a _ ha).1
  refine W.zast hx hb (hH.2 a _ ha).2 ((hK.2 2 _ (xm_tys_at pg_at2)).1 n (fun j => .int (f j))) (fun q => by cases q) (by show ¬ (j < 0 ∨ (arrV _ _ _).slots.size ≤ _); rw [arrV_size]; exact hin) rfl rfl hdec fun H1 e1 z oq => ?_
  refine kk H1 _ (hH.set ha ?_ z oq) (fun q hq => ?_) (fun q hq => oq q (Nat.ne_of_lt (Nat.lt_of_lt_of_le hq hba)))
  · show H1[a]? = some (vp_cell _ _)
    rw [e1]
    rw [vp_cell_i, vp_cell_i, arrV_store]
    congr 2
    funext q
    by_cases hq : q = j.toNatClampNeg
    · subst hq
      simp [updV, upd, vp_nar]
      try rfl
    · simp [updV, upd, hq]
  · rcases List.mem_append.mp hq with h9 | h9
    · exact hL q h9
    · rw [List.mem_singleton.mp h9]; exact hba
theorem xm_aast_ok (hC : xm_C p m c meth s args y) (hU : xm_U dC dI dA s) (hH : xm_H dC dI dA b M H) (hL : ∀ q ∈ locs, b ≤ q.base) {a n t ci v : Nat} {f : Nat → Option Nat} {vs : List Value} {j : Int32} (ha : M.2.2 a = some (.inl (t, n, .inr (.inr (.inr (.inr f)))))) (hv : M.2.2 v = some (.inr (ci, vs))) (hok : pg_ok t ci = true) (hin : ¬ (j < 0 ∨ n ≤ j.toNatClampNeg)) (hdec : decode (pg_b y) pc = .ok (.aastore, 1))
    (kk : xm_KK p l e R s m args below meth c Q dC dI dA b (xm_set M a (.inl (t, n, .inr (.inr (.inr (.inr (va_up f j.toNatClampNeg (some v)))))))) H cells slots (pc + 1) arr st) : W p l e R s m args below meth c H locs cells slots Q (F0 m pc arr (.ref v :: .int j :: .ref a :: st)) := by
  obtain ⟨hx, hb, hml, hown, hts, hnm⟩ := hC
  obtain ⟨hK, -, -⟩ := hU
  have hba := (hH.2 a _ ha).1
  unfold pg_ok at hok
  split at hok
  · next C r ht hc =>
    rw [decide_eq_true_eq] at hok
    subst hok
    have hlt : j.toNatClampNeg < n := Nat.not_le.mp fun q => hin (Or.inr q)
    have h0 : ¬ j < 0 := fun q => hin (Or.inl q)
    obtain ⟨r', hr', cellV, g1, g2, g3, -⟩ := (hH.2 v _ hv).2
    have hcls := (hK.1 ci r hc).2
    obtain ⟨kA, comp, k1, k2, k3, -⟩ := (hK.2 t _ (xm_tys_at ht)).2
    have hcomp : comp = dC ci := Option.some.inj (k3.symm.trans hcls.1)
    subst hcomp
    obtain ⟨kC, hkC, -⟩ := hcls.2
    refine W.aast hx hb (hH.2 a _ ha).2 (fun q h => by cases h) (fun h => by cases h) k1 k2 rfl hkC ⟨h0, by show _ < (arrV _ _ _).slots.size; rw [arrV_size]; exact hlt⟩ g1 (fun q h => by rw [g3] at h; cases h) (by rw [g2]; exact hkC) (by rw [g2]; exact va_assign hcls) rfl rfl hdec fun H1 e1 z oq => ?_
    refine kk H1 _ (hH.set ha ?_ z oq) (fun q hq => ?_) (fun q hq => oq q (Nat.ne_of_lt (Nat.lt_of_lt_of_le hq hba)))
    · show H1[a]? = some (vp_cell _ _)
      rw [e1]
      rw [vp_cell_q, vp_cell_q, arrV_store]
      congr 2
      funext q
      by_cases hq : q = j.toNatClampNeg
      · subst hq
        simp [updV, va_up, va_rf]
      · simp [updV, va_up, hq]
    · rcases List.mem_append.mp hq with h9 | h9
      · exact hL q h9
      · rw [List.mem_singleton.mp h9]; exact hba
  · cases hok
theorem xm_newc_ok (hC : xm_C p m c meth s args y) (hU : xm_U dC dI dA s) (hH : xm_H dC dI dA b M H) (hL : ∀ q ∈ locs, b ≤ q.base) (hbM : b ≤ M.1) {x ci : Nat} {q : vw_C} (hx0 : pg_c y x = some ci) (hc : classes[ci]? = some q) (hdec : decode (pg_b y) pc = .ok (.new x, 3)) (hcells : cells + 1 ≤ R.cells) (hslots : slots + q.2.2 ≤ R.slots)
    (kk : xm_KK p l e R s m args below meth c Q dC dI dA b (xm_new M q.2.2 (.inr (ci, (List.range q.2.2).map (fun k => defaultValue (pg_ft ci k))))) H (cells + 1) (slots + q.2.2) (pc + 3) arr (.ref M.1 :: st)) : W p l e R s m args below meth c H locs cells slots Q (F0 m pc arr st) := by
  obtain ⟨hx, hb, hml, hown, hts, hnm⟩ := hC
  obtain ⟨hK, -, -⟩ := hU
  obtain ⟨C, T, N⟩ := q
  obtain ⟨q', hc', hcl⟩ := pg_c_ok hx0
  cases hc.symm.trans hc'
  obtain ⟨hin, hty, hnms, hinst, hini⟩ := pg_cl_ok hc
  have hKn := hK.1 ci _ hc
  refine W.newcK hx hb hown (hts _ hcl) (hts _ hinst) (hts _ hini) rfl hdec hcells hslots hKn.2.1 hH.1 fun H1 kC hkC e1 z1 o1 => ?_
  refine kk H1 _ (hH.push hbM ⟨_, hc, (u_born (pg_ft ci) hts hin hKn hkC e1 hty).to (fun j hj => ?_)⟩ z1 o1) hL (fun q hq => o1 q (by omega))
  simp [vp_V, hj]
theorem xm_newi_ok (hC : xm_C p m c meth s args y) (hU : xm_U dC dI dA s) (hH : xm_H dC dI dA b M H) (hL : ∀ q ∈ locs, b ≤ q.base) (hbM : b ≤ M.1) {j : Int32} (hj : ¬ j < 0) (hj2 : j.toNatClampNeg ≤ 100000) (hdec : decode (pg_b y) pc = .ok (.newarray .int, 2)) (hcells : cells + 1 ≤ R.cells) (hslots : slots + j.toNatClampNeg ≤ R.slots)
    (kk : xm_KK p l e R s m args below meth c Q dC dI dA b (xm_new M j.toNatClampNeg (.inl (0, j.toNatClampNeg, .inl (fun _ => 0)))) H (cells + 1) (slots + j.toNatClampNeg) (pc + 2) arr (.ref M.1 :: st)) : W p l e R s m args below meth c H locs cells slots Q (F0 m pc arr (.int j :: st)) := by
  obtain ⟨hx, hb, hml, hown, hts, hnm⟩ := hC
  obtain ⟨hK, -, -⟩ := hU
  refine va_newaK hx hb (atype := .int) (hts _ pg_ai) rfl hdec rfl hj rfl (by show _ * 4 ≤ _; omega) hcells hslots hH.1 fun H1 cA e1 z1 o1 hAr hNm => ?_
  have hcA : dA 0 = cA := by
    have h9 : s.vm.findClass ("[" ++ (FieldType.int).toString) = some (dA 0) := (hK.2 0 _ (xm_tys_at pg_at0)).2
    exact Option.some.inj (h9.symm.trans hNm)
  refine kk H1 _ (hH.push hbM ?_ z1 o1) hL (fun q hq => o1 q (by omega))
  show H1[M.1]? = some (vp_cell _ _)
  rw [e1, vp_cell_i]
  show _ = some (arrV (dA 0) _ _)
  rw [hcA]
  rfl
theorem xm_newb_ok (hC : xm_C p m c meth s args y) (hU : xm_U dC dI dA s) (hH : xm_H dC dI dA b M H) (hL : ∀ q ∈ locs, b ≤ q.base) (hbM : b ≤ M.1) {j : Int32} (hj : ¬ j < 0) (hj2 : j.toNatClampNeg ≤ 100000) (hdec : decode (pg_b y) pc = .ok (.newarray .byte, 2)) (hcells : cells + 1 ≤ R.cells) (hslots : slots + j.toNatClampNeg ≤ R.slots)
    (kk : xm_KK p l e R s m args below meth c Q dC dI dA b (xm_new M j.toNatClampNeg (.inl (1, j.toNatClampNeg, .inl (fun _ => 0)))) H (cells + 1) (slots + j.toNatClampNeg) (pc + 2) arr (.ref M.1 :: st)) : W p l e R s m args below meth c H locs cells slots Q (F0 m pc arr (.int j :: st)) := by
  obtain ⟨hx, hb, hml, hown, hts, hnm⟩ := hC
  obtain ⟨hK, -, -⟩ := hU
  refine va_newaK hx hb (atype := .byte) (hts _ pg_ab) rfl hdec rfl hj rfl (by show _ * 1 ≤ _; omega) hcells hslots hH.1 fun H1 cA e1 z1 o1 hAr hNm => ?_
  have hcA : dA 1 = cA := by
    have h9 : s.vm.findClass ("[" ++ (FieldType.byte).toString) = some (dA 1) := (hK.2 1 _ (xm_tys_at pg_at1)).2
    exact Option.some.inj (h9.symm.trans hNm)
  refine kk H1 _ (hH.push hbM ?_ z1 o1) hL (fun q hq => o1 q (by omega))
  show H1[M.1]? = some (vp_cell _ _)
  rw [e1, vp_cell_i]
  show _ = some (arrV (dA 1) _ _)
  rw [hcA]
  rfl
theorem xm_newz_ok (hC : xm_C p m c meth s args y) (hU : xm_U dC dI dA s) (hH : xm_H dC dI dA b M H) (hL : ∀ q ∈ locs, b ≤ q.base) (hbM : b ≤ M.1) {j : Int32} (hj : ¬ j < 0) (hj2 : j.toNatClampNeg ≤ 100000) (hdec : decode (pg_b y) pc = .ok (.newarray .boolean, 2)) (hcells : cells + 1 ≤ R.cells) (hslots : slots + j.toNatClampNeg ≤ R.slots)
    (kk : xm_KK p l e R s m args below meth c Q dC dI dA b (xm_new M j.toNatClampNeg (.inl (2, j.toNatClampNeg, .inl (fun _ => 0)))) H (cells + 1) (slots + j.toNatClampNeg) (pc + 2) arr (.ref M.1 :: st)) : W p l e R s m args below meth c H locs cells slots Q (F0 m pc arr (.int j :: st)) := by
  obtain ⟨hx, hb, hml, hown, hts, hnm⟩ := hC
  obtain ⟨hK, -, -⟩ := hU
  refine va_newaK hx hb (atype := .boolean) (hts _ pg_az) rfl hdec rfl hj rfl (by show _ * 1 ≤ _; omega) hcells hslots hH.1 fun H1 cA e1 z1 o1 hAr hNm => ?_
  have hcA : dA 2 = cA := by
    have h9 : s.vm.findClass ("[" ++ (FieldType.boolean).toString) = some (dA 2) := (hK.2 2 _ (xm_tys_at pg_at2)).2
    exact Option.some.inj (h9.symm.trans hNm)
  refine kk H1 _ (hH.push hbM ?_ z1 o1) hL (fun q hq => o1 q (by omega))
  show H1[M.1]? = some (vp_cell _ _)
  rw [e1, vp_cell_i]
  show _ = some (arrV (dA 2) _ _)
  rw [hcA]
  rfl
theorem xm_newq_ok (hC : xm_C p m c meth s args y) (hU : xm_U dC dI dA s) (hH : xm_H dC dI dA b M H) (hL : ∀ q ∈ locs, b ≤ q.base) (hbM : b ≤ M.1) {j : Int32} {x t : Nat} (ht : pg_a y x = some t) (hj : ¬ j < 0) (hj2 : j.toNatClampNeg ≤ 100000) (hdec : decode (pg_b y) pc = .ok (.anewarray x, 3)) (hcells : cells + 1 ≤ R.cells) (hslots : slots + j.toNatClampNeg ≤ R.slots)
    (kk : xm_KK p l e R s m args below meth c Q dC dI dA b (xm_new M j.toNatClampNeg (.inl (t, j.toNatClampNeg, .inr (.inr (.inr (.inr (fun _ => none))))))) H (cells + 1) (slots + j.toNatClampNeg) (pc + 3) arr (.ref M.1 :: st)) : W p l e R s m args below meth c H locs cells slots Q (F0 m pc arr (.int j :: st)) := by
  obtain ⟨hx, hb, hml, hown, hts, hnm⟩ := hC
  obtain ⟨hK, -, hAO⟩ := hU
  obtain ⟨C, htC, hcl, hao⟩ := pg_a_ok ht
  refine W.anew hx hb hown (hts _ hcl) (va_AO.use (hAO _ hao)) rfl hdec rfl hj (by omega) hcells hslots fun cA kA comp f1 f2 f3 f4 => ?_
  have hcA : dA t = cA := by
    obtain ⟨kA', comp', k1, k2, k3, k4⟩ := (hK.2 t _ (xm_tys_at htC)).2
    exact Option.some.inj (k4.symm.trans f1)
  rw [hH.1]
  generalize hH1 : H.push ({ cls := cA, slots := Array.replicate j.toNatClampNeg .null, vm := .none } : Cell) = H1
  have z1 : H1.size = M.1 + 1 := by rw [← hH1, Array.size_push, hH.1]
  have e1 : H1[M.1]? = some (arrV cA j.toNatClampNeg (fun _ => .null)) := by rw [← hH1, ← hH.1, Array.getElem?_push_size, ← arrV_new]
  have o1 : ∀ q : Nat, q < M.1 → H1[q]? = H[q]? := fun q hq => by rw [← hH1, Array.getElem?_push, if_neg (by rw [hH.1]; omega)]
  refine kk H1 _ (hH.push hbM ?_ z1 o1) hL (fun q hq => o1 q (by omega))
  show H1[M.1]? = some (vp_cell _ _)
  rw [e1, vp_cell_q]
  show _ = some (arrV (dA t) _ _)
  rw [hcA]
  rfl
end XM3
section XM4
variable {p : Program} {l : Launch} {e : Env} {R : Room} {s : State} {m : MethodId} {args : Array Value} {below : List Frame} {meth : Method} {c : Code} {H : Heap} {locs : List Loc} {cells slots : Nat} {Q : State → Prop}
variable {y pc pc' k d b : Nat} {i : Instr} {ls : xm_Ls} {st st' : List Value} {arr : Array Slot} {sc : xm_Sc} {M M' : xm_M} {dC : Nat → ClassId} {dI : Nat → Nat → Nat} {dA : Nat → ClassId}
theorem xm_nn {z : Int32} (hz : ¬ z < 0) : z.toInt = (z.toNatClampNeg : Int) := by
  have hz0 : (0 : Int) ≤ z.toInt := by
    have := Int32.not_lt.mp hz
    simpa using Int32.le_iff_toInt_le.mp this
  show z.toInt = ((z.toInt.toNat : Nat) : Int)
  omega
theorem xm_copy_ok (hC : xm_C p m c meth s args y) (hU : xm_U dC dI dA s) (hH : xm_H dC dI dA b M H) (hL : ∀ q ∈ locs, b ≤ q.base) {x a0 a1 n0 n1 : Nat} {f g : Nat → Int32} {sp dp n : Int32} (hac : pg_ac y x = true) (h0 : M.2.2 a0 = some (.inl (0, n0, .inl f))) (h1 : M.2.2 a1 = some (.inl (0, n1, .inl g)))
    (hsp : ¬ sp < 0) (hdp : ¬ dp < 0) (hn : ¬ n < 0) (h4 : sp.toNatClampNeg + n.toNatClampNeg ≤ n0) (h5 : dp.toNatClampNeg + n.toNatClampNeg ≤ n1) (hl : xm_L arr (pg_l y) ls) (hfr : 1 ≤ R.frames) (hlo : xm_wt st + (nativeFrameWords "java/lang/System" "arraycopy" 5 + 11) ≤ R.locals) (hdec : decode (pg_b y) pc = .ok (.invokestatic x, 3))
    (kk : xm_KK p l e R s m args below meth c Q dC dI dA b (xm_set M a1 (.inl (0, n1, .inl (va_cpy f g sp.toNatClampNeg dp.toNatClampNeg n.toNatClampNeg)))) H cells slots (pc + 3) arr st) : W p l e R s m args below meth c H locs cells slots Q (F0 m pc arr (.int n :: .int dp :: .ref a1 :: .int sp :: .ref a0 :: st)) := by
  obtain ⟨hx, hb, hml, hown, hts, hnm⟩ := hC
  obtain ⟨hK, -, -⟩ := hU
  obtain ⟨w1, w2, w3, w4⟩ := pg_ac_ok hac
  intro T hT X
  have hc0 : H[a0]? = some (vp_cell (dA 0) (n0, .inl f)) := (hH.2 a0 _ h0).2
  have hc1 : H[a1]? = some (vp_cell (dA 0) (n1, .inl g)) := (hH.2 a1 _ h1).2
  have hba := (hH.2 a1 _ h1).1
  obtain ⟨-, k0, hk0, cm0, hkk0⟩ := (hK.2 0 _ (xm_tys_at pg_at0)).1 n0 (fun j => .int (f j))
  obtain ⟨-, k1, hk1, cm1, hkk1⟩ := (hK.2 0 _ (xm_tys_at pg_at0)).1 n1 (fun j => .int (g j))
  obtain ⟨vm', X', step⟩ := X.arraycopy hx hown (hts _ w1) (hts _ w2) (hts _ w3) (hts _ w4) (src := a0) (dst := a1) (cs := vp_cell (dA 0) (n0, .inl f)) (cd := vp_cell (dA 0) (n1, .inl g)) (srcPos := sp) (destPos := dp) (n := n) (by rw [hT]; exact hc0) (by rw [hT]; exact hc1)
    (fun _ h => by cases h) (fun _ h => by cases h) (fun h => by cases h) (fun h => by cases h) hk0 hk1 hkk0 hkk1 (by simp [refKind]) hsp hdp hn
    (by rw [xm_nn hsp, xm_nn hn]; show ¬ _ > ((arrV (dA 0) n0 (fun j => .int (f j))).slots.size : Int); rw [arrV_size]; omega)
    (by rw [xm_nn hdp, xm_nn hn]; show ¬ _ > ((arrV (dA 0) n1 (fun j => .int (g j))).slots.size : Int); rw [arrV_size]; omega)
    (fun vm₁ _ i hi => by
      have e9 : (vp_cell (dA 0) (n0, .inl f)).slots.getD (sp.toNatClampNeg + i) .null = .int (f (sp.toNatClampNeg + i)) := by
        show (arrV (dA 0) n0 (fun j => .int (f j))).slots.getD _ _ = _
        rw [Array.getD_eq_getD_getElem?, arrV_read _ _ (by omega)]
        rfl
      rw [e9]
      exact ⟨rfl, trivial⟩)
    (g := F0 m pc arr (.int n :: .int dp :: .ref a1 :: .int sp :: .ref a0 :: st)) rfl (by rw [hml]; exact hl.1) (rest := st) rfl (by rw [hb]; exact hdec) hfr (by show 2 * 0 + _ + _ ≤ _; unfold xm_wt at hlo; omega)
  have e1 : copied (vp_cell (dA 0) (n0, .inl f)) (vp_cell (dA 0) (n1, .inl g)) sp dp n = vp_cell (dA 0) (n1, .inl (va_cpy f g sp.toNatClampNeg dp.toNatClampNeg n.toNatClampNeg)) := va_copied (fun z => .int z) (dA 0) (dA 0) f g h4
  rw [e1] at X' step
  have hl1 : a1 < H.size := (Array.getElem?_eq_some_iff.mp hc1).1
  have hheap : ((T.setVm vm').setCell a1 (vp_cell (dA 0) (n1, .inl (va_cpy f g sp.toNatClampNeg dp.toNatClampNeg n.toNatClampNeg)))).heap = H.setIfInBounds a1 (vp_cell (dA 0) (n1, .inl (va_cpy f g sp.toNatClampNeg dp.toNatClampNeg n.toNatClampNeg))) := by rw [← hT]; rfl
  have oq : ∀ q : Nat, q ≠ a1 → (H.setIfInBounds a1 (vp_cell (dA 0) (n1, .inl (va_cpy f g sp.toNatClampNeg dp.toNatClampNeg n.toNatClampNeg))))[q]? = H[q]? := fun q hq => by simp [Array.getElem?_setIfInBounds, Ne.symm hq]
  obtain ⟨t, b1, b2⟩ := kk _ _ (hH.set h1 (show (H.setIfInBounds a1 _)[a1]? = some _ by simp [Array.getElem?_setIfInBounds, hl1]) (by simp) oq) (fun q hq => by
      rcases List.mem_append.mp hq with h9 | h9
      · exact hL q h9
      · obtain ⟨z, -, hz⟩ := List.mem_map.mp h9
        rw [← hz]
        exact hba) (fun q hq => oq q (by omega)) _ hheap X'
  exact ⟨t, step t b1, b2⟩
end XM4
end
section
section XM5
variable {p : Program} {l : Launch} {e : Env} {R : Room} {s : State} {m : MethodId} {args : Array Value} {below : List Frame} {meth : Method} {c : Code} {H : Heap} {locs : List Loc} {cells slots : Nat} {Q : State → Prop}
variable {y pc pc' k d b : Nat} {i : Instr} {ls : xm_Ls} {st st' : List Value} {arr : Array Slot} {sc : xm_Sc} {M M' : xm_M} {dC : Nat → ClassId} {dI : Nat → Nat → Nat} {dA : Nat → ClassId}
theorem xm_s3_mono (h : xm_s3 sc d y pc i st M = some (pc', st', M')) : M.1 ≤ M'.1 ∧ M.2.1 ≤ M'.2.1 := by
  unfold xm_s3 at h
  split at h
  all_goals (repeat' split at h)
  all_goals first | (cases h; done) | (cases h; simp [xm_set, xm_new])
set_option maxHeartbeats 4000000 in
theorem xm_s3_ok (hC : xm_C p m c meth s args y) (hU : xm_U dC dI dA s) (hX : xm_X sc b s H) (hH : xm_H dC dI dA b M H) (hL : ∀ q ∈ locs, b ≤ q.base) (hbM : b ≤ M.1) (hl : xm_L arr (pg_l y) ls) (hd : d ≤ R.frames) (hdl : d * xm_K ≤ R.locals) (hk : k = xm_len i k) (hdec : decode (pg_b y) pc = .ok (i, k)) (h : xm_s3 sc d y pc i st M = some (pc', st', M')) (hc : cells + (M'.1 - M.1) ≤ R.cells) (hs : slots + (M'.2.1 - M.2.1) ≤ R.slots)
    (kk : xm_KK p l e R s m args below meth c Q dC dI dA b M' H (cells + (M'.1 - M.1)) (slots + (M'.2.1 - M.2.1)) pc' arr st') : W p l e R s m args below meth c H locs cells slots Q (F0 m pc arr st) := by
  obtain ⟨hx, hb, hml, hown, hts, hnm⟩ := id hC
  obtain ⟨hK, hN, hAO⟩ := id hU
  have same : M' = M → W p l e R s m args below meth c H locs cells slots Q (F0 m pc' arr st') := by
    intro e9
    subst e9
    have h9 := kk H locs hH hL (fun _ _ => rfl)
    simpa using h9
  have sett : ∀ {a : Nat} {x : xm_E}, M' = xm_set M a x → xm_KK p l e R s m args below meth c Q dC dI dA b M' H cells slots pc' arr st' := by
    intro a x e9
    subst e9
    have e1 : cells + ((xm_set M a x).1 - M.1) = cells := by simp [xm_set]
    have e2 : slots + ((xm_set M a x).2.1 - M.2.1) = slots := by simp [xm_set]
    rw [e1, e2] at kk
    exact kk
  have neww : ∀ {n : Nat} {x : xm_E}, M' = xm_new M n x → cells + 1 ≤ R.cells ∧ slots + n ≤ R.slots ∧ xm_KK p l e R s m args below meth c Q dC dI dA b M' H (cells + 1) (slots + n) pc' arr st' := by
    intro n x e9
    subst e9
    have e1 : (xm_new M n x).1 - M.1 = 1 := by simp [xm_new]
    have e2 : (xm_new M n x).2.1 - M.2.1 = n := by simp [xm_new]
    rw [e1] at hc kk
    rw [e2] at hs kk
    exact ⟨hc, hs, kk⟩
  have K0 : 37 = xm_K := rfl
  unfold xm_s3 at h
  split at h
  · -- getfield
    dsimp only [xm_len] at hk; subst hk
    split at h
    · next a r =>
      split at h
      · next ci fk hh hf =>
        split at h
        · next cj fs ha =>
          split at h
          · next hcj =>
            subst hcj
            split at h
            · next v hv =>
              cases h
              obtain ⟨C, T, N, hcl, hfk, hlink⟩ := pg_f_ok hf
              obtain ⟨hin, -, -, -, -⟩ := pg_cl_ok hcl
              rcases hlink with ⟨-, hlink⟩ | ⟨host, -, hlink⟩
              · exact va_get (ws := [(a, .inr (cj, fs))]) hx hb hts hin hown hK (xm_P1 (hH.2 a _ ha).2) 0 rfl hcl fk hfk (hts _ hlink) (fun _ h9 => h9) hv hdec (same rfl)
              · exact va_getN (ws := [(a, .inr (cj, fs))]) hx hb hts hin hown hK (xm_P1 (hH.2 a _ ha).2) 0 rfl hcl fk hfk (va_Nw.use rfl (hN _ hlink)) (fun _ h9 => h9) hv hdec (same rfl)
            · cases h
          · cases h
        · cases h
      · cases h
    · cases h
  · -- putfield
    dsimp only [xm_len] at hk; subst hk
    split at h
    · next v a r =>
      split at h
      · next ci fk hh hf =>
        split at h
        · next cj fs ha =>
          split at h
          · next hcj =>
            obtain ⟨rfl, h2, h3, h4, h5⟩ := hcj
            cases h
            exact xm_put_ok hC hU hH hL hf ha h2 h3 h4 h5 hdec (sett rfl)
          · cases h
        · cases h
      · cases h
    · cases h
  · -- iaload
    dsimp only [xm_len] at hk; subst hk
    split at h
    · next j a r =>
      split at h
      · next t n f ha =>
        split at h
        · next ht =>
          subst ht
          split at h
          · cases h
          · next hin =>
            cases h
            exact va_iald (ws := [(a, .inl (dA 0, n, .inl f))]) hx hb hK (xm_P1 (hH.2 a _ ha).2) 0 0 rfl (xm_tys_at pg_at0) hin hdec (same rfl)
        · cases h
      · split at h
        · next hsc =>
          split at h
          · cases h
          · next hin =>
            cases h
            subst hsc
            exact va_sld (A := fun q => b ≤ q) (H0 := H) hx hb hX.2 (Nat.lt_of_lt_of_le hX.1 (by rw [hH.1]; exact hbM)) (Nat.not_le.mpr hX.1) ⟨Nat.le_refl _, fun _ _ _ => rfl, hL⟩ hin hdec (same rfl)
        · cases h
      · cases h
    · cases h
  · -- iastore
    dsimp only [xm_len] at hk; subst hk
    split at h
    · next x j a r =>
      split at h
      · next t n f ha =>
        split at h
        · next ht =>
          subst ht
          split at h
          · cases h
          · next hin =>
            cases h
            exact xm_iast_ok hC hU hH hL ha hin hdec (sett rfl)
        · cases h
      · cases h
    · cases h
  · -- baload
    dsimp only [xm_len] at hk; subst hk
    split at h
    · next j a r =>
      split at h
      · next t n f ha =>
        split at h
        · next ht =>
          split at h
          · cases h
          · next hin =>
            cases h
            rcases ht with rfl | rfl
            · exact va_bald (ws := [(a, .inl (dA 1, n, .inl f))]) hx hb hK (xm_P1 (hH.2 a _ ha).2) 0 1 rfl (xm_tys_at pg_at1) hin hdec (same rfl)
            · exact va_zald (ws := [(a, .inl (dA 2, n, .inl f))]) hx hb hK (xm_P1 (hH.2 a _ ha).2) 0 2 rfl (xm_tys_at pg_at2) hin hdec (same rfl)
        · cases h
      · cases h
    · cases h
  · -- bastore
    dsimp only [xm_len] at hk; subst hk
    split at h
    · next x j a r =>
      split at h
      · next t n f ha =>
        split at h
        · cases h
        · next hin =>
          split at h
          · next ht =>
            subst ht
            cases h
            exact xm_bast_ok hC hU hH hL ha hin hdec (sett rfl)
          · split at h
            · next ht =>
              subst ht
              cases h
              exact xm_zast_ok hC hU hH hL ha hin hdec (sett rfl)
            · cases h
      · cases h
    · cases h
  · -- aaload
    dsimp only [xm_len] at hk; subst hk
    split at h
    · next j a r =>
      split at h
      · next t n f ha =>
        split at h
        · next ht =>
          split at h
          · cases h
          · next hin =>
            cases h
            obtain ⟨C, htC⟩ := pg_at_obj ht.1 ht.2
            exact va_aldq (ws := [(a, .inl (dA t, n, .inr (.inr (.inr (.inr f)))))]) hx hb hK (xm_P1 (hH.2 a _ ha).2) 0 t rfl (xm_tys_at htC) hin hdec (same rfl)
        · cases h
      · cases h
    · cases h
  · -- aastore
    dsimp only [xm_len] at hk; subst hk
    split at h
    · next v j a r =>
      split at h
      · next t n f ha =>
        split at h
        · next ci vs hv =>
          split at h
          · next hok =>
            split at h
            · cases h
            · next hin =>
              cases h
              exact xm_aast_ok hC hU hH hL ha hv hok hin hdec (sett rfl)
          · cases h
        · cases h
      · cases h
    · cases h
  · -- arraylength
    dsimp only [xm_len] at hk; subst hk
    split at h
    · next a r =>
      split at h
      · next t n ct ha =>
        split at h
        · next ht =>
          cases h
          exact va_alen (ws := [(a, .inl (dA t, n, ct))]) hx hb hK (xm_P1 (hH.2 a _ ha).2) 0 t rfl (xm_tys_at (List.getElem?_eq_getElem ht)) rfl hdec (same rfl)
        · cases h
      · split at h
        · next hsc =>
          cases h
          subst hsc
          exact va_slen (A := fun q => b ≤ q) (H0 := H) hx hb hX.2 (Nat.lt_of_lt_of_le hX.1 (by rw [hH.1]; exact hbM)) (Nat.not_le.mpr hX.1) ⟨Nat.le_refl _, fun _ _ _ => rfl, hL⟩ hdec (same rfl)
        · cases h
      · cases h
    · cases h
  · -- new
    dsimp only [xm_len] at hk; subst hk
    split at h
    · next ci hx0 =>
      split at h
      · next q hcl =>
        cases h
        obtain ⟨n1, n2, n3⟩ := neww rfl
        exact xm_newc_ok hC hU hH hL hbM hx0 hcl hdec n1 n2 n3
      · cases h
    · cases h
  · -- newarray
    dsimp only [xm_len] at hk; subst hk
    split at h
    · next j r =>
      split at h
      · next hj =>
        split at h
        · cases h
          obtain ⟨n1, n2, n3⟩ := neww rfl
          exact xm_newi_ok hC hU hH hL hbM hj.1 hj.2 hdec n1 n2 n3
        · cases h
          obtain ⟨n1, n2, n3⟩ := neww rfl
          exact xm_newb_ok hC hU hH hL hbM hj.1 hj.2 hdec n1 n2 n3
        · cases h
          obtain ⟨n1, n2, n3⟩ := neww rfl
          exact xm_newz_ok hC hU hH hL hbM hj.1 hj.2 hdec n1 n2 n3
        · cases h
      · cases h
    · cases h
  · -- anewarray
    dsimp only [xm_len] at hk; subst hk
    split at h
    · next j r =>
      split at h
      · next t ht =>
        split at h
        · next hj =>
          cases h
          obtain ⟨n1, n2, n3⟩ := neww rfl
          exact xm_newq_ok hC hU hH hL hbM ht hj.1 hj.2 hdec n1 n2 n3
        · cases h
      · cases h
    · cases h
  · -- invokespecial Object.<init>
    dsimp only [xm_len] at hk; subst hk
    split at h
    · next a r =>
      split at h
      · next hj =>
        obtain ⟨j1, j2, j3⟩ := hj
        cases h
        obtain ⟨w1, w2, w3⟩ := pg_o_ok j1
        unfold xm_wt at j3
        have hK1 : xm_K ≤ R.locals := Nat.le_trans (Nat.le_mul_of_pos_left _ j2) hdl
        refine W.objInit hx hb hown (hts _ w1) (hts _ w2) (hts _ w3) (g := F0 m pc arr (.ref a :: st')) rfl (by rw [hml]; exact hl.1) rfl hdec (Nat.le_trans j2 hd) (by show 2 * 0 + _ + 12 ≤ _; rw [← K0] at hK1; omega) (same rfl)
      · cases h
    · cases h
  · -- arraycopy
    dsimp only [xm_len] at hk; subst hk
    split at h
    · next n dp a1 sp a0 r =>
      split at h
      · next hj =>
        obtain ⟨j1, j2, j3, j4, j5, j6⟩ := hj
        split at h
        · next t0 n0 f t1 n1 g h0 h1 =>
          split at h
          · next hj2 =>
            obtain ⟨rfl, rfl, i4, i5⟩ := hj2
            cases h
            have hK1 : xm_K ≤ R.locals := Nat.le_trans (Nat.le_mul_of_pos_left _ j2) hdl
            have hnw : nativeFrameWords "java/lang/System" "arraycopy" 5 = 7 := by decide
            exact xm_copy_ok hC hU hH hL j1 h0 h1 j4 j5 j6 i4 i5 hl (Nat.le_trans j2 hd) (by rw [hnw]; rw [← K0] at hK1; omega) hdec (sett rfl)
          · cases h
        · cases h
      · cases h
    · cases h
  · cases h
end XM5
end
section
def xm_ws (z : Nat) : List Cond := Cond.code (pg_y z) (pg_b z) (pg_l z) (pg_r z) :: pg_TS
def xm_rm (d n k : Nat) : Room := { frames := d, cells := n, slots := k, locals := d * xm_K }
def xm_Q (dC : Nat → ClassId) (dI : Nat → Nat → Nat) (dA : Nat → ClassId) (b : Nat) (r : Option Value) (M' : xm_M) : Array Value → State → Outcome → State → Prop := fun _ st oc t => oc = .returned r ∧ xm_H dC dI dA b M' t.heap ∧ ∀ q : Nat, q < b → t.heap[q]? = st.heap[q]?
def xm_Pr (dC : Nat → ClassId) (dI : Nat → Nat → Nat) (dA : Nat → ClassId) (b : Nat) (sc : xm_Sc) (as : List Value) (M : xm_M) : Array Value → State → Prop := fun v U => v = as.toArray ∧ xm_U dC dI dA U ∧ xm_X sc b U U.heap ∧ xm_H dC dI dA b M U.heap
abbrev xm_Met (l : Launch) (dC : Nat → ClassId) (dI : Nat → Nat → Nat) (dA : Nat → ClassId) (b : Nat) (sc : xm_Sc) (d z : Nat) (as : List Value) (M : xm_M) (r : Option Value) (M' : xm_M) : Prop :=
  Met l (pg_y z) (xm_ws z) (xm_rm d (M'.1 - M.1) (M'.2.1 - M.2.1)) (xm_Pr dC dI dA b sc as M) (xm_Q dC dI dA b r M') (M'.1 - M.1) (M'.2.1 - M.2.1) (fun q => b ≤ q)
theorem xm_U.moved {dC : Nat → ClassId} {dI : Nat → Nat → Nat} {dA : Nat → ClassId} {s U : State} (hW : s.WarmedH U.vm) (h : xm_U dC dI dA s) : xm_U dC dI dA U := by
  refine ⟨va_K.moved hW.alike h.1, fun w hw => ?_, fun C hC => va_AO.moved hW.alike (h.2.2 C hC)⟩
  have h1 := pg_NS_kind w hw
  have h2 := h.2.1 w hw
  unfold pg_nk at h1
  split at h1
  · exact va_Nw.warmF hW h2
  · exact va_Nw.warmM hW h2
  · cases h1
theorem xm_X.moved {sc : xm_Sc} {b : Nat} {s U : State} {H : Heap} (hW : s.WarmedH U.vm) (h : xm_X sc b s H) : xm_X sc b U H := ⟨h.1, va_X.moved hW.alike h.2⟩
theorem xm_X.kept {sc : xm_Sc} {b : Nat} {s : State} {H H' : Heap} (h : xm_X sc b s H) (hq : ∀ q : Nat, q < b → H'[q]? = H[q]?) : xm_X sc b s H' := ⟨h.1, va_X.kept h.2 (hq _ h.1)⟩
theorem xm_blind {dC : Nat → ClassId} {dI : Nat → Nat → Nat} {dA : Nat → ClassId} {b : Nat} {sc : xm_Sc} {as : List Value} {M : xm_M} : FrameBlind (xm_Pr dC dI dA b sc as M) := by
  intro a U g mk q
  obtain ⟨q1, q2, q3, q4⟩ := q
  have hW : U.WarmedH (U.calling g mk a).vm := State.WarmedH.refl U
  exact ⟨q1, q2.moved hW, q3.moved hW, q4⟩
theorem xm_pre {dC : Nat → ClassId} {dI : Nat → Nat → Nat} {dA : Nat → ClassId} {b : Nat} {sc : xm_Sc} {as : List Value} {M : xm_M} {s : State} {H : Heap} (hU : xm_U dC dI dA s) (hX : xm_X sc b s H) (hH : xm_H dC dI dA b M H) : ∀ U : State, U.heap = H → s.WarmedH U.vm → xm_Pr dC dI dA b sc as M as.toArray U := by
  intro U hU1 hW
  exact ⟨rfl, hU.moved hW, by rw [hU1]; exact hX.moved hW, by rw [hU1]; exact hH⟩
theorem xm_good (z : Nat) (hz : 0 < z ∧ z < pg_n) : GoodIn pg_TS (xm_ws z) := by
  intro w hw
  rcases List.mem_cons.mp hw with rfl | h
  · exact ⟨(pg_m_ok hz.1 hz.2).1, Or.inl (by first | rfl | simp [Cond.onTables, Cond.keeps, Cond.steady])⟩
  · exact ⟨h, pg_TS_good w h⟩
section XM6
variable {p : Program} {l : Launch} {e : Env} {R : Room} {s : State} {m : MethodId} {args : Array Value} {below : List Frame} {meth : Method} {c : Code} {H : Heap} {locs : List Loc} {cells slots : Nat} {Q : State → Prop}
variable {y pc pc' k d b z : Nat} {i : Instr} {ls : xm_Ls} {st st' rest as : List Value} {arr : Array Slot} {sc : xm_Sc} {M M' : xm_M} {dC : Nat → ClassId} {dI : Nat → Nat → Nat} {dA : Nat → ClassId} {r : Option Value}
theorem xm_go {mc ms : Nat} {st0 : List Value} {Qa : State → Outcome → State → Prop} {free : Addr → Prop} (hr : va_Run p l e R s m args below meth c H locs cells slots mc ms (F0 m pc arr st0) rest Qa free)
    (kk : ∀ (v : Option Value) (st₀ t : State) (L : List Loc), st₀.heap = H → (∀ q ∈ L, free q.base) → Qa st₀ (.returned v) t → W p l e R s m args below meth c t.heap (locs ++ L) (cells + mc) (slots + ms) Q (F0 m (pc + 3) arr (v.toList ++ rest))) : W p l e R s m args below meth c H locs cells slots Q (F0 m pc arr st0) := by
  intro T hT X
  obtain ⟨v, st₀, t, T', L, h0, X', hL, e1, e2, hq, st⟩ := hr T hT X
  obtain ⟨t2, a1, b1⟩ := kk v st₀ t L h0 hL hq T' e1 X'
  exact ⟨t2, st t2 a1, b1⟩
set_option maxHeartbeats 4000000 in
theorem xm_call_ok (hC : xm_C p m c meth s args y) (hU : xm_U dC dI dA s) (hX : xm_X sc b s H) (hH : xm_H dC dI dA b M H) (hL : ∀ q ∈ locs, b ≤ q.base) (hl : xm_L arr (pg_l y) ls) (hd : d + 1 ≤ R.frames) (hdl : (d + 1) * xm_K ≤ R.locals) (hk : k = xm_len i k) (hdec : decode (pg_b y) pc = .ok (i, k)) (h : xm_inv y i st M = some (z, as, rest)) (hw : xm_wt rest ≤ 8)
    (hM : xm_Met l dC dI dA b sc d z as M r M') (hc : cells + (M'.1 - M.1) ≤ R.cells) (hs : slots + (M'.2.1 - M.2.1) ≤ R.slots)
    (kk : xm_KK p l e R s m args below meth c Q dC dI dA b M' H (cells + (M'.1 - M.1)) (slots + (M'.2.1 - M.2.1)) (pc + 3) arr (r.toList ++ rest)) : W p l e R s m args below meth c H locs cells slots Q (F0 m pc arr st) := by
  obtain ⟨hx, hb, hml, hown, hts, hnm⟩ := id hC
  obtain ⟨hK, hN, hAO⟩ := id hU
  have go : ∀ {st0 : List Value}, va_Run p l e R s m args below meth c H locs cells slots (M'.1 - M.1) (M'.2.1 - M.2.1) (F0 m pc arr st0) rest (xm_Q dC dI dA b r M' as.toArray) (fun q => b ≤ q) → W p l e R s m args below meth c H locs cells slots Q (F0 m pc arr st0) := by
    intro st0 hr
    refine xm_go hr (fun v st₀ t L h0 hLL hq => ?_)
    obtain ⟨hv, hH', hlow⟩ := hq
    cases hv
    refine kk t.heap _ hH' (fun q hq => ?_) (fun q hq => by rw [hlow q hq, h0])
    rcases List.mem_append.mp hq with h9 | h9
    · exact hL q h9
    · exact hLL q h9
  have hrt : 2 * (F0 m pc arr st).monitorRoom + (rest.map fun v => v.category).sum ≤ 8 := lv_room hw
  have rooms : 0 < z ∧ z < pg_n → (xm_rm d (M'.1 - M.1) (M'.2.1 - M.2.1)).frames + 1 ≤ R.frames ∧ 8 + (pg_l z + 11) + (xm_rm d (M'.1 - M.1) (M'.2.1 - M.2.1)).locals ≤ R.locals := by
    intro hz
    have h9 := (pg_m_ok hz.1 hz.2).2.2
    refine ⟨hd, ?_⟩
    show 8 + (pg_l z + 11) + d * xm_K ≤ R.locals
    rw [Nat.succ_mul] at hdl
    omega
  unfold xm_inv at h
  split at h
  · -- virtual
    next x =>
    dsimp only [xm_len] at hk; subst hk
    split at h
    · next z' n host ci kd hi =>
      split at h
      · next a r' hdrop =>
        split at h
        · next cj fs ha =>
          split at h
          · next hcj =>
            obtain ⟨rfl, rfl, hlen⟩ := hcj
            cases h
            obtain ⟨hz, hde, hini, hne, hlink, hkind⟩ := pg_i_ok hi
            obtain ⟨hinst, hsel, q, hcl, hqc⟩ := hkind.1 rfl
            have hp : PreV s H (pg_y z).cls a (xm_Pr dC dI dA b sc (.ref a :: (st.take n).reverse) M) (st.take n).reverse := ⟨xm_blind, by rw [← hqc]; exact va_recv hK (xm_P1 (hH.2 a _ ha).2) hcl (q0 := 0) rfl, xm_pre hU hX hH⟩
            have hst : st = (st.take n).reverse.reverse ++ .ref a :: rest := by rw [List.reverse_reverse, ← hdrop, List.take_append_drop]
            have hlen' : (st.take n).reverse.length = n := by rw [List.length_reverse]; exact hlen
            rcases hlink with ⟨-, hlink⟩ | ⟨hst1, -, hlink⟩
            · exact go (va_runV (C := (pg_y z).cls) (bytes := pg_b z) (maxL := pg_l z) (ret := pg_r z) (Ts := pg_TS) (own := (pg_y y).cls) (cc := pg_b y) (nL := pg_l y) ⟨hx, hb, hml, hown, hts⟩ hM ⟨callB_of n hts (xm_good z hz) rfl rfl rfl (hts _ hini) (hts _ hlink) ⟨hne.1, hne.2, hde⟩ (rooms hz), hts _ hinst, hts _ hsel⟩ hp rfl hlen' hl.1 hst hrt hdec ⟨hc, hs⟩)
            · exact go (va_runVN (C := (pg_y z).cls) (bytes := pg_b z) (maxL := pg_l z) (ret := pg_r z) (Ts := pg_TS) (own := (pg_y y).cls) (cc := pg_b y) (nL := pg_l y) ⟨hx, hb, hml, hown, hts⟩ hM ⟨va_cnB n hts (xm_good z hz) rfl rfl rfl (hN _ hlink) (hts _ hini) ⟨hne.1, hne.2, hde⟩ (rooms hz), hts _ hinst, hts _ hsel⟩ hp rfl hlen' hl.1 hst hrt hdec ⟨hc, hs⟩)
          · cases h
        · cases h
      · cases h
    · cases h
  · -- special
    next x =>
    dsimp only [xm_len] at hk; subst hk
    split at h
    · next z' n host ci kd hi =>
      split at h
      · next a r' hdrop =>
        split at h
        · next hlen =>
          obtain ⟨rfl, hlen⟩ := hlen
          cases h
          obtain ⟨hz, hde, hini, hne, hlink, hkind⟩ := pg_i_ok hi
          obtain ⟨hinst, hnam, hret⟩ := hkind.2.1 rfl
          have hp : PreS s H (xm_Pr dC dI dA b sc (.ref a :: (st.take n).reverse) M) (.ref a :: (st.take n).reverse) := ⟨xm_blind, xm_pre hU hX hH⟩
          have hst : st = (st.take n).reverse.reverse ++ .ref a :: rest := by rw [List.reverse_reverse, ← hdrop, List.take_append_drop]
          have hlen' : (st.take n).reverse.length = n := by rw [List.length_reverse]; exact hlen
          have hcode : xm_ws z = Cond.code (pg_y z) (pg_b z) (pg_l z) none :: pg_TS := by unfold xm_ws; rw [hret]
          rcases hlink with ⟨-, hlink⟩ | ⟨hst1, -, hlink⟩
          · exact go (va_runI (bytes := pg_b z) (maxL := pg_l z) (Ts := pg_TS) (own := (pg_y y).cls) (cc := pg_b y) (nL := pg_l y) ⟨hx, hb, hml, hown, hts⟩ hM (cwI n hts (xm_good z hz) hcode rfl rfl (hts _ hini) (hts _ hlink) (hts _ hinst) hnam ⟨hne.1, hne.2, hde⟩ (rooms hz)) hp rfl hlen' hl.1 hst hrt hdec ⟨hc, hs⟩)
          · exact go (va_runIN (bytes := pg_b z) (maxL := pg_l z) (Ts := pg_TS) (own := (pg_y y).cls) (cc := pg_b y) (nL := pg_l y) ⟨hx, hb, hml, hown, hts⟩ hM ⟨va_cnB n hts (xm_good z hz) hcode rfl rfl (hN _ hlink) (hts _ hini) ⟨hne.1, hne.2, hde⟩ (rooms hz), hnam, hts _ hinst⟩ hp rfl hlen' hl.1 hst hrt hdec ⟨hc, hs⟩)
        · cases h
      · cases h
    · cases h
  · -- static
    next x =>
    dsimp only [xm_len] at hk; subst hk
    split at h
    · next z' n host ci kd hi =>
      split at h
      · next hlen =>
        obtain ⟨rfl, hlen⟩ := hlen
        cases h
        obtain ⟨hz, hde, hini, hne, hlink, hkind⟩ := pg_i_ok hi
        have hsta := hkind.2.2 rfl
        have hp : PreS s H (xm_Pr dC dI dA b sc (st.take n).reverse M) (st.take n).reverse := ⟨xm_blind, xm_pre hU hX hH⟩
        have hst : st = (st.take n).reverse.reverse ++ st.drop n := by rw [List.reverse_reverse, List.take_append_drop]
        have hlen' : (st.take n).reverse.length = n := by rw [List.length_reverse]; exact hlen
        rcases hlink with ⟨-, hlink⟩ | ⟨hst1, -, hlink⟩
        · exact go (va_runS (bytes := pg_b z) (maxL := pg_l z) (ret := pg_r z) (Ts := pg_TS) (own := (pg_y y).cls) (cc := pg_b y) (nL := pg_l y) ⟨hx, hb, hml, hown, hts⟩ hM ⟨callB_of n hts (xm_good z hz) rfl rfl rfl (hts _ hini) (hts _ hlink) ⟨hne.1, hne.2, hde⟩ (rooms hz), hts _ hsta⟩ hp rfl hlen' hl.1 hst hrt hdec ⟨hc, hs⟩)
        · exact go (va_runSN (bytes := pg_b z) (maxL := pg_l z) (ret := pg_r z) (Ts := pg_TS) (own := (pg_y y).cls) (cc := pg_b y) (nL := pg_l y) ⟨hx, hb, hml, hown, hts⟩ hM ⟨va_cnB n hts (xm_good z hz) rfl rfl rfl (hN _ hlink) (hts _ hini) ⟨hne.1, hne.2, hde⟩ (rooms hz), hts _ hsta, trivial⟩ hp rfl hlen' hl.1 hst hrt hdec ⟨hc, hs⟩)
      · cases h
    · cases h
  · cases h
end XM6
theorem xm_inv_ok {y z : Nat} {i : Instr} {st as rest : List Value} {M : xm_M} (h : xm_inv y i st M = some (z, as, rest)) : 0 < z ∧ z < pg_n := by
  unfold xm_inv at h
  split at h
  · split at h
    · next hi =>
      have := (pg_i_ok hi).1
      split at h
      · split at h
        · split at h
          · cases h; exact this
          · cases h
        · cases h
      · cases h
    · cases h
  · split at h
    · next hi =>
      have := (pg_i_ok hi).1
      split at h
      · split at h
        · cases h; exact this
        · cases h
      · cases h
    · cases h
  · split at h
    · next hi =>
      have := (pg_i_ok hi).1
      split at h
      · cases h; exact this
      · cases h
    · cases h
  · cases h
end
section
theorem xm_step_mono {sc : xm_Sc} {d y pc : Nat} {i : Instr} {ls : xm_Ls} {st : List Value} {M : xm_M} {q : xm_S} (h : xm_step sc d y pc i ls st M = some q) : M.1 ≤ q.2.2.2.1 ∧ M.2.1 ≤ q.2.2.2.2.1 := by
  unfold xm_step at h
  split at h
  · cases h; simp
  · split at h
    · cases h; simp
    · split at h
      · next x hx =>
        obtain ⟨a1, a2, a3⟩ := x
        cases h
        exact xm_s3_mono hx
      · cases h
theorem xm_ex_mono (sc : xm_Sc) : ∀ (n d y pc : Nat) (ls : xm_Ls) (st : List Value) (M : xm_M) (r : Option Value) (M' : xm_M), xm_ex sc n d y pc ls st M = some (r, M') → M.1 ≤ M'.1 ∧ M.2.1 ≤ M'.2.1
  | 0, _, _, _, _, _, _, _, _, h => by simp [xm_ex] at h
  | n + 1, d, y, pc, ls, st, M, r, M', h => by
    unfold xm_ex at h
    split at h
    · cases h
    · split at h
      · split at h
        · cases h; exact ⟨Nat.le_refl _, Nat.le_refl _⟩
        · split at h
          · split at h
            · cases h
            · split at h
              · split at h
                · next r1 M1 h1 =>
                  have a1 := xm_ex_mono sc n _ _ _ _ _ _ _ _ h1
                  have a2 := xm_ex_mono sc n _ _ _ _ _ _ _ _ h
                  exact ⟨Nat.le_trans a1.1 a2.1, Nat.le_trans a1.2 a2.2⟩
                · cases h
              · cases h
          · split at h
            · next q hq =>
              have a1 := xm_step_mono hq
              have a2 := xm_ex_mono sc n _ _ _ _ _ _ _ _ h
              exact ⟨Nat.le_trans a1.1 a2.1, Nat.le_trans a1.2 a2.2⟩
            · cases h
      · cases h
theorem xm_ret_st {y : Nat} {i : Instr} {st : List Value} {r : Option Value} (h : xm_ret y i st = some r) : st = r.toList ∧ ∀ k, xm_len i k = 1 := by
  unfold xm_ret at h
  split at h
  · split at h
    · split at h
      · cases h; exact ⟨rfl, fun _ => rfl⟩
      · cases h
    · cases h
  · split at h
    · cases h; exact ⟨rfl, fun _ => rfl⟩
    · cases h; exact ⟨rfl, fun _ => rfl⟩
    · cases h
  · split at h
    · cases h; exact ⟨rfl, fun _ => rfl⟩
    · cases h
  · cases h
/-- what is said of a run: from here the machine comes to a return with this answer and this memory -/
abbrev xm_Says (l : Launch) (dC : Nat → ClassId) (dI : Nat → Nat → Nat) (dA : Nat → ClassId) (b : Nat) (sc : xm_Sc) (d y pc : Nat) (ls : xm_Ls) (st : List Value) (M : xm_M) (r : Option Value) (M' : xm_M) : Prop :=
  ∀ (p : Program) (e : Env) (R : Room) (s : State) (m : MethodId) (args : Array Value) (below : List Frame) (meth : Method) (c : Code) (H : Heap) (locs : List Loc) (cells slots : Nat) (Q : State → Prop) (arr : Array Slot),
    xm_C p m c meth s args y → xm_U dC dI dA s → xm_X sc b s H → xm_H dC dI dA b M H → (∀ q ∈ locs, b ≤ q.base) → b ≤ M.1 → xm_L arr (pg_l y) ls → d ≤ R.frames → d * xm_K ≤ R.locals → cells + (M'.1 - M.1) ≤ R.cells → slots + (M'.2.1 - M.2.1) ≤ R.slots →
    (∀ (pc' : Nat) (i : Instr) (arr' : Array Slot) (H' : Heap) (locs' : List Loc), decode (pg_b y) pc' = .ok (i, 1) → xm_ret y i r.toList = some r → xm_H dC dI dA b M' H' → (∀ q ∈ locs', b ≤ q.base) → (∀ q : Nat, q < b → H'[q]? = H[q]?) → W p l e R s m args below meth c H' locs' (cells + (M'.1 - M.1)) (slots + (M'.2.1 - M.2.1)) Q (F0 m pc' arr' r.toList)) →
    W p l e R s m args below meth c H locs cells slots Q (F0 m pc arr st)
set_option maxHeartbeats 4000000 in
/-- a run of a method from its entry is its contract -/
theorem xm_met {l : Launch} {dC : Nat → ClassId} {dI : Nat → Nat → Nat} {dA : Nat → ClassId} {b : Nat} {sc : xm_Sc} {d z : Nat} {as : List Value} {M M' : xm_M} {r : Option Value} (hz : 0 < z ∧ z < pg_n) (hb : b ≤ M.1) (hn : as.length ≤ pg_l z) (hc : (as.all fun v => v.category == 1) = true)
    (h : xm_Says l dC dI dA b sc d z 0 (xm_entry z as) [] M r M') : xm_Met l dC dI dA b sc d z as M r M' := by
  refine Met.ofW (cc := pg_b z) (maxL := pg_l z) (ret := pg_r z) (pg_m_ok hz.1 hz.2).2.1 rfl ?_
  intro p e s m args below meth c s₁ B hml hv
  obtain ⟨rfl, hU, hX, hH⟩ := hv
  have hts0 := atoms_spec (ws := xm_ws z) B.pre
  have hts : ∀ w ∈ pg_TS, w.before as.toArray s = true := fun w hw => hts0 w (List.mem_cons_of_mem _ hw)
  have hnm : (pg_y z).name = "<init>" → meth.name = "<init>" := fun h9 => (name_of_methodNamed B.named B.method).1.trans h9
  have hr := B.returns
  have hlocks := B.notSynchronized
  rw [lg_entry_eq]
  refine h _ _ _ _ _ _ _ _ _ _ _ _ _ _ _ ⟨B.exec, B.bytes, hml, findClass_of_methodNamed B.named, hts, hnm⟩ hU hX hH (fun q hq => by cases hq) hb (xm_L.entry hc hn) (Nat.le_refl _) (Nat.le_refl _) (by rw [Nat.zero_add]; exact Nat.le_refl _) (by rw [Nat.zero_add]; exact Nat.le_refl _) ?_
  intro pc' i arr' H' locs' hdec hret hH' hL' hlow
  rw [Nat.zero_add, Nat.zero_add]
  unfold xm_ret at hret
  split at hret
  · split at hret
    · next v ty hst hty =>
      split at hret
      · next hnar =>
        rw [hst]
        cases hret
        exact W.zret B.exec B.bytes (hr.trans hty) hnar (fun t ht hW => ⟨rfl, by rw [ht]; exact hH', fun q hq => by rw [ht]; exact hlow q hq⟩) hL' hdec
      · cases hret
    · cases hret
  · split at hret
    · next a C hst hty =>
      rw [hst]
      cases hret
      exact W.aret B.exec B.bytes (hr.trans hty) (Or.inl ⟨_, rfl⟩) (Or.inr ⟨_, rfl⟩) (fun t ht hW => ⟨rfl, by rw [ht]; exact hH', fun q hq => by rw [ht]; exact hlow q hq⟩) hL' hdec
    · next C hst hty =>
      rw [hst]
      cases hret
      exact W.aret B.exec B.bytes (hr.trans hty) (Or.inl ⟨_, rfl⟩) (Or.inl rfl) (fun t ht hW => ⟨rfl, by rw [ht]; exact hH', fun q hq => by rw [ht]; exact hlow q hq⟩) hL' hdec
    · cases hret
  · split at hret
    · next hst hty =>
      rw [hst]
      cases hret
      exact W.vret B.exec B.bytes (hr.trans hty) (fun t ht hW => ⟨rfl, by rw [ht]; exact hH', fun q hq => by rw [ht]; exact hlow q hq⟩) hL' hdec
    · cases hret
  · cases hret
set_option maxHeartbeats 4000000 in
/-- THE SMALL MACHINE'S RUNS ARE THE MACHINE'S -/
theorem xm_sim (l : Launch) (dC : Nat → ClassId) (dI : Nat → Nat → Nat) (dA : Nat → ClassId) (b : Nat) (sc : xm_Sc) : ∀ (n d y pc : Nat) (ls : xm_Ls) (st : List Value) (M : xm_M) (r : Option Value) (M' : xm_M), xm_ex sc n d y pc ls st M = some (r, M') → xm_Says l dC dI dA b sc d y pc ls st M r M'
  | 0, _, _, _, _, _, _, _, _, h => by simp [xm_ex] at h
  | n + 1, d, y, pc, ls, st, M, r, M', h => by
    intro p e R s m args below meth c H locs cells slots Q arr hC hU hX hH hL hbM hl hd hdl hcl hsl kk
    unfold xm_ex at h
    split at h
    · cases h
    · next i k hcode =>
      have hdec := pg_code_ok hcode
      split at h
      · next hk =>
        split at h
        · next r1 hret =>
          cases h
          obtain ⟨hst, hlen⟩ := xm_ret_st hret
          rw [hlen k] at hk
          subst hk
          subst hst
          have := kk pc i arr H locs hdec hret hH hL (fun _ _ => rfl)
          rw [Nat.sub_self, Nat.sub_self, Nat.add_zero, Nat.add_zero] at this
          exact this
        · split at h
          · next z as rest hinv =>
            split at h
            · cases h
            · next d' =>
              split at h
              · next hcnd =>
                obtain ⟨hw, hn, hc⟩ := hcnd
                split at h
                · next r1 M1 h1 =>
                  have m1 := xm_ex_mono sc n _ _ _ _ _ _ _ _ h1
                  have m2 := xm_ex_mono sc n _ _ _ _ _ _ _ _ h
                  have hz : 0 < z ∧ z < pg_n := xm_inv_ok hinv
                  have hmet : xm_Met l dC dI dA b sc d' z as M r1 M1 := xm_met hz hbM hn hc (xm_sim l dC dI dA b sc n d' z 0 _ [] M r1 M1 h1)
                  have hrest := xm_sim l dC dI dA b sc n (d' + 1) y (pc + 3) ls (r1.toList ++ rest) M1 r M' h
                  refine xm_call_ok hC hU hX hH hL hl hd hdl hk hdec hinv hw hmet (by omega) (by omega) ?_
                  intro H1 locs1 hH1 hL1 hlow1
                  refine hrest _ _ _ _ _ _ _ _ _ _ _ _ _ _ _ hC hU (hX.kept hlow1) hH1 hL1 (Nat.le_trans hbM m1.1) hl hd hdl (by omega) (by omega) ?_
                  intro pc' i' arr' H' locs' a1 a2 a3 a4 a5
                  have := kk pc' i' arr' H' locs' a1 a2 a3 a4 (fun q hq => (a5 q hq).trans (hlow1 q hq))
                  rw [show cells + (M1.1 - M.1) + (M'.1 - M1.1) = cells + (M'.1 - M.1) by omega, show slots + (M1.2.1 - M.2.1) + (M'.2.1 - M1.2.1) = slots + (M'.2.1 - M.2.1) by omega]
                  exact this
                · cases h
              · cases h
          · split at h
            · next q hstep =>
              have m1 := xm_step_mono hstep
              have m2 := xm_ex_mono sc n _ _ _ _ _ _ _ _ h
              have hrest := xm_sim l dC dI dA b sc n d y q.1 q.2.1 q.2.2.1 q.2.2.2 r M' h
              unfold xm_step at hstep
              split at hstep
              · next q1 h1 =>
                cases hstep
                refine xm_s1_ok hC hl hk hdec h1 (fun arr' hl' => ?_)
                exact hrest _ _ _ _ _ _ _ _ _ _ _ _ _ _ _ hC hU hX hH hL hbM hl' hd hdl hcl hsl kk
              · split at hstep
                · next q1 h1 =>
                  cases hstep
                  exact xm_s2_ok hC hk hdec h1 (hrest _ _ _ _ _ _ _ _ _ _ _ _ _ _ _ hC hU hX hH hL hbM hl hd hdl hcl hsl kk)
                · split at hstep
                  · next q1 h1 =>
                    obtain ⟨pc1, st1, M1⟩ := q1
                    cases hstep
                    dsimp only at m1 m2 hrest
                    refine xm_s3_ok hC hU hX hH hL hbM hl hd hdl hk hdec h1 (by omega) (by omega) ?_
                    intro H1 locs1 hH1 hL1 hlow1
                    refine hrest _ _ _ _ _ _ _ _ _ _ _ _ _ _ _ hC hU (hX.kept hlow1) hH1 hL1 (Nat.le_trans hbM m1.1) hl hd hdl (by omega) (by omega) ?_
                    intro pc' i' arr' H' locs' a1 a2 a3 a4 a5
                    have := kk pc' i' arr' H' locs' a1 a2 a3 a4 (fun q hq => (a5 q hq).trans (hlow1 q hq))
                    rw [show cells + (M1.1 - M.1) + (M'.1 - M1.1) = cells + (M'.1 - M.1) by omega, show slots + (M1.2.1 - M.2.1) + (M'.2.1 - M1.2.1) = slots + (M'.2.1 - M.2.1) by omega]
                    exact this
                  · cases hstep
            · cases h
      · cases h
end
section
/-! THE CLAIM OUT OF ONE WALK OF THE LAW'S BODY. Your part is whole_start (and what it stands on); all else here is the same for every law, but numbers. -/
def R_law : String := "PatternMillLaw"
def lw_P (b : Addr) (xs : List Int32) (args : Array Value) (s : State) : Prop := args = #[.ref b] ∧ s.IntsAt b xs ∧ xs.length ≤ 2048 ∧ (Jvm.Cond.and given_1 narrow_1).before args s = true
def lw_Q (_ : Array Value) (s : State) (o : Outcome) (t : State) : Prop := o = .returned (some (.int 1)) ∧ Framed s o t [] 600000 7302250
def lw_Z (below : List Frame) (a : Array Value) (s : State) : State → Prop := fun t => ∃ o, t.status = .running ∧ Ended t below o ∧ lw_Q a s o t
/-- the law's own end, with 1 on the stack, nothing written that was there before, its room as the claim has it -/
theorem lw_ret {p : Program} {l : Launch} {e : Env} {s : State} {m : MethodId} {below : List Frame} {meth : Method} {c : Code} {b : Nat} (hx : p.tables.exec = Jvm.exec) (hb : c.code = code) (hr : meth.sig.returnType = ret) (hlocks : meth.locks = false) {pc : Nat} {H : Heap} {ls : Array Slot} (hdg : decode code pc = .ok (.ireturn, 1)) : W p l e room_1 s m #[Value.ref b] below meth c H [] 600000 7302250 (lw_Z below #[Value.ref b] s) (F0 m pc ls [.int 1]) := by
  intro T hT X
  obtain ⟨fs, hret, hrun, hended, hW, hframe⟩ := X.leave (v := some (.int 1)) (hlocks := hlocks) (fun h => by rw [hr] at h; cases h)
  have hmeth' : T.vm.method? m = some meth := X.method'
  refine ⟨T.setFrames fs, ?_, .returned (some (.int 1)), hrun, hended, rfl, ⟨_, rfl⟩, hW, hframe⟩
  jvm_step X.here [X.here.top, hx, hb, hdg, hmeth', hr, ret, narrow_b1]
  (try refine ⟨rfl, ?_⟩); (try refine ⟨rfl, ?_⟩)
  first | (intro acts; rw [hret _ acts rfl rfl rfl]) | rw [hret _ _ rfl rfl rfl]
  exact Steps.refl _
/-- what holds at the law's entry: the machine, the code, the tables' words (any of lw_tbl by 'hts w (by decide +kernel)'), the script of L ints xs at the cell b, what the Statement gives of the start (any of its parts by flat_of_before) -/
def lw_At (p : Program) (s : State) (m : MethodId) (meth : Method) (c : Code) (b L : Nat) (xs : Nat → Int32) : Prop :=
  p.tables.exec = Jvm.exec ∧ c.code = code ∧ meth.sig.returnType = ret ∧ c.maxLocals = 4 ∧ s.vm.findClass R_law = some m.cls ∧ (∀ w ∈ lw_tbl, w.before #[Value.ref b] s = true) ∧ va_X b L xs s s.heap ∧ b < s.heap.size ∧ meth.locks = false ∧ (Jvm.Cond.and given_1 narrow_1).before #[Value.ref b] s = true

theorem pg_AO_in : ∀ C ∈ pg_AO, Cond.arrayOver (.object C) ∈ lw_tbl := by decide +kernel
theorem pg_at_AO0 : (List.range pg_at.length).all (fun t => match pg_at[t]? with | some (.object C) => decide (C ∈ pg_AO) | some ty => decide (Cond.arrayClass ty ∈ lw_tbl ∧ (ty = .int ∨ ty = .byte ∨ ty = .boolean)) | none => true) = true := by decide +kernel
theorem pg_nk_tab {w : Cond} (h : pg_nk w = true) : w.onTables = true := by
  unfold pg_nk at h
  split at h
  · rfl
  · rfl
  · cases h
set_option maxHeartbeats 4000000 in
/-- the law's walk out of a run of the small machine -/
theorem xm_start {p : Program} {e : Env} {s : State} {m : MethodId} {below : List Frame} {meth : Method} {c : Code} (l : Launch) {b L : Nat} {xs : Nat → Int32} (C0 : lw_At p s m meth c b L xs)
    (hlaw : ∀ sz : Nat, b < sz → ∃ (n : Nat) (M' : xm_M), xm_ex (b, L, xs) n 10 0 0 (xm_entry 0 [.ref b]) [] (sz, 0, fun _ => none) = some (some (.int 1), M') ∧ M'.1 - sz ≤ 600000 ∧ M'.2.1 ≤ 7302250) : W p l e room_1 s m #[Value.ref b] below meth c s.heap [] 0 0 (lw_Z below #[Value.ref b] s) (entryFrame m ([Value.ref b] : List Value).toArray 4) := by
  obtain ⟨hx, hb, hr, hml, hown, hts, hX, hbl, hlocks, hgv⟩ := id C0
  have hts2 : ∀ w ∈ pg_TS, w.before #[Value.ref b] s = true := fun w hw => hts w (List.mem_filter.mp hw).1
  have kn : ∀ k : Nat, ∃ d : ClassId × (Nat → Nat), ∀ q : vw_C, classes[k]? = some q → u_Kn s q.1 q.2.1 q.2.2 d.1 d.2 := by
    intro k
    cases hq : classes[k]? with
    | none => exact ⟨(0, fun _ => 0), fun q h => by cases h⟩
    | some q =>
      obtain ⟨C, T, N⟩ := q
      obtain ⟨h1, -, -, h4, -⟩ := pg_cl_ok hq
      obtain ⟨cC, iS, h5⟩ := u_known (C := C) (T := T) (N := N) (n := N) hts2 h1 (hts2 _ h4)
      exact ⟨(cC, iS), fun q h => by cases h; exact h5⟩
  obtain ⟨dd, hdd⟩ := Classical.axiomOfChoice kn
  have ka : ∀ t : Nat, ∃ cA : ClassId, ∀ ty : FieldType, pg_at[t]? = some ty → ArrOfT s cA ty ∧ va_RA s cA ty := by
    intro t
    cases hq : pg_at[t]? with
    | none => exact ⟨0, fun q h => by cases h⟩
    | some ty =>
      have h0 := List.all_eq_true.mp pg_at_AO0 t (List.mem_range.mpr (List.getElem?_eq_some_iff.mp hq).1)
      rw [hq] at h0
      have prim : Cond.arrayClass ty ∈ lw_tbl → (ty = .int ∨ ty = .byte ∨ ty = .boolean) → ∃ cA : ClassId, ∀ ty' : FieldType, some ty = some ty' → ArrOfT s cA ty' ∧ va_RA s cA ty' := by
        intro h1 h2
        obtain ⟨cA, kA, comp, g1, g2, g3⟩ := Cond.arrayClass_spec (hts _ h1)
        refine ⟨cA, fun ty' h => ?_⟩
        cases h
        refine ⟨fun N z => ⟨(fun k h => by cases h), kA, g2, comp, g3⟩, ?_⟩
        rcases h2 with rfl | rfl | rfl <;> exact g1
      cases ty with
      | object C =>
        simp only [decide_eq_true_eq] at h0
        obtain ⟨comp, cA, kA, g1, g2, g3, g4, g5⟩ := Cond.arrayOver_spec (hts _ (pg_AO_in C h0))
        refine ⟨cA, fun ty' h => ?_⟩
        cases h
        exact ⟨fun N z => ⟨(fun k h => by cases h), kA, g3, comp, g4⟩, kA, comp, g3, g4, g1, g5⟩
      | _ =>
        have h0 := of_decide_eq_true h0
        exact prim h0.1 h0.2
  obtain ⟨dA, hdA⟩ := Classical.axiomOfChoice ka
  have hU : xm_U (fun k => (dd k).1) (fun k => (dd k).2) dA s := by
    refine ⟨⟨fun k q h => hdd k q h, fun k q h => ?_⟩, fun w hw => va_Nw.of (pg_nk_tab (List.mem_filter.mp hw).2) (hts w (List.mem_filter.mp hw).1), fun C hC => va_AO.of (hts _ (pg_AO_in C hC))⟩
    unfold xm_tys at h
    rw [List.getElem?_mapIdx] at h
    obtain ⟨ty, h1, rfl⟩ := Option.map_eq_some_iff.mp h
    exact hdA k ty h1
  obtain ⟨n, M', hrun, hM1, hM2⟩ := hlaw s.heap.size hbl
  rw [lg_entry_eq]
  have hml2 : c.maxLocals = pg_l 0 := hml
  refine xm_sim l (fun k => (dd k).1) (fun k => (dd k).2) dA s.heap.size (b, L, xs) n 10 0 0 (xm_entry 0 [.ref b]) [] _ _ _ hrun p e room_1 s m #[Value.ref b] below meth c s.heap [] 0 0 _ _ ⟨hx, hb, hml2, hown, hts2, fun h => absurd h (by decide)⟩ hU ⟨hbl, hX⟩ ⟨rfl, fun a e9 h => by cases h⟩ (fun q hq => by cases hq) (Nat.le_refl _) (xm_L.entry (as := [.ref b]) (z := 0) rfl (Nat.le_of_ble_eq_true rfl)) (by decide) (by decide) (by show 0 + (M'.1 - s.heap.size) ≤ 600000; omega) (by show 0 + (M'.2.1 - 0) ≤ 7302250; omega) ?_
  intro pc' i arr' H' locs' hdec hret hH' hL' hlow
  have hi : i = .ireturn := by
    cases i <;> first | rfl | (simp [xm_ret] at hret; done) | (unfold xm_ret at hret; split at hret <;> first | (cases hret; done) | simp_all)
  subst hi
  refine va_forget hL' ?_
  refine W.widen (k := 600000) (n := 7302250) (by show 0 + (M'.1 - s.heap.size) ≤ 600000; omega) (by show 0 + (M'.2.1 - 0) ≤ 7302250; omega) ?_
  exact lw_ret hx hb hr hlocks hdec
end
section
/-! RUNS: a place of a method, with what is said of its end. Each instruction is an equation -/
def rn (sc : xm_Sc) (d y pc : Nat) (ls : xm_Ls) (st : List Value) (M : xm_M) (Q : Option Value → xm_M → Prop) : Prop := ∃ (n : Nat) (r : Option Value) (M' : xm_M), xm_ex sc n d y pc ls st M = some (r, M') ∧ Q r M'
theorem xm_ex_more (sc : xm_Sc) : ∀ (n d y pc : Nat) (ls : xm_Ls) (st : List Value) (M : xm_M) (x : Option Value × xm_M), xm_ex sc n d y pc ls st M = some x → xm_ex sc (n + 1) d y pc ls st M = some x
  | 0, _, _, _, _, _, _, _, h => by simp [xm_ex] at h
  | n + 1, d, y, pc, ls, st, M, x, h => by
    unfold xm_ex at h ⊢
    split at h
    · cases h
    · split at h
      · next hk =>
        rw [if_pos hk]
        split at h
        · exact h
        · split at h
          · split at h
            · cases h
            · split at h
              · next hc =>
                rw [if_pos hc]
                split at h
                · next r1 M1 h1 =>
                  rw [xm_ex_more sc n _ _ _ _ _ _ _ h1]
                  exact xm_ex_more sc n _ _ _ _ _ _ _ h
                · cases h
              · cases h
          · split at h
            · exact xm_ex_more sc n _ _ _ _ _ _ _ h
            · cases h
      · cases h
theorem xm_ex_le {sc : xm_Sc} {n k d y pc : Nat} {ls : xm_Ls} {st : List Value} {M : xm_M} {x : Option Value × xm_M} (h : xm_ex sc n d y pc ls st M = some x) (hk : n ≤ k) : xm_ex sc k d y pc ls st M = some x := by
  induction hk with
  | refl => exact h
  | step _ ih => exact xm_ex_more _ _ _ _ _ _ _ _ _ ih
section RN
variable {sc : xm_Sc} {d y pc k : Nat} {ls : xm_Ls} {st : List Value} {M : xm_M} {Q : Option Value → xm_M → Prop} {i : Instr}
theorem rn_step {q : xm_S} (hc : pg_code y pc = some (i, k)) (hk : k = xm_len i k) (hr : xm_ret y i st = none) (hi : xm_inv y i st M = none) (hs : xm_step sc d y pc i ls st M = some q) : rn sc d y pc ls st M Q = rn sc d y q.1 q.2.1 q.2.2.1 q.2.2.2 Q := by
  have e : ∀ n, xm_ex sc (n + 1) d y pc ls st M = xm_ex sc n d y q.1 q.2.1 q.2.2.1 q.2.2.2 := by
    intro n
    rw [xm_ex, hc]
    simp only [hr, hi, hs]
    rw [if_pos hk]
  refine propext ⟨?_, ?_⟩
  · rintro ⟨n, r, M', h, hq⟩
    cases n with
    | zero => simp [xm_ex] at h
    | succ n => exact ⟨n, r, M', (e n).symm.trans h, hq⟩
  · rintro ⟨n, r, M', h, hq⟩
    exact ⟨n + 1, r, M', (e n).trans h, hq⟩
theorem rn_none (hc : pg_code y pc = some (i, k)) (hr : xm_ret y i st = none) (hi : xm_inv y i st M = none) (hs : xm_step sc d y pc i ls st M = none) : rn sc d y pc ls st M Q = False := by
  refine propext ⟨?_, fun h => h.elim⟩
  rintro ⟨n, r, M', h, hq⟩
  cases n with
  | zero => simp [xm_ex] at h
  | succ n =>
    rw [xm_ex, hc] at h
    simp only [hr, hi, hs] at h
    split at h <;> cases h
theorem rn_ret {r : Option Value} (hc : pg_code y pc = some (i, k)) (hk : k = xm_len i k) (hr : xm_ret y i st = some r) : rn sc d y pc ls st M Q = Q r M := by
  have e : ∀ n, xm_ex sc (n + 1) d y pc ls st M = some (r, M) := by
    intro n
    rw [xm_ex, hc]
    simp only [hr]
    rw [if_pos hk]
  refine propext ⟨?_, ?_⟩
  · rintro ⟨n, r', M', h, hq⟩
    cases n with
    | zero => simp [xm_ex] at h
    | succ n =>
      have := (e n).symm.trans h
      cases this
      exact hq
  · intro hq
    exact ⟨1, r, M, e 0, hq⟩
theorem rn_call {z : Nat} {as rest : List Value} (hc : pg_code y pc = some (i, k)) (hk : k = xm_len i k) (hr : xm_ret y i st = none) (hi : xm_inv y i st M = some (z, as, rest)) (hw : xm_wt rest ≤ 8) (hl : as.length ≤ pg_l z) (ha : (as.all fun v => v.category == 1) = true) : rn sc d y pc ls st M Q = (0 < d ∧ rn sc (d - 1) z 0 (xm_entry z as) [] M (fun r M' => rn sc d y (pc + 3) ls (r.toList ++ rest) M' Q)) := by
  refine propext ⟨?_, ?_⟩
  · rintro ⟨n, r, M', h, hq⟩
    cases n with
    | zero => simp [xm_ex] at h
    | succ n =>
      rw [xm_ex, hc] at h
      simp only [hr, hi] at h
      rw [if_pos hk] at h
      cases d with
      | zero => cases h
      | succ d =>
        dsimp only at h
        rw [if_pos ⟨hw, hl, ha⟩] at h
        split at h
        · next r1 M1 h1 => exact ⟨Nat.succ_pos d, n, r1, M1, h1, n, r, M', h, hq⟩
        · cases h
  · rintro ⟨hd, n, r1, M1, h1, n2, r, M', h, hq⟩
    cases d with
    | zero => cases hd
    | succ d =>
      rw [Nat.add_sub_cancel] at h1
      refine ⟨max n n2 + 1, r, M', ?_, hq⟩
      rw [xm_ex, hc]
      simp only [hr, hi]
      rw [if_pos hk, if_pos ⟨hw, hl, ha⟩, xm_ex_le h1 (Nat.le_max_left n n2)]
      exact xm_ex_le h (Nat.le_max_right n n2)
theorem rn_mono {Q' : Option Value → xm_M → Prop} (h : rn sc d y pc ls st M Q) (hq : ∀ r M', Q r M' → Q' r M') : rn sc d y pc ls st M Q' := by
  obtain ⟨n, r, M', h1, h2⟩ := h
  exact ⟨n, r, M', h1, hq r M' h2⟩
/-- a method's contract as an equation: it ends so -/
theorem rn_eq {r : Option Value} {M' : xm_M} (h : rn sc d y pc ls st M (fun r' M'' => r' = r ∧ M'' = M')) : rn sc d y pc ls st M Q = Q r M' := by
  obtain ⟨n, r1, M1, h1, rfl, rfl⟩ := h
  refine propext ⟨?_, fun hq => ⟨n, r1, M1, h1, hq⟩⟩
  rintro ⟨n2, r2, M2, h2, hq⟩
  have e1 := xm_ex_le h1 (Nat.le_max_left n n2)
  have e2 := xm_ex_le h2 (Nat.le_max_right n n2)
  rw [e1] at e2
  cases e2
  exact hq
end RN
/-! what the heap's instructions look at, as functions -/
def hp_f (M : xm_M) (a ci k : Nat) : Option Value := match M.2.2 a with
  | some (.inr (cj, fs)) => if cj = ci then fs[k]? else none
  | _ => none
def hp_is (M : xm_M) (a ci : Nat) : Prop := ∃ fs, M.2.2 a = some (.inr (ci, fs))
def hp_pf (M : xm_M) (a ci k : Nat) (v : Value) : Option xm_M := match M.2.2 a with
  | some (.inr (cj, fs)) => if cj = ci ∧ narrow (pg_ft ci k) v = v ∧ fits (pg_ft ci k) v = true ∧ k < fs.length then some (xm_set M a (.inr (ci, fs.set k v))) else none
  | _ => none
/-- an element of an array of ints, or of the script -/
def hp_i (sc : xm_Sc) (M : xm_M) (a : Nat) (j : Int32) : Option Int32 := match M.2.2 a with
  | some (.inl (t, n, .inl f)) => if t = 0 then (if j < 0 ∨ n ≤ j.toNatClampNeg then none else some (f j.toNatClampNeg)) else none
  | none => if a = sc.1 then (if j < 0 ∨ sc.2.1 ≤ j.toNatClampNeg then none else some (sc.2.2 j.toNatClampNeg)) else none
  | _ => none
def hp_pi (M : xm_M) (a : Nat) (j x : Int32) : Option xm_M := match M.2.2 a with
  | some (.inl (t, n, .inl f)) => if t = 0 then (if j < 0 ∨ n ≤ j.toNatClampNeg then none else some (xm_set M a (.inl (0, n, .inl (upd f j.toNatClampNeg x))))) else none
  | _ => none
def hp_b (M : xm_M) (a : Nat) (j : Int32) : Option Int32 := match M.2.2 a with
  | some (.inl (t, n, .inl f)) => if t = 1 ∨ t = 2 then (if j < 0 ∨ n ≤ j.toNatClampNeg then none else some (f j.toNatClampNeg)) else none
  | _ => none
def hp_pb (M : xm_M) (a : Nat) (j x : Int32) : Option xm_M := match M.2.2 a with
  | some (.inl (t, n, .inl f)) => if j < 0 ∨ n ≤ j.toNatClampNeg then none else if t = 1 then some (xm_set M a (.inl (1, n, .inl (upd f j.toNatClampNeg (vp_nar .byte x))))) else if t = 2 then some (xm_set M a (.inl (2, n, .inl (upd f j.toNatClampNeg (vp_nar .boolean x))))) else none
  | _ => none
def hp_q (M : xm_M) (a : Nat) (j : Int32) : Option Value := match M.2.2 a with
  | some (.inl (t, n, .inr (.inr (.inr (.inr f))))) => if 3 ≤ t ∧ t < pg_at.length then (if j < 0 ∨ n ≤ j.toNatClampNeg then none else some (va_rf (f j.toNatClampNeg))) else none
  | _ => none
def hp_pq (M : xm_M) (a : Nat) (j : Int32) (v : Nat) : Option xm_M := match M.2.2 a with
  | some (.inl (t, n, .inr (.inr (.inr (.inr f))))) => match M.2.2 v with
    | some (.inr (ci, _)) => if pg_ok t ci = true then (if j < 0 ∨ n ≤ j.toNatClampNeg then none else some (xm_set M a (.inl (t, n, .inr (.inr (.inr (.inr (va_up f j.toNatClampNeg (some v))))))))) else none
    | _ => none
  | _ => none
def hp_len (sc : xm_Sc) (M : xm_M) (a : Nat) : Option Nat := match M.2.2 a with
  | some (.inl (t, n, _)) => if t < pg_at.length then some n else none
  | none => if a = sc.1 then some sc.2.1 else none
  | _ => none
def hp_cp (M : xm_M) (a0 : Nat) (sp : Int32) (a1 : Nat) (dp n : Int32) : Option xm_M := if ¬ sp < 0 ∧ ¬ dp < 0 ∧ ¬ n < 0 then match M.2.2 a0, M.2.2 a1 with
  | some (.inl (t0, n0, .inl f)), some (.inl (t1, n1, .inl g)) => if t0 = 0 ∧ t1 = 0 ∧ sp.toNatClampNeg + n.toNatClampNeg ≤ n0 ∧ dp.toNatClampNeg + n.toNatClampNeg ≤ n1 then some (xm_set M a1 (.inl (0, n1, .inl (va_cpy f g sp.toNatClampNeg dp.toNatClampNeg n.toNatClampNeg)))) else none
  | _, _ => none else none
def rn_o {α : Type} (o : Option α) (f : α → Prop) : Prop := match o with
  | some v => f v
  | none => False
theorem rn_os {α : Type} (v : α) (f : α → Prop) : rn_o (some v) f = f v := rfl
theorem rn_on {α : Type} (f : α → Prop) : rn_o none f = False := rfl
section RU
variable {sc : xm_Sc} {d y pc k : Nat} {ls : xm_Ls} {st : List Value} {M : xm_M} {Q : Option Value → xm_M → Prop} {i : Instr}
theorem ru_1 {pc' : Nat} {ls' : xm_Ls} {st' : List Value} (hc : pg_code y pc = some (i, k)) (hk : k = xm_len i k) (hr : xm_ret y i st = none) (hi : xm_inv y i st M = none) (h1 : xm_s1 y pc i ls st = some (pc', ls', st')) : rn sc d y pc ls st M Q = rn sc d y pc' ls' st' M Q :=
  rn_step hc hk hr hi (q := (pc', ls', st', M)) (by simp only [xm_step, h1])
theorem ru_k {pc' : Nat} {w v : Int32} (hc : pg_code y pc = some (i, k)) (hk : k = xm_len i k) (hr : xm_ret y i st = none) (hi : xm_inv y i st M = none) (h1 : xm_s1 y pc i ls st = some (pc', ls, .int w :: st)) (hv : w = v) : rn sc d y pc ls st M Q = rn sc d y pc' ls (.int v :: st) M Q := by
  subst hv
  exact ru_1 hc hk hr hi h1
theorem ru_2 {pc' : Nat} {st' : List Value} (hc : pg_code y pc = some (i, k)) (hk : k = xm_len i k) (hr : xm_ret y i st = none) (hi : xm_inv y i st M = none) (h0 : xm_s1 y pc i ls st = none) (h1 : xm_s2 pc i st = some (pc', st')) : rn sc d y pc ls st M Q = rn sc d y pc' ls st' M Q :=
  rn_step hc hk hr hi (q := (pc', ls, st', M)) (by simp only [xm_step, h0, h1])
theorem ru_div {u v : Int32} (hc : pg_code y pc = some (.idiv, 1)) : rn sc d y pc ls (.int v :: .int u :: st) M Q = (¬ v = 0 ∧ rn sc d y (pc + 1) ls (.int (u / v) :: st) M Q) := by
  by_cases h : v = 0
  · rw [rn_none hc rfl rfl (by simp [xm_step, xm_s1, xm_s2, xm_s3, h])]
    simp [h]
  · rw [ru_1 hc rfl rfl rfl (pc' := pc + 1) (ls' := ls) (st' := .int (u / v) :: st) (by simp [xm_s1, h])]
    simp [h]
theorem ru_rem {u v : Int32} (hc : pg_code y pc = some (.irem, 1)) : rn sc d y pc ls (.int v :: .int u :: st) M Q = (¬ v = 0 ∧ rn sc d y (pc + 1) ls (.int (u - u / v * v) :: st) M Q) := by
  by_cases h : v = 0
  · rw [rn_none hc rfl rfl (by simp [xm_step, xm_s1, xm_s2, xm_s3, h])]
    simp [h]
  · rw [ru_1 hc rfl rfl rfl (pc' := pc + 1) (ls' := ls) (st' := .int (u - u / v * v) :: st) (by simp [xm_s1, h])]
    simp [h]
theorem ru_go {off : Int} {t : Nat} (hc : pg_code y pc = some (.goto off, 3)) (hj : xm_jmp pc off = some t) : rn sc d y pc ls st M Q = rn sc d y t ls st M Q := ru_2 hc rfl rfl rfl rfl (by simp [xm_s2, hj])
theorem ru_if {c : ClassFile.Cond} {off : Int} {t : Nat} {x : Int32} {P : Prop} [Decidable P] (hP : (xm_icb c x 0 = true) = P) (hc : pg_code y pc = some (.ifCond c off, 3)) (hj : xm_jmp pc off = some t) : rn sc d y pc ls (.int x :: st) M Q = if P then rn sc d y t ls st M Q else rn sc d y (pc + 3) ls st M Q := by
  rw [ru_2 hc rfl rfl rfl rfl (pc' := if xm_icb c x 0 = true then t else pc + 3) (st' := st) (by simp [xm_s2, hj])]
  by_cases h : P
  · rw [if_pos h, if_pos (hP.mpr h)]
  · rw [if_neg h, if_neg (fun q => h (hP.mp q))]
theorem ru_ic {c : ClassFile.Cond} {off : Int} {t : Nat} {u v : Int32} {P : Prop} [Decidable P] (hP : (xm_icb c u v = true) = P) (hc : pg_code y pc = some (.if_icmp c off, 3)) (hj : xm_jmp pc off = some t) : rn sc d y pc ls (.int v :: .int u :: st) M Q = if P then rn sc d y t ls st M Q else rn sc d y (pc + 3) ls st M Q := by
  rw [ru_2 hc rfl rfl rfl rfl (pc' := if xm_icb c u v = true then t else pc + 3) (st' := st) (by simp [xm_s2, hj])]
  by_cases h : P
  · rw [if_pos h, if_pos (hP.mpr h)]
  · rw [if_neg h, if_neg (fun q => h (hP.mp q))]
theorem pc_eq {u v : Int32} : (xm_icb .eq u v = true) = (u = v) := by simp [xm_icb]
theorem pc_ne {u v : Int32} : (xm_icb .ne u v = true) = (¬ u = v) := by simp [xm_icb]
theorem pc_lt {u v : Int32} : (xm_icb .lt u v = true) = (u < v) := by simp only [xm_icb, decide_eq_true_eq]
theorem pc_ge {u v : Int32} : (xm_icb .ge u v = true) = (v ≤ u) := by simp only [xm_icb, decide_eq_true_eq]
theorem pc_gt {u v : Int32} : (xm_icb .gt u v = true) = (v < u) := by simp only [xm_icb, decide_eq_true_eq]
theorem pc_le {u v : Int32} : (xm_icb .le u v = true) = (u ≤ v) := by simp only [xm_icb, decide_eq_true_eq]
theorem ru_nn {off : Int} {t a : Nat} (hc : pg_code y pc = some (.ifnonnull off, 3)) (hj : xm_jmp pc off = some t) : rn sc d y pc ls (.ref a :: st) M Q = rn sc d y t ls st M Q := ru_2 hc rfl rfl rfl rfl (by simp [xm_s2, hj])
theorem ru_nnN {off : Int} (hc : pg_code y pc = some (.ifnonnull off, 3)) : rn sc d y pc ls (.null :: st) M Q = rn sc d y (pc + 3) ls st M Q := ru_2 hc rfl rfl rfl rfl rfl
theorem ru_nu {off : Int} {a : Nat} (hc : pg_code y pc = some (.ifnull off, 3)) : rn sc d y pc ls (.ref a :: st) M Q = rn sc d y (pc + 3) ls st M Q := ru_2 hc rfl rfl rfl rfl rfl
theorem ru_nuN {off : Int} {t : Nat} (hc : pg_code y pc = some (.ifnull off, 3)) (hj : xm_jmp pc off = some t) : rn sc d y pc ls (.null :: st) M Q = rn sc d y t ls st M Q := ru_2 hc rfl rfl rfl rfl (by simp [xm_s2, hj])
/-- a switch at a value: its place by the machine's own choice -/
theorem ru_sw {x : Int32} {pc' : Nat} (hc : pg_code y pc = some (i, k)) (hk : k = xm_len i k) (hr : xm_ret y i (.int x :: st) = none) (hi : xm_inv y i (.int x :: st) M = none) (h0 : xm_s1 y pc i ls (.int x :: st) = none) (h1 : (xm_s2 pc i [.int x]).map (fun q => q.1) = some pc') (h2 : ∀ r : List Value, xm_s2 pc i (.int x :: r) = (xm_s2 pc i [.int x]).map (fun q => (q.1, r))) : rn sc d y pc ls (.int x :: st) M Q = rn sc d y pc' ls st M Q := by
  obtain ⟨q, h3, h4⟩ := Option.map_eq_some_iff.mp h1
  refine ru_2 hc hk hr hi h0 ?_
  rw [h2, h3, ← h4]
  rfl
theorem sw_t {pc : Nat} {dflt lo hi : Int} {offs : Array Int} {x : Int32} (r : List Value) : xm_s2 pc (.tableswitch dflt lo hi offs) (.int x :: r) = (xm_s2 pc (.tableswitch dflt lo hi offs) [.int x]).map (fun q => (q.1, r)) := by
  simp only [xm_s2]
  split
  · cases xm_jmp pc dflt <;> rfl
  · split
    · next off _ => cases xm_jmp pc off <;> rfl
    · rfl
theorem sw_l {pc : Nat} {dflt : Int} {ps : Array (Int × Int)} {x : Int32} (r : List Value) : xm_s2 pc (.lookupswitch dflt ps) (.int x :: r) = (xm_s2 pc (.lookupswitch dflt ps) [.int x]).map (fun q => (q.1, r)) := by
  simp only [xm_s2]
  split
  · cases xm_jmp pc (Op.lookupswitch.offset ps.toList dflt x.toInt) <;> rfl
  · rfl
theorem sw_td {pc t : Nat} {dflt lo hi : Int} {offs : Array Int} {x : Int32} (h : x.toInt < lo ∨ hi < x.toInt) (hj : xm_jmp pc dflt = some t) : (xm_s2 pc (.tableswitch dflt lo hi offs) [.int x]).map (fun q => q.1) = some t := by
  simp only [xm_s2, if_pos h, hj]
  rfl
theorem ru_3 {pc' : Nat} {st' : List Value} {M' : xm_M} (hc : pg_code y pc = some (i, k)) (hk : k = xm_len i k) (hr : xm_ret y i st = none) (hi : xm_inv y i st M = none) (h0 : xm_s1 y pc i ls st = none) (h1 : xm_s2 pc i st = none) (h2 : xm_s3 sc d y pc i st M = some (pc', st', M')) : rn sc d y pc ls st M Q = rn sc d y pc' ls st' M' Q :=
  rn_step hc hk hr hi (q := (pc', ls, st', M')) (by simp only [xm_step, h0, h1, h2])
theorem ru_3n (hc : pg_code y pc = some (i, k)) (hr : xm_ret y i st = none) (hi : xm_inv y i st M = none) (h0 : xm_s1 y pc i ls st = none) (h1 : xm_s2 pc i st = none) (h2 : xm_s3 sc d y pc i st M = none) : rn sc d y pc ls st M Q = False :=
  rn_none hc hr hi (by simp only [xm_step, h0, h1, h2])
theorem ru_get {x a ci fk : Nat} {h : Option String} (hc : pg_code y pc = some (.getfield x, 3)) (hf : pg_f y x = some (ci, fk, h)) : rn sc d y pc ls (.ref a :: st) M Q = rn_o (hp_f M a ci fk) (fun v => rn sc d y (pc + 3) ls (v :: st) M Q) := by
  cases e : hp_f M a ci fk with
  | none =>
    refine ru_3n hc rfl rfl rfl rfl ?_
    unfold hp_f at e
    simp only [xm_s3, hf]
    rcases hM : M.2.2 a with _ | (o | ⟨cj, fs⟩)
    · rfl
    · rfl
    · rw [hM] at e
      dsimp only at e ⊢
      by_cases q : cj = ci
      · rw [if_pos q] at e ⊢
        rw [e]
      · rw [if_neg q]
  | some v =>
    refine ru_3 hc rfl rfl rfl rfl rfl ?_
    unfold hp_f at e
    simp only [xm_s3, hf]
    rcases hM : M.2.2 a with _ | (o | ⟨cj, fs⟩)
    · rw [hM] at e; cases e
    · rw [hM] at e; cases e
    · rw [hM] at e
      dsimp only at e ⊢
      by_cases q : cj = ci
      · rw [if_pos q] at e ⊢
        rw [e]
      · rw [if_neg q] at e; cases e
theorem ru_put {x a ci fk : Nat} {h : Option String} {v : Value} (hc : pg_code y pc = some (.putfield x, 3)) (hf : pg_f y x = some (ci, fk, h)) (hp : pg_pok y ci fk h = true) : rn sc d y pc ls (v :: .ref a :: st) M Q = rn_o (hp_pf M a ci fk v) (fun M' => rn sc d y (pc + 3) ls st M' Q) := by
  cases e : hp_pf M a ci fk v with
  | none =>
    refine ru_3n hc rfl rfl rfl rfl ?_
    unfold hp_pf at e
    simp only [xm_s3, hf]
    rcases hM : M.2.2 a with _ | (o | ⟨cj, fs⟩)
    · rfl
    · rfl
    · rw [hM] at e
      dsimp only at e ⊢
      rw [if_neg]
      intro z
      rw [if_pos ⟨z.1, z.2.2.1, z.2.2.2.1, z.2.2.2.2⟩] at e
      cases e
  | some M' =>
    refine ru_3 hc rfl rfl rfl rfl rfl ?_
    unfold hp_pf at e
    simp only [xm_s3, hf]
    rcases hM : M.2.2 a with _ | (o | ⟨cj, fs⟩)
    · rw [hM] at e; cases e
    · rw [hM] at e; cases e
    · rw [hM] at e
      dsimp only at e ⊢
      by_cases q : cj = ci ∧ narrow (pg_ft ci fk) v = v ∧ fits (pg_ft ci fk) v = true ∧ fk < fs.length
      · rw [if_pos q] at e
        rw [if_pos ⟨q.1, hp, q.2⟩]
        cases e
        rfl
      · rw [if_neg q] at e; cases e
theorem ru_iald {a : Nat} {j : Int32} (hc : pg_code y pc = some (.iaload, 1)) : rn sc d y pc ls (.int j :: .ref a :: st) M Q = rn_o (hp_i sc M a j) (fun v => rn sc d y (pc + 1) ls (.int v :: st) M Q) := by
  cases e : hp_i sc M a j with
  | none =>
    refine ru_3n hc rfl rfl rfl rfl ?_
    unfold hp_i at e
    simp only [xm_s3]
    split at e <;> (try split at e) <;> (try split at e) <;> simp_all
  | some v =>
    refine ru_3 hc rfl rfl rfl rfl rfl ?_
    unfold hp_i at e
    simp only [xm_s3]
    split at e <;> (try split at e) <;> (try split at e) <;> simp_all
theorem ru_iast {a : Nat} {j x : Int32} (hc : pg_code y pc = some (.iastore, 1)) : rn sc d y pc ls (.int x :: .int j :: .ref a :: st) M Q = rn_o (hp_pi M a j x) (fun M' => rn sc d y (pc + 1) ls st M' Q) := by
  cases e : hp_pi M a j x with
  | none =>
    refine ru_3n hc rfl rfl rfl rfl ?_
    unfold hp_pi at e
    simp only [xm_s3]
    split at e <;> (try split at e) <;> (try split at e) <;> simp_all
  | some v =>
    refine ru_3 hc rfl rfl rfl rfl rfl ?_
    unfold hp_pi at e
    simp only [xm_s3]
    split at e <;> (try split at e) <;> (try split at e) <;> simp_all
theorem ru_bald {a : Nat} {j : Int32} (hc : pg_code y pc = some (.baload, 1)) : rn sc d y pc ls (.int j :: .ref a :: st) M Q = rn_o (hp_b M a j) (fun v => rn sc d y (pc + 1) ls (.int v :: st) M Q) := by
  cases e : hp_b M a j with
  | none =>
    refine ru_3n hc rfl rfl rfl rfl ?_
    unfold hp_b at e
    simp only [xm_s3]
    split at e <;> (try split at e) <;> (try split at e) <;> simp_all
  | some v =>
    refine ru_3 hc rfl rfl rfl rfl rfl ?_
    unfold hp_b at e
    simp only [xm_s3]
    split at e <;> (try split at e) <;> (try split at e) <;> simp_all
theorem ru_bast {a : Nat} {j x : Int32} (hc : pg_code y pc = some (.bastore, 1)) : rn sc d y pc ls (.int x :: .int j :: .ref a :: st) M Q = rn_o (hp_pb M a j x) (fun M' => rn sc d y (pc + 1) ls st M' Q) := by
  cases e : hp_pb M a j x with
  | none =>
    refine ru_3n hc rfl rfl rfl rfl ?_
    unfold hp_pb at e
    simp only [xm_s3]
    split at e
    · next t n f q =>
      rw [q]
      dsimp only
      by_cases h1 : j < 0 ∨ n ≤ j.toNatClampNeg
      · rw [if_pos h1]
      · rw [if_neg h1] at e ⊢
        by_cases h2 : t = 1
        · rw [if_pos h2] at e; cases e
        · rw [if_neg h2] at e ⊢
          by_cases h3 : t = 2
          · rw [if_pos h3] at e; cases e
          · rw [if_neg h3]
    · next hno =>
      split
      · next t n f q => exact absurd q (hno t n f)
      · rfl
  | some M' =>
    refine ru_3 hc rfl rfl rfl rfl rfl ?_
    unfold hp_pb at e
    simp only [xm_s3]
    split at e
    · next t n f q =>
      rw [q]
      dsimp only
      by_cases h1 : j < 0 ∨ n ≤ j.toNatClampNeg
      · rw [if_pos h1] at e; cases e
      · rw [if_neg h1] at e ⊢
        by_cases h2 : t = 1
        · rw [if_pos h2] at e ⊢; cases e; rfl
        · rw [if_neg h2] at e ⊢
          by_cases h3 : t = 2
          · rw [if_pos h3] at e ⊢; cases e; rfl
          · rw [if_neg h3] at e; cases e
    · cases e
theorem ru_aald {a : Nat} {j : Int32} (hc : pg_code y pc = some (.aaload, 1)) : rn sc d y pc ls (.int j :: .ref a :: st) M Q = rn_o (hp_q M a j) (fun v => rn sc d y (pc + 1) ls (v :: st) M Q) := by
  cases e : hp_q M a j with
  | none =>
    refine ru_3n hc rfl rfl rfl rfl ?_
    unfold hp_q at e
    simp only [xm_s3]
    split at e
    · next t n f q =>
      rw [q]
      dsimp only
      by_cases h2 : 3 ≤ t ∧ t < pg_at.length
      · rw [if_pos h2] at e ⊢
        by_cases h1 : j < 0 ∨ n ≤ j.toNatClampNeg
        · rw [if_pos h1]
        · rw [if_neg h1] at e; cases e
      · rw [if_neg h2]
    · next hno =>
      split
      · next t n f q => exact absurd q (hno t n f)
      · rfl
  | some v =>
    refine ru_3 hc rfl rfl rfl rfl rfl ?_
    unfold hp_q at e
    simp only [xm_s3]
    split at e
    · next t n f q =>
      rw [q]
      dsimp only
      by_cases h2 : 3 ≤ t ∧ t < pg_at.length
      · rw [if_pos h2] at e ⊢
        by_cases h1 : j < 0 ∨ n ≤ j.toNatClampNeg
        · rw [if_pos h1] at e; cases e
        · rw [if_neg h1] at e ⊢; cases e; rfl
      · rw [if_neg h2] at e; cases e
    · cases e
theorem ru_aast {a v : Nat} {j : Int32} (hc : pg_code y pc = some (.aastore, 1)) : rn sc d y pc ls (.ref v :: .int j :: .ref a :: st) M Q = rn_o (hp_pq M a j v) (fun M' => rn sc d y (pc + 1) ls st M' Q) := by
  cases e : hp_pq M a j v with
  | none =>
    refine ru_3n hc rfl rfl rfl rfl ?_
    unfold hp_pq at e
    simp only [xm_s3]
    split at e <;> (try split at e) <;> (try split at e) <;> (try split at e) <;> simp_all
  | some M' =>
    refine ru_3 hc rfl rfl rfl rfl rfl ?_
    unfold hp_pq at e
    simp only [xm_s3]
    split at e <;> (try split at e) <;> (try split at e) <;> (try split at e) <;> simp_all
theorem ru_alen {a : Nat} (hc : pg_code y pc = some (.arraylength, 1)) : rn sc d y pc ls (.ref a :: st) M Q = rn_o (hp_len sc M a) (fun n => rn sc d y (pc + 1) ls (.int (Int32.ofNat n) :: st) M Q) := by
  cases e : hp_len sc M a with
  | none =>
    refine ru_3n hc rfl rfl rfl rfl ?_
    unfold hp_len at e
    simp only [xm_s3]
    split at e <;> (try split at e) <;> simp_all
  | some v =>
    refine ru_3 hc rfl rfl rfl rfl rfl ?_
    unfold hp_len at e
    simp only [xm_s3]
    split at e <;> (try split at e) <;> simp_all
theorem ru_new {x ci : Nat} {q : vw_C} (hc : pg_code y pc = some (.new x, 3)) (h1 : pg_c y x = some ci) (h2 : classes[ci]? = some q) : rn sc d y pc ls st M Q = rn sc d y (pc + 3) ls (.ref M.1 :: st) (xm_new M q.2.2 (.inr (ci, (List.range q.2.2).map (fun k => defaultValue (pg_ft ci k))))) Q :=
  ru_3 hc rfl rfl rfl rfl rfl (by simp only [xm_s3, h1, h2])
theorem ru_newi {j : Int32} (hc : pg_code y pc = some (.newarray .int, 2)) (h1 : ¬ j < 0 ∧ j.toNatClampNeg ≤ 100000) : rn sc d y pc ls (.int j :: st) M Q = rn sc d y (pc + 2) ls (.ref M.1 :: st) (xm_new M j.toNatClampNeg (.inl (0, j.toNatClampNeg, .inl (fun _ => 0)))) Q :=
  ru_3 hc rfl rfl rfl rfl rfl (by simp only [xm_s3, if_pos h1])
theorem ru_newb {j : Int32} (hc : pg_code y pc = some (.newarray .byte, 2)) (h1 : ¬ j < 0 ∧ j.toNatClampNeg ≤ 100000) : rn sc d y pc ls (.int j :: st) M Q = rn sc d y (pc + 2) ls (.ref M.1 :: st) (xm_new M j.toNatClampNeg (.inl (1, j.toNatClampNeg, .inl (fun _ => 0)))) Q :=
  ru_3 hc rfl rfl rfl rfl rfl (by simp only [xm_s3, if_pos h1])
theorem ru_newz {j : Int32} (hc : pg_code y pc = some (.newarray .boolean, 2)) (h1 : ¬ j < 0 ∧ j.toNatClampNeg ≤ 100000) : rn sc d y pc ls (.int j :: st) M Q = rn sc d y (pc + 2) ls (.ref M.1 :: st) (xm_new M j.toNatClampNeg (.inl (2, j.toNatClampNeg, .inl (fun _ => 0)))) Q :=
  ru_3 hc rfl rfl rfl rfl rfl (by simp only [xm_s3, if_pos h1])
theorem ru_newq {j : Int32} {x t : Nat} (hc : pg_code y pc = some (.anewarray x, 3)) (h2 : pg_a y x = some t) (h1 : ¬ j < 0 ∧ j.toNatClampNeg ≤ 100000) : rn sc d y pc ls (.int j :: st) M Q = rn sc d y (pc + 3) ls (.ref M.1 :: st) (xm_new M j.toNatClampNeg (.inl (t, j.toNatClampNeg, .inr (.inr (.inr (.inr (fun _ => none))))))) Q :=
  ru_3 hc rfl rfl rfl rfl rfl (by simp only [xm_s3, h2, if_pos h1])
theorem ru_oi {x a : Nat} (hc : pg_code y pc = some (.invokespecial x, 3)) (h0 : pg_i y x = none) (h1 : pg_o y x = true) : rn sc d y pc ls (.ref a :: st) M Q = ((0 < d ∧ xm_wt st ≤ 8) ∧ rn sc d y (pc + 3) ls st M Q) := by
  by_cases h : 0 < d ∧ xm_wt st ≤ 8
  · rw [ru_3 hc rfl rfl (by simp [xm_inv, h0]) rfl rfl (pc' := pc + 3) (st' := st) (M' := M) (by simp [xm_s3, h1, h])]
    simp [h]
  · rw [ru_3n hc rfl (by simp [xm_inv, h0]) rfl rfl (by simp only [xm_s3, h1, true_and]; rw [if_neg h])]
    simp [h]
theorem ru_cp {x a0 a1 : Nat} {sp dp n : Int32} (hc : pg_code y pc = some (.invokestatic x, 3)) (h0 : pg_i y x = none) (h1 : pg_ac y x = true) (hd : 0 < d) (hw : xm_wt st ≤ 8) {M' : xm_M} (e : hp_cp M a0 sp a1 dp n = some M') : rn sc d y pc ls (.int n :: .int dp :: .ref a1 :: .int sp :: .ref a0 :: st) M Q = rn sc d y (pc + 3) ls st M' Q := by
  refine ru_3 hc rfl rfl (by simp [xm_inv, h0]) rfl rfl ?_
  unfold hp_cp at e
  by_cases h : ¬ sp < 0 ∧ ¬ dp < 0 ∧ ¬ n < 0
  · rw [if_pos h] at e
    simp only [xm_s3]
    rw [if_pos ⟨h1, hd, hw, h⟩]
    split at e
    · next t0 n0 f t1 n1 g q0 q1 =>
      rw [q0, q1]
      dsimp only
      split at e
      · next q => rw [if_pos q]; cases e; rfl
      · cases e
    · cases e
  · rw [if_neg h] at e; cases e
theorem xm_allr {a : Nat} {as : List Value} (ha : (as.all fun v => v.category == 1) = true) : ((Value.ref a :: as.reverse).all fun v => v.category == 1) = true := by
  rw [List.all_cons, List.all_reverse, ha]
  rfl
theorem ru_iv {x z n ci a : Nat} {h : Option String} {as : List Value} (hc : pg_code y pc = some (.invokevirtual x, 3)) (hi : pg_i y x = some (z, n, h, ci, 0)) (hn : as.length = n) (hl : as.length + 1 ≤ pg_l z) (hw : xm_wt st ≤ 8) (ha : (as.all fun v => v.category == 1) = true) (hq : hp_is M a ci) : rn sc d y pc ls (as ++ .ref a :: st) M Q = (0 < d ∧ rn sc (d - 1) z 0 (xm_entry z (.ref a :: as.reverse)) [] M (fun r M' => rn sc d y (pc + 3) ls (r.toList ++ st) M' Q)) := by
  have e1 : (as ++ Value.ref a :: st).drop n = .ref a :: st := by rw [← hn]; simp
  have e2 : (as ++ Value.ref a :: st).take n = as := by rw [← hn]; simp
  obtain ⟨fs, hfs⟩ := id hq
  have hinv : xm_inv y (.invokevirtual x) (as ++ .ref a :: st) M = some (z, .ref a :: as.reverse, st) := by
    simp only [xm_inv, hi, e1, e2, hfs, hn, and_self, if_true]
  exact rn_call hc rfl rfl hinv hw (by simp; omega) (xm_allr ha)
theorem ru_is {x z n ci a : Nat} {h : Option String} {as : List Value} (hc : pg_code y pc = some (.invokespecial x, 3)) (hi : pg_i y x = some (z, n, h, ci, 1)) (hn : as.length = n) (hl : as.length + 1 ≤ pg_l z) (hw : xm_wt st ≤ 8) (ha : (as.all fun v => v.category == 1) = true) : rn sc d y pc ls (as ++ .ref a :: st) M Q = (0 < d ∧ rn sc (d - 1) z 0 (xm_entry z (.ref a :: as.reverse)) [] M (fun r M' => rn sc d y (pc + 3) ls (r.toList ++ st) M' Q)) := by
  have e1 : (as ++ Value.ref a :: st).drop n = .ref a :: st := by rw [← hn]; simp
  have e2 : (as ++ Value.ref a :: st).take n = as := by rw [← hn]; simp
  have hinv : xm_inv y (.invokespecial x) (as ++ .ref a :: st) M = some (z, .ref a :: as.reverse, st) := by
    simp only [xm_inv, hi, e1, e2, hn, and_self, if_true]
  exact rn_call hc rfl rfl hinv hw (by simp; omega) (xm_allr ha)
theorem ru_st {x z n ci : Nat} {h : Option String} {as : List Value} (hc : pg_code y pc = some (.invokestatic x, 3)) (hi : pg_i y x = some (z, n, h, ci, 2)) (hn : as.length = n) (hl : as.length ≤ pg_l z) (hw : xm_wt st ≤ 8) (ha : (as.all fun v => v.category == 1) = true) : rn sc d y pc ls (as ++ st) M Q = (0 < d ∧ rn sc (d - 1) z 0 (xm_entry z as.reverse) [] M (fun r M' => rn sc d y (pc + 3) ls (r.toList ++ st) M' Q)) := by
  have e1 : (as ++ st).drop n = st := by rw [← hn]; simp
  have e2 : (as ++ st).take n = as := by rw [← hn]; simp
  have hinv : xm_inv y (.invokestatic x) (as ++ st) M = some (z, as.reverse, st) := by
    simp only [xm_inv, hi, e1, e2, hn, and_self, if_true]
  exact rn_call hc rfl rfl hinv hw (by simp; omega) (by rw [List.all_reverse]; exact ha)
end RU
end
