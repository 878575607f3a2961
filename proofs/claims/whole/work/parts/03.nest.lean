abbrev nlX3_size : Cond := .fieldLinkNest "PairThreads" 34 "PairThreads$Threads" "size" "I" "PairThreads"
abbrev nlX3_number : Cond := .fieldLinkNest "PairThreads" 57 "PairThreads$Threads" "number" "[[I" "PairThreads"
abbrev nlX3_order : Cond := .fieldLinkNest "PairThreads" 67 "PairThreads$Threads" "order" "[I" "PairThreads"
abbrev nlX0_size : Cond := .fieldLinkNest "PairThreads$Matching" 37 "PairThreads$Threads" "size" "I" "PairThreads"
abbrev nlX0_order : Cond := .fieldLinkNest "PairThreads$Matching" 47 "PairThreads$Threads" "order" "[I" "PairThreads"
abbrev nlX0_before : Cond := .fieldLinkNest "PairThreads$Matching" 50 "PairThreads$Threads" "before" "[[I" "PairThreads"
abbrev nlX0_after : Cond := .fieldLinkNest "PairThreads$Matching" 85 "PairThreads$Threads" "after" "[[I" "PairThreads"
abbrev nlX1_number : Cond := .fieldLinkNest "PairThreads$Spread" 31 "PairThreads$Threads" "number" "[[I" "PairThreads"
abbrev nlX1_size : Cond := .fieldLinkNest "PairThreads$Spread" 39 "PairThreads$Threads" "size" "I" "PairThreads"
abbrev nlX1_order : Cond := .fieldLinkNest "PairThreads$Spread" 42 "PairThreads$Threads" "order" "[I" "PairThreads"
abbrev nlX1_after : Cond := .fieldLinkNest "PairThreads$Spread" 69 "PairThreads$Threads" "after" "[[I" "PairThreads"
abbrev nmX3_X1 : Cond := .methodLinkNest "PairThreads" 18 ⟨"PairThreads$Spread", "<init>", "()V"⟩ "PairThreads"
abbrev nmX3_X0 : Cond := .methodLinkNest "PairThreads" 25 ⟨"PairThreads$Matching", "<init>", "()V"⟩ "PairThreads"
/-- the links to private fields and constructors of nest mates -/
def nst (U : State) : Prop := va_Nw nlX3_size U ∧ va_Nw nlX3_number U ∧ va_Nw nlX3_order U ∧ va_Nw nlX0_size U ∧ va_Nw nlX0_order U ∧ va_Nw nlX0_before U ∧ va_Nw nlX0_after U ∧ va_Nw nlX1_number U ∧ va_Nw nlX1_size U ∧ va_Nw nlX1_order U ∧ va_Nw nlX1_after U ∧ va_Nw nmX3_X1 U ∧ va_Nw nmX3_X0 U
theorem nst.warm {s U : State} (hW : s.WarmedH U.vm) (h : nst s) : nst U := by
  obtain ⟨h0, h1, h2, h3, h4, h5, h6, h7, h8, h9, h10, h11, h12⟩ := h
  exact ⟨va_Nw.warmF hW h0, va_Nw.warmF hW h1, va_Nw.warmF hW h2, va_Nw.warmF hW h3, va_Nw.warmF hW h4, va_Nw.warmF hW h5, va_Nw.warmF hW h6, va_Nw.warmF hW h7, va_Nw.warmF hW h8, va_Nw.warmF hW h9, va_Nw.warmF hW h10, va_Nw.warmM hW h11, va_Nw.warmM hW h12⟩
theorem nst.same {u U : State} (hv : u.vm = U.vm) (h : nst u) : nst U := by
  obtain ⟨h0, h1, h2, h3, h4, h5, h6, h7, h8, h9, h10, h11, h12⟩ := h
  exact ⟨va_Nw.same rfl hv h0, va_Nw.same rfl hv h1, va_Nw.same rfl hv h2, va_Nw.same rfl hv h3, va_Nw.same rfl hv h4, va_Nw.same rfl hv h5, va_Nw.same rfl hv h6, va_Nw.same rfl hv h7, va_Nw.same rfl hv h8, va_Nw.same rfl hv h9, va_Nw.same rfl hv h10, va_Nw.same rfl hv h11, va_Nw.same rfl hv h12⟩
theorem nst.of {A : Array Value} {s : State} (hts : ∀ w ∈ lw_tbl, w.before A s = true) : nst s :=
  ⟨va_Nw.of rfl (hts nlX3_size (by decide +kernel)), va_Nw.of rfl (hts nlX3_number (by decide +kernel)), va_Nw.of rfl (hts nlX3_order (by decide +kernel)), va_Nw.of rfl (hts nlX0_size (by decide +kernel)), va_Nw.of rfl (hts nlX0_order (by decide +kernel)), va_Nw.of rfl (hts nlX0_before (by decide +kernel)), va_Nw.of rfl (hts nlX0_after (by decide +kernel)), va_Nw.of rfl (hts nlX1_number (by decide +kernel)), va_Nw.of rfl (hts nlX1_size (by decide +kernel)), va_Nw.of rfl (hts nlX1_order (by decide +kernel)), va_Nw.of rfl (hts nlX1_after (by decide +kernel)), va_Nw.of rfl (hts nmX3_X1 (by decide +kernel)), va_Nw.of rfl (hts nmX3_X0 (by decide +kernel))⟩
theorem nst.nlX3_size {A : Array Value} {U : State} (h : nst U) : (nlX3_size).before A U = true := va_Nw.use rfl (h.1)
theorem nst.nlX3_number {A : Array Value} {U : State} (h : nst U) : (nlX3_number).before A U = true := va_Nw.use rfl (h.2.1)
theorem nst.nlX3_order {A : Array Value} {U : State} (h : nst U) : (nlX3_order).before A U = true := va_Nw.use rfl (h.2.2.1)
theorem nst.nlX0_size {A : Array Value} {U : State} (h : nst U) : (nlX0_size).before A U = true := va_Nw.use rfl (h.2.2.2.1)
theorem nst.nlX0_order {A : Array Value} {U : State} (h : nst U) : (nlX0_order).before A U = true := va_Nw.use rfl (h.2.2.2.2.1)
theorem nst.nlX0_before {A : Array Value} {U : State} (h : nst U) : (nlX0_before).before A U = true := va_Nw.use rfl (h.2.2.2.2.2.1)
theorem nst.nlX0_after {A : Array Value} {U : State} (h : nst U) : (nlX0_after).before A U = true := va_Nw.use rfl (h.2.2.2.2.2.2.1)
theorem nst.nlX1_number {A : Array Value} {U : State} (h : nst U) : (nlX1_number).before A U = true := va_Nw.use rfl (h.2.2.2.2.2.2.2.1)
theorem nst.nlX1_size {A : Array Value} {U : State} (h : nst U) : (nlX1_size).before A U = true := va_Nw.use rfl (h.2.2.2.2.2.2.2.2.1)
theorem nst.nlX1_order {A : Array Value} {U : State} (h : nst U) : (nlX1_order).before A U = true := va_Nw.use rfl (h.2.2.2.2.2.2.2.2.2.1)
theorem nst.nlX1_after {A : Array Value} {U : State} (h : nst U) : (nlX1_after).before A U = true := va_Nw.use rfl (h.2.2.2.2.2.2.2.2.2.2.1)
theorem nst.nmX3_X1 {A : Array Value} {U : State} (h : nst U) : (nmX3_X1).before A U = true := va_Nw.use rfl (h.2.2.2.2.2.2.2.2.2.2.2.1)
theorem nst.nmX3_X0 {A : Array Value} {U : State} (h : nst U) : (nmX3_X0).before A U = true := va_Nw.use rfl (h.2.2.2.2.2.2.2.2.2.2.2.2)
