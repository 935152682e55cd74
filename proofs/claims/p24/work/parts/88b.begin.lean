theorem zz_str {A : Array Value} {s : State} {own tx : String} {k : Nat} (h1 : (Cond.stringRef own k tx).before A s = true) (h2 : (Cond.exactly (Term.string own k) "java/lang/String").before A s = true) : ∃ a : Nat, vk_R own k tx a s := by
  obtain ⟨a, c, cA, kA, q1, -⟩ := Cond.exactly_spec (args := A) (first := s) (o := none) (s := s) (idx := []) (t := Term.string own k) (cls := "java/lang/String") h2
  exact ⟨a, vk_R.of h1 q1⟩
theorem zz_arr {A : Array Value} {s : State} {ty : FieldType} (h : (Cond.arrayClass ty).before A s = true) (hp : ∀ (n : Nat) (z : Nat → Value) (c : ClassId) (k : Class) (comp : ClassId), s.vm.classes[c]? = some k → k.kind = .array comp ty → s.isArrayOf (arrV c n z) ty) : ∃ c : ClassId, ArrOfT s c ty ∧ s.vm.findClass ("[" ++ ty.toString) = some c := by
  obtain ⟨c, k, comp, h1, h2, h3⟩ := Cond.arrayClass_spec (args := A) (first := s) (o := none) (s := s) (idx := []) (type := ty) h
  exact ⟨c, fun n z => hp n z c k comp h2 h3, h1⟩
theorem zz_cs : ∀ q ∈ gCasts, Cond.castable q.1 q.2 ∈ lw_tbl := by decide +kernel
theorem zz_st : ∀ q ∈ gStrs, Cond.stringRef "TaxiRank" q.1 q.2 ∈ lw_tbl := by decide +kernel
theorem zz_dc : ∀ q ∈ gDecl, Cond.declares (Bundle.initS q) ∈ lw_tbl := by decide +kernel
theorem zz_se : ∀ q ∈ gStrs, Cond.exactly (Term.string "TaxiRank" q.1) "java/lang/String" ∈ flatC (Jvm.Cond.and given_1 narrow_1) := by decide +kernel
theorem zz_nt : ∀ q ∈ gNot, Cond.not (Cond.castable q.1 q.2) ∈ flatC (Jvm.Cond.and given_1 narrow_1) := by decide +kernel
