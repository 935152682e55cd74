set_option maxHeartbeats 4000000 in
set_option maxRecDepth 100000 in
theorem zz_start {p : Program} {s : State} {m : MethodId} {meth : Method} {c : Code} {b L : Nat} {xs : Nat → Int32} (C0 : lw_At p s m meth c b L xs) : ∃ g : gG, ZZ g s ∧ gN0 g = s.heap.size ∧ ∀ k, gcn g k = 0 := by
  obtain ⟨hx, hb, hr, hml, hown, hts, hX, hbl, hlocks, hgv⟩ := C0
  have hq := flat_of_before _ hgv
  have hA : ∀ a : Nat, a < s.heap.size → ¬ (fun q : Nat => s.heap.size ≤ q) a := fun a h => Nat.not_le.mpr h
  obtain ⟨c0, i0, hK0⟩ := u_known (C := RJx4a65c) (T := TJx4a65c) (N := 3) (n := 3) hts inJx4a65c (hts (.instantiable RJx4a65c 3) (by decide +kernel))
  obtain ⟨c1, i1, hK1⟩ := u_known (C := RX0) (T := TX0) (N := 9) (n := 9) hts inX0 (hts (.instantiable RX0 9) (by decide +kernel))
  obtain ⟨c2, i2, hK2⟩ := u_known (C := RX1) (T := TX1) (N := 15) (n := 15) hts inX1 (hts (.instantiable RX1 15) (by decide +kernel))
  obtain ⟨c3, i3, hK3⟩ := u_known (C := RX2) (T := TX2) (N := 7) (n := 7) hts inX2 (hts (.instantiable RX2 7) (by decide +kernel))
  obtain ⟨c4, i4, hK4⟩ := u_known (C := RX3) (T := TX3) (N := 11) (n := 11) hts inX3 (hts (.instantiable RX3 11) (by decide +kernel))
  obtain ⟨cI, aI, nmI⟩ := zz_arr (ty := .int) (hts (.arrayClass .int) (by decide +kernel)) (fun n z c k comp h1 h2 => ⟨fun k h => (by cases h), k, h1, comp, h2⟩)
  obtain ⟨cB, aB, nmB⟩ := zz_arr (ty := .boolean) (hts (.arrayClass .boolean) (by decide +kernel)) (fun n z c k comp h1 h2 => ⟨fun k h => (by cases h), k, h1, comp, h2⟩)
  obtain ⟨comp, cO, kO, f1, -, f3, f4, f5⟩ := Cond.arrayOver_spec (args := #[Value.ref b]) (first := s) (o := none) (s := s) (idx := []) (n := "java/lang/Object") (hts (.arrayOver (.object "java/lang/Object")) (by decide +kernel))
  have hoI := hts (.arrayOver (.array .int)) (by decide +kernel)
  have hoB := hts (.arrayOver (.array .boolean)) (by decide +kernel)
  obtain ⟨compI, cIA, kIA, i1', -, i3', i4', i5'⟩ := arrayOverA_spec hoI
  obtain ⟨compB, cBA, kBA, b1', -, b3', b4', b5'⟩ := arrayOverA_spec hoB
  obtain ⟨mi, hMi⟩ := va_Mi.of (hq (.isRef (.mirror "[Ljava/lang/Object;")) (by decide +kernel))
  obtain ⟨em, hem, hT0⟩ := va_Tof (tm := .static "java/util/ArrayList" "DEFAULTCAPACITY_EMPTY_ELEMENTDATA" "[Ljava/lang/Object;") (ty := .object "java/lang/Object") (N := 0) (f := fun _ => .null) (A := fun q : Nat => s.heap.size ≤ q) (by decide) (hq (.arrayOf (.static "java/util/ArrayList" "DEFAULTCAPACITY_EMPTY_ELEMENTDATA" "[Ljava/lang/Object;") (.object "java/lang/Object")) (by decide +kernel)) (va_eqt (hq (.eq (.length (.static "java/util/ArrayList" "DEFAULTCAPACITY_EMPTY_ELEMENTDATA" "[Ljava/lang/Object;")) (.int 0)) (by decide +kernel))) (fun j hj => absurd hj (Nat.not_lt_zero j)) hA
  have hZd := va_Zref (A := fun q : Nat => s.heap.size ≤ q) (hts (.laysStatic "java/util/ArrayList" "DEFAULTCAPACITY_EMPTY_ELEMENTDATA" "[Ljava/lang/Object;") (by decide +kernel)) (hts (.initialized "java/util/ArrayList") (by decide +kernel)) hem hA
  have hU := vx_Zqof (A := fun q : Nat => s.heap.size ≤ q) (hts (.laysStatic Bundle.tN "UNASSIGNED_STACK" Bundle.steD) (by decide +kernel)) (hts (.initialized Bundle.tN) (by decide +kernel)) (hq (.isRef (.static Bundle.tN "UNASSIGNED_STACK" Bundle.steD)) (by decide +kernel)) hA
  have hV := vx_Zqof (A := fun q : Nat => s.heap.size ≤ q) (hts (.laysStatic Bundle.tN "SUPPRESSED_SENTINEL" Bundle.listD) (by decide +kernel)) (hts (.initialized Bundle.tN) (by decide +kernel)) (hq (.isRef (.static Bundle.tN "SUPPRESSED_SENTINEL" Bundle.listD)) (by decide +kernel)) hA
  have lay : ∀ (C : String) (T : u_T) (N : Nat), (∀ w ∈ u_ws C T N, w ∈ lw_tbl) → ∀ w ∈ u_ws C T N, w.before #[] s = true := fun C T N h w hw => by
    refine va_any ?_ (hts w (h w hw))
    obtain ⟨j, -, rfl⟩ := List.mem_map.mp hw
    unfold u_lay
    split <;> rfl
  have hcl : ∀ (k : Nat) (q : vw_C), vwCl[k]? = some q → u_Kn s q.1 q.2.1 q.2.2 ((fun k => if k = 0 then c0 else if k = 1 then c1 else if k = 2 then c2 else if k = 3 then c3 else c4) k) ((fun k => if k = 0 then i0 else if k = 1 then i1 else if k = 2 then i2 else if k = 3 then i3 else i4) k) := by
    intro k q hk
    match k, hk with
    | 0, hk => cases hk; exact hK0
    | 1, hk => cases hk; exact hK1
    | 2, hk => cases hk; exact hK2
    | 3, hk => cases hk; exact hK3
    | 4, hk => cases hk; exact hK4
    | k + 5, hk => simp [vwCl] at hk
  have harr : ∀ (k : Nat) (q : ClassId × FieldType), ([(cI, .int), (cO, .object "java/lang/Object"), (cIA, .array .int), (cB, .boolean), (cBA, .array .boolean)] : List (ClassId × FieldType))[k]? = some q → ArrOfT s q.1 q.2 ∧ va_RA s q.1 q.2 := by
    intro k q hk
    match k, hk with
    | 0, hk => cases hk; exact ⟨aI, nmI⟩
    | 1, hk => cases hk; exact ⟨fun N z => ⟨fun k h => (by cases h), kO, f3, comp, f4⟩, kO, comp, f3, f4, f1, f5⟩
    | 2, hk => cases hk; exact ⟨fun N z => ⟨fun k h => (by cases h), kIA, i3', compI, i4'⟩, i5'⟩
    | 3, hk => cases hk; exact ⟨aB, nmB⟩
    | 4, hk => cases hk; exact ⟨fun N z => ⟨fun k h => (by cases h), kBA, b3', compB, b4'⟩, b5'⟩
    | k + 5, hk => simp at hk
  refine ⟨((fun k => if k = 0 then c0 else if k = 1 then c1 else if k = 2 then c2 else if k = 3 then c3 else c4, fun k => if k = 0 then i0 else if k = 1 then i1 else if k = 2 then i2 else if k = 3 then i3 else i4), (cI, cO, cIA, cB, cBA), (s.heap.size, em, mi), fun _ _ => 0, fun _ => 0, fun _ _ => 0), ⟨⟨hcl, harr⟩, ?_, hU, hV, fun q h => ?_, fun q h => va_Nw.of rfl (hts _ (zz_cs q h)), fun q h => va_Nc.of (hq _ (zz_nt q h)), hZd, hT0, hMi, va_Dc.of (hts _ (by decide +kernel)), va_AO.of (hts _ (by decide +kernel)), fun q h => va_Nw.of rfl (hts _ (zz_dc q h)), Nat.le_refl _, gAOA.of hoI, gAOA.of hoB⟩, rfl, fun _ => rfl⟩
  · exact gob_c (P := fun k => ∀ w ∈ u_ws (gC k) (gT k) (gNf k), w.before #[] s = true) (lay _ _ _ inX2) (lay _ _ _ inJx4a65c) (lay _ _ _ inJx4a65c) (lay _ _ _ inX0) (lay _ _ _ inX1) (lay _ _ _ inX3)
  · exact zz_str (hts _ (zz_st q h)) (hq _ (zz_se q h))
