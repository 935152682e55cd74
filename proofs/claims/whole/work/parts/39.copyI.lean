def gCop (σ : Mem) (i0 i1 sp dp n : Nat) : Mem := fun k i f => if k = 9 ∧ i = i1 ∧ dp ≤ f ∧ f < dp + n then σ 9 i0 (sp + (f - dp)) else σ k i f
section GCOP
variable {p : Program} {l : Launch} {e : Env} {R : Room} {s : State} {m : MethodId} {args : Array Value} {below : List Frame} {meth : Method} {c : Code} {H : Heap} {locs : List Loc} {cells slots : Nat} {Q : State → Prop}
variable {cc : ByteArray} {pc : Nat} {ls : Array Slot} {rest : List Value} {g : gG} {σ : Mem} {w : Int64}
/-- whole numbers copied from one of the model's rows into another -/
theorem gx_copyI (hexec : p.tables.exec = Jvm.exec) (hb : c.code = cc) (hml : c.maxLocals = ls.size) {own : String} {index : Nat} (hown : s.vm.findClass own = some m.cls) (hlink : (Cond.methodLink own index arraycopyName).before args s = true) (hnat : (Cond.native arraycopyName).before args s = true) (hstat : (Cond.static arraycopyName).before args s = true) (hini : (Cond.initialized "java/lang/System").before args s = true)
    (hZ : ZZ g s) (hG : GW g σ w H) (hS : va_S (gA g) s.heap H locs) (i0 i1 sp dp n : Nat) (hi0 : i0 < gcn g 9) (hi1 : i1 < gcn g 9) {jsp jdp jn : Int32} (esp : jsp = nI sp) (edp : jdp = nI dp) (en : jn = nI n) (h0 : sp + n ≤ gln g 9 i0) (h1 : dp + n ≤ gln g 9 i1) (h031 : gln g 9 i0 < 2 ^ 31) (h131 : gln g 9 i1 < 2 ^ 31)
    (hframes : 1 ≤ R.frames) (hlocals : (rest.map fun v => v.category).sum + 18 ≤ R.locals) (hdg : decode cc pc = .ok (.invokestatic index, 3))
    (kk : ∀ (H1 : Heap) (locs1 : List Loc), GW g (gCop σ i0 i1 sp dp n) w H1 → va_S (gA g) s.heap H1 locs1 → W p l e R s m args below meth c H1 locs1 cells slots Q (F0 m (pc + 3) ls rest)) : W p l e R s m args below meth c H locs cells slots Q (F0 m pc ls (.int jn :: .int jdp :: .ref (gad g 9 i1) :: .int jsp :: .ref (gad g 9 i0) :: rest)) := by
  subst esp edp en
  have hc0 : H[gad g 9 i0]? = some (arrV (gI g) (gln g 9 i0) (fun j => .int (σ 9 i0 j))) := (hG.2.1 9 i0 hi0).2.ar rfl
  have hc1 : H[gad g 9 i1]? = some (arrV (gI g) (gln g 9 i1) (fun j => .int (σ 9 i1 j))) := (hG.2.1 9 i1 hi1).2.ar rfl
  have esp : (nI sp).toNatClampNeg = sp := nI_clamp (by omega)
  have edp : (nI dp).toNatClampNeg = dp := nI_clamp (by omega)
  have en : (nI n).toNatClampNeg = n := nI_clamp (by omega)
  have ti : ∀ x : Nat, x < 2 ^ 31 → (nI x).toInt = (x : Int) := fun x hx => by
    have h9 := Int32.le_iff_toInt_le.mp (Int32.not_lt.mp (nI_pos (n := x) hx))
    have h8 : (nI x).toInt.toNat = x := nI_clamp hx
    have h7 : (0 : Int32).toInt = 0 := rfl
    omega
  intro T hT X
  obtain ⟨-, k0, hk0, cm0, hkk0⟩ := (gx_KI hZ).1 (gln g 9 i0) (fun j => .int (σ 9 i0 j))
  obtain ⟨-, k1, hk1, cm1, hkk1⟩ := (gx_KI hZ).1 (gln g 9 i1) (fun j => .int (σ 9 i1 j))
  obtain ⟨vm', X', step⟩ := X.arraycopy hexec hown hlink hnat hstat hini (src := gad g 9 i0) (dst := gad g 9 i1) (cs := arrV (gI g) (gln g 9 i0) (fun j => .int (σ 9 i0 j))) (cd := arrV (gI g) (gln g 9 i1) (fun j => .int (σ 9 i1 j))) (srcPos := nI sp) (destPos := nI dp) (n := nI n) (by rw [hT]; exact hc0) (by rw [hT]; exact hc1)
    (fun _ h => nomatch h) (fun _ h => nomatch h) (fun h => nomatch h) (fun h => nomatch h) hk0 hk1 hkk0 hkk1 (by decide) (nI_pos (by omega)) (nI_pos (by omega)) (nI_pos (by omega))
    (by rw [ti sp (by omega), ti n (by omega), arrV_size]; omega) (by rw [ti dp (by omega), ti n (by omega), arrV_size]; omega)
    (fun _ _ i hi => by
      have e9 : (arrV (gI g) (gln g 9 i0) (fun j => .int (σ 9 i0 j))).slots.getD ((nI sp).toNatClampNeg + i) .null = .int (σ 9 i0 (sp + i)) := by
        rw [esp, Array.getD_eq_getD_getElem?, arrV_read _ _ (by omega)]
        rfl
      rw [e9]
      exact ⟨rfl, trivial⟩)
    (g := F0 m pc ls (.int (nI n) :: .int (nI dp) :: .ref (gad g 9 i1) :: .int (nI sp) :: .ref (gad g 9 i0) :: rest)) rfl hml.symm (rest := rest) rfl (by rw [hb]; exact hdg) hframes (by show 2 * 0 + _ + 18 ≤ _; omega)
  have ec : copied (arrV (gI g) (gln g 9 i0) (fun j => .int (σ 9 i0 j))) (arrV (gI g) (gln g 9 i1) (fun j => .int (σ 9 i1 j))) (nI sp) (nI dp) (nI n) = arrV (gI g) (gln g 9 i1) (fun j => .int (va_cpy (σ 9 i0) (σ 9 i1) sp dp n j)) := by
    have e8 := va_copied (fun z => Value.int z) (gI g) (gI g) (n0 := gln g 9 i0) (n1 := gln g 9 i1) (sp := sp) (dp := dp) (n := n) (σ 9 i0) (σ 9 i1) h0
    unfold copied
    rw [esp, edp, en]
    exact e8
  rw [ec] at X' step
  have hl := (hG.2.1 9 i1 hi1).2.lt
  have hheap : ((T.setVm vm').setCell (gad g 9 i1) (arrV (gI g) (gln g 9 i1) (fun j => .int (va_cpy (σ 9 i0) (σ 9 i1) sp dp n j)))).heap = H.setIfInBounds (gad g 9 i1) (arrV (gI g) (gln g 9 i1) (fun j => .int (va_cpy (σ 9 i0) (σ 9 i1) sp dp n j))) := by rw [← hT]; rfl
  have oq : ∀ q : Nat, q ≠ gad g 9 i1 → (H.setIfInBounds (gad g 9 i1) (arrV (gI g) (gln g 9 i1) (fun j => .int (va_cpy (σ 9 i0) (σ 9 i1) sp dp n j))))[q]? = H[q]? := fun q hq => by simp [Array.getElem?_setIfInBounds, Ne.symm hq]
  have hA := (hG.2.1 9 i1 hi1).1
  have hGW : GW g (gCop σ i0 i1 sp dp n) w (H.setIfInBounds (gad g 9 i1) (arrV (gI g) (gln g 9 i1) (fun j => .int (va_cpy (σ 9 i0) (σ 9 i1) sp dp n j)))) := by
    refine ⟨hG.1, fun k i hi => ⟨(hG.2.1 k i hi).1, ?_⟩, fun k i f hi => ?_, hG.2.2.2⟩
    · by_cases e : k = 9 ∧ i = i1
      · obtain ⟨rfl, rfl⟩ := e
        refine gCell.of_ar rfl ?_
        have e7 : (fun f => gv g w 9 f (gCop σ i0 i sp dp n 9 i f)) = (fun j => .int (va_cpy (σ 9 i0) (σ 9 i) sp dp n j)) := by
          funext f
          show Value.int _ = Value.int _
          unfold gCop va_cpy
          by_cases c : dp ≤ f ∧ f < dp + n
          · rw [if_pos c, if_pos ⟨rfl, rfl, c⟩]
          · rw [if_neg c, if_neg (fun z => c z.2.2)]
        rw [e7]
        show (H.setIfInBounds _ _)[_]? = some _
        simp [Array.getElem?_setIfInBounds, hl]
        rfl
      · have e7 : (fun f => gv g w k f (gCop σ i0 i1 sp dp n k i f)) = (fun f => gv g w k f (σ k i f)) := by
          funext f
          unfold gCop
          rw [if_neg (fun z => e ⟨z.1, z.2.1⟩)]
        rw [e7]
        exact (hG.2.1 k i hi).2.kept (oq _ (fun z => e (hG.inj hi hi1 z)))
    · unfold gCop
      split
      · next z => rw [z.1]; exact trivial
      · exact hG.2.2.1 k i f hi
  obtain ⟨t, a1, b1⟩ := kk _ _ hGW ⟨by simp; exact hS.1, fun q g1 g2 => by
      rw [oq q (fun e => g2 (by rw [e]; exact hA))]
      exact hS.2.1 q g1 g2, fun q hq => by
      rcases List.mem_append.mp hq with h | h
      · exact hS.2.2 q h
      · obtain ⟨z, -, hz⟩ := List.mem_map.mp h
        rw [← hz]
        exact hA⟩ _ hheap X'
  exact ⟨t, step t a1, b1⟩
end GCOP
