section GINT
variable {p : Program} {l : Launch} {e : Env} {R : Room} {s : State} {m : MethodId} {args : Array Value} {below : List Frame} {meth : Method} {c : Code} {H : Heap} {locs : List Loc} {cells slots : Nat} {Q : State → Prop}
variable {cc : ByteArray} {pc : Nat} {ls : Array Slot} {rest : List Value} {g : gG} {σ : Mem} {w : Int64}
/-- 'new int[N]': the next array of kind k -/
theorem gx_newI (hexec : p.tables.exec = Jvm.exec) (hb : c.code = cc) (harr : (Cond.arrayClass .int).before args s = true) (hZ : ZZ g s) (hG : GW g σ w H) (hS : va_S (gA g) s.heap H locs) (k N : Nat) (hk : k = 1 ∨ k = 16 ∨ k = 17 ∨ k = 21 ∨ k = 22) (hc31 : gcn g k + 1 < 2 ^ 31) {n : Int32} (hn : n = nI N) (hN : N * 4 ≤ 536870912) (hcells : cells + 1 ≤ R.cells) (hslots : slots + N ≤ R.slots) (hdg : decode cc pc = .ok (.newarray .int, 2))
    (kk : ∀ (q : Nat) (H1 : Heap), GW (gAdd g k q N) (gFre σ k (gcn g k)) w H1 → va_S (gA g) s.heap H1 locs → H.size ≤ H1.size →
      W p l e R s m args below meth c H1 locs (cells + 1) (slots + N) Q (F0 m (pc + 2) ls (.ref q :: rest))) : W p l e R s m args below meth c H locs cells slots Q (F0 m pc ls (.int n :: rest)) := by
  subst hn
  have hgN : gN0 g ≤ H.size := Nat.le_trans hZ.2.2.2.2.2.2.2.2.2.2.2.2.2.1 hS.1
  refine va_newaK hexec hb (atype := .int) harr rfl hdg rfl (nI_pos (by omega)) (nI_clamp (by omega)) hN hcells hslots rfl fun H1 cA e1 z1 o1 _ hNm => ?_
  have hcA : cA = gI g := Option.some.inj (hNm.symm.trans (gx_KI hZ).2)
  subst hcA
  have hob : gob k = false := by rcases hk with rfl | rfl | rfl | rfl | rfl <;> rfl
  refine kk H.size H1 (hG.add (Nat.le_refl _) hgN o1 ?_ ?_ hc31 (gCell.of_ar hob ?_)) ⟨Nat.le_trans hS.1 (by omega), fun x h1 h2 => (o1 x (Nat.lt_of_lt_of_le h1 hS.1)).trans (hS.2.1 x h1 h2), hS.2.2⟩ (by omega)
  · rcases hk with rfl | rfl | rfl | rfl | rfl <;> decide
  · rcases hk with rfl | rfl | rfl | rfl | rfl <;> decide
  · rw [gAdd_ad, if_pos ⟨rfl, rfl⟩, gAdd_ln, if_pos ⟨rfl, rfl⟩]
    rcases hk with rfl | rfl | rfl | rfl | rfl <;> exact e1
end GINT
