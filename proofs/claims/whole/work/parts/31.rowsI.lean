section GINT
variable {p : Program} {l : Launch} {e : Env} {R : Room} {s : State} {m : MethodId} {args : Array Value} {below : List Frame} {meth : Method} {c : Code} {H : Heap} {locs : List Loc} {cells slots : Nat} {Q : State → Prop}
variable {cc : ByteArray} {pc : Nat} {ls : Array Slot} {rest : List Value} {g : gG} {σ : Mem} {w : Int64}
/-- 'new int[N]': the next array of kind k -/
theorem gx_newI (hexec : p.tables.exec = Jvm.exec) (hb : c.code = cc) (harr : (Cond.arrayClass .int).before args s = true) (hZ : ZZ g s) (hG : GW g σ w H) (hS : va_S (gA g) s.heap H locs) (k N : Nat) (hk : k = 1 ∨ k = 9) (hc31 : gcn g k + 1 < 2 ^ 31) {n : Int32} (hn : n = nI N) (hN : N * 4 ≤ 536870912) (hcells : cells + 1 ≤ R.cells) (hslots : slots + N ≤ R.slots) (hdg : decode cc pc = .ok (.newarray .int, 2))
    (kk : ∀ (q : Nat) (H1 : Heap), GW (gAdd g k q N) (gFre σ k (gcn g k)) w H1 → va_S (gA g) s.heap H1 locs → H.size ≤ H1.size →
      W p l e R s m args below meth c H1 locs (cells + 1) (slots + N) Q (F0 m (pc + 2) ls (.ref q :: rest))) : W p l e R s m args below meth c H locs cells slots Q (F0 m pc ls (.int n :: rest)) := by
  subst hn
  have hgN : gN0 g ≤ H.size := Nat.le_trans hZ.2.2.2.2.2.2.2.2.2.2.2.2.2 hS.1
  refine va_newaK hexec hb (atype := .int) harr rfl hdg rfl (nI_pos (by omega)) (nI_clamp (by omega)) hN hcells hslots rfl fun H1 cA e1 z1 o1 _ hNm => ?_
  have hcA : cA = gI g := Option.some.inj (hNm.symm.trans (gx_KI hZ).2)
  subst hcA
  have hob : gob k = false := by rcases hk with rfl | rfl <;> rfl
  refine kk H.size H1 (hG.add (Nat.le_refl _) hgN o1 ?_ ?_ hc31 (gCell.of_ar hob ?_)) ⟨Nat.le_trans hS.1 (by omega), fun x h1 h2 => (o1 x (Nat.lt_of_lt_of_le h1 hS.1)).trans (hS.2.1 x h1 h2), hS.2.2⟩ (by omega)
  · rcases hk with rfl | rfl <;> decide
  · rcases hk with rfl | rfl <;> decide
  · rw [gAdd_ad, if_pos ⟨rfl, rfl⟩, gAdd_ln, if_pos ⟨rfl, rfl⟩]
    rcases hk with rfl | rfl <;> exact e1
/-- 'new long[N]', while the long is 0 -/
theorem gx_newL (hexec : p.tables.exec = Jvm.exec) (hb : c.code = cc) (harr : (Cond.arrayClass .long).before args s = true) (hZ : ZZ g s) (hG : GW g σ 0 H) (hS : va_S (gA g) s.heap H locs) (N : Nat) (hc31 : gcn g 10 + 1 < 2 ^ 31) {n : Int32} (hn : n = nI N) (hN : N * 8 ≤ 536870912) (hcells : cells + 1 ≤ R.cells) (hslots : slots + N ≤ R.slots) (hdg : decode cc pc = .ok (.newarray .long, 2))
    (kk : ∀ (q : Nat) (H1 : Heap), GW (gAdd g 10 q N) (gFre σ 10 (gcn g 10)) 0 H1 → va_S (gA g) s.heap H1 locs → H.size ≤ H1.size →
      W p l e R s m args below meth c H1 locs (cells + 1) (slots + N) Q (F0 m (pc + 2) ls (.ref q :: rest))) : W p l e R s m args below meth c H locs cells slots Q (F0 m pc ls (.int n :: rest)) := by
  subst hn
  have hgN : gN0 g ≤ H.size := Nat.le_trans hZ.2.2.2.2.2.2.2.2.2.2.2.2.2 hS.1
  refine va_newaK hexec hb (atype := .long) harr rfl hdg rfl (nI_pos (by omega)) (nI_clamp (by omega)) hN hcells hslots rfl fun H1 cA e1 z1 o1 _ hNm => ?_
  have hcA : cA = gL g := Option.some.inj (hNm.symm.trans (gx_KL hZ).2)
  subst hcA
  refine kk H.size H1 (hG.add (Nat.le_refl _) hgN o1 (by decide) (by decide) hc31 (gCell.of_ar rfl ?_)) ⟨Nat.le_trans hS.1 (by omega), fun x h1 h2 => (o1 x (Nat.lt_of_lt_of_le h1 hS.1)).trans (hS.2.1 x h1 h2), hS.2.2⟩ (by omega)
  rw [gAdd_ad, if_pos ⟨rfl, rfl⟩, gAdd_ln, if_pos ⟨rfl, rfl⟩]
  exact e1
end GINT
/-! doubles: a quotient of whole numbers, the lower one not 0, is a number -/
theorem gd_n64 {r : UInt64} (h : Jvm.FP.Core.val64 r ≠ .nan) : vf_n64 r := by
  unfold vf_n64
  rw [UInt64.le_iff_toNat_le, UInt64.toNat_and, show (0x7fffffffffffffff : UInt64).toNat = 2 ^ 63 - 1 from rfl, Nat.and_two_pow_sub_one_eq_mod, show (0x7ff0000000000000 : UInt64).toNat = 2047 * 2 ^ 52 from rfl]
  have e1 : Jvm.FP.Core.b64.tails = 2 ^ 52 := by decide
  have e2 : Jvm.FP.Core.b64.exps = 2 ^ 11 := by decide
  unfold Jvm.FP.Core.val64 Jvm.FP.Core.decode Jvm.FP.Core.fieldE Jvm.FP.Core.fieldT at h
  rw [e1, e2] at h
  have h0 := r.toNat_lt
  by_cases c1 : r.toNat / 2 ^ 52 % 2 ^ 11 = 2 ^ 11 - 1
  · rw [if_pos c1] at h
    by_cases c2 : r.toNat % 2 ^ 52 = 0
    · omega
    · rw [if_neg c2] at h
      exact absurd rfl h
  · omega
theorem gd_div {a b : Int32} (hb : ¬ b = 0) : Jvm.FP.Core.val64 (FP.ddiv (FP.i2d a) (FP.i2d b)) ≠ .nan := by
  have ha := Jvm.FP.Core.i2d_int a
  have hb2 := Jvm.FP.Core.i2d_int b
  have hbi : b.toInt ≠ 0 := fun z => hb (by rw [← Int32.toInt_inj]; exact z)
  show Jvm.FP.Core.val64 (Jvm.FP.Core.ddiv (Jvm.FP.Core.i2d a) (Jvm.FP.Core.i2d b)) ≠ .nan
  rw [Jvm.FP.Core.val64_ddiv]
  unfold Jvm.FP.Core.DInt at ha hb2
  revert ha hb2
  generalize Jvm.FP.Core.val64 (Jvm.FP.Core.i2d a) = x
  generalize Jvm.FP.Core.val64 (Jvm.FP.Core.i2d b) = y
  intro ha hb2
  cases x with
  | nan => exact ha.elim
  | inf => exact ha.elim
  | fin s c q =>
    cases y with
    | nan => exact hb2.elim
    | inf => exact hb2.elim
    | fin t d r =>
      have hd : d ≠ 0 := by
        rintro rfl
        have h9 : Jvm.FP.Core.signed t (0 * 2 ^ r.toNat) = b.toInt * ((2 ^ (-r).toNat : Nat) : Int) := hb2
        have h8 : Jvm.FP.Core.signed t (0 * 2 ^ r.toNat) = 0 := by rw [Nat.zero_mul]; cases t <;> rfl
        rw [h8] at h9
        have h7 := Nat.two_pow_pos (-r).toNat
        rcases Int.mul_eq_zero.mp h9.symm with z | z
        · exact hbi z
        · generalize 2 ^ (-r).toNat = u at h7 z
          omega
      unfold Jvm.FP.Core.quotient
      simp only [hd, if_false]
      unfold Jvm.FP.Core.roundRatio
      split
      · exact fun z => nomatch z
      · unfold Jvm.FP.Core.roundAt Jvm.FP.Core.settle Jvm.FP.Core.bound
        repeat' split
        all_goals exact fun z => nomatch z
theorem gd_0 : Jvm.FP.Core.val64 FP.dconst0 ≠ .nan := by decide +kernel
