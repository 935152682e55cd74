/-! a new object: the world with it -/
def gAdd (g : gG) (k q n : Nat) : gG := (g.1, g.2.1, g.2.2.1, (fun k' i' => if k' = k ∧ i' = gcn g k then q else gad g k' i'), (fun k' => if k' = k then gcn g k + 1 else gcn g k'), (fun k' i' => if k' = k ∧ i' = gcn g k then n else gln g k' i'))
def gDef (k f : Nat) : Int32 := if gtg k f = 0 then 0 else -1
def gFre (σ : Mem) (k i : Nat) : Mem := fun k' i' f' => if k' = k ∧ i' = i then gDef k f' else σ k' i' f'
theorem gAdd_cn {g : gG} {k q n k' : Nat} : gcn (gAdd g k q n) k' = if k' = k then gcn g k + 1 else gcn g k' := rfl
theorem gAdd_ad {g : gG} {k q n k' i' : Nat} : gad (gAdd g k q n) k' i' = if k' = k ∧ i' = gcn g k then q else gad g k' i' := rfl
theorem gAdd_ln {g : gG} {k q n k' i' : Nat} : gln (gAdd g k q n) k' i' = if k' = k ∧ i' = gcn g k then n else gln g k' i' := rfl
theorem gokc_le {cn cn' : Nat → Nat} (h : ∀ k, cn k ≤ cn' k) {t : Nat} {x : Int32} (hx : gokc cn t x) : gokc cn' t x := by
  match t, hx with
  | 0, _ => trivial
  | 1, _ => trivial
  | 2, hx => exact hx.imp id (Or.imp id (fun z => ⟨z.1, Nat.lt_of_lt_of_le z.2 (h 4)⟩))
  | 3, hx => exact hx.imp id (Or.imp id (fun z => ⟨z.1, Nat.lt_of_lt_of_le z.2 (h 5)⟩))
  | t + 4, hx => exact hx.imp id (fun ⟨j, hj, e⟩ => ⟨j, Nat.lt_of_lt_of_le hj (h t), e⟩)
theorem gDef_ok {cn : Nat → Nat} {k f : Nat} : gokc cn (gtg k f) (gDef k f) := by
  unfold gDef
  generalize gtg k f = t
  split
  · next h => rw [h]; trivial
  · match t with
    | 0 => trivial
    | 1 => trivial
    | 2 => exact Or.inl rfl
    | 3 => exact Or.inl rfl
    | t + 4 => exact Or.inl rfl
/-- a value doesn't change where the address book grows beyond what it names -/
theorem gvc_same {ad ad' : Nat → Nat → Nat} {cn : Nat → Nat} {em : Nat} {w : Int64} {t : Nat} {x : Int32} (hx : gokc cn t x) (h31 : ∀ k, cn k < 2 ^ 31) (h : ∀ k i, i < cn k → ad' k i = ad k i) (h4 : t = 2 → ad' 4 0 = ad 4 0) (h5 : t = 3 → ad' 5 0 = ad 5 0) : gvc ad' em w t x = gvc ad em w t x := by
  match t, hx with
  | 0, _ => rfl
  | 1, _ => rfl
  | 2, hx => show gel (ad' 4 0) em x = gel (ad 4 0) em x; rw [h4 rfl]
  | 3, hx => show gel (ad' 5 0) em x = gel (ad 5 0) em x; rw [h5 rfl]
  | t + 4, hx =>
    show grf (ad' t) x = grf (ad t) x
    rcases hx with hx | ⟨j, hj, rfl⟩
    · rw [grf_0 hx, grf_0 hx]
    · have := h31 t
      rw [grf_nI (by omega), grf_nI (by omega), h t j hj]
theorem GW.add {g : gG} {σ : Mem} {w : Int64} {H H1 : Heap} {k q n : Nat} (h : GW g σ w H) (hq : H.size ≤ q) (hN : gN0 g ≤ q) (hs : ∀ a : Nat, a < H.size → H1[a]? = H[a]?) (hk4 : k ≠ 4) (hk5 : k ≠ 5) (hc : gcn g k + 1 < 2 ^ 31)
    (hcell : gCell (gAdd g k q n) k (gcn g k) H1 (fun f => gv (gAdd g k q n) w k f (gDef k f))) : GW (gAdd g k q n) (gFre σ k (gcn g k)) w H1 := by
  obtain ⟨⟨tg, ht⟩, h2, h3, h4⟩ := h
  have hle : ∀ k', gcn g k' ≤ gcn (gAdd g k q n) k' := fun k' => by
    rw [gAdd_cn]
    split
    · next e => rw [e]; omega
    · exact Nat.le_refl _
  have hin : ∀ k' i', i' < gcn (gAdd g k q n) k' → (k' = k ∧ i' = gcn g k) ∨ (i' < gcn g k' ∧ ¬ (k' = k ∧ i' = gcn g k)) := fun k' i' hi => by
    rw [gAdd_cn] at hi
    by_cases e : k' = k
    · subst e
      rw [if_pos rfl] at hi
      rcases Nat.lt_or_ge i' (gcn g k') with z | z
      · exact Or.inr ⟨z, fun y => by omega⟩
      · exact Or.inl ⟨rfl, by omega⟩
    · rw [if_neg e] at hi
      exact Or.inr ⟨hi, fun y => e y.1⟩
  have hold : ∀ k' i', i' < gcn g k' → gad (gAdd g k q n) k' i' = gad g k' i' := fun k' i' hi => by
    rw [gAdd_ad, if_neg]
    rintro ⟨rfl, rfl⟩
    omega
  refine ⟨⟨fun a => if a = q then (k, gcn g k) else tg a, fun k' i' hi => ?_⟩, fun k' i' hi => ?_, fun k' i' f hi => ?_, fun k' => ?_⟩
  · rcases hin k' i' hi with ⟨rfl, rfl⟩ | ⟨hi', hne⟩
    · rw [gAdd_ad, if_pos ⟨rfl, rfl⟩]
      exact if_pos rfl
    · rw [hold k' i' hi', ← ht k' i' hi']
      exact if_neg (fun z => by have := (h2 k' i' hi').2.lt; omega)
  · rcases hin k' i' hi with ⟨rfl, rfl⟩ | ⟨hi', hne⟩
    · have e : (fun f => gv (gAdd g k' q n) w k' f (gFre σ k' (gcn g k') k' (gcn g k') f)) = (fun f => gv (gAdd g k' q n) w k' f (gDef k' f)) := by
        funext f
        unfold gFre
        rw [if_pos ⟨rfl, rfl⟩]
      rw [e]
      refine ⟨?_, hcell⟩
      rw [gAdd_ad, if_pos ⟨rfl, rfl⟩]
      exact hN
    · have e : (fun f => gv (gAdd g k q n) w k' f (gFre σ k (gcn g k) k' i' f)) = (fun f => gv g w k' f (σ k' i' f)) := by
        funext f
        unfold gFre
        rw [if_neg hne]
        exact gvc_same (h3 k' i' f hi') h4 (fun a b hb => hold a b hb) (fun _ => by rw [gAdd_ad, if_neg (fun z => hk4 z.1.symm)]) (fun _ => by rw [gAdd_ad, if_neg (fun z => hk5 z.1.symm)])
      rw [e]
      obtain ⟨h5, h6⟩ := h2 k' i' hi'
      have h7 := h6.kept (hs _ h6.lt)
      refine ⟨by rw [hold k' i' hi']; exact h5, ?_⟩
      unfold gCell at h7 ⊢
      rw [hold k' i' hi', gAdd_ln, if_neg hne]
      exact h7
  · rcases hin k' i' hi with ⟨rfl, rfl⟩ | ⟨hi', hne⟩
    · unfold gFre
      rw [if_pos ⟨rfl, rfl⟩]
      exact gDef_ok
    · unfold gFre
      rw [if_neg hne]
      exact gokc_le hle (h3 k' i' f hi')
  · rw [gAdd_cn]
    split
    · exact hc
    · exact h4 k'
/-! a list's row is another one now -/
def gArr (g : gG) (ka q n : Nat) : gG := (g.1, g.2.1, g.2.2.1, (fun k' i' => if k' = ka ∧ i' = 0 then q else gad g k' i'), (fun k' => if k' = ka then 1 else gcn g k'), (fun k' i' => if k' = ka ∧ i' = 0 then n else gln g k' i'))
def gElm (σ : Mem) (kl ka : Nat) (x : Nat → Int32) : Mem := fun k' i' f' => if k' = ka ∧ i' = 0 then x f' else if k' = kl ∧ i' = 0 ∧ f' = 1 then 1 else σ k' i' f'
theorem gArr_cn {g : gG} {k q n k' : Nat} : gcn (gArr g k q n) k' = if k' = k then 1 else gcn g k' := rfl
theorem gArr_ad {g : gG} {k q n k' i' : Nat} : gad (gArr g k q n) k' i' = if k' = k ∧ i' = 0 then q else gad g k' i' := rfl
theorem gArr_ln {g : gG} {k q n k' i' : Nat} : gln (gArr g k q n) k' i' = if k' = k ∧ i' = 0 then n else gln g k' i' := rfl
def gTri (kl ka ke : Nat) : Prop := (kl = 2 ∧ ka = 4 ∧ ke = 6) ∨ (kl = 3 ∧ ka = 5 ∧ ke = 7)
theorem GW.arr {g : gG} {σ : Mem} {w : Int64} {H H1 : Heap} {kl ka ke q n : Nat} {x : Nat → Int32} (h : GW g σ w H) (ht3 : gTri kl ka ke) (hl : gcn g kl = 1) (hca : gcn g ka ≤ 1) (hq : ∀ k i, i < gcn g k → gad g k i ≠ q) (hN : gN0 g ≤ q)
    (hx : ∀ j, x j = -1 ∨ ∃ i, i < gcn g ke ∧ x j = nI i) (hqc : H1[q]? = some (arrV (gO g) n (fun j => grf (gad g ke) (x j))))
    (hlc : gCell g kl 0 H1 (updV (fun f => gv g w kl f (σ kl 0 f)) 1 (.ref q))) (oq : ∀ a : Nat, a ≠ gad g kl 0 → H1[a]? = H[a]?) : GW (gArr g ka q n) (gElm σ kl ka x) w H1 := by
  obtain ⟨⟨tg, ht⟩, h2, h3, h4⟩ := h
  have hkl : 0 < gcn g kl := by omega
  have hne3 : kl ≠ ka ∧ ka ≠ ke ∧ gob ka = false ∧ gca (gArr g ka q n) ka = gO g ∧ gob kl = true ∧ (∀ f, gtg ka f = ke + 4) := by
    rcases ht3 with ⟨rfl, rfl, rfl⟩ | ⟨rfl, rfl, rfl⟩ <;> exact ⟨by decide, by decide, rfl, rfl, rfl, fun _ => rfl⟩
  have hin : ∀ k' i', i' < gcn (gArr g ka q n) k' → (k' = ka ∧ i' = 0) ∨ (i' < gcn g k' ∧ ¬ (k' = ka ∧ i' = 0)) := fun k' i' hi => by
    rw [gArr_cn] at hi
    by_cases e : k' = ka
    · rw [if_pos e] at hi
      exact Or.inl ⟨e, by omega⟩
    · rw [if_neg e] at hi
      exact Or.inr ⟨hi, fun z => e z.1⟩
  have hle : ∀ k', gcn g k' ≤ gcn (gArr g ka q n) k' := fun k' => by
    rw [gArr_cn]
    split
    · next e => rw [e]; exact hca
    · exact Nat.le_refl _
  have hold : ∀ k' i', ¬ (k' = ka ∧ i' = 0) → gad (gArr g ka q n) k' i' = gad g k' i' := fun k' i' hi => by rw [gArr_ad, if_neg hi]
  have hval : ∀ k' i' f, i' < gcn g k' → ¬ (k' = ka ∧ i' = 0) → ¬ (k' = kl ∧ f = 1) → gv (gArr g ka q n) w k' f (σ k' i' f) = gv g w k' f (σ k' i' f) := by
    intro k' i' f hi' hne hnf
    have hok := h3 k' i' f hi'
    have hty : gtg k' f ≠ ka + 4 ∧ (gtg k' f = 2 → ka ≠ 4) ∧ (gtg k' f = 3 → ka ≠ 5) := by
      have h9 : ∀ k' f, gtg k' f ≠ 8 ∧ gtg k' f ≠ 9 ∧ (gtg k' f = 2 → k' = 2 ∧ f = 1) ∧ (gtg k' f = 3 → k' = 3 ∧ f = 1) := by
        intro k' f
        unfold gtg
        split <;> refine ⟨by decide, by decide, ?_, ?_⟩ <;> intro z <;> first | exact ⟨rfl, rfl⟩ | exact absurd z (by decide)
      obtain ⟨a1, a2, a3, a4⟩ := h9 k' f
      rcases ht3 with ⟨rfl, rfl, rfl⟩ | ⟨rfl, rfl, rfl⟩
      · exact ⟨a1, fun z => absurd (a3 z) hnf, fun _ => by decide⟩
      · exact ⟨a2, fun _ => by decide, fun z => absurd (a4 z) hnf⟩
    unfold gv
    unfold gok at hok
    generalize gtg k' f = t at hty hok
    match t, hok with
    | 0, _ => rfl
    | 1, _ => rfl
    | 2, _ => show gel (gad (gArr g ka q n) 4 0) _ _ = gel (gad g 4 0) _ _; rw [hold 4 0 (fun z => hty.2.1 rfl z.1.symm)]; rfl
    | 3, _ => show gel (gad (gArr g ka q n) 5 0) _ _ = gel (gad g 5 0) _ _; rw [hold 5 0 (fun z => hty.2.2 rfl z.1.symm)]; rfl
    | t + 4, _ =>
      show grf (gad (gArr g ka q n) t) _ = grf (gad g t) _
      have e : gad (gArr g ka q n) t = gad g t := by
        funext i
        exact hold t i (fun z => hty.1 (by omega))
      rw [e]
  have hql : q ≠ gad g kl 0 := fun z => hq kl 0 hkl z.symm
  refine ⟨⟨fun a => if a = q then (ka, 0) else tg a, fun k' i' hi => ?_⟩, fun k' i' hi => ?_, fun k' i' f hi => ?_, fun k' => ?_⟩
  · rcases hin k' i' hi with ⟨rfl, rfl⟩ | ⟨hi', hne⟩
    · rw [gArr_ad, if_pos ⟨rfl, rfl⟩]
      exact if_pos rfl
    · rw [hold k' i' hne, ← ht k' i' hi']
      exact if_neg (hq k' i' hi')
  · rcases hin k' i' hi with ⟨rfl, rfl⟩ | ⟨hi', hne⟩
    · refine ⟨by rw [gArr_ad, if_pos ⟨rfl, rfl⟩]; exact hN, gCell.of_ar hne3.2.2.1 ?_⟩
      rw [gArr_ad, if_pos ⟨rfl, rfl⟩, gArr_ln, if_pos ⟨rfl, rfl⟩, hne3.2.2.2.1, hqc]
      congr 2
      funext f
      show _ = gvc _ _ _ (gtg k' f) _
      rw [hne3.2.2.2.2.2 f]
      unfold gElm
      rw [if_pos ⟨rfl, rfl⟩]
      show grf (gad g ke) _ = grf (gad (gArr g k' q n) ke) _
      have e : gad (gArr g k' q n) ke = gad g ke := by
        funext i
        exact hold ke i (fun z => hne3.2.1 z.1.symm)
      rw [e]
    · obtain ⟨h5, h6⟩ := h2 k' i' hi'
      refine ⟨by rw [hold k' i' hne]; exact h5, ?_⟩
      by_cases e : k' = kl
      · subst e
        have ei : i' = 0 := by omega
        subst ei
        have ev : (fun f => gv (gArr g ka q n) w k' f (gElm σ k' ka x k' 0 f)) = updV (fun f => gv g w k' f (σ k' 0 f)) 1 (.ref q) := by
          funext f
          unfold updV gElm
          rw [if_neg hne]
          by_cases ef : f = 1
          · subst ef
            rw [if_pos ⟨rfl, rfl, rfl⟩, if_pos rfl]
            rcases ht3 with ⟨rfl, rfl, rfl⟩ | ⟨rfl, rfl, rfl⟩ <;> rfl
          · rw [if_neg (fun z => ef z.2.2), if_neg ef]
            exact hval k' 0 f hi' hne (fun z => ef z.2)
        rw [ev]
        unfold gCell at hlc ⊢
        rw [hold k' 0 hne, gArr_ln, if_neg hne]
        exact hlc
      · have ev : (fun f => gv (gArr g ka q n) w k' f (gElm σ kl ka x k' i' f)) = (fun f => gv g w k' f (σ k' i' f)) := by
          funext f
          unfold gElm
          rw [if_neg hne, if_neg (fun z => e z.1)]
          exact hval k' i' f hi' hne (fun z => e z.1)
        rw [ev]
        have h7 := h6.kept (oq _ (fun z => e (by
          have h8 := ht k' i' hi'
          rw [z, ht kl 0 hkl] at h8
          exact (Prod.mk.inj h8).1.symm)))
        unfold gCell at h7 ⊢
        rw [hold k' i' hne, gArr_ln, if_neg hne]
        exact h7
  · rcases hin k' i' hi with ⟨rfl, rfl⟩ | ⟨hi', hne⟩
    · unfold gElm gok
      rw [if_pos ⟨rfl, rfl⟩, hne3.2.2.2.2.2 f]
      exact (hx f).imp id (fun ⟨i, hi, e⟩ => ⟨i, Nat.lt_of_lt_of_le hi (hle ke), e⟩)
    · unfold gElm
      rw [if_neg hne]
      split
      · next z =>
        obtain ⟨rfl, rfl, rfl⟩ := z
        rcases ht3 with ⟨rfl, rfl, rfl⟩ | ⟨rfl, rfl, rfl⟩ <;> exact Or.inr (Or.inr ⟨rfl, Nat.one_pos⟩)
      · exact gokc_le hle (h3 k' i' f hi')
  · rw [gArr_cn]
    split
    · decide
    · exact h4 k'
section GNEW
variable {p : Program} {l : Launch} {e : Env} {R : Room} {s : State} {m : MethodId} {args : Array Value} {below : List Frame} {meth : Method} {c : Code} {H : Heap} {locs : List Loc} {cells slots : Nat} {Q : State → Prop}
variable {cc : ByteArray} {pc : Nat} {ls : Array Slot} {rest : List Value} {g : gG} {σ : Mem} {w : Int64}
theorem gdv (g' : gG) (w : Int64) : ∀ k, gob k = true → ∀ j, j < gNf k → defaultValue (gTy k j) = gv g' w k j (gDef k j) := by
  refine gob_c ?_ ?_ ?_ ?_ ?_ ?_
  · intro j hj
    match j, hj with
    | 0, _ => rfl
    | 1, _ => rfl
    | 2, _ => rfl
    | 3, _ => rfl
    | 4, _ => rfl
    | 5, _ => rfl
    | 6, _ => rfl
  · intro j hj
    match j, hj with
    | 0, _ => rfl
    | 1, _ => rfl
    | 2, _ => rfl
  · intro j hj
    match j, hj with
    | 0, _ => rfl
    | 1, _ => rfl
    | 2, _ => rfl
  · intro j hj
    match j, hj with
    | 0, _ => rfl
    | 1, _ => rfl
    | 2, _ => rfl
    | 3, _ => rfl
    | 4, _ => rfl
    | 5, _ => rfl
    | 6, _ => rfl
    | 7, _ => rfl
    | 8, _ => rfl
  · intro j hj
    match j, hj with
    | 0, _ => rfl
    | 1, _ => rfl
    | 2, _ => rfl
    | 3, _ => rfl
    | 4, _ => rfl
    | 5, _ => rfl
    | 6, _ => rfl
    | 7, _ => rfl
    | 8, _ => rfl
    | 9, _ => rfl
    | 10, _ => rfl
    | 11, _ => rfl
    | 12, _ => rfl
    | 13, _ => rfl
    | 14, _ => rfl
  · intro j hj
    match j, hj with
    | 0, _ => rfl
    | 1, _ => rfl
    | 2, _ => rfl
    | 3, _ => rfl
    | 4, _ => rfl
    | 5, _ => rfl
    | 6, _ => rfl
    | 7, _ => rfl
    | 8, _ => rfl
    | 9, _ => rfl
    | 10, _ => rfl
    | n + 11, hj => exact absurd hj (by simp [gNf])
theorem gx_newo (hexec : p.tables.exec = Jvm.exec) (hb : c.code = cc) {own : String} {index : Nat} (hown : s.vm.findClass own = some m.cls) (hZ : ZZ g s) (hG : GW g σ w H) (hS : va_S (gA g) s.heap H locs) (k : Nat) (hk : gob k = true) (hc31 : gcn g k + 1 < 2 ^ 31) (hcl : (Cond.classLink own index (gC k)).before args s = true) (hinst : (Cond.instantiable (gC k) (gNf k)).before args s = true) (hini : (Cond.initialized (gC k)).before args s = true)
    (hcells : cells + 1 ≤ R.cells) (hslots : slots + gNf k ≤ R.slots) (hdg : decode cc pc = .ok (.new index, 3))
    (kk : ∀ (q : Nat) (H1 : Heap), GW (gAdd g k q 0) (gFre σ k (gcn g k)) w H1 → va_S (gA g) s.heap H1 locs → H.size ≤ H1.size →
      W p l e R s m args below meth c H1 locs (cells + 1) (slots + gNf k) Q (F0 m (pc + 3) ls (.ref q :: rest))) : W p l e R s m args below meth c H locs cells slots Q (F0 m pc ls rest) := by
  have hKn := hZ.1.1 (gci k) _ (gcl_at k hk)
  have hlay := hZ.lay (args := args) hk
  have hN : gN0 g ≤ H.size := Nat.le_trans hZ.2.2.2.2.2.2.2.2.2.2.2.2.2.1 hS.1
  refine W.newcK hexec hb hown hcl hinst hini rfl hdg hcells hslots hKn.2.1 rfl fun H1 kC hkC e1 z1 o1 => ?_
  refine kk H.size H1 (hG.add (Nat.le_refl _) hN o1 ?_ ?_ hc31 (gCell.of_ob hk ?_)) ⟨Nat.le_trans hS.1 (by omega), fun x h1 h2 => (o1 x (Nat.lt_of_lt_of_le h1 hS.1)).trans (hS.2.1 x h1 h2), hS.2.2⟩ (by omega)
  · rintro rfl; cases hk
  · rintro rfl; cases hk
  · rw [gAdd_ad, if_pos ⟨rfl, rfl⟩]
    exact (u_born (gTy k) hlay (fun _ h => h) hKn hkC e1 (gty_ok k hk)).to (gdv _ w k hk)
/-- a row of references, made: not yet of the world -/
theorem gx_anew (hexec : p.tables.exec = Jvm.exec) (hb : c.code = cc) {own : String} {index : Nat} (hown : s.vm.findClass own = some m.cls) (hclink : (Cond.classLink own index "java/lang/Object").before args s = true) (hZ : ZZ g s) (hG : GW g σ w H) (hS : va_S (gA g) s.heap H locs)
    {n : Int32} (N' : Nat) (hn : n = nI N') (h31 : N' * 4 ≤ 536870912) (hcells : cells + 1 ≤ R.cells) (hslots : slots + N' ≤ R.slots) (hdg : decode cc pc = .ok (.anewarray index, 3))
    (kk : ∀ (q : Nat) (H1 : Heap), GW g σ w H1 → va_S (gA g) s.heap H1 locs → H1[q]? = some (arrV (gO g) N' (fun _ => .null)) → (∀ k i, i < gcn g k → gad g k i ≠ q) → gN0 g ≤ q → (∀ a : Nat, a < H.size → H1[a]? = H[a]?) → H.size ≤ q → H.size ≤ H1.size →
      W p l e R s m args below meth c H1 locs (cells + 1) (slots + N') Q (F0 m (pc + 3) ls (.ref q :: rest))) : W p l e R s m args below meth c H locs cells slots Q (F0 m pc ls (.int n :: rest)) := by
  subst hn
  have hcl : (nI N').toNatClampNeg = N' := nI_clamp (by omega)
  have hN : gN0 g ≤ H.size := Nat.le_trans hZ.2.2.2.2.2.2.2.2.2.2.2.2.2.1 hS.1
  refine W.anew hexec hb hown hclink (va_AO.use hZ.2.2.2.2.2.2.2.2.2.2.2.1) rfl hdg rfl (nI_pos (by omega)) (by rw [hcl]; exact h31) hcells (by rw [hcl]; exact hslots) fun cA kA comp f1 f2 f3 f4 => ?_
  rw [hcl]
  have hcA : cA = gO g := by
    obtain ⟨kA2, comp2, k1, k2, k3, k4⟩ := (gx_KO hZ).2
    exact Option.some.inj (f1.symm.trans k4)
  subst hcA
  generalize hH1 : H.push ({ cls := gO g, slots := Array.replicate N' .null, vm := .none } : Cell) = H1
  have z1 : H1.size = H.size + 1 := by rw [← hH1, Array.size_push]
  have e1 : H1[H.size]? = some (arrV (gO g) N' (fun _ => .null)) := by rw [← hH1, Array.getElem?_push_size, ← arrV_new]
  have o1 : ∀ q : Nat, q < H.size → H1[q]? = H[q]? := fun q hq => by rw [← hH1, Array.getElem?_push, if_neg (Nat.ne_of_lt hq)]
  exact kk H.size H1 (hG.kept o1) ⟨Nat.le_trans hS.1 (by omega), fun x h1 h2 => (o1 x (Nat.lt_of_lt_of_le h1 hS.1)).trans (hS.2.1 x h1 h2), hS.2.2⟩ e1 (fun k i hi z => by have := hG.lt hi; omega) hN o1 (Nat.le_refl _) (by omega)
/-- it becomes a list's row -/
theorem gx_putE (hexec : p.tables.exec = Jvm.exec) (hb : c.code = cc) {own ref : String} {index : Nat} (hown : s.vm.findClass own = some m.cls) (hZ : ZZ g s) (hG : GW g σ w H) (hS0 : va_S (gA g) s.heap H locs) (kl ka ke : Nat) (x : Nat → Int32) {q n : Nat} (ht3 : gTri kl ka ke) (hl : gcn g kl = 1) (hca : gcn g ka ≤ 1) (hq : ∀ k i, i < gcn g k → gad g k i ≠ q) (hN : gN0 g ≤ q)
    (hx : ∀ j, x j = -1 ∨ ∃ i, i < gcn g ke ∧ x j = nI i) (hqc : H[q]? = some (arrV (gO g) n (fun j => grf (gad g ke) (x j))))
    (hlink : (Cond.fieldLink own index ref (TJx4a65c 1).2.1 (TJx4a65c 1).2.2.1).before args s = true) (hsame : ∀ x, s.fieldFound? (TJx4a65c 1).1 (TJx4a65c 1).2.1 (TJx4a65c 1).2.2.1 = some x → s.fieldFound? ref (TJx4a65c 1).2.1 (TJx4a65c 1).2.2.1 = some x)
    (hdg : decode cc pc = .ok (.putfield index, 3)) (kk : ∀ (H1 : Heap) (locs1 : List Loc), GW (gArr g ka q n) (gElm σ kl ka x) w H1 → va_S (gA g) s.heap H1 locs1 → W p l e R s m args below meth c H1 locs1 cells slots Q (F0 m (pc + 3) ls rest)) : W p l e R s m args below meth c H locs cells slots Q (F0 m pc ls (.ref q :: .ref (gad g kl 0) :: rest)) := by
  have hk : gob kl = true ∧ gci kl = 0 ∧ gNf kl = 3 ∧ gT kl = TJx4a65c ∧ gC kl = RJx4a65c ∧ gTy kl = tyJx4a65c := by
    rcases ht3 with ⟨rfl, rfl, rfl⟩ | ⟨rfl, rfl, rfl⟩ <;> exact ⟨rfl, rfl, rfl, rfl, rfl, rfl⟩
  have hi : 0 < gcn g kl := by omega
  have hap := gx_apart hZ hk.1
  obtain ⟨cell, q1, q2, q3, q4⟩ := (hG.2.1 kl 0 hi).2.ob hk.1
  obtain ⟨hS, hfc, kC, hkC, hkind⟩ := hZ.1.1 (gci kl) _ (gcl_at kl hk.1)
  obtain ⟨cf, kf, fi, fd, hfi, hsl⟩ := hS 1 (by show 1 < gNf kl; rw [hk.2.2.1]; decide)
  have hfi' : s.fieldFound? (TJx4a65c 1).1 (TJx4a65c 1).2.1 (TJx4a65c 1).2.2.1 = some (cf, kf, fi, fd) := by rw [← hk.2.2.2.1]; exact hfi
  have hlay := hZ.lay (args := args) hk.1 _ (u_in_lay (C := gC kl) (T := gT kl) (N := gNf kl) (k := 1) (by rw [hk.2.2.1]; decide))
  rw [hk.2.2.2.1, hk.2.2.2.2.1] at hlay
  unfold u_lay at hlay
  rw [if_neg (by decide)] at hlay
  have hst := (u_facts hfc hkC (Or.inl (by rw [show (gC kl, gT kl, gNf kl).1 = RJx4a65c from hk.2.2.2.2.1]; exact hlay)) hfi').1
  have h6 := u_store hfc hkC hkind (by rw [show (gC kl, gT kl, gNf kl).1 = RJx4a65c from hk.2.2.2.2.1]; exact hlay) hfi' (tyJx4a65c_ok 1 (by decide)) (v := .ref q) rfl rfl
  refine W.putK hexec hb (f := fd) ⟨hown, hlink, ⟨_, _, _, hsame _ hfi'⟩, hst⟩ (by rw [q2]; exact h6) q1 q3 (by rw [hsl]; exact k2_hasslot (q4 1 (by rw [hk.2.2.1]; decide))) rfl rfl hdg fun H' e1 e2 e3 => ?_
  rw [hsl] at e1 ⊢
  have hql : q ≠ gad g kl 0 := fun z => hq kl 0 hi z.symm
  refine kk H' _ (hG.arr ht3 hl hca hq hN hx (by rw [e3 q hql]; exact hqc) (gCell.of_ob hk.1 ⟨_, e1, q2, q3, ?_⟩) e3) (hS0.put e2 e3 ((hG.2.1 kl 0 hi).1))
  exact t_set q4 hap (by rw [hk.2.2.1]; decide) _
end GNEW
