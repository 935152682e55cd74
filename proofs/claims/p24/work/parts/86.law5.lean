section LAWR
variable {p : Program} {e : Env} {s : State} {m : MethodId} {args : Array Value} {below : List Frame} {meth : Method} {c0 : Code} {H : Heap} {locs : List Loc} {Q : State → Prop} {ls : Array Slot} {g : gG} {σ μ : Mem} {w : Int64} {hs : Nat → Nat × Bool} {t B b : Nat} {cells slots : Nat}
abbrev lwI (b : Nat) (g : gG) (i : Nat) : List (Nat × Value) := [(0, .ref b), (1, .ref (gad g 0 0)), (2, .ref (gad g 8 0)), (3, .ref (gad g 21 0)), (4, .ref (gad g 22 0)), (5, .int (nI i))]
theorem law_inner (l : Launch) (hl0 : l.stackTraces = false) (C : LC p s m c0 args) (hZ : ZZ g s) (hB : B < 2 ^ 31) {i : Nat} {x : Int32} :
    ∀ (r o cells slots : Nat) (μ : Mem) (H : Heap) (locs : List Loc) (ls : Array Slot), o + r = nO μ → (cells + 90 * r + 200 ≤ 600104 ∧ slots + 540 * r + 1200 ≤ 7301314) → LI g hs t B μ → IA hs o μ → GW g μ w H → va_S (gA g) s.heap H locs → lv_has ls 11 (lwO b g i x o) →
    (∀ (H : Heap) (locs : List Loc) (ls : Array Slot) (μ' : Mem), (∀ k i f, k ≤ 20 → μ' k i f = μ k i f) → LI g hs t B μ' → IA hs (nO μ') μ' → GW g μ' w H → va_S (gA g) s.heap H locs → lv_has ls 11 (lwI b g (i + 1)) → W p l e room_1 s m args below meth c0 H locs (cells + 90 * r) (slots + 540 * r) Q (F0 m 30 ls [])) →
    W p l e room_1 s m args below meth c0 H locs cells slots Q (F0 m 71 ls []) := by
  intro r
  induction r with
  | zero =>
    intro o cells slots μ H locs ls ho hroom h hI hG hS hl kk
    have e17 := h.2.2.1.cO h.2.1
    have h60 := h.2.2.1.o60
    refine law_in l hl0 C hZ hG hS h.1 h.2.1 (by omega) ⟨by omega, by omega⟩ hl (fun hge ls hl => ?_) (fun hlt ls hl => absurd hlt (by omega))
    have eo : o = nO μ := by omega
    rw [eo] at hI
    exact W.widen (by omega) (by omega) (kk H locs ls μ (fun _ _ _ _ => rfl) h hI hG hS hl)
  | succ r ih =>
    intro o cells slots μ H locs ls ho hroom h hI hG hS hl kk
    have e17 := h.2.2.1.cO h.2.1
    have h60 := h.2.2.1.o60
    refine law_in l hl0 C hZ hG hS h.1 h.2.1 (by omega) ⟨by omega, by omega⟩ hl (fun hge ls hl => absurd hge (by omega)) (fun hlt ls hl => ?_)
    refine law_ord l hl0 C hZ hG hS h hB (by omega) hI ⟨by omega, by omega⟩ hl (fun H locs ls μ' e h' hI' hG hS hl => ?_)
    have eO : nO μ' = nO μ := nO_c (fun k i f hk => e k i f (by omega))
    refine ih (o + 1) _ _ μ' H locs ls (by omega) ⟨by omega, by omega⟩ h' hI' hG hS hl (fun H locs ls μ2 e2 h2 hI2 hG hS hl => ?_)
    exact W.widen (by omega) (by omega) (kk H locs ls μ2 (fun k i f hk => (e2 k i f hk).trans (e k i f hk)) h2 hI2 hG hS hl)
set_option maxHeartbeats 2000000 in
set_option maxRecDepth 100000 in
theorem law_outer (l : Launch) (hl0 : l.stackTraces = false) (C : LC p s m c0 args) {L : Nat} {xs : Nat → Int32} (hL : L ≤ 260) (hXs : va_X b L xs s s.heap) (hbl : b < s.heap.size) :
    ∀ (r i cells slots : Nat) (g : gG) (hs : Nat → Nat × Bool) (t B : Nat) (σ : Mem) (H : Heap) (locs : List Loc) (ls : Array Slot), i + r = 50 → cells ≤ 200 + 5500 * i → slots ≤ 2000 + 34000 * i → ZZ g s → gN0 g = s.heap.size → LI g hs t B σ → IA hs 0 σ → t ≤ 12 * i → B ≤ 300 * i → nO σ ≤ i → GW g σ w H → va_S (gA g) s.heap H locs → lv_has ls 11 (lwI b g i) →
    (∀ (g' : gG) (hs' : Nat → Nat × Bool) (t' B' : Nat) (σ' : Mem) (H : Heap) (locs : List Loc) (ls : Array Slot), ZZ g' s → gN0 g' = s.heap.size → LI g' hs' t' B' σ' → B' ≤ 20000 → nO σ' ≤ 50 → GW g' σ' w H → va_S (gA g') s.heap H locs → lv_has ls 11 (lwI b g' 50) → W p l e room_1 s m args below meth c0 H locs 300000 1800000 Q (F0 m 427 ls [])) →
    W p l e room_1 s m args below meth c0 H locs cells slots Q (F0 m 30 ls []) := by
  intro r
  induction r with
  | zero =>
    intro i cells slots g hs t B σ H locs ls hi hc hsl hZ hN h hI ht hB hO hG hS hl kk
    have hbA : ¬ gA g b := by show ¬ gN0 g ≤ b; omega
    obtain rfl : i = 50 := by omega
    refine law_30 l hl0 C hZ hG hS h.1 h.2.1 (by omega) hL hXs hbl hbA ⟨by omega, by omega⟩ hl (fun hge ls hl => ?_) (fun hlt x ls hl => absurd hlt (by omega))
    exact W.widen (by omega) (by omega) (kk g hs t B σ H locs ls hZ hN h (by omega) hO hG hS hl)
  | succ r ih =>
    intro i cells slots g hs t B σ H locs ls hi hc hsl hZ hN h hI ht hB hO hG hS hl kk
    have hbA : ¬ gA g b := by show ¬ gN0 g ≤ b; omega
    refine law_30 l hl0 C hZ hG hS h.1 h.2.1 (by omega) hL hXs hbl hbA ⟨by omega, by omega⟩ hl (fun hge ls hl => absurd hge (by omega)) (fun hlt x ls hl => ?_)
    have C' := C
    obtain ⟨hx, hb, hml, hown, hts⟩ := C'
    refine gx_cEn (gx_runSX (As := [.ref (gad g 0 0), .ref (gad g 8 0), .int x]) (rest := []) ⟨hx, hb, hml, hown, hts⟩ (c_L_act l hl0 g σ w x hs t B h (by omega) (by omega) (by omega)) (vx_cwSW 3 hts gL_law_L_act rfl rfl rfl (by decide +kernel) ⟨Nat.le_of_ble_eq_true rfl, Nat.le_of_ble_eq_true rfl⟩) hZ hG hS rfl hl.1 rfl (Nat.le_of_ble_eq_true rfl) dL_law_60 ⟨rc1 (by omega), rs1 (by omega)⟩) hS (fun v H1 locs1 hP hS1 hsz => ?_)
    obtain ⟨rfl, g1, σ1, t1, B1, hgs, h1, ht1, hO1, h20, hG1⟩ := hP
    have hZ1 : ZZ g1 s := hgs.zz hZ
    have hN1 : gN0 g1 = s.heap.size := by unfold gN0; rw [hgs.1.2.2]; exact hN
    have hI1 : IA hs 0 σ1 := fun j hj => ⟨fun q => absurd q (Nat.not_lt_zero _), fun q => by rw [h20 21 0 j (by decide), h20 22 0 j (by decide)]; exact (hI j hj).2 q⟩
    have hl1 : lv_has ls 11 [(0, .ref b), (1, .ref (gad g1 0 0)), (2, .ref (gad g1 8 0)), (3, .ref (gad g1 21 0)), (4, .ref (gad g1 22 0)), (5, .int (nI i)), (6, .int x)] := by
      rw [hgs.2.1.1, hgs.2.1.2, hgs.2.2.1, hgs.2.2.2]; exact hl
    refine law_63 l hl0 C hZ1 hG1 (by rw [hgs.eA]; exact hS1) ⟨by omega, by omega⟩ hl1 (fun ls hl => ?_)
    have h60 : nO σ1 ≤ i + 1 := by omega
    refine law_inner l hl0 C hZ1 (by omega) (nO σ1) 0 _ _ σ1 H1 locs1 ls (by omega) ⟨by omega, by omega⟩ h1 hI1 hG1 (by rw [hgs.eA]; exact hS1) hl (fun H locs ls μ' em h2 hI2 hG2 hS2 hl => ?_)
    obtain ⟨hs2, h3, hI3⟩ := h2.rebase hI2
    have eO : nO μ' = nO σ1 := nO_c (fun k i f hk => em k i f (by omega))
    exact ih (i + 1) _ _ g1 hs2 t1 B1 μ' H locs ls (by omega) (by omega) (by omega) hZ1 hN1 h3 hI3 (by omega) (by omega) (by omega) hG2 hS2 hl kk
theorem law_refl (l : Launch) (hl0 : l.stackTraces = false) (C : LC p s m c0 args) (hZ : ZZ g s) {c : Nat} (hc6 : c < gcn g 6) (h10 : gcn g 6 ≤ 10) :
    ∀ (r u cells slots B : Nat) (μ ρ : Mem) (H : Heap) (locs : List Loc) (ls : Array Slot), cntB (clr μ c) (gcn g 7) ≤ r → u + r < 60 → (cells + 6 * r + 200 ≤ 600104 ∧ slots + 36 * r + 1200 ≤ 7301314) → FI g hs t B μ ρ → B + 100 < 2 ^ 31 - r → GW g μ w H → va_S (gA g) s.heap H locs → lv_has ls 11 [(1, .ref (gad g 0 0)), (2, .ref (gad g 8 0)), (5, .int (nI c)), (6, .int (nI u))] →
    (∀ (u' : Nat) (μ' ρ' : Mem) (H : Heap) (locs : List Loc) (ls : Array Slot), u' < 60 → FI g hs t (B + r) μ' ρ' → GW g μ' w H → va_S (gA g) s.heap H locs → lv_has ls 11 [(1, .ref (gad g 0 0)), (2, .ref (gad g 8 0)), (5, .int (nI c)), (6, .int (nI u'))] → W p l e room_1 s m args below meth c0 H locs (cells + 6 * r + 4) (slots + 36 * r + 24) Q (F0 m 483 ls [])) →
    W p l e room_1 s m args below meth c0 H locs cells slots Q (F0 m 442 ls []) := by
  intro r
  induction r with
  | zero =>
    intro u cells slots B μ ρ H locs ls hr hu hroom h hB hG hS hl kk
    refine law_442 l hl0 C hZ hG hS h.1 h.2.1 hc6 (by omega) (by omega) ⟨by omega, by omega⟩ hl (fun ls hl => ?_) (fun q1 q3 ls hl => ?_)
    · exact W.widen (by omega) (by omega) (kk u μ ρ H locs ls (by omega) h hG hS hl)
    · have := (h.step (by omega) hc6 q1 q3).2.2
      omega
  | succ r ih =>
    intro u cells slots B μ ρ H locs ls hr hu hroom h hB hG hS hl kk
    refine law_442 l hl0 C hZ hG hS h.1 h.2.1 hc6 (by omega) (by omega) ⟨by omega, by omega⟩ hl (fun ls hl => ?_) (fun q1 q3 ls hl => ?_)
    · exact W.widen (by omega) (by omega) (kk u μ ρ H locs ls (by omega) ⟨h.1, h.2.1, h.2.2.1, h.2.2.2.mono (by omega)⟩ hG hS hl)
    · obtain ⟨q, ⟨ρ', h'⟩, hm⟩ := h.step (by omega) hc6 q1 q3
      refine law_473 l hl0 C hZ hG hS h.1 h.2.1 rfl q ⟨by omega, by omega⟩ hl (fun H locs ls hG hS hl => ?_)
      refine ih (u + 1) _ _ (B + 1) _ ρ' H locs ls (by omega) (by omega) ⟨by omega, by omega⟩ h' (by omega) hG hS hl (fun u' μ' ρ2 H locs ls hu' h2 hG hS hl => ?_)
      exact W.widen (by omega) (by omega) (kk u' μ' ρ2 H locs ls hu' ⟨h2.1, h2.2.1, h2.2.2.1, h2.2.2.2.mono (by omega)⟩ hG hS hl)
theorem law_cabs (l : Launch) (hl0 : l.stackTraces = false) (C : LC p s m c0 args) (hZ : ZZ g s) (h7 : gcn g 7 ≤ 50) (e66 : gcn g 6 = gcn g 16) (h10 : gcn g 6 ≤ 10) :
    ∀ (r c cells slots B : Nat) (μ ρ : Mem) (H : Heap) (locs : List Loc) (ls : Array Slot), c + r = gcn g 16 → (cells + 400 * r + 1000 ≤ 600104 ∧ slots + 2400 * r + 6000 ≤ 7301314) → FI g hs t B μ ρ → B + 100 * r + 1000 < 2 ^ 31 → GW g μ w H → va_S (gA g) s.heap H locs → lv_has ls 11 [(1, .ref (gad g 0 0)), (2, .ref (gad g 8 0)), (5, .int (nI c))] →
    (∀ (B' : Nat) (μ' ρ' : Mem) (H : Heap) (locs : List Loc) (ls : Array Slot), FI g hs t B' μ' ρ' → GW g μ' w H → va_S (gA g) s.heap H locs → lv_has ls 11 [(1, .ref (gad g 0 0)), (2, .ref (gad g 8 0))] → W p l e room_1 s m args below meth c0 H locs (cells + 400 * r) (slots + 2400 * r) Q (F0 m 498 ls [])) →
    W p l e room_1 s m args below meth c0 H locs cells slots Q (F0 m 430 ls []) := by
  intro r
  induction r with
  | zero =>
    intro c cells slots B μ ρ H locs ls hc hroom h hB hG hS hl kk
    refine law_430 l hl0 C hZ hG hS h.1 h.2.1 (by omega) ⟨by omega, by omega⟩ hl (fun hge ls hl => ?_) (fun hlt ls hl => absurd hlt (by omega))
    exact W.widen (by omega) (by omega) (kk B μ ρ H locs ls h hG hS hl)
  | succ r ih =>
    intro c cells slots B μ ρ H locs ls hc hroom h hB hG hS hl kk
    refine law_430 l hl0 C hZ hG hS h.1 h.2.1 (by omega) ⟨by omega, by omega⟩ hl (fun hge ls hl => absurd hge (by omega)) (fun hlt ls hl => ?_)
    refine law_refl l hl0 C hZ (c := c) (by omega) h10 (gcn g 7) 0 _ _ B μ ρ H locs ls (cntB_n _) (by omega) ⟨by omega, by omega⟩ h (by omega) hG hS hl (fun u' μ' ρ' H locs ls hu h' hG hS hl => ?_)
    refine law_483 l hl0 C hZ hG hS hu ⟨by omega, by omega⟩ hl (fun ls hl => ?_)
    refine ih (c + 1) _ _ _ μ' ρ' H locs ls (by omega) ⟨by omega, by omega⟩ h' (by omega) hG hS hl (fun B' μ2 ρ2 H locs ls h2 hG hS hl => ?_)
    exact W.widen (by omega) (by omega) (kk B' μ2 ρ2 H locs ls h2 hG hS hl)
theorem law_last (l : Launch) (hl0 : l.stackTraces = false) (C : LC p s m c0 args) (hZ : ZZ g s) (h : LI g hs t B σ) (hB : B ≤ 20000) (hO : nO σ ≤ 50) (hG : GW g σ w H) (hS : va_S (gA g) s.heap H locs) (hl : lv_has ls 11 (lwI b g 50))
    (kk : ∀ (H : Heap) (locs : List Loc) (ls : Array Slot), va_S (gA g) s.heap H locs → W p l e room_1 s m args below meth c0 H locs 600104 7301314 Q (F0 m 515 ls [.int 1])) :
    W p l e room_1 s m args below meth c0 H locs 300000 1800000 Q (F0 m 427 ls []) := by
  have e16 := h.2.2.1.cC h.2.1
  have e17 := h.2.2.1.cO h.2.1
  have e6 := h.1.eC
  have e7 := h.1.eO
  have h10 := h.1.n6
  refine law_427 l hl0 C hZ hG hS ⟨by omega, by omega⟩ (lv_sub hl [1, 2] rfl) (fun ls hl => ?_)
  refine law_cabs (hs := hs) (t := t) l hl0 C hZ (by omega) (by omega) h10 (gcn g 16) 0 _ _ B σ σ H locs ls (by omega) ⟨by omega, by omega⟩ ⟨h.1, h.2.1, h.2.1, h.2.2.1⟩ (by omega) hG hS hl (fun B' μ' ρ' H locs ls h2 hG hS hl => ?_)
  have e72 := h2.1.eO
  refine law_498 l hl0 C hZ hG hS h2.1 h2.2.1 ?_ ⟨by omega, by omega⟩ hl (fun ls => ?_)
  · unfold xCount
    rw [if_neg (by decide), if_pos rfl]
    congr 1
    omega
  · exact W.widen (by omega) (by omega) (kk H locs ls hS)
end LAWR
