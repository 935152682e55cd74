section LOOP
variable {p : Program} {e : Env} {s : State} {m : MethodId} {below : List Frame} {meth : Method} {c : Code} {b L : Nat} {xs : Nat → Int32}
theorem lt_len {L i : Nat} (hL : L ≤ 2560) (hi : i ≤ 2565) : (nI L - 5 < nI i) ↔ L < i + 5 := by
  have e1 : (nI L - nI 5).toInt = (L : Int) - (5 : Nat) := pk_sub_toInt (by omega) (by omega)
  have e2 : (nI i).toInt = (i : Int) := nI_toInt (by omega)
  rw [Int32.lt_iff_toInt_lt, show (5 : Int32) = nI 5 from rfl, e1, e2]
  omega
theorem sw_out21 {x : Int32} (h : ∀ j, j < 21 → ¬ x = nI j) : x.toInt < 0 ∨ 20 < x.toInt := by
  rcases pk_ix x (n := 21) (by decide) with q | q | ⟨j, hj, e⟩
  · exact Or.inl (show x.toInt < (0 : Int) from Int32.lt_iff_toInt_lt.mp q)
  · right
    have := Int32.le_iff_toInt_le.mp q
    have e2 : (nI 21).toInt = (21 : Int) := nI_toInt (by decide)
    omega
  · exact absurd e (h j hj)
set_option maxHeartbeats 8000000 in
set_option maxRecDepth 100000 in
theorem law_loop (l : Launch) (hl0 : l.stackTraces = false) (hL : L ≤ 2560) (C : LW p s m c #[Value.ref b] b L xs) (hr : meth.sig.returnType = ret) (hlocks : meth.locks = false) :
    ∀ (n i k : Nat), i = 5 * k → L ≤ i + 5 * n → ∀ (g : gG) (σ : Mem) (w : Int64) (H : Heap) (locs : List Loc) (B cells slots : Nat), B ≤ 6010 * k → k ≤ 512 → cells ≤ 18 + 6 * k → slots ≤ 965 + 248 * k → LG g s σ w H locs B → ∀ ls : Array Slot, lv_has ls 9 (lwl b g i) → W p l e room_1 s m #[Value.ref b] below meth c H locs cells slots (lw_Z below #[Value.ref b] s) (F0 m 23 ls []) := by
  intro n
  induction n with
  | zero =>
    intro i k hik hn g σ w H locs B cells slots hB hk512 hc hs D ls hl
    obtain ⟨hx, hb, hml, hown, hts, hX, hbl⟩ := C
    obtain ⟨hZ, hG, hS, hI, hN⟩ := D
    have hbA : ¬ gA g b := by show ¬ gN0 g ≤ b; omega
    have hl : lv_has ls 9 [(0, .ref b), (1, .ref (gad g 0 0)), (2, .ref (gad g 8 0)), (3, .ref (gad g 10 0)), (4, .int (nI i))] := hl
    refine lv_iload hx hb dL_law_23 (lv_at hl 4 rfl) ?_
    refine lv_aload_n hx hb dL_law_25 rfl (lv_at hl 0 rfl) ?_
    refine va_slen hx hb hX hbl hbA hS dL_law_26 ?_
    refine lv_iconst (v := 5) hx hb dL_law_27 (by decide) ?_
    refine lv_isub hx hb dL_law_28 ?_
    refine lv_icmp_gt (tgt := 1390) hx hb dL_law_29 (by decide) (fun c1 => ?_) (fun c1 => ?_)
    · refine lv_iconst (v := 1) hx hb dL_law_1390 (by decide) ?_
      refine va_forget (fun q hq => ?_) ?_
      · rw [← hN]; exact hS.2.2 q hq
      · refine W.widen (k := 601024) (n := 7293034) (by omega) (by omega) ?_
        exact lw_ret (d0 := s.drawn) (Drawn.sameBut.refl s.drawn lw_cs) hx hb hr hlocks dL_law_1391
    · exact absurd ((lt_len hL (by omega)).mpr (by omega)) c1
  | succ n ih =>
    intro i k hik hn g σ w H locs B cells slots hB hk512 hc hs D ls hl
    have C' := C
    have D' := D
    have hl' := hl
    obtain ⟨hx, hb, hml, hown, hts, hX, hbl⟩ := C
    obtain ⟨hZ, hG, hS, hI, hN⟩ := D
    have hbA : ¬ gA g b := by show ¬ gN0 g ≤ b; omega
    have hl : lv_has ls 9 [(0, .ref b), (1, .ref (gad g 0 0)), (2, .ref (gad g 8 0)), (3, .ref (gad g 10 0)), (4, .int (nI i))] := hl
    refine lv_iload hx hb dL_law_23 (lv_at hl 4 rfl) ?_
    refine lv_aload_n hx hb dL_law_25 rfl (lv_at hl 0 rfl) ?_
    refine va_slen hx hb hX hbl hbA hS dL_law_26 ?_
    refine lv_iconst (v := 5) hx hb dL_law_27 (by decide) ?_
    refine lv_isub hx hb dL_law_28 ?_
    refine lv_icmp_gt (tgt := 1390) hx hb dL_law_29 (by decide) (fun c1 => ?_) (fun c1 => ?_)
    · refine lv_iconst (v := 1) hx hb dL_law_1390 (by decide) ?_
      refine va_forget (fun q hq => ?_) ?_
      · rw [← hN]; exact hS.2.2 q hq
      · refine W.widen (k := 601024) (n := 7293034) (by omega) (by omega) ?_
        exact lw_ret (d0 := s.drawn) (Drawn.sameBut.refl s.drawn lw_cs) hx hb hr hlocks dL_law_1391
    · have hi5 : i + 5 ≤ L := by
        rcases Nat.lt_or_ge L (i + 5) with q | q
        · exact absurd ((lt_len hL (by omega)).mpr q) c1
        · exact q
      have hroom : cells + 6 ≤ 601024 ∧ slots + 248 ≤ 7293034 := ⟨by omega, by omega⟩
      have hB2 : B + 6010 < 2 ^ 31 := by omega
      -- the call is over
      have next : ∀ (g' : gG) (σ' : Mem) (w' : Int64) (H' : Heap) (locs' : List Loc) (ls' : Array Slot), gSame g g' → LG g' s σ' w' H' locs' (B + 6010) → lv_has ls' 9 (lwl b g' i) → W p l e room_1 s m #[Value.ref b] below meth c H' locs' (cells + 6) (slots + 248) (lw_Z below #[Value.ref b] s) (F0 m 1384 ls' []) := by
        intro g' σ' w' H' locs' ls' _ D2 hl2
        have hl2 : lv_has ls' 9 [(0, .ref b), (1, .ref (gad g' 0 0)), (2, .ref (gad g' 8 0)), (3, .ref (gad g' 10 0)), (4, .int (nI i))] := hl2
        refine lv_iinc (v := nI (i + 5)) (lv' := [(4, .int (nI (i + 5))), (0, .ref b), (1, .ref (gad g' 0 0)), (2, .ref (gad g' 8 0)), (3, .ref (gad g' 10 0))]) hx hb dL_law_1384 hl2 (k := 4) rfl (nI_add i 5) (by decide) rfl (fun ls hl => ?_)
        refine lv_goto (tgt := 23) hx hb dL_law_1387 (by decide) ?_
        exact ih (i + 5) (k + 1) (by omega) (by omega) g' σ' w' H' locs' (B + 6010) (cells + 6) (slots + 248) (by omega) (by omega) (by omega) (by omega) D2 ls (lv_sub hl [1, 2, 3, 4, 0] rfl)
      refine lv_aload_n hx hb dL_law_32 rfl (lv_at hl 0 rfl) ?_
      refine lv_iload hx hb dL_law_33 (lv_at hl 4 rfl) ?_
      refine va_sld hx hb hX hbl hbA hS (vp_in_nI (by omega) (by omega)) dL_law_35 ?_
      refine lv_bipush (v := 31) hx hb dL_law_36 (by decide) ?_
      refine lv_iand hx hb dL_law_38 ?_
      refine lv_topi (fun x _ => ?_)
      by_cases z0 : x = nI 0
      · refine lv_tableIn (off := 97) (tgt := 136) hx hb dL_law_39 (by rw [z0]; decide) (by rw [z0]; decide) (by rw [z0]; rfl) (by decide) ?_
        exact law_setWay l hl0 C' D' hB2 hi5 hL hroom hl' next
      by_cases z1 : x = nI 1
      · refine lv_tableIn (off := 177) (tgt := 216) hx hb dL_law_39 (by rw [z1]; decide) (by rw [z1]; decide) (by rw [z1]; rfl) (by decide) ?_
        exact law_addCab l hl0 C' D' hB2 hi5 hL hroom hl' next
      by_cases z2 : x = nI 2
      · refine lv_tableIn (off := 245) (tgt := 284) hx hb dL_law_39 (by rw [z2]; decide) (by rw [z2]; decide) (by rw [z2]; rfl) (by decide) ?_
        exact law_start l hl0 C' D' hB2 hi5 hL hroom hl' next
      by_cases z3 : x = nI 3
      · refine lv_tableIn (off := 301) (tgt := 340) hx hb dL_law_39 (by rw [z3]; decide) (by rw [z3]; decide) (by rw [z3]; rfl) (by decide) ?_
        exact law_stop l hl0 C' D' hB2 hi5 hL hroom hl' next
      by_cases z4 : x = nI 4
      · refine lv_tableIn (off := 357) (tgt := 396) hx hb dL_law_39 (by rw [z4]; decide) (by rw [z4]; decide) (by rw [z4]; rfl) (by decide) ?_
        exact law_setRates l hl0 C' D' hB2 hi5 hL hroom hl' next
      by_cases z5 : x = nI 5
      · refine lv_tableIn (off := 425) (tgt := 464) hx hb dL_law_39 (by rw [z5]; decide) (by rw [z5]; decide) (by rw [z5]; rfl) (by decide) ?_
        exact law_cab l hl0 C' D' hB2 hi5 hL hroom hl' next
      by_cases z6 : x = nI 6
      · refine lv_tableIn (off := 493) (tgt := 532) hx hb dL_law_39 (by rw [z6]; decide) (by rw [z6]; decide) (by rw [z6]; rfl) (by decide) ?_
        exact law_order l hl0 C' D' hB2 hi5 hL hroom hl' next
      by_cases z7 : x = nI 7
      · refine lv_tableIn (off := 585) (tgt := 624) hx hb dL_law_39 (by rw [z7]; decide) (by rw [z7]; decide) (by rw [z7]; rfl) (by decide) ?_
        exact law_accept l hl0 C' D' hB2 hi5 hL hroom hl' next
      by_cases z8 : x = nI 8
      · refine lv_tableIn (off := 641) (tgt := 680) hx hb dL_law_39 (by rw [z8]; decide) (by rw [z8]; decide) (by rw [z8]; rfl) (by decide) ?_
        exact law_refuse l hl0 C' D' hB2 hi5 hL hroom hl' next
      by_cases z9 : x = nI 9
      · refine lv_tableIn (off := 697) (tgt := 736) hx hb dL_law_39 (by rw [z9]; decide) (by rw [z9]; decide) (by rw [z9]; rfl) (by decide) ?_
        exact law_cancel l hl0 C' D' hB2 hi5 hL hroom hl' next
      by_cases z10 : x = nI 10
      · refine lv_tableIn (off := 753) (tgt := 792) hx hb dL_law_39 (by rw [z10]; decide) (by rw [z10]; decide) (by rw [z10]; rfl) (by decide) ?_
        exact law_told l hl0 C' D' hB2 hi5 hL hroom hl' next
      by_cases z11 : x = nI 11
      · refine lv_tableIn (off := 821) (tgt := 860) hx hb dL_law_39 (by rw [z11]; decide) (by rw [z11]; decide) (by rw [z11]; rfl) (by decide) ?_
        exact law_fare l hl0 C' D' hB2 hi5 hL hroom hl' next
      by_cases z12 : x = nI 12
      · refine lv_tableIn (off := 889) (tgt := 928) hx hb dL_law_39 (by rw [z12]; decide) (by rw [z12]; decide) (by rw [z12]; rfl) (by decide) ?_
        exact law_tick l hl0 C' D' hB2 hi5 hL hroom hl' next
      by_cases z13 : x = nI 13
      · refine lv_tableIn (off := 945) (tgt := 984) hx hb dL_law_39 (by rw [z13]; decide) (by rw [z13]; decide) (by rw [z13]; rfl) (by decide) ?_
        exact law_now l hl0 C' D' hB2 hi5 hL hroom hl' next
      by_cases z14 : x = nI 14
      · refine lv_tableIn (off := 958) (tgt := 997) hx hb dL_law_39 (by rw [z14]; decide) (by rw [z14]; decide) (by rw [z14]; rfl) (by decide) ?_
        exact law_queue l hl0 C' D' hB2 hi5 hL hroom hl' next
      by_cases z15 : x = nI 15
      · refine lv_tableIn (off := 1026) (tgt := 1065) hx hb dL_law_39 (by rw [z15]; decide) (by rw [z15]; decide) (by rw [z15]; rfl) (by decide) ?_
        exact law_count l hl0 C' D' hB2 hi5 hL hroom hl' next
      by_cases z16 : x = nI 16
      · refine lv_tableIn (off := 1082) (tgt := 1121) hx hb dL_law_39 (by rw [z16]; decide) (by rw [z16]; decide) (by rw [z16]; rfl) (by decide) ?_
        exact law_money l hl0 C' D' hB2 hi5 hL hroom hl' next
      by_cases z17 : x = nI 17
      · refine lv_tableIn (off := 1166) (tgt := 1205) hx hb dL_law_39 (by rw [z17]; decide) (by rw [z17]; decide) (by rw [z17]; rfl) (by decide) ?_
        exact law_settle l hl0 C' D' hB2 hi5 hL hroom hl' next
      by_cases z18 : x = nI 18
      · refine lv_tableIn (off := 1222) (tgt := 1261) hx hb dL_law_39 (by rw [z18]; decide) (by rw [z18]; decide) (by rw [z18]; rfl) (by decide) ?_
        exact law_lateness l hl0 C' D' hB2 hi5 hL hroom hl' next
      by_cases z19 : x = nI 19
      · refine lv_tableIn (off := 1263) (tgt := 1302) hx hb dL_law_39 (by rw [z19]; decide) (by rw [z19]; decide) (by rw [z19]; rfl) (by decide) ?_
        exact law_nearest l hl0 C' D' hB2 hi5 hL hroom hl' next
      by_cases z20 : x = nI 20
      · refine lv_tableIn (off := 1331) (tgt := 1370) hx hb dL_law_39 (by rw [z20]; decide) (by rw [z20]; decide) (by rw [z20]; rfl) (by decide) ?_
        exact law_digest l hl0 C' D' hB2 hi5 hL hroom hl' next
      refine lv_tableOut (tgt := 1384) hx hb dL_law_39 (sw_out21 (fun j hj => ?_)) (by decide) ?_
      · match j, hj with
        | 0, _ => exact z0
        | 1, _ => exact z1
        | 2, _ => exact z2
        | 3, _ => exact z3
        | 4, _ => exact z4
        | 5, _ => exact z5
        | 6, _ => exact z6
        | 7, _ => exact z7
        | 8, _ => exact z8
        | 9, _ => exact z9
        | 10, _ => exact z10
        | 11, _ => exact z11
        | 12, _ => exact z12
        | 13, _ => exact z13
        | 14, _ => exact z14
        | 15, _ => exact z15
        | 16, _ => exact z16
        | 17, _ => exact z17
        | 18, _ => exact z18
        | 19, _ => exact z19
        | 20, _ => exact z20
        | n + 21, hj => exact absurd hj (by omega)
      · refine W.widen (k := cells + 6) (n := slots + 248) (by omega) (by omega) ?_
        exact next g σ w H locs ls (gSame.rf g) ⟨hZ, hG, hS, ⟨hI.1, hI.2.1, hI.2.2.1.mono (by omega), hI.2.2.2⟩, hN⟩ hl
end LOOP
