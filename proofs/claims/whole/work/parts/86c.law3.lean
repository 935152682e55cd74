section LAWC
variable {p : Program} {e : Env} {s : State} {m : MethodId} {args : Array Value} {below : List Frame} {meth : Method} {c : Code} {H : Heap} {locs : List Loc} {cells slots : Nat} {Q : State → Prop}
variable {ls : Array Slot} {g : gG} {σ : Mem} {w : Int64} {b L : Nat} {xs : Nat → Int32} {B i : Nat}
set_option maxHeartbeats 4000000 in
set_option maxRecDepth 100000 in
theorem law_refuse (l : Launch) (hl0 : l.stackTraces = false) (C : LW p s m c args b L xs) (D : LG g s σ w H locs B) (hB : B + 6010 < 2 ^ 31) (hi : i + 5 ≤ L) (hL : L ≤ 2560) (hroom : cells + 6 ≤ 601024 ∧ slots + 248 ≤ 7293034) (hl : lv_has ls 9 (lwl b g i))
    (kk : ∀ (g' : gG) (σ' : Mem) (w' : Int64) (H' : Heap) (locs' : List Loc) (ls' : Array Slot), gSame g g' → LG g' s σ' w' H' locs' (B + 6010) → lv_has ls' 9 (lwl b g' i) → W p l e room_1 s m args below meth c H' locs' (cells + 6) (slots + 248) Q (F0 m 1384 ls' [])) : W p l e room_1 s m args below meth c H locs cells slots Q (F0 m 680 ls []) := by
  obtain ⟨hx, hb, hml, hown, hts, hX, hbl⟩ := C
  obtain ⟨hZ, hG, hS, hI, hN⟩ := D
  have hbA : ¬ gA g b := by show ¬ gN0 g ≤ b; omega
  have hl : lv_has ls 9 [(0, .ref b), (1, .ref (gad g 0 0)), (2, .ref (gad g 8 0)), (3, .ref (gad g 10 0)), (4, .int (nI i))] := hl
  refine lv_aload_n hx hb dL_law_680 rfl (lv_at hl 1 rfl) ?_
  refine lw_cell hx hb hX hbl hbA hS 1 (lv_at hl 0 rfl) (lv_at hl 4 rfl) (by decide) (by omega) hL dL_law_681 dL_law_682 dL_law_684 dL_law_685 dL_law_686 ?_
  refine lv_aload_n hx hb dL_law_687 rfl (lv_at hl 3 rfl) ?_
  refine gx_cEn (gx_runSX (As := [.ref (gad g 0 0), .int (xs (i + 1)), .ref (gad g 10 0)]) (rest := []) ⟨hx, hb, hml, hown, hts⟩ (c_L_refuse l hl0 g σ w (xs (i + 1)) hI.1 hI.2.2.2.1.1 hI.2.2.2.1.2) (vx_cwSW 3 hts gL_law_L_refuse rfl rfl rfl (by decide +kernel) ⟨Nat.le_of_ble_eq_true rfl, Nat.le_of_ble_eq_true rfl⟩) hZ hG hS rfl hl.1 rfl (Nat.le_of_ble_eq_true rfl) dL_law_688 ⟨rc1 (by omega), rs1 (by omega)⟩) hS (fun vr H1 locs1 hD hS hsz => ?_)
  obtain ⟨kv, σ1, w1, rfl, hG, hF, hca, hk, hw, hI⟩ := z_refuse hI hB (xs (i + 1)) hD
  refine lv_istore (lv' := [(5, .int kv), (0, .ref b), (1, .ref (gad g 0 0)), (2, .ref (gad g 8 0)), (3, .ref (gad g 10 0)), (4, .int (nI i))]) hx hb dL_law_691 hl (by decide) rfl (fun ls hl => ?_)
  refine lv_aload_n hx hb dL_law_693 rfl (lv_at hl 3 rfl) ?_
  refine lw_cell hx hb hX hbl hbA hS 1 (lv_at hl 1 rfl) (lv_at hl 5 rfl) (by decide) (by omega) hL dL_law_694 dL_law_695 dL_law_697 dL_law_698 dL_law_699 ?_
  refine gx_cM (gx_runV (As := [.int (xs (i + 1))]) (rest := []) ⟨hx, hb, hml, hown, hts⟩ (c_X3_refuse l g σ1 w1 (xs (i + 1)) hF) (cwV 1 hts gL_law_X3_refuse rfl rfl rfl (by decide +kernel) ⟨Nat.le_of_ble_eq_true rfl, Nat.le_of_ble_eq_true rfl⟩) (gx_obj hZ hG 8 0 hF.1.b8 rfl) hZ hG hS rfl hl.1 rfl (Nat.le_of_ble_eq_true rfl) dL_law_700 ⟨rc1 (by omega), rs1 (by omega)⟩) hS (fun H2 locs2 hG hS hsz2 => ?_)
  refine lw_tail (bv := (mRefuse (gst σ1 8 0 0 0) (xs (i + 1))).1) hx hb hml hown hts hZ hG hS hI.2.1.1 hI.2.2.2.1 hk hw hl ⟨by omega, by omega⟩ dL_law_703 dL_law_705 dL_law_706 dL_law_709 dL_law_711 dL_law_716 dL_law_718 dL_law_721 dL_law_722 dL_law_723 dL_law_724 dL_law_726 dL_law_727 dL_law_728 dL_law_733 (by decide) (fun ls hl => ?_)
  refine W.widen (k := cells + 6) (n := slots + 248) (by omega) (by omega) ?_
  exact kk g _ _ _ _ ls (gSame.rf g) ⟨hZ, hG, hS, hI, hN⟩ hl
set_option maxHeartbeats 4000000 in
set_option maxRecDepth 100000 in
theorem law_cancel (l : Launch) (hl0 : l.stackTraces = false) (C : LW p s m c args b L xs) (D : LG g s σ w H locs B) (hB : B + 6010 < 2 ^ 31) (hi : i + 5 ≤ L) (hL : L ≤ 2560) (hroom : cells + 6 ≤ 601024 ∧ slots + 248 ≤ 7293034) (hl : lv_has ls 9 (lwl b g i))
    (kk : ∀ (g' : gG) (σ' : Mem) (w' : Int64) (H' : Heap) (locs' : List Loc) (ls' : Array Slot), gSame g g' → LG g' s σ' w' H' locs' (B + 6010) → lv_has ls' 9 (lwl b g' i) → W p l e room_1 s m args below meth c H' locs' (cells + 6) (slots + 248) Q (F0 m 1384 ls' [])) : W p l e room_1 s m args below meth c H locs cells slots Q (F0 m 736 ls []) := by
  obtain ⟨hx, hb, hml, hown, hts, hX, hbl⟩ := C
  obtain ⟨hZ, hG, hS, hI, hN⟩ := D
  have hbA : ¬ gA g b := by show ¬ gN0 g ≤ b; omega
  have hl : lv_has ls 9 [(0, .ref b), (1, .ref (gad g 0 0)), (2, .ref (gad g 8 0)), (3, .ref (gad g 10 0)), (4, .int (nI i))] := hl
  refine lv_aload_n hx hb dL_law_736 rfl (lv_at hl 1 rfl) ?_
  refine lw_cell hx hb hX hbl hbA hS 1 (lv_at hl 0 rfl) (lv_at hl 4 rfl) (by decide) (by omega) hL dL_law_737 dL_law_738 dL_law_740 dL_law_741 dL_law_742 ?_
  refine lv_aload_n hx hb dL_law_743 rfl (lv_at hl 3 rfl) ?_
  refine gx_cEn (gx_runSX (As := [.ref (gad g 0 0), .int (xs (i + 1)), .ref (gad g 10 0)]) (rest := []) ⟨hx, hb, hml, hown, hts⟩ (c_L_cancel l hl0 g σ w (xs (i + 1)) hI.1 hI.2.2.2.1.1 hI.2.2.2.1.2) (vx_cwSW 3 hts gL_law_L_cancel rfl rfl rfl (by decide +kernel) ⟨Nat.le_of_ble_eq_true rfl, Nat.le_of_ble_eq_true rfl⟩) hZ hG hS rfl hl.1 rfl (Nat.le_of_ble_eq_true rfl) dL_law_744 ⟨rc1 (by omega), rs1 (by omega)⟩) hS (fun vr H1 locs1 hD hS hsz => ?_)
  obtain ⟨kv, σ1, w1, rfl, hG, hF, hca, hk, hw, hI⟩ := z_cancel hI hB (xs (i + 1)) hD
  refine lv_istore (lv' := [(5, .int kv), (0, .ref b), (1, .ref (gad g 0 0)), (2, .ref (gad g 8 0)), (3, .ref (gad g 10 0)), (4, .int (nI i))]) hx hb dL_law_747 hl (by decide) rfl (fun ls hl => ?_)
  refine lv_aload_n hx hb dL_law_749 rfl (lv_at hl 3 rfl) ?_
  refine lw_cell hx hb hX hbl hbA hS 1 (lv_at hl 1 rfl) (lv_at hl 5 rfl) (by decide) (by omega) hL dL_law_750 dL_law_751 dL_law_753 dL_law_754 dL_law_755 ?_
  refine gx_cM (gx_runV (As := [.int (xs (i + 1))]) (rest := []) ⟨hx, hb, hml, hown, hts⟩ (c_X3_cancelB l g σ1 w1 (xs (i + 1)) hF hca) (cwV 1 hts gL_law_X3_cancel rfl rfl rfl (by decide +kernel) ⟨Nat.le_of_ble_eq_true rfl, Nat.le_of_ble_eq_true rfl⟩) (gx_obj hZ hG 8 0 hF.1.b8 rfl) hZ hG hS rfl hl.1 rfl (Nat.le_of_ble_eq_true rfl) dL_law_756 ⟨rc1 (by omega), rs1 (by omega)⟩) hS (fun H2 locs2 hG hS hsz2 => ?_)
  refine lw_tail (bv := (mCancel (gst σ1 8 0 0 0) (xs (i + 1))).1) hx hb hml hown hts hZ hG hS hI.2.1.1 hI.2.2.2.1 hk hw hl ⟨by omega, by omega⟩ dL_law_759 dL_law_761 dL_law_762 dL_law_765 dL_law_767 dL_law_772 dL_law_774 dL_law_777 dL_law_778 dL_law_779 dL_law_780 dL_law_782 dL_law_783 dL_law_784 dL_law_789 (by decide) (fun ls hl => ?_)
  refine W.widen (k := cells + 6) (n := slots + 248) (by omega) (by omega) ?_
  exact kk g _ _ _ _ ls (gSame.rf g) ⟨hZ, hG, hS, hI, hN⟩ hl
set_option maxHeartbeats 4000000 in
set_option maxRecDepth 100000 in
theorem law_told (l : Launch) (hl0 : l.stackTraces = false) (C : LW p s m c args b L xs) (D : LG g s σ w H locs B) (hB : B + 6010 < 2 ^ 31) (hi : i + 5 ≤ L) (hL : L ≤ 2560) (hroom : cells + 6 ≤ 601024 ∧ slots + 248 ≤ 7293034) (hl : lv_has ls 9 (lwl b g i))
    (kk : ∀ (g' : gG) (σ' : Mem) (w' : Int64) (H' : Heap) (locs' : List Loc) (ls' : Array Slot), gSame g g' → LG g' s σ' w' H' locs' (B + 6010) → lv_has ls' 9 (lwl b g' i) → W p l e room_1 s m args below meth c H' locs' (cells + 6) (slots + 248) Q (F0 m 1384 ls' [])) : W p l e room_1 s m args below meth c H locs cells slots Q (F0 m 792 ls []) := by
  obtain ⟨hx, hb, hml, hown, hts, hX, hbl⟩ := C
  obtain ⟨hZ, hG, hS, hI, hN⟩ := D
  have hbA : ¬ gA g b := by show ¬ gN0 g ≤ b; omega
  have hl : lv_has ls 9 [(0, .ref b), (1, .ref (gad g 0 0)), (2, .ref (gad g 8 0)), (3, .ref (gad g 10 0)), (4, .int (nI i))] := hl
  have hk7 := GW.hk hG hI.1
  refine lv_aload_n hx hb dL_law_792 rfl (lv_at hl 1 rfl) ?_
  refine lw_cell hx hb hX hbl hbA hS 1 (lv_at hl 0 rfl) (lv_at hl 4 rfl) (by decide) (by omega) hL dL_law_793 dL_law_794 dL_law_796 dL_law_797 dL_law_798 ?_
  refine lw_cell hx hb hX hbl hbA hS 2 (lv_at hl 0 rfl) (lv_at hl 4 rfl) (by decide) (by omega) hL dL_law_799 dL_law_800 dL_law_802 dL_law_803 dL_law_804 ?_
  refine lv_aload_n hx hb dL_law_805 rfl (lv_at hl 3 rfl) ?_
  refine gx_cEn (gx_runSX (As := [.ref (gad g 0 0), .int (xs (i + 1)), .int (xs (i + 2)), .ref (gad g 10 0)]) (rest := []) ⟨hx, hb, hml, hown, hts⟩ (c_L_told l hl0 g σ w (xs (i + 1)) (xs (i + 2)) hI.1 hI.2.2.2.1.1 hI.2.2.2.1.2) (vx_cwSW 4 hts gL_law_L_told rfl rfl rfl (by decide +kernel) ⟨Nat.le_of_ble_eq_true rfl, Nat.le_of_ble_eq_true rfl⟩) hZ hG hS rfl hl.1 rfl (Nat.le_of_ble_eq_true rfl) dL_law_806 ⟨rc1 (by omega), rs1 (by omega)⟩) hS (fun vr H1 locs1 hD hS hsz => ?_)
  obtain ⟨kv, σ1, w1, rfl, hG, hF, hca, hk, hw, hI⟩ := z_told hI hB hk7 (xs (i + 1)) (xs (i + 2)) hD
  refine lv_istore (lv' := [(5, .int kv), (0, .ref b), (1, .ref (gad g 0 0)), (2, .ref (gad g 8 0)), (3, .ref (gad g 10 0)), (4, .int (nI i))]) hx hb dL_law_809 hl (by decide) rfl (fun ls hl => ?_)
  refine lv_aload_n hx hb dL_law_811 rfl (lv_at hl 3 rfl) ?_
  refine lw_cell hx hb hX hbl hbA hS 1 (lv_at hl 1 rfl) (lv_at hl 5 rfl) (by decide) (by omega) hL dL_law_812 dL_law_813 dL_law_815 dL_law_816 dL_law_817 ?_
  refine lw_cell hx hb hX hbl hbA hS 2 (lv_at hl 1 rfl) (lv_at hl 5 rfl) (by decide) (by omega) hL dL_law_818 dL_law_819 dL_law_821 dL_law_822 dL_law_823 ?_
  refine gx_cM (gx_runV (As := [.int (xs (i + 1)), .int (xs (i + 2))]) (rest := []) ⟨hx, hb, hml, hown, hts⟩ (c_X3_told l g σ1 w1 (xs (i + 1)) (xs (i + 2)) hF) (cwV 2 hts gL_law_X3_told rfl rfl rfl (by decide +kernel) ⟨Nat.le_of_ble_eq_true rfl, Nat.le_of_ble_eq_true rfl⟩) (gx_obj hZ hG 8 0 hF.1.b8 rfl) hZ hG hS rfl hl.1 rfl (Nat.le_of_ble_eq_true rfl) dL_law_824 ⟨rc1 (by omega), rs1 (by omega)⟩) hS (fun H2 locs2 hG hS hsz2 => ?_)
  refine lw_tail (bv := (mTold (gst σ1 8 0 0 0) (xs (i + 1)) (xs (i + 2))).1) hx hb hml hown hts hZ hG hS hI.2.1.1 hI.2.2.2.1 hk hw hl ⟨by omega, by omega⟩ dL_law_827 dL_law_829 dL_law_830 dL_law_833 dL_law_835 dL_law_840 dL_law_842 dL_law_845 dL_law_846 dL_law_847 dL_law_848 dL_law_850 dL_law_851 dL_law_852 dL_law_857 (by decide) (fun ls hl => ?_)
  refine W.widen (k := cells + 6) (n := slots + 248) (by omega) (by omega) ?_
  exact kk g _ _ _ _ ls (gSame.rf g) ⟨hZ, hG, hS, hI, hN⟩ hl
set_option maxHeartbeats 4000000 in
set_option maxRecDepth 100000 in
theorem law_fare (l : Launch) (hl0 : l.stackTraces = false) (C : LW p s m c args b L xs) (D : LG g s σ w H locs B) (hB : B + 6010 < 2 ^ 31) (hi : i + 5 ≤ L) (hL : L ≤ 2560) (hroom : cells + 6 ≤ 601024 ∧ slots + 248 ≤ 7293034) (hl : lv_has ls 9 (lwl b g i))
    (kk : ∀ (g' : gG) (σ' : Mem) (w' : Int64) (H' : Heap) (locs' : List Loc) (ls' : Array Slot), gSame g g' → LG g' s σ' w' H' locs' (B + 6010) → lv_has ls' 9 (lwl b g' i) → W p l e room_1 s m args below meth c H' locs' (cells + 6) (slots + 248) Q (F0 m 1384 ls' [])) : W p l e room_1 s m args below meth c H locs cells slots Q (F0 m 860 ls []) := by
  obtain ⟨hx, hb, hml, hown, hts, hX, hbl⟩ := C
  obtain ⟨hZ, hG, hS, hI, hN⟩ := D
  have hbA : ¬ gA g b := by show ¬ gN0 g ≤ b; omega
  have hl : lv_has ls 9 [(0, .ref b), (1, .ref (gad g 0 0)), (2, .ref (gad g 8 0)), (3, .ref (gad g 10 0)), (4, .int (nI i))] := hl
  refine lv_aload_n hx hb dL_law_860 rfl (lv_at hl 1 rfl) ?_
  refine lw_cell hx hb hX hbl hbA hS 1 (lv_at hl 0 rfl) (lv_at hl 4 rfl) (by decide) (by omega) hL dL_law_861 dL_law_862 dL_law_864 dL_law_865 dL_law_866 ?_
  refine lw_cell hx hb hX hbl hbA hS 2 (lv_at hl 0 rfl) (lv_at hl 4 rfl) (by decide) (by omega) hL dL_law_867 dL_law_868 dL_law_870 dL_law_871 dL_law_872 ?_
  refine lv_aload_n hx hb dL_law_873 rfl (lv_at hl 3 rfl) ?_
  refine gx_cEn (gx_runSX (As := [.ref (gad g 0 0), .int (xs (i + 1)), .int (xs (i + 2)), .ref (gad g 10 0)]) (rest := []) ⟨hx, hb, hml, hown, hts⟩ (c_L_fare l hl0 g σ w (xs (i + 1)) (xs (i + 2)) hI.1 hI.2.2.2.1.1 hI.2.2.2.1.2) (vx_cwSW 4 hts gL_law_L_fare rfl rfl rfl (by decide +kernel) ⟨Nat.le_of_ble_eq_true rfl, Nat.le_of_ble_eq_true rfl⟩) hZ hG hS rfl hl.1 rfl (Nat.le_of_ble_eq_true rfl) dL_law_874 ⟨rc1 (by omega), rs1 (by omega)⟩) hS (fun vr H1 locs1 hD hS hsz => ?_)
  obtain ⟨kv, σ1, w1, rfl, hG, hF, hca, hk, hw, hI⟩ := z_fare hI hB (xs (i + 1)) (xs (i + 2)) hD
  refine lv_istore (lv' := [(5, .int kv), (0, .ref b), (1, .ref (gad g 0 0)), (2, .ref (gad g 8 0)), (3, .ref (gad g 10 0)), (4, .int (nI i))]) hx hb dL_law_877 hl (by decide) rfl (fun ls hl => ?_)
  refine lv_aload_n hx hb dL_law_879 rfl (lv_at hl 3 rfl) ?_
  refine lw_cell hx hb hX hbl hbA hS 1 (lv_at hl 1 rfl) (lv_at hl 5 rfl) (by decide) (by omega) hL dL_law_880 dL_law_881 dL_law_883 dL_law_884 dL_law_885 ?_
  refine lw_cell hx hb hX hbl hbA hS 2 (lv_at hl 1 rfl) (lv_at hl 5 rfl) (by decide) (by omega) hL dL_law_886 dL_law_887 dL_law_889 dL_law_890 dL_law_891 ?_
  refine gx_cM (gx_runV (As := [.int (xs (i + 1)), .int (xs (i + 2))]) (rest := []) ⟨hx, hb, hml, hown, hts⟩ (c_X3_fare l g σ1 w1 (xs (i + 1)) (xs (i + 2)) hF) (cwV 2 hts gL_law_X3_fare rfl rfl rfl (by decide +kernel) ⟨Nat.le_of_ble_eq_true rfl, Nat.le_of_ble_eq_true rfl⟩) (gx_obj hZ hG 8 0 hF.1.b8 rfl) hZ hG hS rfl hl.1 rfl (Nat.le_of_ble_eq_true rfl) dL_law_892 ⟨rc1 (by omega), rs1 (by omega)⟩) hS (fun H2 locs2 hG hS hsz2 => ?_)
  refine lw_tail (bv := (mFareX (gst σ1 8 0 0 0) (xs (i + 1)) (xs (i + 2))).1) hx hb hml hown hts hZ hG hS hI.2.1.1 hI.2.2.2.1 hk hw hl ⟨by omega, by omega⟩ dL_law_895 dL_law_897 dL_law_898 dL_law_901 dL_law_903 dL_law_908 dL_law_910 dL_law_913 dL_law_914 dL_law_915 dL_law_916 dL_law_918 dL_law_919 dL_law_920 dL_law_925 (by decide) (fun ls hl => ?_)
  refine W.widen (k := cells + 6) (n := slots + 248) (by omega) (by omega) ?_
  exact kk g _ _ _ _ ls (gSame.rf g) ⟨hZ, hG, hS, hI, hN⟩ hl
set_option maxHeartbeats 4000000 in
set_option maxRecDepth 100000 in
theorem law_tick (l : Launch) (hl0 : l.stackTraces = false) (C : LW p s m c args b L xs) (D : LG g s σ w H locs B) (hB : B + 6010 < 2 ^ 31) (hi : i + 5 ≤ L) (hL : L ≤ 2560) (hroom : cells + 6 ≤ 601024 ∧ slots + 248 ≤ 7293034) (hl : lv_has ls 9 (lwl b g i))
    (kk : ∀ (g' : gG) (σ' : Mem) (w' : Int64) (H' : Heap) (locs' : List Loc) (ls' : Array Slot), gSame g g' → LG g' s σ' w' H' locs' (B + 6010) → lv_has ls' 9 (lwl b g' i) → W p l e room_1 s m args below meth c H' locs' (cells + 6) (slots + 248) Q (F0 m 1384 ls' [])) : W p l e room_1 s m args below meth c H locs cells slots Q (F0 m 928 ls []) := by
  obtain ⟨hx, hb, hml, hown, hts, hX, hbl⟩ := C
  obtain ⟨hZ, hG, hS, hI, hN⟩ := D
  have hbA : ¬ gA g b := by show ¬ gN0 g ≤ b; omega
  have hl : lv_has ls 9 [(0, .ref b), (1, .ref (gad g 0 0)), (2, .ref (gad g 8 0)), (3, .ref (gad g 10 0)), (4, .int (nI i))] := hl
  refine lv_aload_n hx hb dL_law_928 rfl (lv_at hl 1 rfl) ?_
  refine lw_cell hx hb hX hbl hbA hS 1 (lv_at hl 0 rfl) (lv_at hl 4 rfl) (by decide) (by omega) hL dL_law_929 dL_law_930 dL_law_932 dL_law_933 dL_law_934 ?_
  refine lv_aload_n hx hb dL_law_935 rfl (lv_at hl 3 rfl) ?_
  refine gx_cEn (gx_runSX (As := [.ref (gad g 0 0), .int (xs (i + 1)), .ref (gad g 10 0)]) (rest := []) ⟨hx, hb, hml, hown, hts⟩ (c_L_tick l hl0 g σ w (xs (i + 1)) hI.1 hI.2.2.2.1.1 hI.2.2.2.1.2) (vx_cwSW 3 hts gL_law_L_tick rfl rfl rfl (by decide +kernel) ⟨Nat.le_of_ble_eq_true rfl, Nat.le_of_ble_eq_true rfl⟩) hZ hG hS rfl hl.1 rfl (Nat.le_of_ble_eq_true rfl) dL_law_936 ⟨rc1 (by omega), rs1 (by omega)⟩) hS (fun vr H1 locs1 hD hS hsz => ?_)
  obtain ⟨kv, σ1, w1, rfl, hG, hF, hca, hk, hw, hI⟩ := z_tick hI hB (xs (i + 1)) hD
  refine lv_istore (lv' := [(5, .int kv), (0, .ref b), (1, .ref (gad g 0 0)), (2, .ref (gad g 8 0)), (3, .ref (gad g 10 0)), (4, .int (nI i))]) hx hb dL_law_939 hl (by decide) rfl (fun ls hl => ?_)
  refine lv_aload_n hx hb dL_law_941 rfl (lv_at hl 3 rfl) ?_
  refine lw_cell hx hb hX hbl hbA hS 1 (lv_at hl 1 rfl) (lv_at hl 5 rfl) (by decide) (by omega) hL dL_law_942 dL_law_943 dL_law_945 dL_law_946 dL_law_947 ?_
  refine gx_cM (gx_runV (As := [.int (xs (i + 1))]) (rest := []) ⟨hx, hb, hml, hown, hts⟩ (c_X3_tick l g σ1 w1 (xs (i + 1)) hF) (cwV 1 hts gL_law_X3_tick rfl rfl rfl (by decide +kernel) ⟨Nat.le_of_ble_eq_true rfl, Nat.le_of_ble_eq_true rfl⟩) (gx_obj hZ hG 8 0 hF.1.b8 rfl) hZ hG hS rfl hl.1 rfl (Nat.le_of_ble_eq_true rfl) dL_law_948 ⟨rc1 (by omega), rs1 (by omega)⟩) hS (fun H2 locs2 hG hS hsz2 => ?_)
  refine lw_tail (bv := (mTick (gst σ1 8 0 0 0) (xs (i + 1))).1) hx hb hml hown hts hZ hG hS hI.2.1.1 hI.2.2.2.1 hk hw hl ⟨by omega, by omega⟩ dL_law_951 dL_law_953 dL_law_954 dL_law_957 dL_law_959 dL_law_964 dL_law_966 dL_law_969 dL_law_970 dL_law_971 dL_law_972 dL_law_974 dL_law_975 dL_law_976 dL_law_981 (by decide) (fun ls hl => ?_)
  refine W.widen (k := cells + 6) (n := slots + 248) (by omega) (by omega) ?_
  exact kk g _ _ _ _ ls (gSame.rf g) ⟨hZ, hG, hS, hI, hN⟩ hl
end LAWC
