set_option maxHeartbeats 8000000 in
set_option maxRecDepth 100000 in
theorem c_X3_init (l : Launch) (gw : gG) (σ : Mem) (w : Int64) (hc8 : gcn gw 8 = 1) (hc : ∀ k, 9 ≤ k → k ≤ 20 → gcn gw k = 0) (hz : ∀ f, 6 ≤ f → σ 8 0 f = 0) : Met l yX3_init wsX3_init ({ frames := 1, cells := 88, slots := 874, locals := 12 } : Room) (gPc gw σ w [.ref (gad gw 8 0)]) (gE gw (fun v H => v = none ∧ ∃ (g2 : gG) (σ2 : Mem), gNew gw g2 ∧ gcn g2 16 = 0 ∧ gcn g2 17 = 0 ∧ Rr g2 σ2 ∧ (∀ a b, a < 6 → b < 6 → σ2 15 a b = rWv a b) ∧ (∀ z j, σ2 18 z j = 0) ∧ (∀ o c, σ2 19 o c = 0) ∧ σ2 8 0 8 = 0 ∧ (∀ k i f, k < 8 ∨ 21 ≤ k → σ2 k i f = σ k i f) ∧ GW g2 σ2 w H)) 88 874 (gA gw) := by
  refine gx_ofW (cc := cX3_init) (maxL := 3) (ret := none) (by decide) rfl (Nat.le_of_ble_eq_true rfl) ?_
  intro p e s m below meth c0 hx hb hr hml hts hown hlocks hin hG hZ hS ls hl
  have hown : s.vm.findClass RX3 = some m.cls := hown
  have hl : lv_has ls 3 [(0, .ref (gad gw 8 0))] := hl
  have k1 := hts (.methodLink RX3 1 objectInit) (by decide +kernel)
  have k2 := hts (.instanceMethod objectInit) (by decide +kernel)
  have k3 := hts (.code objectInit ⟨#[0xb1]⟩ 1 none) (by decide +kernel)
  have k4 := hts (.arrayClass .int) (by decide +kernel)
  have k5 := hts (.arrayClass .boolean) (by decide +kernel)
  have k6 := hts (.classLink RX3 7 "[[I") (by decide +kernel)
  have k7 := hts (.fieldLink RX3 9 "TaxiRankLaw$Rank" "ways" "[[I") (by decide +kernel)
  have k8 := hts (.classLink RX3 14 "[I") (by decide +kernel)
  have k9 := hts (.fieldLink RX3 16 "TaxiRankLaw$Rank" "cabs" "[[I") (by decide +kernel)
  have k10 := hts (.fieldLink RX3 19 "TaxiRankLaw$Rank" "orders" "[[I") (by decide +kernel)
  have k11 := hts (.fieldLink RX3 22 "TaxiRankLaw$Rank" "queues" "[[I") (by decide +kernel)
  have k12 := hts (.classLink RX3 25 "[[Z") (by decide +kernel)
  have k13 := hts (.fieldLink RX3 27 "TaxiRankLaw$Rank" "refused" "[[Z") (by decide +kernel)
  have k14 := hts (.fieldLink RX3 30 "TaxiRankLaw$Rank" "money" "[[I") (by decide +kernel)
  have k15 := hts (.fieldLink RX3 33 "TaxiRankLaw$Rank" "base" "I") (by decide +kernel)
  have k16 := hts (.fieldLink RX3 37 "TaxiRankLaw$Rank" "rate" "I") (by decide +kernel)
  refine lv_aload_n hx hb dX3_init_0 rfl (lv_at hl 0 rfl) ?_
  refine W.objInit hx hb hown k1 k2 k3 rfl (hl.1.trans hml.symm) rfl dX3_init_1 (Nat.le_of_ble_eq_true rfl) (Nat.le_of_ble_eq_true rfl) ?_
  refine W.eq (g2 := F0 m 4 ls []) rfl ?_
  have hA0 : gA gw = gA gw := rfl
  have hgn0 : gNew gw gw := gNew.rf gw
  have n0_9 : gcn gw 9 = 0 := hc 9 (by decide) (by decide)
  have n0_10 : gcn gw 10 = 0 := hc 10 (by decide) (by decide)
  have n0_11 : gcn gw 11 = 0 := hc 11 (by decide) (by decide)
  have n0_12 : gcn gw 12 = 0 := hc 12 (by decide) (by decide)
  have n0_13 : gcn gw 13 = 0 := hc 13 (by decide) (by decide)
  have n0_14 : gcn gw 14 = 0 := hc 14 (by decide) (by decide)
  have n0_15 : gcn gw 15 = 0 := hc 15 (by decide) (by decide)
  have n0_16 : gcn gw 16 = 0 := hc 16 (by decide) (by decide)
  have n0_17 : gcn gw 17 = 0 := hc 17 (by decide) (by decide)
  have n0_18 : gcn gw 18 = 0 := hc 18 (by decide) (by decide)
  have n0_19 : gcn gw 19 = 0 := hc 19 (by decide) (by decide)
  have n0_20 : gcn gw 20 = 0 := hc 20 (by decide) (by decide)
  refine lv_aload_n hx hb dX3_init_4 rfl (lv_at hl 0 rfl) ?_
  refine lv_bipush (v := 6) hx hb dX3_init_5 (by decide) ?_
  refine lv_bipush (v := 6) hx hb dX3_init_7 (by decide) ?_
  refine gx_mna (ty := .int) hx hb hown (by rw [t_aaI]; exact k6) hZ.2.2.2.2.2.2.2.2.2.2.2.2.2.2.1 k4 hZ hG hS 9 6 6 (by decide) (by decide) (gx_KIA hZ).2 (by rw [t_aI]; exact (gx_KI hZ).2) n0_9 n0_15 rfl rfl (by decide) (by decide) rfl rfl rfl (by decide) (Nat.le_of_ble_eq_true rfl) (Nat.le_of_ble_eq_true rfl) dX3_init_9 (fun q1 H hG hS hsz => ?_)
  obtain ⟨g1, e1⟩ : ∃ z : gG, z = gMn gw 9 q1 6 6 := ⟨_, rfl⟩
  rw [← e1] at hG
  have hZ : ZZ g1 s := by rw [e1]; exact gx_stZ rfl rfl rfl hZ
  have hAi : gA g1 = gA gw := by rw [e1]; exact gx_stA rfl
  have hA1 : gA g1 = gA gw := hAi.trans hA0
  rw [← hAi] at hS
  have hgn1 : gNew gw g1 := by rw [e1]; exact hgn0.mn (by decide) (by decide)
  have ad8 : gad g1 8 0 = gad gw 8 0 := by rw [e1]; rfl
  have hc8 : gcn g1 8 = 1 := by rw [e1]; exact hc8
  have m9 : gcn g1 9 = 1 := by rw [e1, gMn_cn, if_pos rfl]
  have qa : gad g1 9 0 = q1 := by rw [e1, gMn_ad, if_pos ⟨rfl, rfl⟩]
  have l9 : gln g1 9 0 = 6 := by rw [e1, gMn_ln, if_pos rfl]
  have c15 : gcn g1 15 = 6 := by rw [e1, gMn_cn, if_neg (by decide), if_pos rfl]
  have r15 : ∀ j, gln g1 15 j = 6 := fun j => by rw [e1, gMn_ln, if_neg (by decide), if_pos rfl]
  have n1_10 : gcn g1 10 = 0 := by rw [e1, gMn_cn, if_neg (by decide), if_neg (by decide)]; exact n0_10
  have n1_11 : gcn g1 11 = 0 := by rw [e1, gMn_cn, if_neg (by decide), if_neg (by decide)]; exact n0_11
  have n1_12 : gcn g1 12 = 0 := by rw [e1, gMn_cn, if_neg (by decide), if_neg (by decide)]; exact n0_12
  have n1_13 : gcn g1 13 = 0 := by rw [e1, gMn_cn, if_neg (by decide), if_neg (by decide)]; exact n0_13
  have n1_14 : gcn g1 14 = 0 := by rw [e1, gMn_cn, if_neg (by decide), if_neg (by decide)]; exact n0_14
  have n1_16 : gcn g1 16 = 0 := by rw [e1, gMn_cn, if_neg (by decide), if_neg (by decide)]; exact n0_16
  have n1_17 : gcn g1 17 = 0 := by rw [e1, gMn_cn, if_neg (by decide), if_neg (by decide)]; exact n0_17
  have n1_18 : gcn g1 18 = 0 := by rw [e1, gMn_cn, if_neg (by decide), if_neg (by decide)]; exact n0_18
  have n1_19 : gcn g1 19 = 0 := by rw [e1, gMn_cn, if_neg (by decide), if_neg (by decide)]; exact n0_19
  have n1_20 : gcn g1 20 = 0 := by rw [e1, gMn_cn, if_neg (by decide), if_neg (by decide)]; exact n0_20
  rw [← ad8] at hl
  refine gx_topV (congrArg Value.ref qa.symm) ?_
  refine gx_topV2 (congrArg Value.ref ad8.symm) ?_
  refine gx_putF hx hb hown hZ hG hS 8 0 0 (nI 0) (by rw [hc8]; decide) rfl (by decide) k7 (fun _ h => h) rfl hin rfl (grf_nI (a := gad g1 9) (j := 0) (by decide)) (Or.inr ⟨_, (by rw [m9]; decide), rfl⟩) rfl rfl dX3_init_13 (fun H locs hG hS => ?_)
  refine lv_aload_n hx hb dX3_init_16 rfl (lv_at hl 0 rfl) ?_
  refine lv_bipush (v := 10) hx hb dX3_init_17 (by decide) ?_
  refine gx_newT hx hb hown (by rw [t_aI1]; exact k8) hZ hG hS 10 10 (by decide) (by rw [n1_10]; decide) rfl (by decide) (Nat.le_of_ble_eq_true rfl) (Nat.le_of_ble_eq_true rfl) dX3_init_19 (fun q2 H hG hS hsz => ?_)
  rw [n1_10] at hG
  obtain ⟨g2, e2⟩ : ∃ z : gG, z = gAdd g1 10 q2 10 := ⟨_, rfl⟩
  rw [← e2] at hG
  have hZ : ZZ g2 s := by rw [e2]; exact gx_stZ rfl rfl rfl hZ
  have hAi : gA g2 = gA g1 := by rw [e2]; exact gx_stA rfl
  have hA2 : gA g2 = gA gw := hAi.trans hA1
  rw [← hAi] at hS
  have hgn2 : gNew gw g2 := by rw [e2]; exact hgn1.add (by decide) (by decide)
  have ad8 : gad g2 8 0 = gad g1 8 0 := by rw [e2]; rfl
  have hc8 : gcn g2 8 = 1 := by rw [e2]; exact hc8
  have m10 : gcn g2 10 = 1 := by rw [e2, gAdd_cn, if_pos rfl, n1_10]
  have qa : gad g2 10 0 = q2 := by rw [e2, gAdd_ad, if_pos ⟨rfl, n1_10.symm⟩]
  have m9 : gcn g2 9 = 1 := by rw [e2, gAdd_cn, if_neg (by decide)]; exact m9
  have l9 : gln g2 9 0 = 6 := by rw [e2, gAdd_ln, if_neg (fun z => absurd z.1 (by decide))]; exact l9
  have c15 : gcn g2 15 = 6 := by rw [e2, gAdd_cn, if_neg (by decide)]; exact c15
  have r15 : ∀ j, gln g2 15 j = 6 := fun j => by rw [e2, gAdd_ln, if_neg (fun z => absurd z.1 (by decide))]; exact r15 j
  have l10 : gln g2 10 0 = 10 := by rw [e2, gAdd_ln, if_pos ⟨rfl, n1_10.symm⟩]
  have n2_11 : gcn g2 11 = 0 := by rw [e2, gAdd_cn, if_neg (by decide)]; exact n1_11
  have n2_12 : gcn g2 12 = 0 := by rw [e2, gAdd_cn, if_neg (by decide)]; exact n1_12
  have n2_13 : gcn g2 13 = 0 := by rw [e2, gAdd_cn, if_neg (by decide)]; exact n1_13
  have n2_14 : gcn g2 14 = 0 := by rw [e2, gAdd_cn, if_neg (by decide)]; exact n1_14
  have n2_16 : gcn g2 16 = 0 := by rw [e2, gAdd_cn, if_neg (by decide)]; exact n1_16
  have n2_17 : gcn g2 17 = 0 := by rw [e2, gAdd_cn, if_neg (by decide)]; exact n1_17
  have n2_18 : gcn g2 18 = 0 := by rw [e2, gAdd_cn, if_neg (by decide)]; exact n1_18
  have n2_19 : gcn g2 19 = 0 := by rw [e2, gAdd_cn, if_neg (by decide)]; exact n1_19
  have n2_20 : gcn g2 20 = 0 := by rw [e2, gAdd_cn, if_neg (by decide)]; exact n1_20
  rw [← ad8] at hl
  refine gx_topV (congrArg Value.ref qa.symm) ?_
  refine gx_topV2 (congrArg Value.ref ad8.symm) ?_
  refine gx_putF hx hb hown hZ hG hS 8 0 1 (nI 0) (by rw [hc8]; decide) rfl (by decide) k9 (fun _ h => h) rfl hin rfl (grf_nI (a := gad g2 10) (j := 0) (by decide)) (Or.inr ⟨_, (by rw [m10]; decide), rfl⟩) rfl rfl dX3_init_22 (fun H locs hG hS => ?_)
  refine lv_aload_n hx hb dX3_init_25 rfl (lv_at hl 0 rfl) ?_
  refine lv_bipush (v := 60) hx hb dX3_init_26 (by decide) ?_
  refine gx_newT hx hb hown (by rw [t_aI1]; exact k8) hZ hG hS 11 60 (by decide) (by rw [n2_11]; decide) rfl (by decide) (Nat.le_of_ble_eq_true rfl) (Nat.le_of_ble_eq_true rfl) dX3_init_28 (fun q3 H hG hS hsz => ?_)
  rw [n2_11] at hG
  obtain ⟨g3, e3⟩ : ∃ z : gG, z = gAdd g2 11 q3 60 := ⟨_, rfl⟩
  rw [← e3] at hG
  have hZ : ZZ g3 s := by rw [e3]; exact gx_stZ rfl rfl rfl hZ
  have hAi : gA g3 = gA g2 := by rw [e3]; exact gx_stA rfl
  have hA3 : gA g3 = gA gw := hAi.trans hA2
  rw [← hAi] at hS
  have hgn3 : gNew gw g3 := by rw [e3]; exact hgn2.add (by decide) (by decide)
  have ad8 : gad g3 8 0 = gad g2 8 0 := by rw [e3]; rfl
  have hc8 : gcn g3 8 = 1 := by rw [e3]; exact hc8
  have m11 : gcn g3 11 = 1 := by rw [e3, gAdd_cn, if_pos rfl, n2_11]
  have qa : gad g3 11 0 = q3 := by rw [e3, gAdd_ad, if_pos ⟨rfl, n2_11.symm⟩]
  have m9 : gcn g3 9 = 1 := by rw [e3, gAdd_cn, if_neg (by decide)]; exact m9
  have l9 : gln g3 9 0 = 6 := by rw [e3, gAdd_ln, if_neg (fun z => absurd z.1 (by decide))]; exact l9
  have c15 : gcn g3 15 = 6 := by rw [e3, gAdd_cn, if_neg (by decide)]; exact c15
  have r15 : ∀ j, gln g3 15 j = 6 := fun j => by rw [e3, gAdd_ln, if_neg (fun z => absurd z.1 (by decide))]; exact r15 j
  have m10 : gcn g3 10 = 1 := by rw [e3, gAdd_cn, if_neg (by decide)]; exact m10
  have l10 : gln g3 10 0 = 10 := by rw [e3, gAdd_ln, if_neg (fun z => absurd z.1 (by decide))]; exact l10
  have l11 : gln g3 11 0 = 60 := by rw [e3, gAdd_ln, if_pos ⟨rfl, n2_11.symm⟩]
  have n3_12 : gcn g3 12 = 0 := by rw [e3, gAdd_cn, if_neg (by decide)]; exact n2_12
  have n3_13 : gcn g3 13 = 0 := by rw [e3, gAdd_cn, if_neg (by decide)]; exact n2_13
  have n3_14 : gcn g3 14 = 0 := by rw [e3, gAdd_cn, if_neg (by decide)]; exact n2_14
  have n3_16 : gcn g3 16 = 0 := by rw [e3, gAdd_cn, if_neg (by decide)]; exact n2_16
  have n3_17 : gcn g3 17 = 0 := by rw [e3, gAdd_cn, if_neg (by decide)]; exact n2_17
  have n3_18 : gcn g3 18 = 0 := by rw [e3, gAdd_cn, if_neg (by decide)]; exact n2_18
  have n3_19 : gcn g3 19 = 0 := by rw [e3, gAdd_cn, if_neg (by decide)]; exact n2_19
  have n3_20 : gcn g3 20 = 0 := by rw [e3, gAdd_cn, if_neg (by decide)]; exact n2_20
  rw [← ad8] at hl
  refine gx_topV (congrArg Value.ref qa.symm) ?_
  refine gx_topV2 (congrArg Value.ref ad8.symm) ?_
  refine gx_putF hx hb hown hZ hG hS 8 0 2 (nI 0) (by rw [hc8]; decide) rfl (by decide) k10 (fun _ h => h) rfl hin rfl (grf_nI (a := gad g3 11) (j := 0) (by decide)) (Or.inr ⟨_, (by rw [m11]; decide), rfl⟩) rfl rfl dX3_init_31 (fun H locs hG hS => ?_)
  refine lv_aload_n hx hb dX3_init_34 rfl (lv_at hl 0 rfl) ?_
  refine lv_bipush (v := 6) hx hb dX3_init_35 (by decide) ?_
  refine lv_bipush (v := 11) hx hb dX3_init_37 (by decide) ?_
  refine gx_mna (ty := .int) hx hb hown (by rw [t_aaI]; exact k6) hZ.2.2.2.2.2.2.2.2.2.2.2.2.2.2.1 k4 hZ hG hS 12 6 11 (by decide) (by decide) (gx_KIA hZ).2 (by rw [t_aI]; exact (gx_KI hZ).2) n3_12 n3_18 rfl rfl (by decide) (by decide) rfl rfl rfl (by decide) (Nat.le_of_ble_eq_true rfl) (Nat.le_of_ble_eq_true rfl) dX3_init_39 (fun q4 H hG hS hsz => ?_)
  obtain ⟨g4, e4⟩ : ∃ z : gG, z = gMn g3 12 q4 6 11 := ⟨_, rfl⟩
  rw [← e4] at hG
  have hZ : ZZ g4 s := by rw [e4]; exact gx_stZ rfl rfl rfl hZ
  have hAi : gA g4 = gA g3 := by rw [e4]; exact gx_stA rfl
  have hA4 : gA g4 = gA gw := hAi.trans hA3
  rw [← hAi] at hS
  have hgn4 : gNew gw g4 := by rw [e4]; exact hgn3.mn (by decide) (by decide)
  have ad8 : gad g4 8 0 = gad g3 8 0 := by rw [e4]; rfl
  have hc8 : gcn g4 8 = 1 := by rw [e4]; exact hc8
  have m12 : gcn g4 12 = 1 := by rw [e4, gMn_cn, if_pos rfl]
  have qa : gad g4 12 0 = q4 := by rw [e4, gMn_ad, if_pos ⟨rfl, rfl⟩]
  have m9 : gcn g4 9 = 1 := by rw [e4, gMn_cn, if_neg (by decide), if_neg (by decide)]; exact m9
  have l9 : gln g4 9 0 = 6 := by rw [e4, gMn_ln, if_neg (by decide), if_neg (by decide)]; exact l9
  have c15 : gcn g4 15 = 6 := by rw [e4, gMn_cn, if_neg (by decide), if_neg (by decide)]; exact c15
  have r15 : ∀ j, gln g4 15 j = 6 := fun j => by rw [e4, gMn_ln, if_neg (by decide), if_neg (by decide)]; exact r15 j
  have m10 : gcn g4 10 = 1 := by rw [e4, gMn_cn, if_neg (by decide), if_neg (by decide)]; exact m10
  have l10 : gln g4 10 0 = 10 := by rw [e4, gMn_ln, if_neg (by decide), if_neg (by decide)]; exact l10
  have m11 : gcn g4 11 = 1 := by rw [e4, gMn_cn, if_neg (by decide), if_neg (by decide)]; exact m11
  have l11 : gln g4 11 0 = 60 := by rw [e4, gMn_ln, if_neg (by decide), if_neg (by decide)]; exact l11
  have l12 : gln g4 12 0 = 6 := by rw [e4, gMn_ln, if_pos rfl]
  have c18 : gcn g4 18 = 6 := by rw [e4, gMn_cn, if_neg (by decide), if_pos rfl]
  have r18 : ∀ j, gln g4 18 j = 11 := fun j => by rw [e4, gMn_ln, if_neg (by decide), if_pos rfl]
  have n4_13 : gcn g4 13 = 0 := by rw [e4, gMn_cn, if_neg (by decide), if_neg (by decide)]; exact n3_13
  have n4_14 : gcn g4 14 = 0 := by rw [e4, gMn_cn, if_neg (by decide), if_neg (by decide)]; exact n3_14
  have n4_16 : gcn g4 16 = 0 := by rw [e4, gMn_cn, if_neg (by decide), if_neg (by decide)]; exact n3_16
  have n4_17 : gcn g4 17 = 0 := by rw [e4, gMn_cn, if_neg (by decide), if_neg (by decide)]; exact n3_17
  have n4_19 : gcn g4 19 = 0 := by rw [e4, gMn_cn, if_neg (by decide), if_neg (by decide)]; exact n3_19
  have n4_20 : gcn g4 20 = 0 := by rw [e4, gMn_cn, if_neg (by decide), if_neg (by decide)]; exact n3_20
  rw [← ad8] at hl
  refine gx_topV (congrArg Value.ref qa.symm) ?_
  refine gx_topV2 (congrArg Value.ref ad8.symm) ?_
  refine gx_putF hx hb hown hZ hG hS 8 0 3 (nI 0) (by rw [hc8]; decide) rfl (by decide) k11 (fun _ h => h) rfl hin rfl (grf_nI (a := gad g4 12) (j := 0) (by decide)) (Or.inr ⟨_, (by rw [m12]; decide), rfl⟩) rfl rfl dX3_init_43 (fun H locs hG hS => ?_)
  refine lv_aload_n hx hb dX3_init_46 rfl (lv_at hl 0 rfl) ?_
  refine lv_bipush (v := 60) hx hb dX3_init_47 (by decide) ?_
  refine lv_bipush (v := 10) hx hb dX3_init_49 (by decide) ?_
  refine gx_mna (ty := .boolean) hx hb hown (by rw [t_aaB]; exact k12) hZ.2.2.2.2.2.2.2.2.2.2.2.2.2.2.2 k5 hZ hG hS 13 60 10 (by decide) (by decide) (gx_KBA hZ).2 (by rw [t_aB]; exact (gx_KBo hZ).2) n4_13 n4_19 rfl rfl (by decide) (by decide) rfl rfl rfl (by decide) (Nat.le_of_ble_eq_true rfl) (Nat.le_of_ble_eq_true rfl) dX3_init_51 (fun q5 H hG hS hsz => ?_)
  obtain ⟨g5, e5⟩ : ∃ z : gG, z = gMn g4 13 q5 60 10 := ⟨_, rfl⟩
  rw [← e5] at hG
  have hZ : ZZ g5 s := by rw [e5]; exact gx_stZ rfl rfl rfl hZ
  have hAi : gA g5 = gA g4 := by rw [e5]; exact gx_stA rfl
  have hA5 : gA g5 = gA gw := hAi.trans hA4
  rw [← hAi] at hS
  have hgn5 : gNew gw g5 := by rw [e5]; exact hgn4.mn (by decide) (by decide)
  have ad8 : gad g5 8 0 = gad g4 8 0 := by rw [e5]; rfl
  have hc8 : gcn g5 8 = 1 := by rw [e5]; exact hc8
  have m13 : gcn g5 13 = 1 := by rw [e5, gMn_cn, if_pos rfl]
  have qa : gad g5 13 0 = q5 := by rw [e5, gMn_ad, if_pos ⟨rfl, rfl⟩]
  have m9 : gcn g5 9 = 1 := by rw [e5, gMn_cn, if_neg (by decide), if_neg (by decide)]; exact m9
  have l9 : gln g5 9 0 = 6 := by rw [e5, gMn_ln, if_neg (by decide), if_neg (by decide)]; exact l9
  have c15 : gcn g5 15 = 6 := by rw [e5, gMn_cn, if_neg (by decide), if_neg (by decide)]; exact c15
  have r15 : ∀ j, gln g5 15 j = 6 := fun j => by rw [e5, gMn_ln, if_neg (by decide), if_neg (by decide)]; exact r15 j
  have m10 : gcn g5 10 = 1 := by rw [e5, gMn_cn, if_neg (by decide), if_neg (by decide)]; exact m10
  have l10 : gln g5 10 0 = 10 := by rw [e5, gMn_ln, if_neg (by decide), if_neg (by decide)]; exact l10
  have m11 : gcn g5 11 = 1 := by rw [e5, gMn_cn, if_neg (by decide), if_neg (by decide)]; exact m11
  have l11 : gln g5 11 0 = 60 := by rw [e5, gMn_ln, if_neg (by decide), if_neg (by decide)]; exact l11
  have m12 : gcn g5 12 = 1 := by rw [e5, gMn_cn, if_neg (by decide), if_neg (by decide)]; exact m12
  have l12 : gln g5 12 0 = 6 := by rw [e5, gMn_ln, if_neg (by decide), if_neg (by decide)]; exact l12
  have c18 : gcn g5 18 = 6 := by rw [e5, gMn_cn, if_neg (by decide), if_neg (by decide)]; exact c18
  have r18 : ∀ j, gln g5 18 j = 11 := fun j => by rw [e5, gMn_ln, if_neg (by decide), if_neg (by decide)]; exact r18 j
  have l13 : gln g5 13 0 = 60 := by rw [e5, gMn_ln, if_pos rfl]
  have c19 : gcn g5 19 = 60 := by rw [e5, gMn_cn, if_neg (by decide), if_pos rfl]
  have r19 : ∀ j, gln g5 19 j = 10 := fun j => by rw [e5, gMn_ln, if_neg (by decide), if_pos rfl]
  have n5_14 : gcn g5 14 = 0 := by rw [e5, gMn_cn, if_neg (by decide), if_neg (by decide)]; exact n4_14
  have n5_16 : gcn g5 16 = 0 := by rw [e5, gMn_cn, if_neg (by decide), if_neg (by decide)]; exact n4_16
  have n5_17 : gcn g5 17 = 0 := by rw [e5, gMn_cn, if_neg (by decide), if_neg (by decide)]; exact n4_17
  have n5_20 : gcn g5 20 = 0 := by rw [e5, gMn_cn, if_neg (by decide), if_neg (by decide)]; exact n4_20
  rw [← ad8] at hl
  refine gx_topV (congrArg Value.ref qa.symm) ?_
  refine gx_topV2 (congrArg Value.ref ad8.symm) ?_
  refine gx_putF hx hb hown hZ hG hS 8 0 4 (nI 0) (by rw [hc8]; decide) rfl (by decide) k13 (fun _ h => h) rfl hin rfl (grf_nI (a := gad g5 13) (j := 0) (by decide)) (Or.inr ⟨_, (by rw [m13]; decide), rfl⟩) rfl rfl dX3_init_55 (fun H locs hG hS => ?_)
  refine lv_aload_n hx hb dX3_init_58 rfl (lv_at hl 0 rfl) ?_
  refine lv_bipush (v := 10) hx hb dX3_init_59 (by decide) ?_
  refine lv_iconst (v := 2) hx hb dX3_init_61 (by decide) ?_
  refine gx_mna (ty := .int) hx hb hown (by rw [t_aaI]; exact k6) hZ.2.2.2.2.2.2.2.2.2.2.2.2.2.2.1 k4 hZ hG hS 14 10 2 (by decide) (by decide) (gx_KIA hZ).2 (by rw [t_aI]; exact (gx_KI hZ).2) n5_14 n5_20 rfl rfl (by decide) (by decide) rfl rfl rfl (by decide) (Nat.le_of_ble_eq_true rfl) (Nat.le_of_ble_eq_true rfl) dX3_init_62 (fun q6 H hG hS hsz => ?_)
  obtain ⟨g6, e6⟩ : ∃ z : gG, z = gMn g5 14 q6 10 2 := ⟨_, rfl⟩
  rw [← e6] at hG
  have hZ : ZZ g6 s := by rw [e6]; exact gx_stZ rfl rfl rfl hZ
  have hAi : gA g6 = gA g5 := by rw [e6]; exact gx_stA rfl
  have hA6 : gA g6 = gA gw := hAi.trans hA5
  rw [← hAi] at hS
  have hgn6 : gNew gw g6 := by rw [e6]; exact hgn5.mn (by decide) (by decide)
  have ad8 : gad g6 8 0 = gad g5 8 0 := by rw [e6]; rfl
  have hc8 : gcn g6 8 = 1 := by rw [e6]; exact hc8
  have m14 : gcn g6 14 = 1 := by rw [e6, gMn_cn, if_pos rfl]
  have qa : gad g6 14 0 = q6 := by rw [e6, gMn_ad, if_pos ⟨rfl, rfl⟩]
  have m9 : gcn g6 9 = 1 := by rw [e6, gMn_cn, if_neg (by decide), if_neg (by decide)]; exact m9
  have l9 : gln g6 9 0 = 6 := by rw [e6, gMn_ln, if_neg (by decide), if_neg (by decide)]; exact l9
  have c15 : gcn g6 15 = 6 := by rw [e6, gMn_cn, if_neg (by decide), if_neg (by decide)]; exact c15
  have r15 : ∀ j, gln g6 15 j = 6 := fun j => by rw [e6, gMn_ln, if_neg (by decide), if_neg (by decide)]; exact r15 j
  have m10 : gcn g6 10 = 1 := by rw [e6, gMn_cn, if_neg (by decide), if_neg (by decide)]; exact m10
  have l10 : gln g6 10 0 = 10 := by rw [e6, gMn_ln, if_neg (by decide), if_neg (by decide)]; exact l10
  have m11 : gcn g6 11 = 1 := by rw [e6, gMn_cn, if_neg (by decide), if_neg (by decide)]; exact m11
  have l11 : gln g6 11 0 = 60 := by rw [e6, gMn_ln, if_neg (by decide), if_neg (by decide)]; exact l11
  have m12 : gcn g6 12 = 1 := by rw [e6, gMn_cn, if_neg (by decide), if_neg (by decide)]; exact m12
  have l12 : gln g6 12 0 = 6 := by rw [e6, gMn_ln, if_neg (by decide), if_neg (by decide)]; exact l12
  have c18 : gcn g6 18 = 6 := by rw [e6, gMn_cn, if_neg (by decide), if_neg (by decide)]; exact c18
  have r18 : ∀ j, gln g6 18 j = 11 := fun j => by rw [e6, gMn_ln, if_neg (by decide), if_neg (by decide)]; exact r18 j
  have m13 : gcn g6 13 = 1 := by rw [e6, gMn_cn, if_neg (by decide), if_neg (by decide)]; exact m13
  have l13 : gln g6 13 0 = 60 := by rw [e6, gMn_ln, if_neg (by decide), if_neg (by decide)]; exact l13
  have c19 : gcn g6 19 = 60 := by rw [e6, gMn_cn, if_neg (by decide), if_neg (by decide)]; exact c19
  have r19 : ∀ j, gln g6 19 j = 10 := fun j => by rw [e6, gMn_ln, if_neg (by decide), if_neg (by decide)]; exact r19 j
  have l14 : gln g6 14 0 = 10 := by rw [e6, gMn_ln, if_pos rfl]
  have c20 : gcn g6 20 = 10 := by rw [e6, gMn_cn, if_neg (by decide), if_pos rfl]
  have r20 : ∀ j, gln g6 20 j = 2 := fun j => by rw [e6, gMn_ln, if_neg (by decide), if_pos rfl]
  have n6_16 : gcn g6 16 = 0 := by rw [e6, gMn_cn, if_neg (by decide), if_neg (by decide)]; exact n5_16
  have n6_17 : gcn g6 17 = 0 := by rw [e6, gMn_cn, if_neg (by decide), if_neg (by decide)]; exact n5_17
  rw [← ad8] at hl
  refine gx_topV (congrArg Value.ref qa.symm) ?_
  refine gx_topV2 (congrArg Value.ref ad8.symm) ?_
  refine gx_putF hx hb hown hZ hG hS 8 0 5 (nI 0) (by rw [hc8]; decide) rfl (by decide) k14 (fun _ h => h) rfl hin rfl (grf_nI (a := gad g6 14) (j := 0) (by decide)) (Or.inr ⟨_, (by rw [m14]; decide), rfl⟩) rfl rfl dX3_init_66 (fun H locs hG hS => ?_)
  refine lv_aload_n hx hb dX3_init_69 rfl (lv_at hl 0 rfl) ?_
  refine lv_iconst (v := 4) hx hb dX3_init_70 (by decide) ?_
  refine gx_put hx hb hown hZ hG hS 8 0 9 (4) (by rw [hc8]; decide) rfl (by decide) k15 (fun _ h => h) rfl rfl trivial rfl rfl dX3_init_71 (fun H locs hG hS => ?_)
  refine lv_aload_n hx hb dX3_init_74 rfl (lv_at hl 0 rfl) ?_
  refine lv_iconst (v := 2) hx hb dX3_init_75 (by decide) ?_
  refine gx_put hx hb hown hZ hG hS 8 0 10 (2) (by rw [hc8]; decide) rfl (by decide) k16 (fun _ h => h) rfl rfl trivial rfl rfl dX3_init_76 (fun H locs hG hS => ?_)
  rw [show gst (gst (gst (gMs (gst (gMs (gst (gMs (gst (gFre (gst (gFre (gst (gMs (σ) 9 6) 8 0 0 (nI 0)) 10 0) 8 0 1 (nI 0)) 11 0) 8 0 2 (nI 0)) 12 6) 8 0 3 (nI 0)) 13 60) 8 0 4 (nI 0)) 14 10) 8 0 5 (nI 0)) 8 0 9 4) 8 0 10 2 = rMem σ from rfl] at hG
  obtain ⟨σb, hσb⟩ : ∃ z : Mem, z = rMem σ := ⟨_, rfl⟩
  rw [← hσb] at hG
  have w16 : gcn g6 16 = 0 := n6_16
  have w17 : gcn g6 17 = 0 := n6_17
  have hRG : RrG g6 := by
    refine ⟨⟨hc8, fun K h9 h14 => ?_⟩, ⟨c15, by rw [w16]; decide, by rw [w17]; decide, c18, c19, c20⟩, fun K h15 h20 i hi => ?_⟩
    · rcases r_K h9 h14 with rfl | rfl | rfl | rfl | rfl | rfl
      · exact ⟨m9, l9⟩
      · exact ⟨m10, l10⟩
      · exact ⟨m11, l11⟩
      · exact ⟨m12, l12⟩
      · exact ⟨m13, l13⟩
      · exact ⟨m14, l14⟩
    · rcases (show K = 15 ∨ K = 16 ∨ K = 17 ∨ K = 18 ∨ K = 19 ∨ K = 20 by omega) with rfl | rfl | rfl | rfl | rfl | rfl
      · exact r15 i
      · rw [w16] at hi; exact absurd hi (Nat.not_lt_zero _)
      · rw [w17] at hi; exact absurd hi (Nat.not_lt_zero _)
      · exact r18 i
      · exact r19 i
      · exact r20 i
  have hR : Rr g6 σb := by rw [hσb]; exact rMem_R hRG w16 w17 (hz 6 (by decide)) (hz 7 (by decide))
  have b18 : ∀ z j, σb 18 z j = 0 := fun z j => by rw [hσb]; exact rMem_18 z j
  have b19 : ∀ o c, σb 19 o c = 0 := fun o c => by rw [hσb]; exact rMem_19 o c
  have b88 : σb 8 0 8 = 0 := by rw [hσb]; exact rMem_88 (hz 8 (by decide))
  have bo : ∀ k i f, k < 8 ∨ 21 ≤ k → σb k i f = σ k i f := fun k i f hk => by rw [hσb]; exact rMem_o hk
  clear hσb e1 e2 e3 e4 e5 e6 hRG
  obtain ⟨g, hg⟩ : ∃ z : gG, z = g6 := ⟨_, rfl⟩
  rw [← hg] at hG hZ hS hl hR w16 w17 hgn6 hA6
  have adw : gad g 8 0 = gad gw 8 0 := congrFun (hgn6.2 8 (Or.inl (by decide))).1 0
  refine lv_iconst (v := 0) hx hb dX3_init_79 (by decide) ?_
  refine lv_istore_n (lv' := [(1, .int (0)), (0, .ref (gad g 8 0))]) hx hb dX3_init_80 rfl hl (by decide) rfl (fun ls hl => ?_)
  have loop_81 : ∀ (nf : Nat) (r : Nat) (i : Nat) (σ1 : Mem), r < nf → (i + r = 6) → (Rr g σ1) → (∀ a b, a < i → b < 6 → σ1 15 a b = rWv a b) → (∀ k i f, k ≠ 15 → σ1 k i f = σb k i f) → ∀ (H : Heap) (locs : List Loc), GW g σ1 w H → va_S (gA g) s.heap H locs → ∀ ls : Array Slot, lv_has ls 3 [(0, .ref (gad g 8 0)), (1, .int (nI i))] → W p l e ({ frames := 1, cells := 88, slots := 874, locals := 12 } : Room) s m ([.ref (gad gw 8 0)] : List Value).toArray below meth c0 H locs 88 874 (MQ below (gE gw (fun v H => v = none ∧ ∃ (g2 : gG) (σ2 : Mem), gNew gw g2 ∧ gcn g2 16 = 0 ∧ gcn g2 17 = 0 ∧ Rr g2 σ2 ∧ (∀ a b, a < 6 → b < 6 → σ2 15 a b = rWv a b) ∧ (∀ z j, σ2 18 z j = 0) ∧ (∀ o c, σ2 19 o c = 0) ∧ σ2 8 0 8 = 0 ∧ (∀ k i f, k < 8 ∨ 21 ≤ k → σ2 k i f = σ k i f) ∧ GW g2 σ2 w H)) ([.ref (gad gw 8 0)] : List Value).toArray s 88 874 (gA gw)) (F0 m 81 ls []) := by
    intro nf
    induction nf with
    | zero => intro r i σ1 hn; exact absurd hn (Nat.not_lt_zero _)
    | succ nf ih =>
      intro r i σ1 hn hk hR hw1 hfr H locs hG hS ls hl
      have ih0 := ih
      refine lv_iload_n hx hb dX3_init_81 rfl (lv_at hl 1 rfl) ?_
      refine lv_bipush (v := 6) hx hb dX3_init_82 (by decide) ?_
      refine lv_icmp_ge (tgt := 126) hx hb dX3_init_84 (by decide) (fun c_1 => ?_) (fun c_1 => ?_)
      · skip
        have hi6 := le_of_nIle (n := 6) c_1 (by omega) (by omega)
        have eE : (GW g σ1 w H) := hG
        rw [hA6] at hS
        refine W.widen (Nat.le_of_ble_eq_true rfl) (Nat.le_of_ble_eq_true rfl) (W.vret hx hb hr (fun t ht _ => ⟨⟨_, rfl, rfl, g, σ1, hgn6, w16, w17, hR, fun a b ha hb => hw1 a b (by omega) hb, fun z j => by rw [hfr 18 z j (by decide)]; exact b18 z j, fun o c => by rw [hfr 19 o c (by decide)]; exact b19 o c, by rw [hfr 8 0 8 (by decide)]; exact b88, fun k i f hk => by rw [hfr k i f (by omega)]; exact bo k i f hk, by rw [ht]; exact hG⟩, hS.F ht⟩) hS.2.2 dX3_init_126 hlocks)
      · skip
        have hi6 : i < 6 := by
          rcases Nat.lt_or_ge i 6 with q | q
          · exact q
          · exact absurd (nI_le (a := 6) q (by omega)) c_1
        obtain ⟨r, rfl⟩ : ∃ q, r = q + 1 := ⟨r - 1, by omega⟩
        refine lv_iconst (v := 0) hx hb dX3_init_87 (by decide) ?_
        refine lv_istore_n (lv' := [(2, .int (0)), (0, .ref (gad g 8 0)), (1, .int (nI i))]) hx hb dX3_init_88 rfl hl (by decide) rfl (fun ls hl => ?_)
        have loop_89 : ∀ (nf : Nat) (rj : Nat) (j : Nat) (σ3 : Mem), rj < nf → (j + rj = 6) → (Rr g σ3) → (∀ a b, a < i → b < 6 → σ3 15 a b = rWv a b) → (∀ b, b < j → σ3 15 i b = rWv i b) → (∀ k i f, k ≠ 15 → σ3 k i f = σb k i f) → ∀ (H : Heap) (locs : List Loc), GW g σ3 w H → va_S (gA g) s.heap H locs → ∀ ls : Array Slot, lv_has ls 3 [(0, .ref (gad g 8 0)), (1, .int (nI i)), (2, .int (nI j))] → W p l e ({ frames := 1, cells := 88, slots := 874, locals := 12 } : Room) s m ([.ref (gad gw 8 0)] : List Value).toArray below meth c0 H locs 88 874 (MQ below (gE gw (fun v H => v = none ∧ ∃ (g2 : gG) (σ2 : Mem), gNew gw g2 ∧ gcn g2 16 = 0 ∧ gcn g2 17 = 0 ∧ Rr g2 σ2 ∧ (∀ a b, a < 6 → b < 6 → σ2 15 a b = rWv a b) ∧ (∀ z j, σ2 18 z j = 0) ∧ (∀ o c, σ2 19 o c = 0) ∧ σ2 8 0 8 = 0 ∧ (∀ k i f, k < 8 ∨ 21 ≤ k → σ2 k i f = σ k i f) ∧ GW g2 σ2 w H)) ([.ref (gad gw 8 0)] : List Value).toArray s 88 874 (gA gw)) (F0 m 89 ls []) := by
          intro nf
          induction nf with
          | zero => intro rj j σ3 hn; exact absurd hn (Nat.not_lt_zero _)
          | succ nf ih =>
            intro rj j σ3 hn hkj hR hwa hwb hf2 H locs hG hS ls hl
            refine lv_iload_n hx hb dX3_init_89 rfl (lv_at hl 2 rfl) ?_
            refine lv_bipush (v := 6) hx hb dX3_init_90 (by decide) ?_
            refine lv_icmp_ge (tgt := 120) hx hb dX3_init_92 (by decide) (fun c_2 => ?_) (fun c_2 => ?_)
            · skip
              have hj6 := le_of_nIle (n := 6) c_2 (by omega) (by omega)
              refine lv_iinc (v := nI (i + 1)) (lv' := [(1, .int (nI (i + 1))), (0, .ref (gad g 8 0)), (2, .int (nI j))]) hx hb dX3_init_120 hl (k := 1) rfl (nI_1 _) (by decide) rfl (fun ls hl => ?_)
              refine lv_goto (tgt := 81) hx hb dX3_init_123 (by decide) ?_
              exact ih0 r (i + 1) (σ3) (by omega) (by omega) hR (fun a b ha hb => by rcases Nat.lt_or_ge a i with q | q; exact hwa a b q hb; obtain rfl : a = i := (by omega); exact hwb b (by omega)) hf2 H locs hG hS ls (lv_sub hl [1, 0] rfl)
            · skip
              have hj6 : j < 6 := by
                rcases Nat.lt_or_ge j 6 with q | q
                · exact q
                · exact absurd (nI_le (a := 6) q (by omega)) c_2
              obtain ⟨rj, rfl⟩ : ∃ q, rj = q + 1 := ⟨rj - 1, by omega⟩
              refine lv_aload_n hx hb dX3_init_95 rfl (lv_at hl 0 rfl) ?_
              refine gx_get hx hb hown hZ hG 8 0 0 hR.k8 rfl (by decide) k7 (fun _ h => h) (v := .ref (gad g 9 0)) (grf_z (hR.rf (f := 0) (by decide))) dX3_init_96 ?_
              refine lv_iload_n hx hb dX3_init_99 rfl (lv_at hl 1 rfl) ?_
              refine gx_rt hx hb hZ hG hR 9 i (by rfl) (by decide) (by decide) (show i < 6 by omega) (by decide) dX3_init_100 ?_
              refine lv_iload_n hx hb dX3_init_101 rfl (lv_at hl 2 rfl) ?_
              refine lv_iload_n hx hb dX3_init_102 rfl (lv_at hl 1 rfl) ?_
              refine lv_iload_n hx hb dX3_init_103 rfl (lv_at hl 2 rfl) ?_
              refine lv_icmp_ne (tgt := 111) hx hb dX3_init_104 (by decide) (fun c_3 => ?_) (fun c_3 => ?_)
              · skip
                have hij : ¬ i = j := fun q => c_3 (by rw [q])
                refine lv_bipush (v := 10) hx hb dX3_init_111 (by decide) ?_
                refine gx_astN hx hb hZ hG hS 15 i j (by rfl) (hR.rb 9 (by decide) (by decide) (show i < 6 by omega)) rfl rfl ⟨by rw [hR.ln 15 (by decide) (by decide) (hR.rb 9 (by decide) (by decide) (show i < 6 by omega))]; show j < 6; omega, by omega⟩ rfl trivial dX3_init_113 (fun H locs hG hS => ?_)
                have hR := hR.st (k := 15) (i := i) (f := j) (v := 10) (by decide)
                refine lv_iinc (v := nI (j + 1)) (lv' := [(2, .int (nI (j + 1))), (0, .ref (gad g 8 0)), (1, .int (nI i))]) hx hb dX3_init_114 hl (k := 2) rfl (nI_1 _) (by decide) rfl (fun ls hl => ?_)
                refine lv_goto (tgt := 89) hx hb dX3_init_117 (by decide) ?_
                exact ih rj (j + 1) (gst σ3 15 i j 10) (by omega) (by omega) hR (fun a b ha hb => by rw [gst_ni (by omega)]; exact hwa a b ha hb) (fun b hb => by rcases Nat.lt_or_ge b j with q | q; rw [gst_nf (by omega)]; exact hwb b q; obtain rfl : b = j := (by omega); rw [gst_eq]; unfold rWv; first | rw [if_pos hij] | rw [if_neg hij]) (fun k i f hk => by rw [gst_nk hk]; exact hf2 k i f hk) H locs hG hS ls (lv_sub hl [1, 2, 0] rfl)
              · skip
                have hij : i = j := nI_inj (by omega) (by omega) c_3
                refine lv_iconst (v := 5) hx hb dX3_init_107 (by decide) ?_
                refine lv_goto (tgt := 113) hx hb dX3_init_108 (by decide) ?_
                refine gx_astN hx hb hZ hG hS 15 i j (by rfl) (hR.rb 9 (by decide) (by decide) (show i < 6 by omega)) rfl rfl ⟨by rw [hR.ln 15 (by decide) (by decide) (hR.rb 9 (by decide) (by decide) (show i < 6 by omega))]; show j < 6; omega, by omega⟩ rfl trivial dX3_init_113 (fun H locs hG hS => ?_)
                have hR := hR.st (k := 15) (i := i) (f := j) (v := 5) (by decide)
                refine lv_iinc (v := nI (j + 1)) (lv' := [(2, .int (nI (j + 1))), (0, .ref (gad g 8 0)), (1, .int (nI i))]) hx hb dX3_init_114 hl (k := 2) rfl (nI_1 _) (by decide) rfl (fun ls hl => ?_)
                refine lv_goto (tgt := 89) hx hb dX3_init_117 (by decide) ?_
                exact ih rj (j + 1) (gst σ3 15 i j 5) (by omega) (by omega) hR (fun a b ha hb => by rw [gst_ni (by omega)]; exact hwa a b ha hb) (fun b hb => by rcases Nat.lt_or_ge b j with q | q; rw [gst_nf (by omega)]; exact hwb b q; obtain rfl : b = j := (by omega); rw [gst_eq]; unfold rWv; first | rw [if_pos hij] | rw [if_neg hij]) (fun k i f hk => by rw [gst_nk hk]; exact hf2 k i f hk) H locs hG hS ls (lv_sub hl [1, 2, 0] rfl)
        exact loop_89 7 6 0 σ1 (by omega) (by omega) hR hw1 (fun b hb => absurd hb (Nat.not_lt_zero _)) hfr _ _ hG hS ls (lv_sub hl [1, 2, 0] rfl)
  exact loop_81 7 6 0 σb (by omega) (by omega) hR (fun a b ha => absurd ha (Nat.not_lt_zero _)) (fun _ _ _ _ => rfl) _ _ hG hS ls (lv_sub hl [1, 0] rfl)
