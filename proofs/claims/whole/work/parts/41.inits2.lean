/-- a new model's world -/
def gMod (g g' : gG) : Prop := (g'.1 = g.1 ∧ g'.2.1 = g.2.1 ∧ g'.2.2.1 = g.2.2.1) ∧ ∀ k, k ≠ 9 → gad g' k = gad g k ∧ gcn g' k = gcn g k ∧ gln g' k = gln g k
theorem gMod.rf (g : gG) : gMod g g := ⟨⟨rfl, rfl, rfl⟩, fun _ _ => ⟨rfl, rfl, rfl⟩⟩
theorem gMod.add {g g' g2 : gG} {q n : Nat} (h : gMod g g') (hg : g2 = gAdd g' 9 q n) : gMod g g2 := by
  subst hg
  refine ⟨h.1, fun k hk => ⟨?_, ?_, ?_⟩⟩
  · rw [← (h.2 k hk).1]; funext i; rw [gAdd_ad, if_neg (fun z => hk z.1)]
  · rw [← (h.2 k hk).2.1, gAdd_cn, if_neg hk]
  · rw [← (h.2 k hk).2.2]; funext i; rw [gAdd_ln, if_neg (fun z => hk z.1)]
/-- a new model's memory -/
def mNew (σ : Mem) : Prop := (σ 8 0 1 = 0 ∧ σ 8 0 3 = 4 ∧ σ 8 0 4 = 2 ∧ σ 8 0 5 = 0 ∧ σ 8 0 12 = 0 ∧ σ 8 0 15 = 0) ∧ (∀ j, j < 36 → σ 9 0 j = xWv j) ∧ (∀ j, j < 10 → σ 9 4 j = -1) ∧ (∀ i j, i ≠ 0 → i ≠ 4 → i < 12 → σ 9 i j = 0)
set_option maxHeartbeats 4000000 in
set_option maxRecDepth 100000 in
theorem c_X3_init (l : Launch) (gw : gG) (σ : Mem) (w : Int64) (hc8 : gcn gw 8 = 1) (hc9 : gcn gw 9 = 0) (hz : ∀ f, mRef f = none → σ 8 0 f = 0) : Met l yX3_init wsX3_init ({ frames := 1, cells := 12, slots := 896, locals := 12 } : Room) (gPc gw σ w [.ref (gad gw 8 0)]) (gE gw (fun v H => v = none ∧ ∃ (g2 : gG) (σ2 : Mem), gMod gw g2 ∧ gcn g2 9 = 12 ∧ Mok g2 σ2 ∧ mNew σ2 ∧ (∀ k i f, k ≠ 8 → k ≠ 9 → σ2 k i f = σ k i f) ∧ GW g2 σ2 w H)) 12 896 (gA gw) := by
  refine gx_ofW (cc := cX3_init) (maxL := 2) (ret := none) (by decide) rfl (Nat.le_of_ble_eq_true rfl) ?_
  intro p e s m below meth c0 hx hb hr hml hts hown hlocks hin hG hZ hS ls hl
  have hown : s.vm.findClass RX3 = some m.cls := hown
  have hl : lv_has ls 2 [(0, .ref (gad gw 8 0))] := hl
  have k1 := hts (.methodLink RX3 1 objectInit) (by decide +kernel)
  have k2 := hts (.instanceMethod objectInit) (by decide +kernel)
  have k3 := hts (.code objectInit ⟨#[0xb1]⟩ 1 none) (by decide +kernel)
  have k4 := hts (.arrayClass .int) (by decide +kernel)
  have k5 := hts (.fieldLink RX3 9 "TaxiRankModel" "ways" "[I") (by decide +kernel)
  have k6 := hts (.fieldLink RX3 13 "TaxiRankModel" "base" "I") (by decide +kernel)
  have k7 := hts (.fieldLink RX3 17 "TaxiRankModel" "rate" "I") (by decide +kernel)
  have k8 := hts (.fieldLink RX3 20 "TaxiRankModel" "seats" "[I") (by decide +kernel)
  have k9 := hts (.fieldLink RX3 23 "TaxiRankModel" "zones" "[I") (by decide +kernel)
  have k10 := hts (.fieldLink RX3 26 "TaxiRankModel" "doing" "[I") (by decide +kernel)
  have k11 := hts (.fieldLink RX3 29 "TaxiRankModel" "orderOf" "[I") (by decide +kernel)
  have k12 := hts (.fieldLink RX3 32 "TaxiRankModel" "times" "[I") (by decide +kernel)
  have k13 := hts (.fieldLink RX3 35 "TaxiRankModel" "turns" "[I") (by decide +kernel)
  have k14 := hts (.fieldLink RX3 38 "TaxiRankModel" "kept" "[I") (by decide +kernel)
  have k15 := hts (.fieldLink RX3 41 "TaxiRankModel" "dues" "[I") (by decide +kernel)
  have k16 := hts (.fieldLink RX3 44 "TaxiRankModel" "table" "[I") (by decide +kernel)
  have k17 := hts (.fieldLink RX3 47 "TaxiRankModel" "refusals" "[I") (by decide +kernel)
  have k18 := hts (.fieldLink RX3 50 "TaxiRankModel" "parts" "[I") (by decide +kernel)
  obtain ⟨g, hgw⟩ : ∃ z : gG, z = gw := ⟨_, rfl⟩
  rw [← hgw] at hG hZ hS hl hc8 hc9
  have hgm : gMod gw g := hgw ▸ gMod.rf g
  refine lv_aload_n hx hb dX3_init_0 rfl (lv_at hl 0 rfl) ?_
  refine W.objInit hx hb hown k1 k2 k3 rfl (hl.1.trans hml.symm) rfl dX3_init_1 (Nat.le_of_ble_eq_true rfl) (Nat.le_of_ble_eq_true rfl) ?_
  refine W.eq (g2 := F0 m 4 ls []) rfl ?_
  refine lv_aload_n hx hb dX3_init_4 rfl (lv_at hl 0 rfl) ?_
  refine lv_bipush (v := 36) hx hb dX3_init_5 (by decide) ?_
  refine gx_newI hx hb k4 hZ hG hS 9 36 (by decide) (by rw [hc9]; decide) rfl (by decide) (Nat.le_of_ble_eq_true rfl) (Nat.le_of_ble_eq_true rfl) dX3_init_7 (fun q H hG hS1 hsz => ?_)
  rw [hc9] at hG
  have hold0 := hc9
  have hAA0 := gx_stA (g := g) (g' := gAdd g 9 q 36) rfl
  obtain ⟨g, hg0⟩ : ∃ z : gG, z = gAdd g 9 q 36 := ⟨_, rfl⟩
  rw [← hg0] at hG hAA0
  have hZ : ZZ g s := by rw [hg0]; exact gx_stZ rfl rfl rfl hZ
  rw [← hAA0] at hS1
  have hS := hS1
  have hc8 : gcn g 8 = 1 := by rw [hg0, gAdd_cn, if_neg (by decide)]; exact hc8
  have hc9 : gcn g 9 = 1 := by rw [hg0, gAdd_cn, if_pos rfl, hc9]
  have hln9_0 : gln g 9 0 = 36 := by rw [hg0, gAdd_ln, if_pos ⟨rfl, hold0.symm⟩]
  have hq : gad g 9 0 = q := by rw [hg0, gAdd_ad, if_pos ⟨rfl, hold0.symm⟩]
  have hl : lv_has ls 2 [(0, .ref (gad g 8 0))] := by subst hg0; exact hl
  refine gx_topV (congrArg Value.ref hq.symm) ?_
  refine gx_topV2 (v := (Value.ref (gad g 8 0))) (by subst hg0; rfl) ?_
  have hgm := hgm.add hg0
  refine gx_putF hx hb hown hZ hG hS 8 0 2 (nI 0) (by rw [hc8]; decide) rfl (by decide) k5 (fun _ h => h) rfl hin rfl (grf_nI (a := gad g 9) (j := 0) (by decide)) (Or.inr ⟨_, (by rw [hc9]; decide), rfl⟩) rfl rfl dX3_init_9 (fun H locs hG hS => ?_)
  refine lv_aload_n hx hb dX3_init_12 rfl (lv_at hl 0 rfl) ?_
  refine lv_iconst (v := 4) hx hb dX3_init_13 (by decide) ?_
  refine gx_put hx hb hown hZ hG hS 8 0 3 (4) (by rw [hc8]; decide) rfl (by decide) k6 (fun _ h => h) rfl rfl trivial rfl rfl dX3_init_14 (fun H locs hG hS => ?_)
  refine lv_aload_n hx hb dX3_init_17 rfl (lv_at hl 0 rfl) ?_
  refine lv_iconst (v := 2) hx hb dX3_init_18 (by decide) ?_
  refine gx_put hx hb hown hZ hG hS 8 0 4 (2) (by rw [hc8]; decide) rfl (by decide) k7 (fun _ h => h) rfl rfl trivial rfl rfl dX3_init_19 (fun H locs hG hS => ?_)
  refine lv_aload_n hx hb dX3_init_22 rfl (lv_at hl 0 rfl) ?_
  refine lv_bipush (v := 10) hx hb dX3_init_23 (by decide) ?_
  refine gx_newI hx hb k4 hZ hG hS 9 10 (by decide) (by rw [hc9]; decide) rfl (by decide) (Nat.le_of_ble_eq_true rfl) (Nat.le_of_ble_eq_true rfl) dX3_init_25 (fun q H hG hS1 hsz => ?_)
  rw [hc9] at hG
  have hold1 := hc9
  have hAA1 := gx_stA (g := g) (g' := gAdd g 9 q 10) rfl
  obtain ⟨g, hg1⟩ : ∃ z : gG, z = gAdd g 9 q 10 := ⟨_, rfl⟩
  rw [← hg1] at hG hAA1
  have hZ : ZZ g s := by rw [hg1]; exact gx_stZ rfl rfl rfl hZ
  rw [← hAA1] at hS1
  have hS := hS1
  have hc8 : gcn g 8 = 1 := by rw [hg1, gAdd_cn, if_neg (by decide)]; exact hc8
  have hc9 : gcn g 9 = 2 := by rw [hg1, gAdd_cn, if_pos rfl, hc9]
  have hln9_0 : gln g 9 0 = 36 := by rw [hg1, gAdd_ln, if_neg (by rw [hold1]; decide)]; exact hln9_0
  have hln9_1 : gln g 9 1 = 10 := by rw [hg1, gAdd_ln, if_pos ⟨rfl, hold1.symm⟩]
  have hq : gad g 9 1 = q := by rw [hg1, gAdd_ad, if_pos ⟨rfl, hold1.symm⟩]
  have hl : lv_has ls 2 [(0, .ref (gad g 8 0))] := by subst hg1; exact hl
  refine gx_topV (congrArg Value.ref hq.symm) ?_
  refine gx_topV2 (v := (Value.ref (gad g 8 0))) (by subst hg1; rfl) ?_
  have hgm := hgm.add hg1
  refine gx_putF hx hb hown hZ hG hS 8 0 6 (nI 1) (by rw [hc8]; decide) rfl (by decide) k8 (fun _ h => h) rfl hin rfl (grf_nI (a := gad g 9) (j := 1) (by decide)) (Or.inr ⟨_, (by rw [hc9]; decide), rfl⟩) rfl rfl dX3_init_27 (fun H locs hG hS => ?_)
  refine lv_aload_n hx hb dX3_init_30 rfl (lv_at hl 0 rfl) ?_
  refine lv_bipush (v := 10) hx hb dX3_init_31 (by decide) ?_
  refine gx_newI hx hb k4 hZ hG hS 9 10 (by decide) (by rw [hc9]; decide) rfl (by decide) (Nat.le_of_ble_eq_true rfl) (Nat.le_of_ble_eq_true rfl) dX3_init_33 (fun q H hG hS1 hsz => ?_)
  rw [hc9] at hG
  have hold2 := hc9
  have hAA2 := gx_stA (g := g) (g' := gAdd g 9 q 10) rfl
  obtain ⟨g, hg2⟩ : ∃ z : gG, z = gAdd g 9 q 10 := ⟨_, rfl⟩
  rw [← hg2] at hG hAA2
  have hZ : ZZ g s := by rw [hg2]; exact gx_stZ rfl rfl rfl hZ
  rw [← hAA2] at hS1
  have hS := hS1
  have hc8 : gcn g 8 = 1 := by rw [hg2, gAdd_cn, if_neg (by decide)]; exact hc8
  have hc9 : gcn g 9 = 3 := by rw [hg2, gAdd_cn, if_pos rfl, hc9]
  have hln9_0 : gln g 9 0 = 36 := by rw [hg2, gAdd_ln, if_neg (by rw [hold2]; decide)]; exact hln9_0
  have hln9_1 : gln g 9 1 = 10 := by rw [hg2, gAdd_ln, if_neg (by rw [hold2]; decide)]; exact hln9_1
  have hln9_2 : gln g 9 2 = 10 := by rw [hg2, gAdd_ln, if_pos ⟨rfl, hold2.symm⟩]
  have hq : gad g 9 2 = q := by rw [hg2, gAdd_ad, if_pos ⟨rfl, hold2.symm⟩]
  have hl : lv_has ls 2 [(0, .ref (gad g 8 0))] := by subst hg2; exact hl
  refine gx_topV (congrArg Value.ref hq.symm) ?_
  refine gx_topV2 (v := (Value.ref (gad g 8 0))) (by subst hg2; rfl) ?_
  have hgm := hgm.add hg2
  refine gx_putF hx hb hown hZ hG hS 8 0 7 (nI 2) (by rw [hc8]; decide) rfl (by decide) k9 (fun _ h => h) rfl hin rfl (grf_nI (a := gad g 9) (j := 2) (by decide)) (Or.inr ⟨_, (by rw [hc9]; decide), rfl⟩) rfl rfl dX3_init_35 (fun H locs hG hS => ?_)
  refine lv_aload_n hx hb dX3_init_38 rfl (lv_at hl 0 rfl) ?_
  refine lv_bipush (v := 10) hx hb dX3_init_39 (by decide) ?_
  refine gx_newI hx hb k4 hZ hG hS 9 10 (by decide) (by rw [hc9]; decide) rfl (by decide) (Nat.le_of_ble_eq_true rfl) (Nat.le_of_ble_eq_true rfl) dX3_init_41 (fun q H hG hS1 hsz => ?_)
  rw [hc9] at hG
  have hold3 := hc9
  have hAA3 := gx_stA (g := g) (g' := gAdd g 9 q 10) rfl
  obtain ⟨g, hg3⟩ : ∃ z : gG, z = gAdd g 9 q 10 := ⟨_, rfl⟩
  rw [← hg3] at hG hAA3
  have hZ : ZZ g s := by rw [hg3]; exact gx_stZ rfl rfl rfl hZ
  rw [← hAA3] at hS1
  have hS := hS1
  have hc8 : gcn g 8 = 1 := by rw [hg3, gAdd_cn, if_neg (by decide)]; exact hc8
  have hc9 : gcn g 9 = 4 := by rw [hg3, gAdd_cn, if_pos rfl, hc9]
  have hln9_0 : gln g 9 0 = 36 := by rw [hg3, gAdd_ln, if_neg (by rw [hold3]; decide)]; exact hln9_0
  have hln9_1 : gln g 9 1 = 10 := by rw [hg3, gAdd_ln, if_neg (by rw [hold3]; decide)]; exact hln9_1
  have hln9_2 : gln g 9 2 = 10 := by rw [hg3, gAdd_ln, if_neg (by rw [hold3]; decide)]; exact hln9_2
  have hln9_3 : gln g 9 3 = 10 := by rw [hg3, gAdd_ln, if_pos ⟨rfl, hold3.symm⟩]
  have hq : gad g 9 3 = q := by rw [hg3, gAdd_ad, if_pos ⟨rfl, hold3.symm⟩]
  have hl : lv_has ls 2 [(0, .ref (gad g 8 0))] := by subst hg3; exact hl
  refine gx_topV (congrArg Value.ref hq.symm) ?_
  refine gx_topV2 (v := (Value.ref (gad g 8 0))) (by subst hg3; rfl) ?_
  have hgm := hgm.add hg3
  refine gx_putF hx hb hown hZ hG hS 8 0 8 (nI 3) (by rw [hc8]; decide) rfl (by decide) k10 (fun _ h => h) rfl hin rfl (grf_nI (a := gad g 9) (j := 3) (by decide)) (Or.inr ⟨_, (by rw [hc9]; decide), rfl⟩) rfl rfl dX3_init_43 (fun H locs hG hS => ?_)
  refine lv_aload_n hx hb dX3_init_46 rfl (lv_at hl 0 rfl) ?_
  refine lv_bipush (v := 10) hx hb dX3_init_47 (by decide) ?_
  refine gx_newI hx hb k4 hZ hG hS 9 10 (by decide) (by rw [hc9]; decide) rfl (by decide) (Nat.le_of_ble_eq_true rfl) (Nat.le_of_ble_eq_true rfl) dX3_init_49 (fun q H hG hS1 hsz => ?_)
  rw [hc9] at hG
  have hold4 := hc9
  have hAA4 := gx_stA (g := g) (g' := gAdd g 9 q 10) rfl
  obtain ⟨g, hg4⟩ : ∃ z : gG, z = gAdd g 9 q 10 := ⟨_, rfl⟩
  rw [← hg4] at hG hAA4
  have hZ : ZZ g s := by rw [hg4]; exact gx_stZ rfl rfl rfl hZ
  rw [← hAA4] at hS1
  have hS := hS1
  have hc8 : gcn g 8 = 1 := by rw [hg4, gAdd_cn, if_neg (by decide)]; exact hc8
  have hc9 : gcn g 9 = 5 := by rw [hg4, gAdd_cn, if_pos rfl, hc9]
  have hln9_0 : gln g 9 0 = 36 := by rw [hg4, gAdd_ln, if_neg (by rw [hold4]; decide)]; exact hln9_0
  have hln9_1 : gln g 9 1 = 10 := by rw [hg4, gAdd_ln, if_neg (by rw [hold4]; decide)]; exact hln9_1
  have hln9_2 : gln g 9 2 = 10 := by rw [hg4, gAdd_ln, if_neg (by rw [hold4]; decide)]; exact hln9_2
  have hln9_3 : gln g 9 3 = 10 := by rw [hg4, gAdd_ln, if_neg (by rw [hold4]; decide)]; exact hln9_3
  have hln9_4 : gln g 9 4 = 10 := by rw [hg4, gAdd_ln, if_pos ⟨rfl, hold4.symm⟩]
  have hq : gad g 9 4 = q := by rw [hg4, gAdd_ad, if_pos ⟨rfl, hold4.symm⟩]
  have hl : lv_has ls 2 [(0, .ref (gad g 8 0))] := by subst hg4; exact hl
  refine gx_topV (congrArg Value.ref hq.symm) ?_
  refine gx_topV2 (v := (Value.ref (gad g 8 0))) (by subst hg4; rfl) ?_
  have hgm := hgm.add hg4
  refine gx_putF hx hb hown hZ hG hS 8 0 9 (nI 4) (by rw [hc8]; decide) rfl (by decide) k11 (fun _ h => h) rfl hin rfl (grf_nI (a := gad g 9) (j := 4) (by decide)) (Or.inr ⟨_, (by rw [hc9]; decide), rfl⟩) rfl rfl dX3_init_51 (fun H locs hG hS => ?_)
  refine lv_aload_n hx hb dX3_init_54 rfl (lv_at hl 0 rfl) ?_
  refine lv_bipush (v := 10) hx hb dX3_init_55 (by decide) ?_
  refine gx_newI hx hb k4 hZ hG hS 9 10 (by decide) (by rw [hc9]; decide) rfl (by decide) (Nat.le_of_ble_eq_true rfl) (Nat.le_of_ble_eq_true rfl) dX3_init_57 (fun q H hG hS1 hsz => ?_)
  rw [hc9] at hG
  have hold5 := hc9
  have hAA5 := gx_stA (g := g) (g' := gAdd g 9 q 10) rfl
  obtain ⟨g, hg5⟩ : ∃ z : gG, z = gAdd g 9 q 10 := ⟨_, rfl⟩
  rw [← hg5] at hG hAA5
  have hZ : ZZ g s := by rw [hg5]; exact gx_stZ rfl rfl rfl hZ
  rw [← hAA5] at hS1
  have hS := hS1
  have hc8 : gcn g 8 = 1 := by rw [hg5, gAdd_cn, if_neg (by decide)]; exact hc8
  have hc9 : gcn g 9 = 6 := by rw [hg5, gAdd_cn, if_pos rfl, hc9]
  have hln9_0 : gln g 9 0 = 36 := by rw [hg5, gAdd_ln, if_neg (by rw [hold5]; decide)]; exact hln9_0
  have hln9_1 : gln g 9 1 = 10 := by rw [hg5, gAdd_ln, if_neg (by rw [hold5]; decide)]; exact hln9_1
  have hln9_2 : gln g 9 2 = 10 := by rw [hg5, gAdd_ln, if_neg (by rw [hold5]; decide)]; exact hln9_2
  have hln9_3 : gln g 9 3 = 10 := by rw [hg5, gAdd_ln, if_neg (by rw [hold5]; decide)]; exact hln9_3
  have hln9_4 : gln g 9 4 = 10 := by rw [hg5, gAdd_ln, if_neg (by rw [hold5]; decide)]; exact hln9_4
  have hln9_5 : gln g 9 5 = 10 := by rw [hg5, gAdd_ln, if_pos ⟨rfl, hold5.symm⟩]
  have hq : gad g 9 5 = q := by rw [hg5, gAdd_ad, if_pos ⟨rfl, hold5.symm⟩]
  have hl : lv_has ls 2 [(0, .ref (gad g 8 0))] := by subst hg5; exact hl
  refine gx_topV (congrArg Value.ref hq.symm) ?_
  refine gx_topV2 (v := (Value.ref (gad g 8 0))) (by subst hg5; rfl) ?_
  have hgm := hgm.add hg5
  refine gx_putF hx hb hown hZ hG hS 8 0 10 (nI 5) (by rw [hc8]; decide) rfl (by decide) k12 (fun _ h => h) rfl hin rfl (grf_nI (a := gad g 9) (j := 5) (by decide)) (Or.inr ⟨_, (by rw [hc9]; decide), rfl⟩) rfl rfl dX3_init_59 (fun H locs hG hS => ?_)
  refine lv_aload_n hx hb dX3_init_62 rfl (lv_at hl 0 rfl) ?_
  refine lv_bipush (v := 10) hx hb dX3_init_63 (by decide) ?_
  refine gx_newI hx hb k4 hZ hG hS 9 10 (by decide) (by rw [hc9]; decide) rfl (by decide) (Nat.le_of_ble_eq_true rfl) (Nat.le_of_ble_eq_true rfl) dX3_init_65 (fun q H hG hS1 hsz => ?_)
  rw [hc9] at hG
  have hold6 := hc9
  have hAA6 := gx_stA (g := g) (g' := gAdd g 9 q 10) rfl
  obtain ⟨g, hg6⟩ : ∃ z : gG, z = gAdd g 9 q 10 := ⟨_, rfl⟩
  rw [← hg6] at hG hAA6
  have hZ : ZZ g s := by rw [hg6]; exact gx_stZ rfl rfl rfl hZ
  rw [← hAA6] at hS1
  have hS := hS1
  have hc8 : gcn g 8 = 1 := by rw [hg6, gAdd_cn, if_neg (by decide)]; exact hc8
  have hc9 : gcn g 9 = 7 := by rw [hg6, gAdd_cn, if_pos rfl, hc9]
  have hln9_0 : gln g 9 0 = 36 := by rw [hg6, gAdd_ln, if_neg (by rw [hold6]; decide)]; exact hln9_0
  have hln9_1 : gln g 9 1 = 10 := by rw [hg6, gAdd_ln, if_neg (by rw [hold6]; decide)]; exact hln9_1
  have hln9_2 : gln g 9 2 = 10 := by rw [hg6, gAdd_ln, if_neg (by rw [hold6]; decide)]; exact hln9_2
  have hln9_3 : gln g 9 3 = 10 := by rw [hg6, gAdd_ln, if_neg (by rw [hold6]; decide)]; exact hln9_3
  have hln9_4 : gln g 9 4 = 10 := by rw [hg6, gAdd_ln, if_neg (by rw [hold6]; decide)]; exact hln9_4
  have hln9_5 : gln g 9 5 = 10 := by rw [hg6, gAdd_ln, if_neg (by rw [hold6]; decide)]; exact hln9_5
  have hln9_6 : gln g 9 6 = 10 := by rw [hg6, gAdd_ln, if_pos ⟨rfl, hold6.symm⟩]
  have hq : gad g 9 6 = q := by rw [hg6, gAdd_ad, if_pos ⟨rfl, hold6.symm⟩]
  have hl : lv_has ls 2 [(0, .ref (gad g 8 0))] := by subst hg6; exact hl
  refine gx_topV (congrArg Value.ref hq.symm) ?_
  refine gx_topV2 (v := (Value.ref (gad g 8 0))) (by subst hg6; rfl) ?_
  have hgm := hgm.add hg6
  refine gx_putF hx hb hown hZ hG hS 8 0 11 (nI 6) (by rw [hc8]; decide) rfl (by decide) k13 (fun _ h => h) rfl hin rfl (grf_nI (a := gad g 9) (j := 6) (by decide)) (Or.inr ⟨_, (by rw [hc9]; decide), rfl⟩) rfl rfl dX3_init_67 (fun H locs hG hS => ?_)
  refine lv_aload_n hx hb dX3_init_70 rfl (lv_at hl 0 rfl) ?_
  refine lv_bipush (v := 10) hx hb dX3_init_71 (by decide) ?_
  refine gx_newI hx hb k4 hZ hG hS 9 10 (by decide) (by rw [hc9]; decide) rfl (by decide) (Nat.le_of_ble_eq_true rfl) (Nat.le_of_ble_eq_true rfl) dX3_init_73 (fun q H hG hS1 hsz => ?_)
  rw [hc9] at hG
  have hold7 := hc9
  have hAA7 := gx_stA (g := g) (g' := gAdd g 9 q 10) rfl
  obtain ⟨g, hg7⟩ : ∃ z : gG, z = gAdd g 9 q 10 := ⟨_, rfl⟩
  rw [← hg7] at hG hAA7
  have hZ : ZZ g s := by rw [hg7]; exact gx_stZ rfl rfl rfl hZ
  rw [← hAA7] at hS1
  have hS := hS1
  have hc8 : gcn g 8 = 1 := by rw [hg7, gAdd_cn, if_neg (by decide)]; exact hc8
  have hc9 : gcn g 9 = 8 := by rw [hg7, gAdd_cn, if_pos rfl, hc9]
  have hln9_0 : gln g 9 0 = 36 := by rw [hg7, gAdd_ln, if_neg (by rw [hold7]; decide)]; exact hln9_0
  have hln9_1 : gln g 9 1 = 10 := by rw [hg7, gAdd_ln, if_neg (by rw [hold7]; decide)]; exact hln9_1
  have hln9_2 : gln g 9 2 = 10 := by rw [hg7, gAdd_ln, if_neg (by rw [hold7]; decide)]; exact hln9_2
  have hln9_3 : gln g 9 3 = 10 := by rw [hg7, gAdd_ln, if_neg (by rw [hold7]; decide)]; exact hln9_3
  have hln9_4 : gln g 9 4 = 10 := by rw [hg7, gAdd_ln, if_neg (by rw [hold7]; decide)]; exact hln9_4
  have hln9_5 : gln g 9 5 = 10 := by rw [hg7, gAdd_ln, if_neg (by rw [hold7]; decide)]; exact hln9_5
  have hln9_6 : gln g 9 6 = 10 := by rw [hg7, gAdd_ln, if_neg (by rw [hold7]; decide)]; exact hln9_6
  have hln9_7 : gln g 9 7 = 10 := by rw [hg7, gAdd_ln, if_pos ⟨rfl, hold7.symm⟩]
  have hq : gad g 9 7 = q := by rw [hg7, gAdd_ad, if_pos ⟨rfl, hold7.symm⟩]
  have hl : lv_has ls 2 [(0, .ref (gad g 8 0))] := by subst hg7; exact hl
  refine gx_topV (congrArg Value.ref hq.symm) ?_
  refine gx_topV2 (v := (Value.ref (gad g 8 0))) (by subst hg7; rfl) ?_
  have hgm := hgm.add hg7
  refine gx_putF hx hb hown hZ hG hS 8 0 13 (nI 7) (by rw [hc8]; decide) rfl (by decide) k14 (fun _ h => h) rfl hin rfl (grf_nI (a := gad g 9) (j := 7) (by decide)) (Or.inr ⟨_, (by rw [hc9]; decide), rfl⟩) rfl rfl dX3_init_75 (fun H locs hG hS => ?_)
  refine lv_aload_n hx hb dX3_init_78 rfl (lv_at hl 0 rfl) ?_
  refine lv_bipush (v := 10) hx hb dX3_init_79 (by decide) ?_
  refine gx_newI hx hb k4 hZ hG hS 9 10 (by decide) (by rw [hc9]; decide) rfl (by decide) (Nat.le_of_ble_eq_true rfl) (Nat.le_of_ble_eq_true rfl) dX3_init_81 (fun q H hG hS1 hsz => ?_)
  rw [hc9] at hG
  have hold8 := hc9
  have hAA8 := gx_stA (g := g) (g' := gAdd g 9 q 10) rfl
  obtain ⟨g, hg8⟩ : ∃ z : gG, z = gAdd g 9 q 10 := ⟨_, rfl⟩
  rw [← hg8] at hG hAA8
  have hZ : ZZ g s := by rw [hg8]; exact gx_stZ rfl rfl rfl hZ
  rw [← hAA8] at hS1
  have hS := hS1
  have hc8 : gcn g 8 = 1 := by rw [hg8, gAdd_cn, if_neg (by decide)]; exact hc8
  have hc9 : gcn g 9 = 9 := by rw [hg8, gAdd_cn, if_pos rfl, hc9]
  have hln9_0 : gln g 9 0 = 36 := by rw [hg8, gAdd_ln, if_neg (by rw [hold8]; decide)]; exact hln9_0
  have hln9_1 : gln g 9 1 = 10 := by rw [hg8, gAdd_ln, if_neg (by rw [hold8]; decide)]; exact hln9_1
  have hln9_2 : gln g 9 2 = 10 := by rw [hg8, gAdd_ln, if_neg (by rw [hold8]; decide)]; exact hln9_2
  have hln9_3 : gln g 9 3 = 10 := by rw [hg8, gAdd_ln, if_neg (by rw [hold8]; decide)]; exact hln9_3
  have hln9_4 : gln g 9 4 = 10 := by rw [hg8, gAdd_ln, if_neg (by rw [hold8]; decide)]; exact hln9_4
  have hln9_5 : gln g 9 5 = 10 := by rw [hg8, gAdd_ln, if_neg (by rw [hold8]; decide)]; exact hln9_5
  have hln9_6 : gln g 9 6 = 10 := by rw [hg8, gAdd_ln, if_neg (by rw [hold8]; decide)]; exact hln9_6
  have hln9_7 : gln g 9 7 = 10 := by rw [hg8, gAdd_ln, if_neg (by rw [hold8]; decide)]; exact hln9_7
  have hln9_8 : gln g 9 8 = 10 := by rw [hg8, gAdd_ln, if_pos ⟨rfl, hold8.symm⟩]
  have hq : gad g 9 8 = q := by rw [hg8, gAdd_ad, if_pos ⟨rfl, hold8.symm⟩]
  have hl : lv_has ls 2 [(0, .ref (gad g 8 0))] := by subst hg8; exact hl
  refine gx_topV (congrArg Value.ref hq.symm) ?_
  refine gx_topV2 (v := (Value.ref (gad g 8 0))) (by subst hg8; rfl) ?_
  have hgm := hgm.add hg8
  refine gx_putF hx hb hown hZ hG hS 8 0 14 (nI 8) (by rw [hc8]; decide) rfl (by decide) k15 (fun _ h => h) rfl hin rfl (grf_nI (a := gad g 9) (j := 8) (by decide)) (Or.inr ⟨_, (by rw [hc9]; decide), rfl⟩) rfl rfl dX3_init_83 (fun H locs hG hS => ?_)
  refine lv_aload_n hx hb dX3_init_86 rfl (lv_at hl 0 rfl) ?_
  refine lv_sipush (v := 480) hx hb dX3_init_87 (by decide) ?_
  refine gx_newI hx hb k4 hZ hG hS 9 480 (by decide) (by rw [hc9]; decide) rfl (by decide) (Nat.le_of_ble_eq_true rfl) (Nat.le_of_ble_eq_true rfl) dX3_init_90 (fun q H hG hS1 hsz => ?_)
  rw [hc9] at hG
  have hold9 := hc9
  have hAA9 := gx_stA (g := g) (g' := gAdd g 9 q 480) rfl
  obtain ⟨g, hg9⟩ : ∃ z : gG, z = gAdd g 9 q 480 := ⟨_, rfl⟩
  rw [← hg9] at hG hAA9
  have hZ : ZZ g s := by rw [hg9]; exact gx_stZ rfl rfl rfl hZ
  rw [← hAA9] at hS1
  have hS := hS1
  have hc8 : gcn g 8 = 1 := by rw [hg9, gAdd_cn, if_neg (by decide)]; exact hc8
  have hc9 : gcn g 9 = 10 := by rw [hg9, gAdd_cn, if_pos rfl, hc9]
  have hln9_0 : gln g 9 0 = 36 := by rw [hg9, gAdd_ln, if_neg (by rw [hold9]; decide)]; exact hln9_0
  have hln9_1 : gln g 9 1 = 10 := by rw [hg9, gAdd_ln, if_neg (by rw [hold9]; decide)]; exact hln9_1
  have hln9_2 : gln g 9 2 = 10 := by rw [hg9, gAdd_ln, if_neg (by rw [hold9]; decide)]; exact hln9_2
  have hln9_3 : gln g 9 3 = 10 := by rw [hg9, gAdd_ln, if_neg (by rw [hold9]; decide)]; exact hln9_3
  have hln9_4 : gln g 9 4 = 10 := by rw [hg9, gAdd_ln, if_neg (by rw [hold9]; decide)]; exact hln9_4
  have hln9_5 : gln g 9 5 = 10 := by rw [hg9, gAdd_ln, if_neg (by rw [hold9]; decide)]; exact hln9_5
  have hln9_6 : gln g 9 6 = 10 := by rw [hg9, gAdd_ln, if_neg (by rw [hold9]; decide)]; exact hln9_6
  have hln9_7 : gln g 9 7 = 10 := by rw [hg9, gAdd_ln, if_neg (by rw [hold9]; decide)]; exact hln9_7
  have hln9_8 : gln g 9 8 = 10 := by rw [hg9, gAdd_ln, if_neg (by rw [hold9]; decide)]; exact hln9_8
  have hln9_9 : gln g 9 9 = 480 := by rw [hg9, gAdd_ln, if_pos ⟨rfl, hold9.symm⟩]
  have hq : gad g 9 9 = q := by rw [hg9, gAdd_ad, if_pos ⟨rfl, hold9.symm⟩]
  have hl : lv_has ls 2 [(0, .ref (gad g 8 0))] := by subst hg9; exact hl
  refine gx_topV (congrArg Value.ref hq.symm) ?_
  refine gx_topV2 (v := (Value.ref (gad g 8 0))) (by subst hg9; rfl) ?_
  have hgm := hgm.add hg9
  refine gx_putF hx hb hown hZ hG hS 8 0 16 (nI 9) (by rw [hc8]; decide) rfl (by decide) k16 (fun _ h => h) rfl hin rfl (grf_nI (a := gad g 9) (j := 9) (by decide)) (Or.inr ⟨_, (by rw [hc9]; decide), rfl⟩) rfl rfl dX3_init_92 (fun H locs hG hS => ?_)
  refine lv_aload_n hx hb dX3_init_95 rfl (lv_at hl 0 rfl) ?_
  refine lv_bipush (v := 60) hx hb dX3_init_96 (by decide) ?_
  refine gx_newI hx hb k4 hZ hG hS 9 60 (by decide) (by rw [hc9]; decide) rfl (by decide) (Nat.le_of_ble_eq_true rfl) (Nat.le_of_ble_eq_true rfl) dX3_init_98 (fun q H hG hS1 hsz => ?_)
  rw [hc9] at hG
  have hold10 := hc9
  have hAA10 := gx_stA (g := g) (g' := gAdd g 9 q 60) rfl
  obtain ⟨g, hg10⟩ : ∃ z : gG, z = gAdd g 9 q 60 := ⟨_, rfl⟩
  rw [← hg10] at hG hAA10
  have hZ : ZZ g s := by rw [hg10]; exact gx_stZ rfl rfl rfl hZ
  rw [← hAA10] at hS1
  have hS := hS1
  have hc8 : gcn g 8 = 1 := by rw [hg10, gAdd_cn, if_neg (by decide)]; exact hc8
  have hc9 : gcn g 9 = 11 := by rw [hg10, gAdd_cn, if_pos rfl, hc9]
  have hln9_0 : gln g 9 0 = 36 := by rw [hg10, gAdd_ln, if_neg (by rw [hold10]; decide)]; exact hln9_0
  have hln9_1 : gln g 9 1 = 10 := by rw [hg10, gAdd_ln, if_neg (by rw [hold10]; decide)]; exact hln9_1
  have hln9_2 : gln g 9 2 = 10 := by rw [hg10, gAdd_ln, if_neg (by rw [hold10]; decide)]; exact hln9_2
  have hln9_3 : gln g 9 3 = 10 := by rw [hg10, gAdd_ln, if_neg (by rw [hold10]; decide)]; exact hln9_3
  have hln9_4 : gln g 9 4 = 10 := by rw [hg10, gAdd_ln, if_neg (by rw [hold10]; decide)]; exact hln9_4
  have hln9_5 : gln g 9 5 = 10 := by rw [hg10, gAdd_ln, if_neg (by rw [hold10]; decide)]; exact hln9_5
  have hln9_6 : gln g 9 6 = 10 := by rw [hg10, gAdd_ln, if_neg (by rw [hold10]; decide)]; exact hln9_6
  have hln9_7 : gln g 9 7 = 10 := by rw [hg10, gAdd_ln, if_neg (by rw [hold10]; decide)]; exact hln9_7
  have hln9_8 : gln g 9 8 = 10 := by rw [hg10, gAdd_ln, if_neg (by rw [hold10]; decide)]; exact hln9_8
  have hln9_9 : gln g 9 9 = 480 := by rw [hg10, gAdd_ln, if_neg (by rw [hold10]; decide)]; exact hln9_9
  have hln9_10 : gln g 9 10 = 60 := by rw [hg10, gAdd_ln, if_pos ⟨rfl, hold10.symm⟩]
  have hq : gad g 9 10 = q := by rw [hg10, gAdd_ad, if_pos ⟨rfl, hold10.symm⟩]
  have hl : lv_has ls 2 [(0, .ref (gad g 8 0))] := by subst hg10; exact hl
  refine gx_topV (congrArg Value.ref hq.symm) ?_
  refine gx_topV2 (v := (Value.ref (gad g 8 0))) (by subst hg10; rfl) ?_
  have hgm := hgm.add hg10
  refine gx_putF hx hb hown hZ hG hS 8 0 17 (nI 10) (by rw [hc8]; decide) rfl (by decide) k17 (fun _ h => h) rfl hin rfl (grf_nI (a := gad g 9) (j := 10) (by decide)) (Or.inr ⟨_, (by rw [hc9]; decide), rfl⟩) rfl rfl dX3_init_100 (fun H locs hG hS => ?_)
  refine lv_aload_n hx hb dX3_init_103 rfl (lv_at hl 0 rfl) ?_
  refine lv_sipush (v := 240) hx hb dX3_init_104 (by decide) ?_
  refine gx_newI hx hb k4 hZ hG hS 9 240 (by decide) (by rw [hc9]; decide) rfl (by decide) (Nat.le_of_ble_eq_true rfl) (Nat.le_of_ble_eq_true rfl) dX3_init_107 (fun q H hG hS1 hsz => ?_)
  rw [hc9] at hG
  have hold11 := hc9
  have hAA11 := gx_stA (g := g) (g' := gAdd g 9 q 240) rfl
  obtain ⟨g, hg11⟩ : ∃ z : gG, z = gAdd g 9 q 240 := ⟨_, rfl⟩
  rw [← hg11] at hG hAA11
  have hZ : ZZ g s := by rw [hg11]; exact gx_stZ rfl rfl rfl hZ
  rw [← hAA11] at hS1
  have hS := hS1
  have hc8 : gcn g 8 = 1 := by rw [hg11, gAdd_cn, if_neg (by decide)]; exact hc8
  have hc9 : gcn g 9 = 12 := by rw [hg11, gAdd_cn, if_pos rfl, hc9]
  have hln9_0 : gln g 9 0 = 36 := by rw [hg11, gAdd_ln, if_neg (by rw [hold11]; decide)]; exact hln9_0
  have hln9_1 : gln g 9 1 = 10 := by rw [hg11, gAdd_ln, if_neg (by rw [hold11]; decide)]; exact hln9_1
  have hln9_2 : gln g 9 2 = 10 := by rw [hg11, gAdd_ln, if_neg (by rw [hold11]; decide)]; exact hln9_2
  have hln9_3 : gln g 9 3 = 10 := by rw [hg11, gAdd_ln, if_neg (by rw [hold11]; decide)]; exact hln9_3
  have hln9_4 : gln g 9 4 = 10 := by rw [hg11, gAdd_ln, if_neg (by rw [hold11]; decide)]; exact hln9_4
  have hln9_5 : gln g 9 5 = 10 := by rw [hg11, gAdd_ln, if_neg (by rw [hold11]; decide)]; exact hln9_5
  have hln9_6 : gln g 9 6 = 10 := by rw [hg11, gAdd_ln, if_neg (by rw [hold11]; decide)]; exact hln9_6
  have hln9_7 : gln g 9 7 = 10 := by rw [hg11, gAdd_ln, if_neg (by rw [hold11]; decide)]; exact hln9_7
  have hln9_8 : gln g 9 8 = 10 := by rw [hg11, gAdd_ln, if_neg (by rw [hold11]; decide)]; exact hln9_8
  have hln9_9 : gln g 9 9 = 480 := by rw [hg11, gAdd_ln, if_neg (by rw [hold11]; decide)]; exact hln9_9
  have hln9_10 : gln g 9 10 = 60 := by rw [hg11, gAdd_ln, if_neg (by rw [hold11]; decide)]; exact hln9_10
  have hln9_11 : gln g 9 11 = 240 := by rw [hg11, gAdd_ln, if_pos ⟨rfl, hold11.symm⟩]
  have hq : gad g 9 11 = q := by rw [hg11, gAdd_ad, if_pos ⟨rfl, hold11.symm⟩]
  have hl : lv_has ls 2 [(0, .ref (gad g 8 0))] := by subst hg11; exact hl
  refine gx_topV (congrArg Value.ref hq.symm) ?_
  refine gx_topV2 (v := (Value.ref (gad g 8 0))) (by subst hg11; rfl) ?_
  have hgm := hgm.add hg11
  refine gx_putF hx hb hown hZ hG hS 8 0 18 (nI 11) (by rw [hc8]; decide) rfl (by decide) k18 (fun _ h => h) rfl hin rfl (grf_nI (a := gad g 9) (j := 11) (by decide)) (Or.inr ⟨_, (by rw [hc9]; decide), rfl⟩) rfl rfl dX3_init_109 (fun H locs hG hS => ?_)
  obtain ⟨σb, hσb⟩ : ∃ z : Mem, z = gst (gFre (gst (gFre (gst (gFre (gst (gFre (gst (gFre (gst (gFre (gst (gFre (gst (gFre (gst (gFre (gst (gFre (gst (gFre (gst (gst (gst (gFre (σ) 9 0) 8 0 2 (nI 0)) 8 0 3 4) 8 0 4 2) 9 1) 8 0 6 (nI 1)) 9 2) 8 0 7 (nI 2)) 9 3) 8 0 8 (nI 3)) 9 4) 8 0 9 (nI 4)) 9 5) 8 0 10 (nI 5)) 9 6) 8 0 11 (nI 6)) 9 7) 8 0 13 (nI 7)) 9 8) 8 0 14 (nI 8)) 9 9) 8 0 16 (nI 9)) 9 10) 8 0 17 (nI 10)) 9 11) 8 0 18 (nI 11) := ⟨_, rfl⟩
  rw [← hσb] at hG
  have hb2 : σb 8 0 2 = nI 0 := by rw [hσb]; simp [gst_app, gFre_app]
  have hb9 : σb 8 0 9 = nI 4 := by rw [hσb]; simp [gst_app, gFre_app]
  refine lv_iconst (v := 0) hx hb dX3_init_112 (by decide) ?_
  refine lv_istore_n (lv' := [(1, .int (0)), (0, .ref (gad g 8 0))]) hx hb dX3_init_113 rfl hl (by decide) rfl (fun ls hl => ?_)
  have loop_114 : ∀ (nf : Nat) (r : Nat) (k : Nat) (σ1 : Mem), r < nf → (k + r = 36) → (σ1 8 0 2 = nI 0) → (xFil 9 0 xWv r k σ1 = xFil 9 0 xWv 36 0 σb) → ∀ (H : Heap) (locs : List Loc), GW g σ1 w H → va_S (gA g) s.heap H locs → ∀ ls : Array Slot, lv_has ls 2 [(0, .ref (gad g 8 0)), (1, .int (nI k))] → W p l e ({ frames := 1, cells := 12, slots := 896, locals := 12 } : Room) s m ([.ref (gad gw 8 0)] : List Value).toArray below meth c0 H locs 12 896 (MQ below (gE gw (fun v H => v = none ∧ ∃ (g2 : gG) (σ2 : Mem), gMod gw g2 ∧ gcn g2 9 = 12 ∧ Mok g2 σ2 ∧ mNew σ2 ∧ (∀ k i f, k ≠ 8 → k ≠ 9 → σ2 k i f = σ k i f) ∧ GW g2 σ2 w H)) ([.ref (gad gw 8 0)] : List Value).toArray s 12 896 (gA gw)) (F0 m 114 ls []) := by
    intro nf
    induction nf with
    | zero => intro r k σ1 hn; exact absurd hn (Nat.not_lt_zero _)
    | succ nf ih =>
      intro r k σ1 hn hk hr0 hres H locs hG hS ls hl
      refine lv_iload_n hx hb dX3_init_114 rfl (lv_at hl 1 rfl) ?_
      refine lv_aload_n hx hb dX3_init_115 rfl (lv_at hl 0 rfl) ?_
      refine gx_get hx hb hown hZ hG 8 0 2 (by rw [hc8]; decide) rfl (by decide) k5 (fun _ h => h) (v := .ref (gad g 9 0)) (grf_j (by first | assumption | simp [gst_app, gFre_app]) (by decide)) dX3_init_116 ?_
      refine gx_len hx hb hZ hG 9 0 (by rw [hc9]; decide) rfl (gx_KI hZ).1 (v := 36) (by rw [hln9_0]; rfl) dX3_init_119 ?_
      refine lv_icmp_ge (tgt := 152) hx hb dX3_init_120 (by decide) (fun c_1 => ?_) (fun c_1 => ?_)
      · skip
        have hge := le_of_nIle (n := 36) c_1 (by omega) (by omega)
        obtain rfl : r = 0 := by omega
        have hσ1 : σ1 = xFil 9 0 xWv 36 0 σb := hres
        refine lv_iconst (v := 0) hx hb dX3_init_152 (by decide) ?_
        refine lv_istore_n (lv' := [(1, .int (0)), (0, .ref (gad g 8 0))]) hx hb dX3_init_153 rfl hl (by decide) rfl (fun ls hl => ?_)
        have loop_154 : ∀ (nf : Nat) (r : Nat) (k : Nat) (σ2 : Mem), r < nf → (k + r = 10) → (σ2 8 0 9 = nI 4) → (xFil 9 4 (fun _ => -1) r k σ2 = xFil 9 4 (fun _ => -1) 10 0 σ1) → ∀ (H : Heap) (locs : List Loc), GW g σ2 w H → va_S (gA g) s.heap H locs → ∀ ls : Array Slot, lv_has ls 2 [(0, .ref (gad g 8 0)), (1, .int (nI k))] → W p l e ({ frames := 1, cells := 12, slots := 896, locals := 12 } : Room) s m ([.ref (gad gw 8 0)] : List Value).toArray below meth c0 H locs 12 896 (MQ below (gE gw (fun v H => v = none ∧ ∃ (g2 : gG) (σ2 : Mem), gMod gw g2 ∧ gcn g2 9 = 12 ∧ Mok g2 σ2 ∧ mNew σ2 ∧ (∀ k i f, k ≠ 8 → k ≠ 9 → σ2 k i f = σ k i f) ∧ GW g2 σ2 w H)) ([.ref (gad gw 8 0)] : List Value).toArray s 12 896 (gA gw)) (F0 m 154 ls []) := by
          intro nf
          induction nf with
          | zero => intro r k σ2 hn; exact absurd hn (Nat.not_lt_zero _)
          | succ nf ih =>
            intro r k σ2 hn hk hr4 hre2 H locs hG hS ls hl
            refine lv_iload_n hx hb dX3_init_154 rfl (lv_at hl 1 rfl) ?_
            refine lv_bipush (v := 10) hx hb dX3_init_155 (by decide) ?_
            refine lv_icmp_ge (tgt := 173) hx hb dX3_init_157 (by decide) (fun c_2 => ?_) (fun c_2 => ?_)
            · skip
              have hge := le_of_nIle (n := 10) c_2 (by omega) (by omega)
              obtain rfl : r = 0 := by omega
              have hσ2 : σ2 = xFil 9 4 (fun _ => -1) 10 0 σ1 := hre2
              have e2 : ∀ k i f, k ≠ 9 → σ2 k i f = σb k i f := fun k i f h => by rw [hσ2, xFil_o 10 0 _ (Or.inl h), hσ1, xFil_o 36 0 _ (Or.inl h)]
              have e3 : ∀ i f, i ≠ 0 → i ≠ 4 → σ2 9 i f = σb 9 i f := fun i f h0 h4 => by rw [hσ2, xFil_o 10 0 _ (Or.inr h4), hσ1, xFil_o 36 0 _ (Or.inr h0)]
              have e4 : ∀ j, j < 36 → σ2 9 0 j = xWv j := fun j hj => by rw [hσ2, xFil_o 10 0 _ (Or.inr (by decide)), hσ1]; exact xFil_v 36 0 _ (Nat.zero_le j) (by omega)
              have e5 : ∀ j, j < 10 → σ2 9 4 j = -1 := fun j hj => by rw [hσ2]; exact xFil_v 10 0 _ (Nat.zero_le j) (by omega)
              have e6 : ∀ f, mRef f = none → f ≠ 3 → f ≠ 4 → σ2 8 0 f = 0 := fun f hf h3 h4 => by
                rw [e2 8 0 f (by decide), hσb]
                have n2 : f ≠ 2 := by rintro rfl; cases hf
                have n6 : f ≠ 6 := by rintro rfl; cases hf
                have n7 : f ≠ 7 := by rintro rfl; cases hf
                have n8 : f ≠ 8 := by rintro rfl; cases hf
                have n9 : f ≠ 9 := by rintro rfl; cases hf
                have n10 : f ≠ 10 := by rintro rfl; cases hf
                have n11 : f ≠ 11 := by rintro rfl; cases hf
                have n13 : f ≠ 13 := by rintro rfl; cases hf
                have n14 : f ≠ 14 := by rintro rfl; cases hf
                have n16 : f ≠ 16 := by rintro rfl; cases hf
                have n17 : f ≠ 17 := by rintro rfl; cases hf
                have n18 : f ≠ 18 := by rintro rfl; cases hf
                simp only [gst_nf n2, gst_nf n6, gst_nf n7, gst_nf n8, gst_nf n9, gst_nf n10, gst_nf n11, gst_nf n13, gst_nf n14, gst_nf n16, gst_nf n17, gst_nf n18, gst_nf h3, gst_nf h4, gFre_o (Or.inl (show (8 : Nat) ≠ 9 by decide))]
                exact hz f hf
              have e7 : ∀ f i, mRef f = some i → σ2 8 0 f = nI i := fun f i hf => by
                rw [e2 8 0 f (by decide), hσb]
                unfold mRef at hf
                split at hf <;> first | (cases hf; done) | (cases hf; simp [gst_app, gFre_app])
              have e8 : ∀ i f, i ≠ 0 → i ≠ 4 → i < 12 → σ2 9 i f = 0 := fun i f h0 h4 h12 => by
                rw [e3 i f h0 h4, hσb]
                rcases (show i = 1 ∨ i = 2 ∨ i = 3 ∨ i = 5 ∨ i = 6 ∨ i = 7 ∨ i = 8 ∨ i = 9 ∨ i = 10 ∨ i = 11 by omega) with rfl | rfl | rfl | rfl | rfl | rfl | rfl | rfl | rfl | rfl <;> simp [gst_app, gFre_app, gDef, gtg]
              have eb3 : σ2 8 0 3 = 4 := by rw [e2 8 0 3 (by decide), hσb]; simp [gst_app, gFre_app]
              have eb4 : σ2 8 0 4 = 2 := by rw [e2 8 0 4 (by decide), hσb]; simp [gst_app, gFre_app]
              have eo : ∀ k i f, k ≠ 8 → k ≠ 9 → σ2 k i f = σ k i f := fun k i f h8 h9 => by rw [e2 k i f h9, hσb]; simp only [gst_nk h8, gFre_o (Or.inl h9)]
              have eC : mC σ2 = 0 := by unfold mC; rw [e6 5 rfl (by decide) (by decide)]; rfl
              have eO : mO σ2 = 0 := by unfold mO; rw [e6 15 rfl (by decide) (by decide)]; rfl
              have hM : Mok g σ2 := ⟨⟨hc8, by omega, hln9_0, fun i h1 h8 => by rcases (show i = 1 ∨ i = 2 ∨ i = 3 ∨ i = 4 ∨ i = 5 ∨ i = 6 ∨ i = 7 ∨ i = 8 by omega) with rfl | rfl | rfl | rfl | rfl | rfl | rfl | rfl <;> assumption, hln9_9, hln9_10, hln9_11⟩, e7, ⟨by rw [eC, e6 5 rfl (by decide) (by decide)]; rfl, by omega⟩, ⟨by rw [eO, e6 15 rfl (by decide) (by decide)]; rfl, by omega⟩, by omega, fun c hc => ⟨0, by decide, by rw [e8 2 c (by decide) (by decide) (by decide)]; rfl⟩, fun o ho => ⟨⟨0, by decide, by rw [e8 9 _ (by decide) (by decide) (by decide)]; rfl⟩, ⟨0, by decide, by rw [e8 9 _ (by decide) (by decide) (by decide)]; rfl⟩⟩⟩
              rw [hAA11, hAA10, hAA9, hAA8, hAA7, hAA6, hAA5, hAA4, hAA3, hAA2, hAA1, hAA0, hgw] at hS
              exact gx_vretE hx hb hr hlocks hS ⟨rfl, g, σ2, hgm, hc9, hM, ⟨⟨e6 1 rfl (by decide) (by decide), eb3, eb4, e6 5 rfl (by decide) (by decide), e6 12 rfl (by decide) (by decide), e6 15 rfl (by decide) (by decide)⟩, e4, e5, e8⟩, eo, hG⟩ (Nat.le_of_ble_eq_true rfl) (Nat.le_of_ble_eq_true rfl) dX3_init_173
            · skip
              have hkc := lt_of_nle (n := 10) c_2 (by omega)
              obtain ⟨r, rfl⟩ : ∃ q, r = q + 1 := ⟨r - 1, by omega⟩
              refine lv_aload_n hx hb dX3_init_160 rfl (lv_at hl 0 rfl) ?_
              refine gx_get hx hb hown hZ hG 8 0 9 (by rw [hc8]; decide) rfl (by decide) k11 (fun _ h => h) (v := .ref (gad g 9 4)) (grf_j (by first | assumption | simp [gst_app, gFre_app]) (by decide)) dX3_init_161 ?_
              refine lv_iload_n hx hb dX3_init_164 rfl (lv_at hl 1 rfl) ?_
              refine lv_iconst (v := (-1)) hx hb dX3_init_165 (by decide) ?_
              refine gx_astN hx hb hZ hG hS 9 4 k (by rfl) (by rw [hc9]; decide) rfl rfl ⟨by rw [hln9_4]; omega, by omega⟩ rfl trivial dX3_init_166 (fun H locs hG hS => ?_)
              refine lv_iinc (v := nI (k + 1)) (lv' := [(1, .int (nI (k + 1))), (0, .ref (gad g 8 0))]) hx hb dX3_init_167 hl (k := 1) rfl (nI_1 _) (by decide) rfl (fun ls hl => ?_)
              refine lv_goto (tgt := 154) hx hb dX3_init_170 (by decide) ?_
              exact ih r (k + 1) (gst σ2 9 4 k (-1)) (by omega) (by omega) (by rw [gst_nk (by decide)]; exact hr4) (by rw [← hre2]; rfl) H locs hG hS ls (lv_sub hl [1, 0] rfl)
        exact loop_154 11 10 0 σ1 (by omega) (by omega) (by rw [hσ1, xFil_o 36 0 _ (Or.inl (by decide))]; exact hb9) rfl _ _ hG hS ls (lv_sub hl [1, 0] rfl)
      · skip
        have hkc := lt_of_nle (n := 36) c_1 (by omega)
        obtain ⟨r, rfl⟩ : ∃ q, r = q + 1 := ⟨r - 1, by omega⟩
        refine lv_aload_n hx hb dX3_init_123 rfl (lv_at hl 0 rfl) ?_
        refine gx_get hx hb hown hZ hG 8 0 2 (by rw [hc8]; decide) rfl (by decide) k5 (fun _ h => h) (v := .ref (gad g 9 0)) (grf_j (by first | assumption | simp [gst_app, gFre_app]) (by decide)) dX3_init_124 ?_
        refine lv_iload_n hx hb dX3_init_127 rfl (lv_at hl 1 rfl) ?_
        refine lv_iload_n hx hb dX3_init_128 rfl (lv_at hl 1 rfl) ?_
        refine lv_bipush (v := 6) hx hb dX3_init_129 (by decide) ?_
        refine lv_idiv hx hb dX3_init_131 (by decide) ?_
        refine lv_iload_n hx hb dX3_init_132 rfl (lv_at hl 1 rfl) ?_
        refine lv_bipush (v := 6) hx hb dX3_init_133 (by decide) ?_
        refine lv_irem hx hb dX3_init_135 (by decide) ?_
        refine lv_icmp_ne (tgt := 143) hx hb dX3_init_136 (by decide) (fun c_3 => ?_) (fun c_3 => ?_)
        · skip
          refine lv_bipush (v := 10) hx hb dX3_init_143 (by decide) ?_
          refine gx_astN hx hb hZ hG hS 9 0 k (by rfl) (by rw [hc9]; decide) rfl rfl ⟨by rw [hln9_0]; omega, by omega⟩ rfl trivial dX3_init_145 (fun H locs hG hS => ?_)
          refine lv_iinc (v := nI (k + 1)) (lv' := [(1, .int (nI (k + 1))), (0, .ref (gad g 8 0))]) hx hb dX3_init_146 hl (k := 1) rfl (nI_1 _) (by decide) rfl (fun ls hl => ?_)
          refine lv_goto (tgt := 114) hx hb dX3_init_149 (by decide) ?_
          exact ih r (k + 1) (gst σ1 9 0 k 10) (by omega) (by omega) (by rw [gst_nk (by decide)]; exact hr0) (by rw [← hres, xFil, xWv]; first | rw [if_pos c_3] | rw [if_neg c_3]) H locs hG hS ls (lv_sub hl [1, 0] rfl)
        · skip
          refine lv_iconst (v := 5) hx hb dX3_init_139 (by decide) ?_
          refine lv_goto (tgt := 145) hx hb dX3_init_140 (by decide) ?_
          refine gx_astN hx hb hZ hG hS 9 0 k (by rfl) (by rw [hc9]; decide) rfl rfl ⟨by rw [hln9_0]; omega, by omega⟩ rfl trivial dX3_init_145 (fun H locs hG hS => ?_)
          refine lv_iinc (v := nI (k + 1)) (lv' := [(1, .int (nI (k + 1))), (0, .ref (gad g 8 0))]) hx hb dX3_init_146 hl (k := 1) rfl (nI_1 _) (by decide) rfl (fun ls hl => ?_)
          refine lv_goto (tgt := 114) hx hb dX3_init_149 (by decide) ?_
          exact ih r (k + 1) (gst σ1 9 0 k 5) (by omega) (by omega) (by rw [gst_nk (by decide)]; exact hr0) (by rw [← hres, xFil, xWv]; first | rw [if_pos c_3] | rw [if_neg c_3]) H locs hG hS ls (lv_sub hl [1, 0] rfl)
  exact loop_114 37 36 0 σb (by omega) (by omega) hb2 rfl _ _ hG hS ls (lv_sub hl [1, 0] rfl)
