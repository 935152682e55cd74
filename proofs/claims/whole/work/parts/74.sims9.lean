section SIMSA
variable {B : Nat} {σ μ : Mem} {g : gG}
theorem xPutWay_z {a b m : Int32} (ha : mZ a) (hb : mZ b) : xPutWay σ a b m = gst σ 1 0 (ix (6 * a + b)) m := by
  obtain ⟨j, hj, e1, e2⟩ := mZ_6 ha hb
  unfold xPutWay
  rw [e1, e2, if_neg (nI_pos (by omega)), if_neg (fun z => by have := le_of_nIle (n := 36) z (by omega) (by omega); omega : ¬ (36 : Int32) ≤ nI j)]
theorem rlR.s_way (h : rlR B σ μ) (hF : Mf g μ) (a b n : Int32) :
    (xSetWayE a b n = 0 → (mSetWay μ a b n).1 = xWay σ a b ∧ rlR B (xSetWay σ a b n) (mSetWay μ a b n).2 ∧ Mf g (mSetWay μ a b n).2) ∧ (¬ xSetWayE a b n = 0 → (mSetWay μ a b n).2 = gst μ 8 0 0 (xSetWayE a b n)) := by
  unfold mSetWay xSetWayE mFl xSetWay
  rw [xz_mz, xz_mz, in_low n 1 120]
  by_cases c : mZo a = true
  · rw [if_pos c, if_pos c]
    by_cases d : mZo b = true
    · rw [if_pos d, if_pos d]
      by_cases e : a = b
      · rw [if_pos e, if_pos e]
        exact ⟨fun q => absurd q (by decide), fun _ => rfl⟩
      · rw [if_neg e, if_neg e]
        by_cases f : mIn n 1 120 = true
        · rw [if_pos f, if_pos f]
          have ha := mZo_z c
          have hb := mZo_z d
          have hn : n = nI (ix n) ∧ 1 ≤ ix n ∧ ix n ≤ 120 := by
            unfold mIn at f
            split at f
            · cases f
            · next q1 =>
              split at f
              · cases f
              · next q2 =>
                rcases pk_ix n (n := 121) (by omega) with q | q | ⟨j, hj, rfl⟩
                · exact absurd (Int32.lt_of_lt_of_le q (by decide : (0 : Int32) ≤ 1)) q1
                · exact absurd (Int32.lt_of_lt_of_le (by decide : (120 : Int32) < nI 121) q) q2
                · rw [ix_nI (by omega)]
                  refine ⟨rfl, ?_, by omega⟩
                  rcases Nat.eq_zero_or_pos j with z | z
                  · rw [z] at q1; exact absurd (by decide) q1
                  · exact z
          obtain ⟨j1, hj1, -, ej1⟩ := mZ_6 ha hb
          obtain ⟨j2, hj2, -, ej2⟩ := mZ_6 hb ha
          rw [xPutWay_z ha hb, xPutWay_z hb ha, ej1, ej2, ix_nI (by omega), ix_nI (by omega)]
          refine ⟨fun _ => ⟨(h.xway ha hb).symm, ?_, hF.of ((hF.1.st9 (by decide)).st9 (by decide)) (fun k _ => Or.inl ⟨by simp [gst_app], Or.inl (by simp [gst_app])⟩)⟩, fun q => absurd rfl q⟩
          rw [hn.1]
          exact (h.putWay hj1 hn.2.1 hn.2.2).putWay hj2 hn.2.1 hn.2.2
        · rw [if_neg f, if_neg f]
          exact ⟨fun q => absurd q (by decide), fun _ => rfl⟩
    · rw [if_neg d, if_neg d]
      exact ⟨fun q => absurd q (by decide), fun _ => rfl⟩
  · rw [if_neg c, if_neg c]
    exact ⟨fun q => absurd q (by decide), fun _ => rfl⟩
end SIMSA
