theorem s_commit {i : Nat} {σ τ : fo_S} (hi : i ≤ 3072) (h : Rl i σ τ) {a1 : Int32} {a2 a3 : Int64} : ∃ (r : Int32) (σ1 τ1 : fo_S), q_FairOrder_commit σ a1 a2 a3 = some (r, σ1) ∧ r_commit τ a1 a2 a3 = some (r, τ1) ∧ Rl (i + 1) σ1 τ1 := by
  have hl := Rl_mono (Nat.le_succ i) h
  obtain ⟨na, nc, ph, ⟨n1, n2, n3, n4, n5, n6, n7, n8, n9, n10, n11⟩, hm, hc, hr⟩ := h
  unfold q_FairOrder_commit r_commit
  have z1 : (((nI na).toInt64) - (1 : Int64)).toInt = (na : Int) - 1 := by
    rw [fj_sub (by rw [fj_l (by omega)]; simp; omega) (by rw [fj_l (by omega)]; simp; omega), fj_l (by omega)]
    rfl
  have z2 : ((0 : Int64) ≤ a1.toInt64 ∧ a1.toInt64 ≤ ((nI na).toInt64) - (1 : Int64)) ↔ (0 ≤ a1.toInt ∧ a1.toInt < na) := by
    rw [fj_le, fj_le, z1, fi_j]
    simp
    omega
  simp only [q_isA n4 n1, r_in', Option.bind_some, f_if0, n5, n6, n7, n8, n9, z2, lg_cmp_lt, lg_cmp_le, lg_cmp_ge]
  by_cases c1 : 0 ≤ a1.toInt ∧ a1.toInt < na
  rotate_left
  · simp only [if_pos c1]
    exact ⟨_, _, _, rfl, rfl, hl⟩
  simp only [if_neg (f_nn c1)]
  by_cases c2 : 0 ≤ a2 ∧ a2 ≤ 1000000
  rotate_left
  · simp only [if_pos c2]
    by_cases d1 : a2 < 0
    · simp only [if_pos d1]
      exact ⟨_, _, _, rfl, rfl, hl⟩
    · have d2 : ¬ a2 ≤ 1000000 := by
        intro q
        apply c2
        refine ⟨?_, q⟩
        rw [fj_lt] at d1
        rw [fj_le]
        omega
      simp only [if_neg d1, if_neg d2]
      exact ⟨_, _, _, rfl, rfl, hl⟩
  have b2 : 0 ≤ a2.toInt ∧ a2.toInt ≤ 1000000 := by rw [fj_le, fj_le] at c2; exact c2
  have d1 : ¬ a2 < 0 := by rw [fj_lt]; have : (0 : Int64).toInt = 0 := rfl; omega
  simp only [if_neg (f_nn c2), if_neg d1, if_pos c2.2]
  by_cases c3 : nI ph = 0
  rotate_left
  · simp only [if_neg c3]
    exact ⟨_, _, _, rfl, rfl, hl⟩
  have hph : ph = 0 := (nI_eq (a := ph) (b := 0) (by omega) (by omega)).mp c3
  simp only [if_pos c3]
  by_cases c4 : nc < 16
  rotate_left
  · have e16 : nc = 16 := by omega
    subst e16
    have d1 : ¬ nI 16 < (16 : Int32) := by decide
    have d2 : nI 16 = (16 : Int32) := by decide
    simp only [if_neg d1, if_pos d2]
    exact ⟨_, _, _, rfl, rfl, hl⟩
  have d3 : nI nc < (16 : Int32) := nI_lt (b := 16) c4 (by omega)
  have d4 : ¬ nI nc = (16 : Int32) := fun q => by have := (nI_eq (a := nc) (b := 16) (by omega) (by omega)).mp q; omega
  obtain ⟨a, ha, rfl⟩ := f_ix c1
  obtain ⟨⟨p1, p2, p3, p4, p5, p6⟩, hm2⟩ := hm
  obtain ⟨w1, w2, w3, w4, w5, w6⟩ := hm2 a ha
  have v9 := f_vi (c := a) (N := 9) (by omega) (by omega)
  have v8 := f_vi (c := a) (N := 8) (by omega) (by omega)
  have v16 := f_vi (c := nc) (N := 16) (by omega) (by omega)
  simp only [if_pos d3, if_neg d4, if_pos v9, if_pos v8, f_cl (show a < 1000000 by omega), w1]
  by_cases c5 : a2 ≤ τ.2 1 0 a
  rotate_left
  · simp only [if_neg c5]
    exact ⟨_, _, _, rfl, rfl, hl⟩
  have hb : vp_nar .boolean (0 : Int32) = 0 := by decide
  simp only [if_pos c5, e_pJ1, n6, n7, if_pos v16, f_cl (show nc < 1000000 by omega), hb]
  obtain ⟨τa, hτa⟩ : ∃ z, z = fo_pI (fo_pJ τ 1 0 a (τ.2 1 0 a - a2)) 3 0 nc (nI a) := ⟨_, rfl⟩
  rw [← hτa]
  have t1 : τa.1 0 0 8 = nI nc := by rw [hτa]; simp [e_pI, e_pJ1, n7]
  simp only [t1, if_pos v16, f_cl (show nc < 1000000 by omega)]
  obtain ⟨τb, hτb⟩ : ∃ z, z = fo_pI (fo_pJ (fo_pJ τa 4 0 nc a2) 5 0 nc a3) 6 0 nc 0 := ⟨_, rfl⟩
  rw [← hτb]
  have t2 : τb.1 0 0 8 = nI nc := by rw [hτb]; simp [e_pI, e_pJ1, t1]
  rw [r_commit_lp t2 c4]
  unfold q_Call_begin q_Call_note
  simp only [Option.bind_some]
  obtain ⟨τc, hτc⟩ : ∃ z, z = fo_rI τb 10 0 (fo_cm τb nc 5) := ⟨_, rfl⟩
  rw [← hτc]
  have t3 : τc.1 0 0 8 = nI nc := by rw [hτc]; simp [e_rI, t2]
  obtain ⟨σb, hσb⟩ : ∃ z, z = fo_pJ (fo_pI (fo_rI (fo_pI (fo_pJ (fo_pJ (fo_pI (fo_pJ σ 2 0 a (τ.2 1 0 a - a2)) 14 nc 1 (nI a)) 14 nc 2 a2) 14 nc 3 a3) 14 nc 4 0) 15 nc (fo_fil ((fo_pI (fo_pJ (fo_pJ (fo_pI (fo_pJ σ 2 0 a (τ.2 1 0 a - a2)) 14 nc 1 (nI a)) 14 nc 2 a2) 14 nc 3 a3) 14 nc 4 0).1 15 nc) 5 1000001)) 14 nc 8 0) 14 nc 9 0 := ⟨_, rfl⟩
  rw [← hσb]
  have t4 : σb.1 0 0 9 = nI nc := by rw [hσb]; simp [e_pI, e_pJ1, e_rI, n6]
  simp only [t3, t4]
  have y1 : (fo_pI σb 0 0 9 (nI nc + 1)).1 0 0 9 = nI nc + 1 := by simp [e_pI]
  have y2 : (fo_pI τc 0 0 8 (nI nc + 1)).1 0 0 8 = nI nc + 1 := by simp [e_pI]
  rw [y1, y2]
  have hB := fB_top (i := i) (by omega)
  have hB1 := fB_1 i
  have hs : (τ.2 1 0 a - a2).toInt = (τ.2 1 0 a).toInt - a2.toInt := fj_sub (by omega) (by omega)
  rw [fj_le] at c5
  -- what the new registers are
  have sI : ∀ k i j, σb.1 k i j = if k = 15 ∧ i = nc then (if j < 5 then 1000001 else σ.1 15 nc j) else if k = 14 ∧ i = nc ∧ j = 8 then 0 else if k = 14 ∧ i = nc ∧ j = 4 then 0 else if k = 14 ∧ i = nc ∧ j = 1 then nI a else σ.1 k i j := by
    intro k i j
    rw [hσb]
    simp only [e_pJ1, e_pI, e_rI, fo_fil]
    by_cases k15 : k = 15 ∧ i = nc
    · obtain ⟨rfl, rfl⟩ := k15
      simp
    · by_cases k14 : k = 14 <;> simp [k15, k14]
  have sJ : ∀ k i j, σb.2 k i j = if k = 14 ∧ i = nc ∧ j = 9 then 0 else if k = 14 ∧ i = nc ∧ j = 3 then a3 else if k = 14 ∧ i = nc ∧ j = 2 then a2 else if k = 2 ∧ i = 0 ∧ j = a then τ.2 1 0 a - a2 else σ.2 k i j := by
    intro k i j
    rw [hσb]
    simp only [e_pI2, e_pJ, e_rI2]
  have tI : ∀ k i j, τc.1 k i j = if k = 10 ∧ i = 0 ∧ 5 * nc ≤ j ∧ j < 5 * nc + 5 then -1 else if k = 6 ∧ i = 0 ∧ j = nc then 0 else if k = 3 ∧ i = 0 ∧ j = nc then nI a else τ.1 k i j := by
    intro k i j
    rw [hτc, hτb, hτa]
    simp only [e_pJ1, e_pI, e_rI, fo_cm]
    by_cases k10 : k = 10 ∧ i = 0
    · obtain ⟨rfl, rfl⟩ := k10
      simp
    · have k10' : ¬ (k = 10 ∧ i = 0 ∧ 5 * nc ≤ j ∧ j < 5 * nc + 5) := fun q => k10 ⟨q.1, q.2.1⟩
      simp [k10, k10']
  have tJ : ∀ k i j, τc.2 k i j = if k = 5 ∧ i = 0 ∧ j = nc then a3 else if k = 4 ∧ i = 0 ∧ j = nc then a2 else if k = 1 ∧ i = 0 ∧ j = a then τ.2 1 0 a - a2 else τ.2 k i j := by
    intro k i j
    rw [hτc, hτb, hτa]
    simp only [e_pI2, e_pJ, e_rI2]
  refine ⟨_, _, _, rfl, rfl, na, nc + 1, ph, ?_, ?_, ?_, ?_⟩
  · refine ⟨n1, by omega, n3, ?_⟩
    simp [e_pI, e_pI2, sI, tI, sJ, tJ, nI_1, n4, n5, n8, n9, n10, n11]
  · refine ⟨?_, fun b hb => ?_⟩
    · have e9 : ¬ 8 = a := by omega
      simp [e_pI2, sJ, tJ, e9, p1, p2]
      omega
    · obtain ⟨g1, g2, g3, g4, g5, g6⟩ := hm2 b hb
      by_cases eb : b = a
      · subst eb
        simp [e_pI2, sJ, tJ, g2, hs]
        omega
      · simp [e_pI2, sJ, tJ, eb, g1, g2]
        omega
  · intro c' hc'
    by_cases ec : c' = nc
    · subst ec
      refine ⟨⟨a, ha, by simp [e_pI, sI], by simp [e_pI, tI]⟩, by simp [e_pI2, sJ, tJ]; omega, by simp [e_pI2, sJ, tJ], fun n hn => Or.inl ⟨by simp [e_pI, sI, hn], ?_⟩, Or.inl ⟨by simp [e_pI, sI], by simp [e_pI, tI]⟩⟩
      have : 5 * c' ≤ 5 * c' + n ∧ 5 * c' + n < 5 * c' + 5 := by omega
      simp [e_pI, tI, hn]
    · obtain ⟨q1, q2, q3, q4, q5⟩ := hc c' (by omega)
      refine ⟨by simpa [e_pI, sI, tI, ec] using q1, by simpa [e_pI2, sJ, tJ, ec] using q2, by simpa [e_pI2, sJ, tJ, ec] using q3, fun n hn => ?_, by simpa [e_pI, sI, tI, ec, Ro] using q5⟩
      have : ¬ (5 * nc ≤ 5 * c' + n ∧ 5 * c' + n < 5 * nc + 5) := by omega
      simpa [e_pI, sI, tI, ec, this] using q4 n hn
  · obtain ⟨hr1, hr2, hr3⟩ := hr
    rcases hr1 with hr1 | ⟨-, hr1, -⟩
    · refine ⟨Or.inl (by simpa [e_pI, sI, tI] using hr1), ?_, ?_⟩
      · intro _ c' hc'
        by_cases ec : c' = nc
        · subst ec
          simp [e_pI, e_pI2, sI, sJ]
        · simpa [e_pI, e_pI2, sI, sJ, ec] using hr2 hr1.2.1 c' (by omega)
      · intro hz
        have hz' : σ.1 0 0 14 = 1 := by simpa [e_pI, sI] using hz
        rw [hr1.2.1] at hz'
        exact absurd hz' (by decide)
    · omega
