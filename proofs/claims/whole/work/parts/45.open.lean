theorem s_open {i : Nat} {σ τ : fo_S} (hi : i ≤ 3072) (h : Rl i σ τ) {a1 a2 a3 a4 a5 : Int32} : ∃ (r : Int32) (σ1 τ1 : fo_S), q_FairOrder_open σ a1 a2 a3 a4 a5 = some (r, σ1) ∧ r_open τ a1 a2 a3 a4 a5 = some (r, τ1) ∧ Rl (i + 1) σ1 τ1 := by
  have hl := Rl_mono (Nat.le_succ i) h
  obtain ⟨na, nc, ph, ⟨n1, n2, n3, n4, n5, n6, n7, n8, n9, n10, n11⟩, hm, hc, hr⟩ := h
  unfold q_FairOrder_open r_open
  simp only [q_isC n6 n2, r_isC n7 n2, q_areT, r_isOf, Option.bind_some, f_if0, n8, n9]
  by_cases c2 : (0 ≤ a2.toInt ∧ a2.toInt ≤ 1) ∧ (1 ≤ a3.toInt ∧ a3.toInt ≤ 1000) ∧ 1 ≤ a4.toInt ∧ a4.toInt ≤ 1000
  rotate_left
  · simp only [if_pos c2]
    by_cases c1 : 0 ≤ a1.toInt ∧ a1.toInt < nc
    · simp only [if_neg (f_nn c1)]
      exact ⟨_, _, _, rfl, rfl, hl⟩
    · simp only [if_pos c1]
      exact ⟨_, _, _, rfl, rfl, hl⟩
  simp only [if_neg (f_nn c2)]
  by_cases c1 : 0 ≤ a1.toInt ∧ a1.toInt < nc
  rotate_left
  · simp only [if_pos c1]
    exact ⟨_, _, _, rfl, rfl, hl⟩
  simp only [if_neg (f_nn c1)]
  obtain ⟨c, hcc, rfl⟩ := f_ix c1
  have v1 := f_vi (c := c) (N := 16) (by omega) (by omega)
  simp only [if_pos v1, f_cl (show c < 1000000 by omega)]
  by_cases c3 : nI ph = 1
  rotate_left
  · simp only [if_neg c3]
    exact ⟨_, _, _, rfl, rfl, hl⟩
  simp only [if_pos c3]
  have hph : ph = 1 := (nI_eq (a := ph) (b := 1) (by omega) (by omega)).mp c3
  obtain ⟨⟨ow, ho, r1, r1'⟩, ⟨r2, r2a, r2b⟩, r3, r4, r5⟩ := hc c hcc
  have e10 : ¬ ((1 : Int32) = 0) := by decide
  rcases r5 with ⟨t1, t2⟩ | ⟨t1, t2, -⟩
  rotate_left
  · simp only [t1, t2, if_neg e10]
    exact ⟨_, _, _, rfl, rfl, hl⟩
  simp only [t1, t2, if_true]
  obtain ⟨Y, hY1, hY2⟩ : ∃ Y, q_FairOrder_sealOf σ a2 a3 a4 a5 = some Y ∧ r_seal τ a2 a3 a4 a5 = some Y := ⟨_, q_so σ a2 a3 a4 a5, r_se τ a5 c2⟩
  simp only [hY1, hY2, Option.bind_some, lg_cmp_eq, r3]
  by_cases c4 : τ.2 5 0 c = Y
  rotate_left
  · simp only [if_neg c4, if_neg (fun q => c4 (Eq.symm q) : ¬ Y = τ.2 5 0 c)]
    exact ⟨_, _, _, rfl, rfl, hl⟩
  have hb : vp_nar .boolean (1 : Int32) = 1 := by decide
  have v9 := f_vi (c := ow) (N := 9) (by omega) (by omega)
  have v8 := f_vi (c := ow) (N := 8) (by omega) (by omega)
  have x1 : (fo_pI (fo_pI (fo_pI (fo_pI σ 14 c 4 1) 14 c 5 a2) 14 c 6 a3) 14 c 7 a4).1 14 c 1 = nI ow := by simp [e_pI, r1]
  have x2 : (fo_pI (fo_pI (fo_pI (fo_pI τ 6 0 c 1) 7 0 c a2) 8 0 c a3) 9 0 c a4).1 3 0 c = nI ow := by simp [e_pI, r1']
  simp only [if_pos c4, if_pos c4.symm, q_Call_tell, Option.bind_some, hb, x1, x2, if_pos v9, if_pos v8, f_cl (show ow < 1000000 by omega), e_pI2]
  obtain ⟨⟨p1, p2, p3, p4, p5, p6⟩, hm2⟩ := hm
  obtain ⟨w1, w2, w3, w4, w5, w6⟩ := hm2 ow ho
  have hB := fB_top (i := i) (by omega)
  have hB1 := fB_1 i
  have hs : (τ.2 1 0 ow + τ.2 4 0 c).toInt = (τ.2 1 0 ow).toInt + (τ.2 4 0 c).toInt := fj_add (by omega) (by omega)
  refine ⟨_, _, _, rfl, rfl, na, nc, ph, ?_, ?_, ?_, ?_⟩
  · refine ⟨n1, n2, n3, ?_⟩
    simp [e_pI, e_pI2, e_pJ, e_pJ1, n4, n5, n6, n7, n8, n9, n10, n11]
  · refine ⟨?_, fun a ha => ?_⟩
    · have e9 : ¬ 8 = ow := by omega
      simp [e_pI2, e_pJ, e9, p1, p2]
      omega
    · by_cases ea : a = ow
      · subst ea
        simp [e_pI2, e_pJ, w1, w2, r2, hs]
        omega
      · obtain ⟨g1, g2, g3, g4, g5, g6⟩ := hm2 a ha
        simp [e_pI2, e_pJ, ea, g1, g2]
        omega
  · intro c' hc'
    obtain ⟨q1, q2, q3, q4, q5⟩ := hc c' hc'
    by_cases ec : c' = c
    · subst ec
      obtain ⟨sd, hsd, rfl⟩ := f_ix (n := 2) ⟨c2.1.1, by omega⟩
      obtain ⟨pr, hpr, rfl⟩ := f_ix (n := 1001) ⟨by omega, show a3.toInt < 1001 by omega⟩
      obtain ⟨am, ham, rfl⟩ := f_ix (n := 1001) ⟨by omega, show a4.toInt < 1001 by omega⟩
      have l1 := c2.2.1.1
      have l2 := c2.2.2.1
      rw [f_ti (by omega)] at l1 l2
      refine ⟨by simpa [e_pI, e_pJ1] using q1, by simpa [e_pJ, e_pI2] using q2, by simpa [e_pJ, e_pI2] using q3, by simpa [e_pI, e_pJ1] using q4, Or.inr ⟨by simp [e_pI, e_pJ1], by simp [e_pI, e_pJ1], sd, pr, am, by omega, by omega, by omega, by omega, by omega, ?_⟩⟩
      simp [e_pI, e_pJ1]
    · refine ⟨by simpa [e_pI, e_pJ1, ec] using q1, by simpa [e_pJ, e_pI2] using q2, by simpa [e_pJ, e_pI2] using q3, by simpa [e_pI, e_pJ1] using q4, by simpa [e_pI, e_pJ1, ec, Ro] using q5⟩
  · obtain ⟨hr1, hr2, hr3⟩ := hr
    rcases hr1 with hr1 | ⟨-, hr1, -⟩
    · refine ⟨Or.inl (by simpa [e_pI, e_pJ1] using hr1), ?_, ?_⟩
      · intro _ c' hc'
        simpa [e_pI, e_pJ, e_pJ1, e_pI2] using hr2 hr1.2.1 c' hc'
      · intro hz
        have hz' : σ.1 0 0 14 = 1 := by simpa [e_pI, e_pJ1] using hz
        rw [hr1.2.1] at hz'
        exact absurd hz' (by decide)
    · omega
