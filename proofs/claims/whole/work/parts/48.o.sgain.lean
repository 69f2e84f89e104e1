theorem s_gain {i : Nat} {σ τ : fo_S} (hi : i ≤ 3072) (h : Rl i σ τ) {a1 a2 a3 : Int32} : ∃ (r : Int64) (σ1 τ1 : fo_S), q_FairOrder_gain σ a1 a2 a3 = some (r, σ1) ∧ r_gain τ a1 a2 a3 = some (r, τ1) ∧ Rl (i + 1) σ1 τ1 := by
  have hl := Rl_mono (Nat.le_succ i) h
  obtain ⟨na, nc, ph, ⟨n1, n2, n3, n4, n5, n6, n7, n8, n9, n10, n11⟩, hm, hc, hr⟩ := h
  unfold q_FairOrder_gain r_gain q_FairOrder_mayPlay r_mayPlay q_Row_hasPlace q_FairOrder_isHolding
  have e10 : ¬ ((1 : Int32) = 0) := by decide
  obtain ⟨hr1, hr2, hr3⟩ := hr
  rcases hr1 with ⟨h1, h2, h3, h4, h5⟩ | ⟨h1, h2, ⟨nr, f, h3, h4, h5, h6⟩, ⟨h7, h8⟩ | ⟨h7, h8⟩⟩
  · have d1 : (-1 : Int32) < 0 := by decide
    simp only [h1, h5, if_true, if_pos d1, Option.bind_some]
    exact ⟨_, _, _, rfl, rfl, hl⟩
  rotate_left
  · have d1 : ¬ nI nr < 0 := nI_pos (by omega)
    simp only [h1, h5, h7, h8, if_neg e10, if_neg d1, if_true, Option.bind_some]
    exact ⟨_, _, _, rfl, rfl, hl⟩
  have d1 : ¬ nI nr < 0 := nI_pos (by omega)
  simp only [h1, h4, h5, h7, h8, if_neg e10, if_neg d1, if_true, Option.bind_some]
  by_cases c1 : a1 < 0
  · simp only [if_pos c1, Option.bind_some, if_true]
    exact ⟨_, _, _, rfl, rfl, hl⟩
  by_cases c2 : nI nr ≤ a1
  · simp only [if_neg c1, if_pos c2, Option.bind_some, if_true]
    exact ⟨_, _, _, rfl, rfl, hl⟩
  simp only [if_neg c1, if_neg c2, Option.bind_some, if_neg e10]
  by_cases c3 : a2 < 0
  · simp only [if_pos c3, Option.bind_some, if_true]
    exact ⟨_, _, _, rfl, rfl, hl⟩
  by_cases c4 : nI nr ≤ a2
  · simp only [if_neg c3, if_pos c4, Option.bind_some, if_true]
    exact ⟨_, _, _, rfl, rfl, hl⟩
  simp only [if_neg c3, if_neg c4, Option.bind_some, if_neg e10]
  by_cases c5 : a3 = 0 ∨ a3 = 1
  rotate_left
  · have d0 : ¬ a3 = 0 := fun q => c5 (Or.inl q)
    have d2 : ¬ a3 = 1 := fun q => c5 (Or.inr q)
    simp only [if_neg d0, if_neg d2, Option.bind_some, if_true]
    exact ⟨_, _, _, rfl, rfl, hl⟩
  have hq1 : (if a3 = 0 then some (1 : Int32) else if a3 = 1 then some 1 else some 0) = some 1 := by
    rcases c5 with c5 | c5
    · rw [if_pos c5]
    · by_cases q : a3 = 0
      · rw [if_pos q]
      · rw [if_neg q, if_pos c5]
  have hq2 : (if a3 = 0 then r_gain_J42 τ a1 a2 a3 else if a3 = 1 then r_gain_J42 τ a1 a2 a3 else some (0, τ)) = r_gain_J42 τ a1 a2 a3 := by
    rcases c5 with c5 | c5
    · rw [if_pos c5]
    · by_cases q : a3 = 0
      · rw [if_pos q]
      · rw [if_neg q, if_pos c5]
  rw [hq1, hq2]
  simp only [Option.bind_some, if_neg e10]
  obtain ⟨a, ha, rfl⟩ : ∃ k, k < nr ∧ a1 = nI k := f_ix ⟨by rw [fi_lt] at c1; have : (0 : Int32).toInt = 0 := rfl; omega, by rw [fi_le, f_ti (by omega)] at c2; omega⟩
  obtain ⟨b, hb, rfl⟩ : ∃ k, k < nr ∧ a2 = nI k := f_ix ⟨by rw [fi_lt] at c3; have : (0 : Int32).toInt = 0 := rfl; omega, by rw [fi_le, f_ti (by omega)] at c4; omega⟩
  have hcd := Rl_cd n1 n2 hc h6
  obtain ⟨k1, k2, k3, k4, k5⟩ := Rl_mk hm
  have hT := fB_top (i := i) (by omega)
  have hB0 := fB_0 i
  obtain ⟨hrow, hinj⟩ := h6
  have hg : ∀ p, p < nr → mvp a b p < nr := fun p hp => mvp_lt ha hb hp
  sorry
