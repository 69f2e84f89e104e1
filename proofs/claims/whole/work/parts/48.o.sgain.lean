theorem s_gain {i : Nat} {σ τ : fo_S} (hi : i ≤ 3072) (h : Rl i σ τ) {a1 a2 a3 : Int32} : ∃ (r : Int64) (σ1 τ1 : fo_S), q_FairOrder_gain σ a1 a2 a3 = some (r, σ1) ∧ r_gain τ a1 a2 a3 = some (r, τ1) ∧ Rl (i + 1) σ1 τ1 := by
  have hl := Rl_mono (Nat.le_succ i) h
  obtain ⟨na, nc, ph, ⟨n1, n2, n3, n4, n5, n6, n7, n8, n9, n10, n11⟩, hm, hc, hr⟩ := h
  unfold q_FairOrder_gain r_gain q_FairOrder_mayPlay r_mayPlay q_Row_hasPlace q_FairOrder_isHolding
  have e10 : ¬ ((1 : Int32) = 0) := by decide
  obtain ⟨hr1, hr2, hr3⟩ := hr
  rcases hr1 with ⟨h1, h2, h3, h4, h5⟩ | ⟨h1, h2, ⟨nr, f, h3, h4, h5, h6⟩, ⟨h7, h8⟩ | ⟨h7, h8⟩⟩
  · have d1 : (-1 : Int32) < 0 := by decide
    simp only [h1, h5, if_true, if_pos d1, Option.bind_some]
    exact ⟨_, _, _, rfl, rfl, hl⟩
  rotate_left
  · have d1 : ¬ nI nr < 0 := nI_pos (by omega)
    simp only [h1, h5, h7, h8, if_neg e10, if_neg d1, if_true, Option.bind_some]
    exact ⟨_, _, _, rfl, rfl, hl⟩
  have d1 : ¬ nI nr < 0 := nI_pos (by omega)
  simp only [h1, h4, h5, h7, h8, if_neg e10, if_neg d1, if_true, Option.bind_some]
  by_cases c1 : a1 < 0
  · simp only [if_pos c1, Option.bind_some, if_true]
    exact ⟨_, _, _, rfl, rfl, hl⟩
  by_cases c2 : nI nr ≤ a1
  · simp only [if_neg c1, if_pos c2, Option.bind_some, if_true]
    exact ⟨_, _, _, rfl, rfl, hl⟩
  simp only [if_neg c1, if_neg c2, Option.bind_some, if_neg e10]
  by_cases c3 : a2 < 0
  · simp only [if_pos c3, Option.bind_some, if_true]
    exact ⟨_, _, _, rfl, rfl, hl⟩
  by_cases c4 : nI nr ≤ a2
  · simp only [if_neg c3, if_pos c4, Option.bind_some, if_true]
    exact ⟨_, _, _, rfl, rfl, hl⟩
  simp only [if_neg c3, if_neg c4, Option.bind_some, if_neg e10]
  by_cases c5 : a3 = 0 ∨ a3 = 1
  rotate_left
  · have d0 : ¬ a3 = 0 := fun q => c5 (Or.inl q)
    have d2 : ¬ a3 = 1 := fun q => c5 (Or.inr q)
    simp only [if_neg d0, if_neg d2, Option.bind_some, if_true]
    exact ⟨_, _, _, rfl, rfl, hl⟩
  have hq1 : (if a3 = 0 then some (1 : Int32) else if a3 = 1 then some 1 else some 0) = some 1 := by
    rcases c5 with c5 | c5
    · rw [if_pos c5]
    · by_cases q : a3 = 0
      · rw [if_pos q]
      · rw [if_neg q, if_pos c5]
  have hq2 : (if a3 = 0 then r_gain_J42 τ a1 a2 a3 else if a3 = 1 then r_gain_J42 τ a1 a2 a3 else some (0, τ)) = r_gain_J42 τ a1 a2 a3 := by
    rcases c5 with c5 | c5
    · rw [if_pos c5]
    · by_cases q : a3 = 0
      · rw [if_pos q]
      · rw [if_neg q, if_pos c5]
  rw [hq1, hq2]
  simp only [Option.bind_some, if_neg e10]
  obtain ⟨a, ha, rfl⟩ : ∃ k, k < nr ∧ a1 = nI k := f_ix ⟨by rw [fi_lt] at c1; have : (0 : Int32).toInt = 0 := rfl; omega, by rw [fi_le, f_ti (by omega)] at c2; omega⟩
  obtain ⟨b, hb, rfl⟩ : ∃ k, k < nr ∧ a2 = nI k := f_ix ⟨by rw [fi_lt] at c3; have : (0 : Int32).toInt = 0 := rfl; omega, by rw [fi_le, f_ti (by omega)] at c4; omega⟩
  have hcd := Rl_cd n1 n2 hc h6
  obtain ⟨k1, k2, k3, k4, k5⟩ := Rl_mk hm
  have hT := fB_top (i := i) (by omega)
  have hB0 := fB_0 i
  have hBm : (fB i).toNat ≤ 8600000000000 := by omega
  have ha6 : a < 1000000 := by omega
  have hn16 : nr ≤ 16 := by omega
  obtain ⟨hrow, hinj⟩ := h6
  have hg : ∀ p, p < nr → mvp a b p < nr := fun p hp => mvp_lt ha hb hp
  -- the class's rows
  unfold q_Row_copyFrom
  simp only [Option.bind_some]
  obtain ⟨σ2, hσ2⟩ : ∃ z, z = fo_pI (fo_rI σ 6 1 (va_cpy (σ.1 6 0) (σ.1 6 1) (0 : Int32).toNatClampNeg (0 : Int32).toNatClampNeg (16 : Int32).toNatClampNeg)) 5 1 1 ((fo_rI σ 6 1 (va_cpy (σ.1 6 0) (σ.1 6 1) (0 : Int32).toNatClampNeg (0 : Int32).toNatClampNeg (16 : Int32).toNatClampNeg)).1 5 0 1) := ⟨_, rfl⟩
  rw [← hσ2]
  have e16 : (16 : Int32).toNatClampNeg = 16 := by decide
  have x1 : ∀ k i j, ¬ ((k = 5 ∨ k = 6) ∧ i = 1) → σ2.1 k i j = σ.1 k i j := by
    intro k i j hk
    rw [hσ2]
    have q5 : ¬ (k = 5 ∧ i = 1 ∧ j = 1) := fun q => hk ⟨Or.inl q.1, q.2.1⟩
    have q6 : ¬ (k = 6 ∧ i = 1) := fun q => hk ⟨Or.inr q.1, q.2⟩
    simp [e_pI, e_rI, q5, q6]
  have x2 : σ2.2 = σ.2 := by rw [hσ2]; rfl
  have x3 : σ2.1 5 1 1 = nI nr := by rw [hσ2]; simp [e_pI, e_rI, h4]
  have x4 : ∀ k, k < 16 → σ2.1 6 1 k = σ.1 6 0 k := by
    intro k hk
    rw [hσ2]
    have hc : ∀ (u v : Nat → Int32), va_cpy u v 0 0 16 k = u k := by
      intro u v
      rw [pk_cpy_in (by omega) (by omega)]
      congr 1
      omega
    simp only [e_pI, e_rI, sb_cl0, e16]
    simp [hc, e_rI]
  obtain ⟨σ3, y1, y2, y3, y4⟩ := q_mv (σ := σ2) (i0 := 1) (nr := nr) (by omega) ha hb
  rw [y1]
  simp only [Option.bind_some]
  have z1 : ∀ k i j, ¬ ((k = 5 ∨ k = 6) ∧ i = 1) → σ3.1 k i j = σ.1 k i j := fun k i j hk => by rw [y3 _ _ _ (fun q => hk ⟨Or.inr q.1, q.2⟩), x1 _ _ _ hk]
  have z2 : σ3.2 = σ.2 := by rw [y2, x2]
  have z3 : σ3.1 5 1 1 = nI nr := by rw [y3 _ _ _ (by omega)]; exact x3
  have z4 : ∀ k, k < nr → σ3.1 6 1 k = nI (f (mvp a b k)) := fun k hk => by rw [y4 k hk, x4 _ (by have := hg k hk; omega)]; exact (hrow _ (hg k hk)).1
  obtain ⟨fa1, fa2, fa3, fa4⟩ := hcd a ha
  have hfa6 : f a < 1000000 := by omega
  have va := f_vi (c := a) (N := 16) (by omega) (by omega)
  have vfa := f_vi (c := f a) (N := 16) fa4 (by omega)
  have z6 := (z1 6 0 a (by omega)).trans (hrow a ha).1
  have z14 := (z1 14 (f a) 1 (by omega)).trans fa2.1
  simp only [if_pos va, f_cl ha6, z6, if_pos vfa, f_cl hfa6, z14]
  have hcq : ∀ p, p < nr → CdQ (fOw σ) (fSd σ) (fPr σ) (fAm σ) σ3 (f p) := by
    intro p hp
    have := (hcd p hp).2.1
    unfold CdQ at this ⊢
    simp only [z1 14 (f p) _ (show ¬ ((14 = 5 ∨ 14 = 6) ∧ f p = 1) by omega)]
    exact this
  have hmk : MkC na 0 (fMg σ) σ3 := by
    intro q hq
    rw [z2]
    exact k1 q hq
  have hl0 : σ3.1 5 0 1 = nI nr := by
    rw [z1 5 0 1 (by omega)]
    exact h4
  have hr0 : ∀ p, p < nr → σ3.1 6 0 p = nI (f p) ∧ f p < 16 := fun p hp => ⟨by rw [z1 6 0 p (by omega)]; exact (hrow p hp).1, (hcd p hp).2.2.2⟩
  obtain ⟨σ4, u1, u2, u3⟩ := q_held (a3 := a3) n1 hn16 hBm hBm k5 hl0 hr0 (fun p hp => (hcd p hp).1) hcq hmk fa1.1
  rw [u1]
  simp only [Option.bind_some]
  have hcq4 : ∀ p, p < nr → CdQ (fOw σ) (fSd σ) (fPr σ) (fAm σ) σ4 (f (mvp a b p)) := by
    intro p hp
    have := hcq _ (hg p hp)
    unfold CdQ at this ⊢
    rw [u2]
    exact this
  have hl4 : σ4.1 5 1 1 = nI nr := by rw [u2]; exact z3
  have hr4 : ∀ p, p < nr → σ4.1 6 1 p = nI (f (mvp a b p)) ∧ f (mvp a b p) < 16 := fun p hp => ⟨by rw [u2]; exact z4 p hp, (hcd _ (hg p hp)).2.2.2⟩
  have hmk4 : MkC na 0 (fMg σ) σ4 := by
    intro q hq
    rw [u3 2 0 q (by omega), u3 3 0 q (by omega)]
    exact hmk q hq
  obtain ⟨σ5, v1, v2, v3⟩ := q_held (f := fun p => f (mvp a b p)) (a3 := a3) n1 hn16 hBm hBm k5 hl4 hr4 (fun p hp => (hcd _ (hg p hp)).1) hcq4 hmk4 fa1.1
  rw [v1]
  simp only [Option.bind_some]
  -- the model
  unfold r_gain_J42
  simp only [if_pos va, f_cl ha6, (hrow a ha).2.1, if_pos vfa, f_cl hfa6, fa3.1]
  obtain ⟨τ1, b1, b2, b3⟩ := r_cprg (τ := τ) (nr := nr) (by omega) h5
  rw [b1]
  simp only [Option.bind_some]
  have s1 : ∀ k i j, ¬ k = 14 → τ1.1 k i j = τ.1 k i j := fun k i j hk => by rw [b3, if_neg (fun q => hk q.1)]
  obtain ⟨τ2, g1, g2, g3, g4, g5⟩ := r_tryA (τ := τ1) (mg := fMg σ) (f := f) (nr := nr) (own := fOw σ) (sd := fSd σ) (pr := fPr σ) (am := fAm σ) (B := (fB i).toNat) (Bg := (fB i).toNat) n1 hn16 hBm hBm k5 (by rw [s1 _ _ _ (by omega)]; exact n5) (by rw [s1 _ _ _ (by omega)]; exact h5) (fun p hp => ⟨by rw [b3]; simpa [hp] using (hrow p hp).2.1, (hcd p hp).2.2.2⟩) hinj (fun p hp => (hcd p hp).1) (fun p hp => by
    have := (hcd p hp).2.2.1
    unfold CdR at this ⊢
    rw [s1 _ _ _ (by omega), s1 _ _ _ (by omega), s1 _ _ _ (by omega), s1 _ _ _ (by omega)]
    exact this) (fun q hq => by rw [b2]; exact k2 q hq) (by rw [b2]; exact k3) (by rw [b2]; exact k4)
  rw [g1]
  simp only [Option.bind_some]
  obtain ⟨w1, -, -⟩ := g2
  have vo8 := f_vi (c := fOw σ (f a)) (N := 8) (by have := fa1.1; omega) (by omega)
  have ho6 : fOw σ (f a) < 1000000 := by have := fa1.1; omega
  obtain ⟨o1, o2⟩ := w1 (fOw σ (f a)) fa1.1
  simp only [if_pos vo8, f_cl ho6, o1, o2]
  have hJ : (if a3 = 0 then r_gain_J112 τ (nI a) (nI b) a3 τ2 (lN ((tQ (fOw σ) (fSd σ) (fPr σ) (fAm σ) f (fMg σ) nr).1 (fOw σ (f a)))) else r_gain_J112 τ (nI a) (nI b) a3 τ2 (lN ((tQ (fOw σ) (fSd σ) (fPr σ) (fAm σ) f (fMg σ) nr).2 (fOw σ (f a))))) = r_gain_J112 τ (nI a) (nI b) a3 τ2 (lN (f_w a3 (tQ (fOw σ) (fSd σ) (fPr σ) (fAm σ) f (fMg σ) nr) (fOw σ (f a)))) := by
    unfold f_w
    by_cases q : a3 = 0
    · simp only [if_pos q]
    · simp only [if_neg q]
  rw [hJ]
  unfold r_gain_J112
  simp only [f_cl ha6, (hrow a ha).2.1, f_cl hfa6, fa3.1]
  have t2a : ∀ k i j, ¬ k = 14 → ¬ k = 17 → τ2.1 k i j = τ.1 k i j := fun k i j q1 q2 => by rw [g3 _ _ _ q2, s1 _ _ _ q1]
  have t2b : ∀ k i j, ¬ k = 15 → ¬ k = 16 → ¬ k = 18 → ¬ (k = 0 ∧ (j = 25 ∨ j = 26)) → τ2.2 k i j = τ.2 k i j := fun k i j q1 q2 q3 q4 => by rw [g5 _ _ _ q1 q2 q3 q4, b2]
  obtain ⟨τ3, xx, j1, j2, j3, j4⟩ := r_mv (τ := τ2) (a := a) (b := b) (nr := nr) (by omega) ha hb (by rw [t2a _ _ _ (by omega) (by omega)]; exact h5)
  rw [j1]
  simp only [Option.bind_some]
  have t3a : ∀ k i j, ¬ k = 14 → ¬ k = 17 → τ3.1 k i j = τ.1 k i j := fun k i j q1 q2 => by rw [j3 _ _ _ (fun q => q1 q.1), t2a _ _ _ q1 q2]
  obtain ⟨τ4, l1, l2, l3, l4, l5⟩ := r_tryA (τ := τ3) (mg := fMg σ) (f := fun p => f (mvp a b p)) (nr := nr) (own := fOw σ) (sd := fSd σ) (pr := fPr σ) (am := fAm σ) (B := (fB i).toNat) (Bg := (fB i).toNat) n1 hn16 hBm hBm k5 (by rw [t3a _ _ _ (by omega) (by omega)]; exact n5) (by rw [t3a _ _ _ (by omega) (by omega)]; exact h5) (fun p hp => ⟨by rw [j4 p hp, t2a _ _ _ (by omega) (by omega)]; exact (hrow _ (hg p hp)).2.1, (hcd _ (hg p hp)).2.2.2⟩) (fun p q hp hq e => mvp_inj (hinj _ _ (hg p hp) (hg q hq) e)) (fun p hp => (hcd _ (hg p hp)).1) (fun p hp => by
    have := (hcd _ (hg p hp)).2.2.1
    unfold CdR at this ⊢
    rw [t3a _ _ _ (by omega) (by omega), t3a _ _ _ (by omega) (by omega), t3a _ _ _ (by omega) (by omega), t3a _ _ _ (by omega) (by omega)]
    exact this) (fun q hq => by rw [j2, t2b _ _ _ (by omega) (by omega) (by omega) (by omega), t2b _ _ _ (by omega) (by omega) (by omega) (by omega)]; exact k2 q hq) (by rw [j2, t2b _ _ _ (by omega) (by omega) (by omega) (by omega)]; exact k3) (by rw [j2, t2b _ _ _ (by omega) (by omega) (by omega) (by omega)]; exact k4)
  rw [l1]
  simp only [Option.bind_some]
  obtain ⟨w2, -, -⟩ := l2
  obtain ⟨o3, o4⟩ := w2 (fOw σ (f a)) fa1.1
  simp only [if_pos vo8, f_cl ho6, o3, o4]
  have hfin : ∀ J : Int64, (if a3 = 0 then some (lN ((tQ (fOw σ) (fSd σ) (fPr σ) (fAm σ) (fun p => f (mvp a b p)) (fMg σ) nr).1 (fOw σ (f a))) - J, τ4) else some (lN ((tQ (fOw σ) (fSd σ) (fPr σ) (fAm σ) (fun p => f (mvp a b p)) (fMg σ) nr).2 (fOw σ (f a))) - J, τ4)) = some (lN (f_w a3 (tQ (fOw σ) (fSd σ) (fPr σ) (fAm σ) (fun p => f (mvp a b p)) (fMg σ) nr) (fOw σ (f a))) - J, τ4) := by
    intro J
    unfold f_w
    by_cases q : a3 = 0
    · simp only [if_pos q]
    · simp only [if_neg q]
  rw [hfin]
  refine ⟨_, _, _, rfl, rfl, Rl_fr hl ?_ ?_ ?_ ?_⟩
  · intro k i j hk
    rw [v2, u2]
    exact z1 k i j (by omega)
  · intro k i j hk
    rw [v3 _ _ _ (by omega), u3 _ _ _ (by omega), z2]
  · intro k i j hk
    rw [l3 _ _ _ (by omega)]
    exact t3a k i j (by omega) (by omega)
  · intro k i j hk
    rw [l5 _ _ _ (by omega) (by omega) (by omega) (by omega), j2]
    exact t2b k i j (by omega) (by omega) (by omega) (by omega)
