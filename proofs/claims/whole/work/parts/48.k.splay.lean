def fOw (σ : fo_S) (c : Nat) : Nat := (σ.1 14 c 1).toNatClampNeg
def fSd (σ : fo_S) (c : Nat) : Nat := (σ.1 14 c 5).toNatClampNeg
def fPr (σ : fo_S) (c : Nat) : Nat := (σ.1 14 c 6).toNatClampNeg
def fAm (σ : fo_S) (c : Nat) : Nat := (σ.1 14 c 7).toNatClampNeg
def fMg (σ : fo_S) : (Nat → Nat) × (Nat → Nat) := (fun a => (σ.2 2 0 a).toInt.toNat, fun a => (σ.2 3 0 a).toInt.toNat)
theorem lN_of {x : Int64} (h : 0 ≤ x.toInt) : x = lN x.toInt.toNat := by
  have := Int64.toInt_lt x
  rw [fj_eq, pk_lT (by omega)]
  omega
/-- what a row that was made says of the calls in it -/
theorem Rl_cd {na nc nr : Nat} {f : Nat → Nat} {σ τ : fo_S} (n1 : na ≤ 8) (n2 : nc ≤ 16) (hc : ∀ c, c < nc → Rc na σ τ c) (hw : Rw nc nr f σ τ) : ∀ p, p < nr → CdN na (fOw σ) (fSd σ) (fPr σ) (fAm σ) (f p) ∧ CdQ (fOw σ) (fSd σ) (fPr σ) (fAm σ) σ (f p) ∧ CdR (fOw σ) (fSd σ) (fPr σ) (fAm σ) τ (f p) ∧ f p < 16 := by
  intro p hp
  obtain ⟨w1, w2, w3, w4⟩ := hw.1 p hp
  obtain ⟨⟨o, ho, r1, r1'⟩, -, -, -, r5⟩ := hc (f p) w3
  rcases r5 with ⟨t1, t2⟩ | ⟨t1, t2, sd, pr, am, s1, s2, s3, s4, s5, s6, s7, s8, s9, s10, s11⟩
  · rw [w4] at t2
    exact absurd t2 (by decide)
  have e1 : fOw σ (f p) = o := by unfold fOw; rw [r1, f_cl (by omega)]
  have e2 : fSd σ (f p) = sd := by unfold fSd; rw [s6, f_cl (by omega)]
  have e3 : fPr σ (f p) = pr := by unfold fPr; rw [s8, f_cl (by omega)]
  have e4 : fAm σ (f p) = am := by unfold fAm; rw [s10, f_cl (by omega)]
  unfold CdN CdQ CdR
  rw [e1, e2, e3, e4]
  exact ⟨⟨ho, s1, s3, s4, s5⟩, ⟨r1, s6, s8, s10⟩, ⟨r1', s7, s9, s11⟩, by omega⟩
theorem Rl_mk {i na : Nat} {σ τ : fo_S} (hm : Rm i na σ τ) : MkC na 0 (fMg σ) σ ∧ (∀ a, a < na → τ.2 1 0 a = lN ((fMg σ).1 a) ∧ τ.2 2 0 a = lN ((fMg σ).2 a)) ∧ τ.2 0 0 3 = lN ((fMg σ).1 8) ∧ τ.2 0 0 4 = lN ((fMg σ).2 8) ∧ tB na (fB i).toNat (fB i).toNat (fMg σ) := by
  obtain ⟨⟨p1, p2, p3, p4, p5, p6⟩, h2⟩ := hm
  refine ⟨fun a ha => ?_, fun a ha => ?_, ?_, ?_, ?_, ?_, fun a ha => ?_⟩
  · rcases ha with ha | rfl
    · obtain ⟨g1, g2, g3, g4, g5, g6⟩ := h2 a ha
      exact ⟨lN_of (by rw [g1]; exact g3), lN_of (by rw [g2]; exact g5)⟩
    · exact ⟨lN_of (by rw [p1]; exact p3), lN_of (by rw [p2]; exact p5)⟩
  · obtain ⟨g1, g2, g3, g4, g5, g6⟩ := h2 a ha
    unfold fMg
    rw [← g1, ← g2]
    exact ⟨lN_of (by rw [g1]; exact g3), lN_of (by rw [g2]; exact g5)⟩
  · rw [← p1]
    exact lN_of (by rw [p1]; exact p3)
  · rw [← p2]
    exact lN_of (by rw [p2]; exact p5)
  · show (σ.2 2 0 8).toInt.toNat ≤ _
    rw [p1]
    omega
  · show (σ.2 3 0 8).toInt.toNat ≤ _
    rw [p2]
    omega
  · obtain ⟨g1, g2, g3, g4, g5, g6⟩ := h2 a ha
    show (σ.2 2 0 a).toInt.toNat + (σ.2 2 0 8).toInt.toNat ≤ _ ∧ (σ.2 3 0 a).toInt.toNat ≤ _
    rw [p1, g1, g2]
    omega
theorem Rm_of {i na B Bg : Nat} {mg : (Nat → Nat) × (Nat → Nat)} {σ τ : fo_S} (hi : i ≤ 4000) (h1 : MkC na 0 mg σ) (h2 : ∀ a, a < na → τ.2 1 0 a = lN (mg.1 a) ∧ τ.2 2 0 a = lN (mg.2 a)) (h3 : τ.2 0 0 3 = lN (mg.1 8)) (h4 : τ.2 0 0 4 = lN (mg.2 8)) (hb : tB na B Bg mg) (hB : (B : Int) ≤ fB i) (hBg : (Bg : Int) ≤ fB i) : Rm i na σ τ := by
  have hT := fB_top hi
  obtain ⟨b1, b2, b3⟩ := hb
  have q1 : (lN (mg.1 8)).toInt = (mg.1 8 : Int) := pk_lT (by omega)
  have q2 : (lN (mg.2 8)).toInt = (mg.2 8 : Int) := pk_lT (by omega)
  obtain ⟨m1, m2⟩ := h1 8 (Or.inr rfl)
  refine ⟨⟨by rw [m1, h3], by rw [m2, h4], ?_⟩, fun a ha => ?_⟩
  · rw [h3, h4, q1, q2]
    omega
  · obtain ⟨w1, w2⟩ := h1 a (Or.inl ha)
    obtain ⟨w3, w4⟩ := h2 a ha
    obtain ⟨c1, c2⟩ := b3 a ha
    have q3 : (lN (mg.1 a)).toInt = (mg.1 a : Int) := pk_lT (by omega)
    have q4 : (lN (mg.2 a)).toInt = (mg.2 a : Int) := pk_lT (by omega)
    refine ⟨by rw [w1, w3], by rw [w2, w4], ?_⟩
    rw [w3, w4, h3, q1, q3, q4]
    omega
theorem s_play {i : Nat} {σ τ : fo_S} (hi : i ≤ 3072) (h : Rl i σ τ) : ∃ (r : Int32) (σ1 τ1 : fo_S), q_FairOrder_play σ = some (r, σ1) ∧ r_play τ = some (r, τ1) ∧ Rl (i + 1) σ1 τ1 := by
  have hl := Rl_mono (Nat.le_succ i) h
  obtain ⟨na, nc, ph, ⟨n1, n2, n3, n4, n5, n6, n7, n8, n9, n10, n11⟩, hm, hc, hr⟩ := h
  unfold q_FairOrder_play r_play q_FairOrder_mayPlay r_mayPlay
  have e10 : ¬ ((1 : Int32) = 0) := by decide
  obtain ⟨hr1, hr2, hr3⟩ := hr
  rcases hr1 with ⟨h1, h2, h3, h4, h5⟩ | ⟨h1, h2, ⟨nr, f, h3, h4, h5, h6⟩, ⟨h7, h8⟩ | ⟨h7, h8⟩⟩
  · have d1 : (-1 : Int32) < 0 := by decide
    simp only [h1, h5, if_true, if_pos d1, Option.bind_some]
    exact ⟨_, _, _, rfl, rfl, hl⟩
  rotate_left
  · have d1 : ¬ nI nr < 0 := nI_pos (by omega)
    simp only [h1, h5, h7, h8, if_neg e10, if_neg d1, if_true, Option.bind_some]
    exact ⟨_, _, _, rfl, rfl, hl⟩
  have d1 : ¬ nI nr < 0 := nI_pos (by omega)
  simp only [h1, h5, h7, h8, if_neg e10, if_neg d1, if_true, Option.bind_some]
  have hcd := Rl_cd n1 n2 hc h6
  obtain ⟨k1, k2, k3, k4, k5⟩ := Rl_mk hm
  have hT := fB_top (i := i) (by omega)
  have hB0 := fB_0 i
  have hB1 := fB_1 i
  obtain ⟨hrow, hinj⟩ := h6
  have hz := hr2 h7
  -- the class
  obtain ⟨σ', a1, a2, a3, a4, a5, a6⟩ := q_play_lp (σ := fo_pI σ 0 0 14 1) (mg := fMg σ) (f := f) (nr := nr) (own := fOw σ) (sd := fSd σ) (pr := fPr σ) (am := fAm σ) (B := (fB i).toNat) (Bg := (fB i).toNat) n1 (by omega) (by omega) (by omega) k5 (by simpa [e_pI] using h4) (fun p hp => by simpa [e_pI] using ⟨(hrow p hp).1, (hcd p hp).2.2.2⟩) hinj (fun p hp => (hcd p hp).1) (fun p hp => by simpa [CdQ, e_pI] using (hcd p hp).2.1) (fun a ha => by simpa [e_pI2] using k1 a ha) (fun p hp => by simpa [e_pI, e_pI2] using hz (f p) (hrow p hp).2.2.1)
  rw [a1]
  -- the model
  obtain ⟨τ1, b1, b2, b3⟩ := r_cpr (τ := τ) (nr := nr) (by omega) h5
  rw [b1]
  simp only [Option.bind_some]
  have s1 : ∀ k i j, ¬ k = 14 → τ1.1 k i j = τ.1 k i j := fun k i j hk => by rw [b3, if_neg (fun q => hk q.1)]
  obtain ⟨τ2, c1, c2, c3, c4, c5⟩ := r_tryA (τ := τ1) (mg := fMg σ) (f := f) (nr := nr) (own := fOw σ) (sd := fSd σ) (pr := fPr σ) (am := fAm σ) (B := (fB i).toNat) (Bg := (fB i).toNat) n1 (by omega) (by omega) (by omega) k5 (by rw [s1 _ _ _ (by omega)]; exact n5) (by rw [s1 _ _ _ (by omega)]; exact h5) (fun p hp => ⟨by rw [b3]; simpa [hp] using (hrow p hp).2.1, (hcd p hp).2.2.2⟩) hinj (fun p hp => (hcd p hp).1) (fun p hp => by
    have := (hcd p hp).2.2.1
    unfold CdR at this ⊢
    rw [s1 _ _ _ (by omega), s1 _ _ _ (by omega), s1 _ _ _ (by omega), s1 _ _ _ (by omega)]
    exact this) (fun a ha => by rw [b2]; exact k2 a ha) (by rw [b2]; exact k3) (by rw [b2]; exact k4)
  rw [c1]
  simp only [Option.bind_some]
  obtain ⟨τ3, g1, g2, g3⟩ := r_beg (τ := τ2) (nc := nc) n2 (by rw [c3 _ _ _ (by omega), s1 _ _ _ (by omega)]; exact n7)
  rw [g1]
  simp only [Option.bind_some]
  have s3 : ∀ k i j, ¬ k = 14 → ¬ k = 17 → ¬ k = 12 → ¬ (k = 0 ∧ i = 0 ∧ j = 19) → τ3.1 k i j = τ.1 k i j := fun k i j q1 q2 q3 q4 => by rw [g2, if_neg (fun q => q3 q.1), if_neg q4, c3 _ _ _ q2, s1 _ _ _ q1]
  have s4 : ∀ k i j, ¬ k = 13 → ¬ k = 15 → ¬ k = 16 → ¬ k = 18 → ¬ (k = 0 ∧ (j = 25 ∨ j = 26)) → τ3.2 k i j = τ.2 k i j := fun k i j q1 q2 q3 q4 q5 => by rw [g3, if_neg (fun q => q1 q.1), c5 _ _ _ q2 q3 q4 q5, b2]
  obtain ⟨τ4, j1, j2, j3, j4, j5⟩ := r_dn (τ := τ3) (f := f) (nr := nr) (o := fun p => tS (fOw σ) (fSd σ) (fPr σ) (fAm σ) (tQ (fOw σ) (fSd σ) (fPr σ) (fAm σ) f (fMg σ) p) (f p)) (am := fAm σ) (by omega) (by rw [s3 _ _ _ (by omega) (by omega) (by omega) (by omega)]; exact h5) (fun p hp => ⟨by rw [s3 _ _ _ (by omega) (by omega) (by omega) (by omega)]; exact (hrow p hp).2.1, (hcd p hp).2.2.2⟩) hinj (fun p hp => by have := (hcd p hp).1; exact ⟨this.2.2.2.1, this.2.2.2.2⟩) (fun p hp => by
    have := c4 p hp
    refine ⟨?_, ?_⟩
    · rw [g2, if_neg (by omega), if_neg (by omega)]
      exact this.1
    · rw [g3, if_neg (by omega)]
      exact this.2)
  rw [j1]
  simp only [Option.bind_some]
  obtain ⟨τ5, l1, l2, l3⟩ := r_bk (τ := τ4) (na := na) n1 (by rw [j2 _ _ _ (by omega), s3 _ _ _ (by omega) (by omega) (by omega) (by omega)]; exact n5)
  rw [l1]
  simp only [Option.bind_some]
  have mkm : MkM na (tQ (fOw σ) (fSd σ) (fPr σ) (fAm σ) f (fMg σ) nr) τ4 := by
    obtain ⟨u1, u2, u3⟩ := c2
    refine ⟨fun a ha => ?_, ?_, ?_⟩
    · rw [j3 _ _ _ (by omega), j3 _ _ _ (by omega), g3, g3, if_neg (by omega), if_neg (by omega)]
      exact u1 a ha
    · rw [j3 _ _ _ (by omega), g3, if_neg (by omega)]
      exact u2
    · rw [j3 _ _ _ (by omega), g3, if_neg (by omega)]
      exact u3
  obtain ⟨u1, u2, u3⟩ := mkm
  obtain ⟨τ6, hτ6⟩ : ∃ z, z = fo_pJ (fo_pJ τ5 0 0 3 (τ5.2 0 0 25)) 0 0 4 ((fo_pJ τ5 0 0 3 (τ5.2 0 0 25)).2 0 0 26) := ⟨_, rfl⟩
  rw [← hτ6]
  have m1 : ∀ k i j, τ6.1 k i j = τ4.1 k i j := by
    intro k i j
    rw [hτ6]
    show τ5.1 k i j = _
    rw [l2]
  have m2 : ∀ k i j, τ6.2 k i j = if k = 0 ∧ i = 0 ∧ j = 4 then lN ((tQ (fOw σ) (fSd σ) (fPr σ) (fAm σ) f (fMg σ) nr).2 8) else if k = 0 ∧ i = 0 ∧ j = 3 then lN ((tQ (fOw σ) (fSd σ) (fPr σ) (fAm σ) f (fMg σ) nr).1 8) else if k = 1 ∧ i = 0 ∧ j < na then lN ((tQ (fOw σ) (fSd σ) (fPr σ) (fAm σ) f (fMg σ) nr).1 j) else if k = 2 ∧ i = 0 ∧ j < na then lN ((tQ (fOw σ) (fSd σ) (fPr σ) (fAm σ) f (fMg σ) nr).2 j) else τ4.2 k i j := by
    intro k i j
    rw [hτ6]
    have x1 : τ5.2 0 0 25 = lN ((tQ (fOw σ) (fSd σ) (fPr σ) (fAm σ) f (fMg σ) nr).1 8) := by rw [l3]; simpa using u2
    have x2 : τ5.2 0 0 26 = lN ((tQ (fOw σ) (fSd σ) (fPr σ) (fAm σ) f (fMg σ) nr).2 8) := by rw [l3]; simpa using u3
    simp only [e_pJ, x1, x2, l3]
    by_cases k0 : k = 0
    · subst k0
      simp
    · by_cases kk1 : k = 1 ∧ i = 0 ∧ j < na
      · obtain ⟨rfl, rfl, hj⟩ := kk1
        simp [hj, (u1 j hj).1]
      · by_cases kk2 : k = 2 ∧ i = 0 ∧ j < na
        · obtain ⟨rfl, rfl, hj⟩ := kk2
          simp [hj, (u1 j hj).2]
        · simp [k0, kk1, kk2]
  have r1 : ∀ k i j, ¬ k = 12 → ¬ k = 14 → ¬ k = 17 → ¬ (k = 0 ∧ i = 0 ∧ j = 19) → τ6.1 k i j = τ.1 k i j := fun k i j q1 q2 q3 q4 => by rw [m1, j2 _ _ _ q1, s3 _ _ _ q2 q3 q1 q4]
  have r2 : ∀ k i j, ¬ k = 0 → ¬ k = 1 → ¬ k = 2 → ¬ k = 13 → ¬ k = 15 → ¬ k = 16 → ¬ k = 18 → τ6.2 k i j = τ.2 k i j := fun k i j q0 q1 q2 q3 q4 q5 q6 => by
    rw [m2, if_neg (fun q => q0 q.1), if_neg (fun q => q0 q.1), if_neg (fun q => q1 q.1), if_neg (fun q => q2 q.1), j3 _ _ _ q3, s4 _ _ _ q3 q4 q5 q6 (fun q => q0 q.1)]
  have a3' : ∀ k i j, ¬ (k = 14 ∧ j = 8) → ¬ (k = 0 ∧ i = 0 ∧ j = 14) → σ'.1 k i j = σ.1 k i j := fun k i j q1 q2 => by rw [a3 _ _ _ q1, e_pI, if_neg q2]
  have a6' : ∀ k i j, ¬ ((k = 2 ∨ k = 3) ∧ i = 0) → ¬ (k = 14 ∧ j = 9) → σ'.2 k i j = σ.2 k i j := fun k i j q1 q2 => by rw [a6 _ _ _ q1 q2, e_pI2]
  have p14 : σ'.1 0 0 14 = 1 := by rw [a3 _ _ _ (by omega)]; simp [e_pI]
  have p19 : τ6.1 0 0 19 = 1 := by rw [m1, j2 _ _ _ (by omega), g2]; simp
  refine ⟨_, _, _, rfl, rfl, na, nc, ph, ?_, ?_, ?_, ?_⟩
  · refine ⟨n1, n2, n3, ?_⟩
    rw [a3' 0 0 8 (by omega) (by omega), a3' 0 0 9 (by omega) (by omega), a3' 0 0 10 (by omega) (by omega), a3' 0 0 11 (by omega) (by omega), a6' 0 0 12 (by omega) (by omega), r1 0 0 0 (by omega) (by omega) (by omega) (by omega), r1 0 0 8 (by omega) (by omega) (by omega) (by omega), r1 0 0 6 (by omega) (by omega) (by omega) (by omega), r1 0 0 7 (by omega) (by omega) (by omega) (by omega)]
    refine ⟨n4, n5, n6, n7, n8, n9, n10, ?_⟩
    rw [n11, m2, if_neg (by omega), if_neg (by omega), if_neg (by omega), if_neg (by omega), j3 _ _ _ (by omega), s4 _ _ _ (by omega) (by omega) (by omega) (by omega) (by omega)]
  · refine Rm_of (by omega) a2 (fun a ha => ?_) ?_ ?_ (tQ_B n1 (fun p hp => (hcd p hp).1) k5 nr (Nat.le_refl nr)) (by omega) (by omega)
    · rw [m2, m2]
      simp [ha]
    · rw [m2]
      simp
    · rw [m2]
      simp
  · intro c hcc
    obtain ⟨x1, x2, x3, x4, x5⟩ := hc c hcc
    refine ⟨?_, ?_, ?_, ?_, ?_⟩
    · rw [a3' 14 c 1 (by omega) (by omega), r1 3 0 c (by omega) (by omega) (by omega) (by omega)]
      exact x1
    · rw [a6' 14 c 2 (by omega) (by omega), r2 4 0 c (by omega) (by omega) (by omega) (by omega) (by omega) (by omega) (by omega)]
      exact x2
    · rw [a6' 14 c 3 (by omega) (by omega), r2 5 0 c (by omega) (by omega) (by omega) (by omega) (by omega) (by omega) (by omega)]
      exact x3
    · intro n hn
      rw [a3' 15 c n (by omega) (by omega), r1 10 0 (5 * c + n) (by omega) (by omega) (by omega) (by omega)]
      exact x4 n hn
    · unfold Ro at x5 ⊢
      rw [a3' 14 c 4 (by omega) (by omega), r1 6 0 c (by omega) (by omega) (by omega) (by omega), a3' 14 c 5 (by omega) (by omega), a3' 14 c 6 (by omega) (by omega), a3' 14 c 7 (by omega) (by omega), r1 7 0 c (by omega) (by omega) (by omega) (by omega), r1 8 0 c (by omega) (by omega) (by omega) (by omega), r1 9 0 c (by omega) (by omega) (by omega) (by omega)]
      exact x5
  · refine ⟨Or.inr ⟨?_, h2, ⟨nr, f, h3, ?_, ?_, ⟨fun k hk => ?_, hinj⟩⟩, Or.inr ⟨p14, p19⟩⟩, fun q => ?_, fun _ c hcc => ?_⟩
    · rw [a3' 0 0 13 (by omega) (by omega)]
      exact h1
    · rw [a3' 5 0 1 (by omega) (by omega)]
      exact h4
    · rw [r1 0 0 17 (by omega) (by omega) (by omega) (by omega)]
      exact h5
    · rw [a3' 6 0 k (by omega) (by omega), r1 11 0 k (by omega) (by omega) (by omega) (by omega), r1 6 0 (f k) (by omega) (by omega) (by omega) (by omega)]
      exact hrow k hk
    · rw [p14] at q
      exact absurd q (by decide)
    · by_cases hp : ∃ p, p < nr ∧ f p = c
      · obtain ⟨p, hp, rfl⟩ := hp
        have y1 := a5 p hp
        have y2 := j4 p hp
        rw [m1, m2, if_neg (by omega), if_neg (by omega), if_neg (by omega), if_neg (by omega), y1.1, y1.2, y2.1, y2.2]
        exact ⟨rfl, rfl⟩
      · have hp' : ∀ p, p < nr → ¬ f p = c := fun p hp1 q => hp ⟨p, hp1, q⟩
        have y1 := a4 c hp'
        have y2 := j5 c hp'
        have y3 := hz c hcc
        rw [m1, m2, if_neg (by omega), if_neg (by omega), if_neg (by omega), if_neg (by omega), y1.1, y1.2, y2.1, y2.2, g2, g3, if_pos ⟨rfl, rfl, hcc⟩, if_pos ⟨rfl, rfl, hcc⟩, e_pI, e_pI2, if_neg (by omega), y3.1, y3.2]
        exact ⟨rfl, rfl⟩
