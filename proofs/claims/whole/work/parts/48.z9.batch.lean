/-- the relation behind a batch -/
theorem Rl_bat {i na nc ph nr B Bg : Nat} {f : Nat → Nat} {mg : (Nat → Nat) × (Nat → Nat)} {σ τ σ1 τ1 : fo_S} (hi : i ≤ 4000) (hn : Rn na nc ph σ τ) (hc : ∀ c, c < nc → Rc na σ τ c) (h13 : σ.1 0 0 13 = 1) (hph : ph = 2) (hnr : nr ≤ nc) (hl : σ.1 5 0 1 = nI nr) (hl' : τ.1 0 0 17 = nI nr) (hw : Rw nc nr f σ τ) (s1 : ∀ k i j, ¬ (k = 14 ∧ j = 8) → ¬ k = 11 → ¬ (k = 0 ∧ i = 0 ∧ j = 14) → σ1.1 k i j = σ.1 k i j) (s2 : ∀ k i j, ¬ ((k = 2 ∨ k = 3) ∧ i = 0) → ¬ (k = 14 ∧ j = 9) → ¬ k = 10 → ¬ k = 12 → ¬ k = 13 → σ1.2 k i j = σ.2 k i j) (t1 : ∀ k i j, ¬ k = 12 → ¬ k = 22 → ¬ (k = 0 ∧ i = 0 ∧ j = 19) → τ1.1 k i j = τ.1 k i j) (t2 : ∀ k i j, ¬ k = 1 → ¬ k = 2 → ¬ k = 13 → ¬ k = 23 → ¬ k = 24 → ¬ (k = 0 ∧ i = 0 ∧ (j = 35 ∨ j = 36)) → τ1.2 k i j = τ.2 k i j) (p14 : σ1.1 0 0 14 = 1) (p19 : τ1.1 0 0 19 = 1) (hM : MkC na 0 mg σ1) (hM' : ∀ a, a < na → τ1.2 1 0 a = lN (mg.1 a) ∧ τ1.2 2 0 a = lN (mg.2 a)) (h3 : τ.2 0 0 3 = lN (mg.1 8)) (h4 : τ.2 0 0 4 = lN (mg.2 8)) (hb : tB na B Bg mg) (hB : (B : Int) ≤ fB i) (hBg : (Bg : Int) ≤ fB i) (hd : ∀ c, c < nc → σ1.1 14 c 8 = τ1.1 12 0 c ∧ σ1.2 14 c 9 = τ1.2 13 0 c) : Rl i σ1 τ1 := by
  refine ⟨na, nc, ph, ?_, ?_, ?_, ?_⟩
  · unfold Rn at hn ⊢
    rw [s1 0 0 8 (by omega) (by omega) (by omega), s1 0 0 9 (by omega) (by omega) (by omega), s1 0 0 10 (by omega) (by omega) (by omega), s1 0 0 11 (by omega) (by omega) (by omega), s2 0 0 12 (by omega) (by omega) (by omega) (by omega) (by omega), t1 0 0 0 (by omega) (by omega) (by omega), t1 0 0 8 (by omega) (by omega) (by omega), t1 0 0 6 (by omega) (by omega) (by omega), t1 0 0 7 (by omega) (by omega) (by omega), t2 0 0 5 (by omega) (by omega) (by omega) (by omega) (by omega) (by omega)]
    exact hn
  · refine Rm_of hi hM hM' ?_ ?_ hb hB hBg
    · rw [t2 0 0 3 (by omega) (by omega) (by omega) (by omega) (by omega) (by omega)]
      exact h3
    · rw [t2 0 0 4 (by omega) (by omega) (by omega) (by omega) (by omega) (by omega)]
      exact h4
  · intro c hcc
    obtain ⟨x1, x2, x3, x4, x5⟩ := hc c hcc
    refine ⟨?_, ?_, ?_, ?_, ?_⟩
    · rw [s1 14 c 1 (by omega) (by omega) (by omega), t1 3 0 c (by omega) (by omega) (by omega)]
      exact x1
    · rw [s2 14 c 2 (by omega) (by omega) (by omega) (by omega) (by omega), t2 4 0 c (by omega) (by omega) (by omega) (by omega) (by omega) (by omega)]
      exact x2
    · rw [s2 14 c 3 (by omega) (by omega) (by omega) (by omega) (by omega), t2 5 0 c (by omega) (by omega) (by omega) (by omega) (by omega) (by omega)]
      exact x3
    · intro n hn
      rw [s1 15 c n (by omega) (by omega) (by omega), t1 10 0 (5 * c + n) (by omega) (by omega) (by omega)]
      exact x4 n hn
    · unfold Ro at x5 ⊢
      rw [s1 14 c 4 (by omega) (by omega) (by omega), s1 14 c 5 (by omega) (by omega) (by omega), s1 14 c 6 (by omega) (by omega) (by omega), s1 14 c 7 (by omega) (by omega) (by omega), t1 6 0 c (by omega) (by omega) (by omega), t1 7 0 c (by omega) (by omega) (by omega), t1 8 0 c (by omega) (by omega) (by omega), t1 9 0 c (by omega) (by omega) (by omega)]
      exact x5
  · refine ⟨Or.inr ⟨?_, hph, ⟨nr, f, hnr, ?_, ?_, ⟨fun k hk => ?_, hw.2⟩⟩, Or.inr ⟨p14, p19⟩⟩, fun q => ?_, fun _ => hd⟩
    · rw [s1 0 0 13 (by omega) (by omega) (by omega)]
      exact h13
    · rw [s1 5 0 1 (by omega) (by omega) (by omega)]
      exact hl
    · rw [t1 0 0 17 (by omega) (by omega) (by omega)]
      exact hl'
    · rw [s1 6 0 k (by omega) (by omega) (by omega), t1 11 0 k (by omega) (by omega) (by omega), t1 6 0 (f k) (by omega) (by omega) (by omega)]
      exact hw.1 k hk
    · rw [p14] at q
      exact absurd q (by decide)
theorem fB_b {i nr : Nat} (h : nr ≤ 16) : (((fB i).toNat + nr * 1000000 : Nat) : Int) ≤ fB (i + 1) ∧ (((fB i).toNat + nr * 1000 : Nat) : Int) ≤ fB (i + 1) := by
  have h1 := fB_1 i
  have h0 := fB_0 i
  generalize fB i = x at h0 h1 ⊢
  generalize fB (i + 1) = y at h1 ⊢
  omega
theorem bS_8 {T : Nat → Bool} {own sd pr am f : Nat → Nat} {mg : (Nat → Nat) × (Nat → Nat)} {na nr v p : Nat} (hna : na ≤ 8) (hN : ∀ k, k < nr → CdN na own sd pr am (f k)) : ∀ n, n ≤ nr → (bS T own sd am f mg v p n).2.1.1 8 = mg.1 8 ∧ (bS T own sd am f mg v p n).2.1.2 8 = mg.2 8 := by
  intro n
  induction n with
  | zero => intro _; exact ⟨rfl, rfl⟩
  | succ n ih =>
    intro hn
    have o1 := (hN n (by omega)).1
    have ho8 : ¬ 8 = own (f n) := by omega
    have ih := ih (by omega)
    rw [bS]
    unfold bM
    split
    · exact ⟨(uN_n ho8).trans ih.1, (uN_n ho8).trans ih.2⟩
    · exact ⟨(uN_n ho8).trans ih.1, (uN_n ho8).trans ih.2⟩
theorem s_batch {i : Nat} {σ τ : fo_S} (hi : i ≤ 3072) (h : Rl i σ τ) : ∃ (r : Int32) (σ1 τ1 : fo_S), q_FairOrder_batch σ = some (r, σ1) ∧ r_batch τ = some (r, τ1) ∧ Rl (i + 1) σ1 τ1 := by
  have hl := Rl_mono (Nat.le_succ i) h
  obtain ⟨na, nc, ph, hn, hm, hc, hr⟩ := h
  have hn' := hn
  obtain ⟨n1, n2, n3, n4, n5, n6, n7, n8, n9, n10, n11⟩ := hn
  unfold q_FairOrder_batch r_batch q_FairOrder_mayPlay r_mayPlay
  have e10 : ¬ ((1 : Int32) = 0) := by decide
  obtain ⟨hr1, hr2, hr3⟩ := hr
  rcases hr1 with ⟨h1, h2, h3, h4, h5⟩ | ⟨h1, h2, ⟨nr, f, h3, h4, h5, h6⟩, ⟨h7, h8⟩ | ⟨h7, h8⟩⟩
  · have d1 : (-1 : Int32) < 0 := by decide
    simp only [h1, h5, if_true, if_pos d1, Option.bind_some]
    exact ⟨_, _, _, rfl, rfl, hl⟩
  rotate_left
  · have d1 : ¬ nI nr < 0 := nI_pos (by omega)
    simp only [h1, h5, h7, h8, if_neg e10, if_neg d1, if_true, Option.bind_some]
    exact ⟨_, _, _, rfl, rfl, hl⟩
  have d1 : ¬ nI nr < 0 := nI_pos (by omega)
  simp only [h1, h5, h7, h8, if_neg e10, if_neg d1, if_true, Option.bind_some]
  have hcd := Rl_cd n1 n2 hc h6
  obtain ⟨k1, k2, k3, k4, k5⟩ := Rl_mk hm
  have hT := fB_top (i := i) (by omega)
  have hB0 := fB_0 i
  have hB1 := fB_1 i
  obtain ⟨hrow, hinj⟩ := id h6
  have hz := hr2 h7
  have hN : ∀ k, k < nr → CdN na (fOw σ) (fSd σ) (fPr σ) (fAm σ) (f k) := fun p hp => (hcd p hp).1
  have hfc : ∀ k, k < nr → f k < nc := fun p hp => (hrow p hp).2.2.1
  have hmb : mgB na (fMg σ) := fun a ha => by
    have := k5.2.2 a ha
    omega
  obtain ⟨σa, hσa⟩ : ∃ s, s = fo_pI σ 0 0 14 (1 : Int32) := ⟨_, rfl⟩
  have fa : ∀ k i j, ¬ (k = 0 ∧ i = 0 ∧ j = 14) → σa.1 k i j = σ.1 k i j := fun k i j q => by rw [hσa, e_pI, if_neg q]
  have fa2 : σa.2 = σ.2 := by rw [hσa, e_pI2]
  have fa14 : σa.1 0 0 14 = 1 := by rw [hσa, e_pI, if_pos ⟨rfl, rfl, rfl⟩]
  rw [← hσa]
  have hQ : BcQ (fOw σ) (fSd σ) (fPr σ) (fAm σ) (fMg σ) na nr f σa := by
    refine ⟨by rw [fa 5 0 1 (by omega)]; exact h4, fun k hk => ⟨by rw [fa 6 0 k (by omega)]; exact (hrow k hk).1, (hcd k hk).2.2.2, ?_⟩, fun a ha => by rw [fa2]; exact k1 a (Or.inl ha)⟩
    have := (hcd k hk).2.1
    unfold CdQ at this ⊢
    rw [fa 14 _ 1 (by omega), fa 14 _ 5 (by omega), fa 14 _ 6 (by omega), fa 14 _ 7 (by omega)]
    exact this
  have hR : BcR (fOw σ) (fSd σ) (fPr σ) (fAm σ) (fMg σ) na nr f τ := ⟨h5, fun k hk => ⟨(hrow k hk).2.1, (hcd k hk).2.2.2, (hcd k hk).2.2.1⟩, k2⟩
  obtain ⟨σb, b1', b2⟩ := q_fp n1 (by omega) hN hmb hQ
  obtain ⟨y, c1, c2, c3⟩ := r_fp n1 (by omega) hN hinj hmb hR
  obtain ⟨τ2, g1, g2, g3⟩ := r_beg (τ := y.2.2.2) (nc := nc) n2 (by rw [c3.1 0 0 8 (by omega)]; exact n7)
  rw [b1', c1]
  simp only [Option.bind_some, g1, c2]
  have u1 : ∀ k i j, ¬ k = 12 → ¬ k = 22 → ¬ (k = 0 ∧ i = 0 ∧ j = 19) → τ2.1 k i j = τ.1 k i j := fun k i j q1 q2 q3 => by rw [g2, if_neg (fun q => q1 q.1), if_neg q3]; exact c3.1 k i j q2
  have u2 : ∀ k i j, ¬ k = 13 → ¬ k = 23 → ¬ k = 24 → ¬ (k = 0 ∧ i = 0 ∧ (j = 35 ∨ j = 36)) → τ2.2 k i j = τ.2 k i j := fun k i j q1 q2 q3 q4 => by rw [g3, if_neg (fun q => q1 q.1)]; exact c3.2 k i j q2 q3 q4
  have u12 : ∀ c, c < nc → τ2.1 12 0 c = 0 ∧ τ2.2 13 0 c = 0 := fun c hcc => by
    rw [g2, g3, if_pos ⟨rfl, rfl, hcc⟩, if_pos ⟨rfl, rfl, hcc⟩]
    exact ⟨rfl, rfl⟩
  have u19 : τ2.1 0 0 19 = 1 := by rw [g2]; simp
  rcases bst_c (vol (fOw σ) (fSd σ) (fPr σ) (fAm σ) (fMg σ) f nr) 1000 with hbst | ⟨p, p1, p2, hbst⟩
  · simp only [hbst, if_true]
    refine ⟨_, _, _, rfl, rfl, Rl_bat (mg := fMg σ) (f := f) (nr := nr) (by omega) hn' hc h1 h2 h3 h4 h5 h6 (fun k i j q1 q2 q3 => by rw [b2.1 k i j q2]; exact fa k i j q3) (fun k i j q1 q2 q3 q4 q5 => by rw [b2.2 k i j q3 q4 q5, fa2]) u1 (fun k i j q1 q2 q3 q4 q5 q6 => u2 k i j q3 q4 q5 q6) (by rw [b2.1 0 0 14 (by omega)]; exact fa14) u19 (fun a ha => ?_) (fun a ha => ?_) k3 k4 k5 (by omega) (by omega) (fun c hcc => ?_)⟩
    · rw [b2.2 2 0 a (by omega) (by omega) (by omega), b2.2 3 0 a (by omega) (by omega) (by omega), fa2]
      exact k1 a ha
    · rw [u2 1 0 a (by omega) (by omega) (by omega) (by omega), u2 2 0 a (by omega) (by omega) (by omega) (by omega)]
      exact k2 a ha
    · rw [b2.1 14 c 8 (by omega), fa 14 c 8 (by omega), b2.2 14 c 9 (by omega) (by omega) (by omega), fa2, (u12 c hcc).1, (u12 c hcc).2]
      exact hz c hcc
  · have hne : ¬ nI p = (-1 : Int32) := fun q => by
      have := congrArg Int32.toInt q
      rw [f_ti (by omega)] at this
      have m1 : (-1 : Int32).toInt = -1 := rfl
      omega
    simp only [hbst, if_neg hne]
    obtain ⟨hBB, hBG⟩ := fB_b (i := i) (Nat.le_trans h3 n2)
    have hi1 : i + 1 ≤ 4000 := by omega
    -- the class
    unfold q_Auction_settle
    obtain ⟨σc, a1, a2, a3, a4⟩ := q_gth (p := p) n1 (by omega) p2 hN hmb (BcQ_f hQ b2)
    have hBd := aBd_m (aG_Bd (own := fOw σ) (sd := fSd σ) (pr := fPr σ) (am := fAm σ) (mg := fMg σ) (p := p) (f := f) (nr := nr) (fun k hk => (hN k hk).2.2.2.2) nr (Nat.le_refl nr)) (show nr * 1000 ≤ 16000 by omega)
    have hv := q_vol a2 hBd
    have hvl : aV (aG (fOw σ) (fSd σ) (fPr σ) (fAm σ) (fMg σ) p f nr) < 2 ^ 62 := Nat.lt_of_le_of_lt (vol_le (own := fOw σ) (sd := fSd σ) (pr := fPr σ) (am := fAm σ) (f := f) (mg := fMg σ) (nr := nr) (fun k hk => (hN k hk).2.2.2.2) (by omega) p) (by decide)
    have a4' := FGa_t a4 b2
    have hR2 : BcR (fOw σ) (fSd σ) (fPr σ) (fAm σ) (fMg σ) na nr f τ2 := by
      clear hvl hv hBd
      refine ⟨by rw [u1 0 0 17 (by omega) (by omega) (by omega)]; exact h5, fun k hk => ⟨by rw [u1 11 0 k (by omega) (by omega) (by omega)]; exact (hrow k hk).2.1, (hcd k hk).2.2.2, ?_⟩, fun a ha => ?_⟩
      · have := (hcd k hk).2.2.1
        unfold CdR at this ⊢
        rw [u1 3 0 _ (by omega) (by omega) (by omega), u1 7 0 _ (by omega) (by omega) (by omega), u1 8 0 _ (by omega) (by omega) (by omega), u1 9 0 _ (by omega) (by omega) (by omega)]
        exact this
      · rw [u2 1 0 a (by omega) (by omega) (by omega) (by omega), u2 2 0 a (by omega) (by omega) (by omega) (by omega)]
        exact k2 a ha
    have hnr16 : nr ≤ 16 := Nat.le_trans h3 n2
    obtain ⟨τ3, m1, m2, m3⟩ := r_mkt (p := p) n1 hnr16 p2 hN hinj hmb hR2
    generalize aV (aG (fOw σ) (fSd σ) (fPr σ) (fAm σ) (fMg σ) p f nr) = v at hvl hv m1
    obtain ⟨w, w1, w2, w3, w4, w5⟩ := q_stl (nc := nc) n1 hnr16 p2 hvl hN hinj hfc (BcQ_f hQ a4') (fun a ha => by
      rw [a4'.2 2 0 a (by omega) (by omega) (by omega), a4'.2 3 0 a (by omega) (by omega) (by omega), fa2]
      exact k1 a ha) a3 (fun c hcc => by
      rw [a4'.1 14 c 8 (by omega), fa 14 c 8 (by omega), a4'.2 14 c 9 (by omega) (by omega) (by omega), fa2]
      exact hz c hcc)
    obtain ⟨x, x1, x2, x3, x4, x5⟩ := r_stl (nc := nc) (y := y) n1 hnr16 p2 hvl (by rw [c2, hbst]) hN hinj hfc (BcR_f hR2 m3) m2 (fun c hcc => by
      rw [m3.1 12 0 c (by omega), m3.2 13 0 c (by omega) (by omega) (by omega)]
      exact u12 c hcc)
    simp only [a1, Option.bind_some, hv, w1, m1, x1]
    have hbB := bS_B (T := aT (fOw σ) (fSd σ) (fPr σ) (fAm σ) (fMg σ) p f) (own := fOw σ) (sd := fSd σ) (pr := fPr σ) (am := fAm σ) (f := f) (mg := fMg σ) (v := v) n1 p2 hN k5 nr (Nat.le_refl nr)
    refine ⟨_, _, _, rfl, rfl, Rl_bat (mg := (bS (aT (fOw σ) (fSd σ) (fPr σ) (fAm σ) (fMg σ) p f) (fOw σ) (fSd σ) (fAm σ) f (fMg σ) v p nr).2.1) (f := f) (nr := nr) hi1 hn' hc h1 h2 h3 h4 h5 h6 (fun k i j q1 q2 q3 => ?_) (fun k i j q1 q2 q3 q4 q5 => ?_) (fun k i j q1 q2 q3 => ?_) (fun k i j q1 q2 q3 q4 q5 q6 => ?_) ?_ ?_ w2 x2 (by rw [(bS_8 n1 hN nr (Nat.le_refl nr)).1]; exact k3) (by rw [(bS_8 n1 hN nr (Nat.le_refl nr)).2]; exact k4) hbB hBB hBG (fun c hcc => ?_)⟩
    · rw [w4 k i j q1, a4'.1 k i j q2]
      exact fa k i j q3
    · rw [w5 k i j q1 q2, a4'.2 k i j q3 q4 q5, fa2]
    · rw [x4 k i j q1, m3.1 k i j q2]
      exact u1 k i j q1 q2 q3
    · rw [x5 k i j q1 q2 q3, m3.2 k i j q4 q5 q6]
      exact u2 k i j q3 q4 q5 q6
    · rw [w4 0 0 14 (by omega), a4'.1 0 0 14 (by omega)]
      exact fa14
    · rw [x4 0 0 19 (by omega), m3.1 0 0 19 (by omega)]
      exact u19
    · rw [(w3 c hcc).1, (w3 c hcc).2, (x3 c hcc).1, (x3 c hcc).2]
      exact ⟨rfl, rfl⟩
