theorem r_cpr {τ : fo_S} {nr : Nat} (hnr : nr ≤ 16) (h : τ.1 0 0 17 = nI nr) : ∃ τ' : fo_S, fo_lp r_play_L12 fo_FU ((0 : Int32), τ) = some (nI nr, τ') ∧ τ'.2 = τ.2 ∧ ∀ k i j, τ'.1 k i j = if k = 14 ∧ i = 0 ∧ j < nr then τ.1 11 0 j else τ.1 k i j := by
  obtain ⟨y, hy, ⟨hy1, hy2⟩⟩ := fo_lp_inv (b := r_play_L12) (fun s => ∃ n, n ≤ nr ∧ s.1 = nI n ∧ s.2.2 = τ.2 ∧ ∀ k i j, s.2.1 k i j = if k = 14 ∧ i = 0 ∧ j < n then τ.1 11 0 j else τ.1 k i j) (fun s => nr - s.1.toNatClampNeg) (fun y => y.1 = nI nr ∧ y.2.2 = τ.2 ∧ ∀ k i j, y.2.1 k i j = if k = 14 ∧ i = 0 ∧ j < nr then τ.1 11 0 j else τ.1 k i j) (by
    rintro ⟨x, z⟩ ⟨n, hn, hx, h1, h2⟩
    simp only at hx h1 h2
    subst hx
    unfold r_play_L12
    have h17 : z.1 0 0 17 = nI nr := by rw [h2]; simpa using h
    simp only [h17]
    by_cases hnn : n = nr
    · subst hnn
      right
      exact ⟨(nI n, z), by simp only [if_pos (f_ge (Nat.le_refl n) (by omega))], rfl, h1, h2⟩
    · left
      have hlt : n < nr := by omega
      refine ⟨_, by simp only [if_neg (f_nge hlt (by omega)), if_pos (f_vi (c := n) (N := 16) (by omega) (by omega)), f_cl (show n < 1000000 by omega), nI_1]; rfl, ⟨n + 1, hlt, rfl, h1, fun k i j => ?_⟩, ?_⟩
      · simp only [e_pI, h2]
        by_cases k14 : k = 14
        · subst k14
          by_cases hi : i = 0
          · subst hi
            by_cases hj : j = n
            · subst hj
              simp
            · have : (j < n + 1) ↔ j < n := by omega
              simp [hj, this]
          · simp [hi]
        · simp [k14]
      · simp only [f_cl (show n < 1000000 by omega), f_cl (show n + 1 < 1000000 by omega)]
        omega) fo_FU (0, τ) ⟨0, by omega, rfl, rfl, fun k i j => by simp⟩ (fo_FU_gt (by simp only [sb_cl0]; omega))
  refine ⟨y.2, ?_, hy2⟩
  rw [hy, ← hy1]
theorem r_beg {τ : fo_S} {nc : Nat} (hnc : nc ≤ 16) (h : τ.1 0 0 8 = nI nc) : ∃ τ' : fo_S, r_begin τ = some τ' ∧ (∀ k i j, τ'.1 k i j = if k = 12 ∧ i = 0 ∧ j < nc then 0 else if k = 0 ∧ i = 0 ∧ j = 19 then 1 else τ.1 k i j) ∧ ∀ k i j, τ'.2 k i j = if k = 13 ∧ i = 0 ∧ j < nc then 0 else τ.2 k i j := by
  unfold r_begin
  obtain ⟨y, hy, ⟨hy1, hy2⟩⟩ := fo_lp_inv (b := r_begin_L7) (fun s => ∃ n, n ≤ nc ∧ s.1 = nI n ∧ (∀ k i j, s.2.1 k i j = if k = 12 ∧ i = 0 ∧ j < n then 0 else if k = 0 ∧ i = 0 ∧ j = 19 then 1 else τ.1 k i j) ∧ ∀ k i j, s.2.2 k i j = if k = 13 ∧ i = 0 ∧ j < n then 0 else τ.2 k i j) (fun s => nc - s.1.toNatClampNeg) (fun y => y.1 = nI nc ∧ (∀ k i j, y.2.1 k i j = if k = 12 ∧ i = 0 ∧ j < nc then 0 else if k = 0 ∧ i = 0 ∧ j = 19 then 1 else τ.1 k i j) ∧ ∀ k i j, y.2.2 k i j = if k = 13 ∧ i = 0 ∧ j < nc then 0 else τ.2 k i j) (by
    rintro ⟨x, z⟩ ⟨n, hn, hx, h1, h2⟩
    simp only at hx h1 h2
    subst hx
    unfold r_begin_L7
    have h8 : z.1 0 0 8 = nI nc := by rw [h1]; simpa using h
    simp only [h8]
    by_cases hnn : n = nc
    · subst hnn
      right
      exact ⟨(nI n, z), by simp only [if_pos (f_ge (Nat.le_refl n) (by omega))], rfl, h1, h2⟩
    · left
      have hlt : n < nc := by omega
      refine ⟨_, by simp only [if_neg (f_nge hlt (by omega)), if_pos (f_vi (c := n) (N := 16) (by omega) (by omega)), f_cl (show n < 1000000 by omega), nI_1]; rfl, ⟨n + 1, hlt, rfl, fun k i j => ?_, fun k i j => ?_⟩, ?_⟩
      · simp only [e_pI, e_pJ1, h1]
        by_cases k12 : k = 12
        · subst k12
          by_cases hi : i = 0
          · subst hi
            by_cases hj : j = n
            · subst hj
              simp
            · have : (j < n + 1) ↔ j < n := by omega
              simp [hj, this]
          · simp [hi]
        · simp [k12]
      · simp only [e_pJ, e_pI2, h2]
        by_cases k13 : k = 13
        · subst k13
          by_cases hi : i = 0
          · subst hi
            by_cases hj : j = n
            · subst hj
              simp
            · have : (j < n + 1) ↔ j < n := by omega
              simp [hj, this]
          · simp [hi]
        · simp [k13]
      · simp only [f_cl (show n < 1000000 by omega), f_cl (show n + 1 < 1000000 by omega)]
        omega) fo_FU (0, fo_pI τ 0 0 19 1) ⟨0, by omega, rfl, fun k i j => by simp [e_pI], fun k i j => by simp [e_pI2]⟩ (fo_FU_gt (by simp only [sb_cl0]; omega))
  rw [hy]
  exact ⟨y.2, rfl, hy2⟩
theorem r_bk {τ : fo_S} {na : Nat} (hna : na ≤ 8) (h : τ.1 0 0 0 = nI na) : ∃ τ' : fo_S, fo_lp r_play_L114 fo_FU ((0 : Int32), τ) = some (nI na, τ') ∧ τ'.1 = τ.1 ∧ ∀ k i j, τ'.2 k i j = if k = 1 ∧ i = 0 ∧ j < na then τ.2 15 0 j else if k = 2 ∧ i = 0 ∧ j < na then τ.2 16 0 j else τ.2 k i j := by
  obtain ⟨y, hy, ⟨hy1, hy2⟩⟩ := fo_lp_inv (b := r_play_L114) (fun s => ∃ n, n ≤ na ∧ s.1 = nI n ∧ s.2.1 = τ.1 ∧ ∀ k i j, s.2.2 k i j = if k = 1 ∧ i = 0 ∧ j < n then τ.2 15 0 j else if k = 2 ∧ i = 0 ∧ j < n then τ.2 16 0 j else τ.2 k i j) (fun s => na - s.1.toNatClampNeg) (fun y => y.1 = nI na ∧ y.2.1 = τ.1 ∧ ∀ k i j, y.2.2 k i j = if k = 1 ∧ i = 0 ∧ j < na then τ.2 15 0 j else if k = 2 ∧ i = 0 ∧ j < na then τ.2 16 0 j else τ.2 k i j) (by
    rintro ⟨x, z⟩ ⟨n, hn, hx, h1, h2⟩
    simp only at hx h1 h2
    subst hx
    unfold r_play_L114
    simp only [h1, h]
    by_cases hnn : n = na
    · subst hnn
      right
      exact ⟨(nI n, z), by simp only [if_pos (f_ge (Nat.le_refl n) (by omega))], rfl, h1, h2⟩
    · left
      have hlt : n < na := by omega
      refine ⟨_, by simp only [if_neg (f_nge hlt (by omega)), if_pos (f_vi (c := n) (N := 8) (by omega) (by omega)), f_cl (show n < 1000000 by omega), nI_1]; rfl, ⟨n + 1, hlt, rfl, h1, fun k i j => ?_⟩, ?_⟩
      · simp only [e_pJ, h2]
        by_cases k15 : k = 1
        · subst k15
          by_cases hi : i = 0
          · subst hi
            by_cases hj : j = n
            · subst hj
              simp
            · have : (j < n + 1) ↔ j < n := by omega
              simp [hj, this]
          · simp [hi]
        · by_cases k16 : k = 2
          · subst k16
            by_cases hi : i = 0
            · subst hi
              by_cases hj : j = n
              · subst hj
                simp
              · have : (j < n + 1) ↔ j < n := by omega
                simp [hj, this]
            · simp [hi]
          · simp [k15, k16]
      · simp only [f_cl (show n < 1000000 by omega), f_cl (show n + 1 < 1000000 by omega)]
        omega) fo_FU (0, τ) ⟨0, by omega, rfl, rfl, fun k i j => by simp⟩ (fo_FU_gt (by simp only [sb_cl0]; omega))
  refine ⟨y.2, ?_, hy2⟩
  rw [hy, ← hy1]
/-- the model's own end of play: what was tried becomes what is done -/
theorem r_dn {f : Nat → Nat} {nr : Nat} {o : Nat → Option Nat} {am : Nat → Nat} {τ : fo_S} (hnr : nr ≤ 16) (h : τ.1 0 0 17 = nI nr) (hrow : ∀ p, p < nr → τ.1 11 0 p = nI (f p) ∧ f p < 16) (hinj : ∀ p q, p < nr → q < nr → f p = f q → p = q) (ham : ∀ p, p < nr → 1 ≤ am (f p) ∧ am (f p) ≤ 1000) (hout : ∀ p, p < nr → τ.1 17 0 (f p) = oI am (f p) (o p) ∧ τ.2 18 0 (f p) = oJ (o p)) :
    ∃ τ' : fo_S, fo_lp r_play_L50 fo_FU ((0 : Int32), (0 : Int32), τ) = some (nI (fo_n (fun p => (o p).isSome) nr), nI nr, τ') ∧ (∀ k i j, ¬ k = 12 → τ'.1 k i j = τ.1 k i j) ∧ (∀ k i j, ¬ k = 13 → τ'.2 k i j = τ.2 k i j) ∧ (∀ p, p < nr → τ'.1 12 0 (f p) = oI am (f p) (o p) ∧ τ'.2 13 0 (f p) = oJ (o p)) ∧ ∀ c, (∀ p, p < nr → ¬ f p = c) → τ'.1 12 0 c = τ.1 12 0 c ∧ τ'.2 13 0 c = τ.2 13 0 c := by
  obtain ⟨y, hy, ⟨hy1, hy1', hy2⟩⟩ := fo_lp_inv (b := r_play_L50) (fun s => ∃ n, n ≤ nr ∧ s.1 = nI (fo_n (fun p => (o p).isSome) n) ∧ s.2.1 = nI n ∧ (∀ k i j, ¬ k = 12 → s.2.2.1 k i j = τ.1 k i j) ∧ (∀ k i j, ¬ k = 13 → s.2.2.2 k i j = τ.2 k i j) ∧ (∀ p, p < n → s.2.2.1 12 0 (f p) = oI am (f p) (o p) ∧ s.2.2.2 13 0 (f p) = oJ (o p)) ∧ ∀ c, (∀ p, p < n → ¬ f p = c) → s.2.2.1 12 0 c = τ.1 12 0 c ∧ s.2.2.2 13 0 c = τ.2 13 0 c) (fun s => nr - s.2.1.toNatClampNeg) (fun y => y.1 = nI (fo_n (fun p => (o p).isSome) nr) ∧ y.2.1 = nI nr ∧ (∀ k i j, ¬ k = 12 → y.2.2.1 k i j = τ.1 k i j) ∧ (∀ k i j, ¬ k = 13 → y.2.2.2 k i j = τ.2 k i j) ∧ (∀ p, p < nr → y.2.2.1 12 0 (f p) = oI am (f p) (o p) ∧ y.2.2.2 13 0 (f p) = oJ (o p)) ∧ ∀ c, (∀ p, p < nr → ¬ f p = c) → y.2.2.1 12 0 c = τ.1 12 0 c ∧ y.2.2.2 13 0 c = τ.2 13 0 c) (by
    rintro ⟨x, x2, z⟩ ⟨n, hn, hx, hx2, h1, h2, h3, h4⟩
    simp only at hx hx2 h1 h2 h3 h4
    subst hx
    subst hx2
    unfold r_play_L50
    simp only [h1 0 0 17 (by omega), h]
    by_cases hnn : n = nr
    · subst hnn
      right
      exact ⟨_, by simp only [if_pos (f_ge (Nat.le_refl n) (show n < 1000000 by omega))]; rfl, rfl, rfl, h1, h2, h3, h4⟩
    · left
      have hlt : n < nr := by omega
      obtain ⟨r1, r2⟩ := hrow n hlt
      obtain ⟨o1, o2⟩ := hout n hlt
      have hfr : ∀ p, p < n → ¬ f p = f n := fun p hp q => by have := hinj p n (by omega) hlt q; omega
      have hm3 : nr - (nI (n + 1)).toNatClampNeg < nr - n := by
        rw [f_cl (show n + 1 < 1000000 by omega)]
        omega
      simp only [if_neg (f_nge hlt (show nr < 1000000 by omega)), if_pos (f_vi (c := n) (N := 16) (by omega) (by omega)), f_cl (show n < 1000000 by omega), h1 11 0 n (by omega), r1, if_pos (f_vi (c := f n) (N := 16) r2 (by omega)), f_cl (show f n < 1000000 by omega), h1 17 0 (f n) (by omega), o1, e_pI2, h2 18 0 (f n) (by omega), o2, nI_1]
      obtain ⟨z', hz'⟩ : ∃ w, w = fo_pJ (fo_pI z 12 0 (f n) (oI am (f n) (o n))) 13 0 (f n) (oJ (o n)) := ⟨_, rfl⟩
      rw [← hz']
      have y1 : ∀ k i j, z'.1 k i j = if k = 12 ∧ i = 0 ∧ j = f n then oI am (f n) (o n) else z.1 k i j := by
        intro k i j
        rw [hz']
        rfl
      have y2 : ∀ k i j, z'.2 k i j = if k = 13 ∧ i = 0 ∧ j = f n then oJ (o n) else z.2 k i j := by
        intro k i j
        rw [hz']
        rfl
      have y12 : z'.1 12 0 (f n) = oI am (f n) (o n) := by rw [y1]; simp
      rw [y12]
      have hC : fo_n (fun p => (o p).isSome) (n + 1) = fo_n (fun p => (o p).isSome) n + (if (o n).isSome then 1 else 0) := rfl
      have fin : ∀ x : Int32, x = nI (fo_n (fun p => (o p).isSome) (n + 1)) → ∃ s', some (Sum.inl (x, nI (n + 1), z') : (Int32 × Int32 × fo_S) ⊕ (Int32 × Int32 × fo_S)) = some (.inl s') ∧ (∃ n, n ≤ nr ∧ s'.1 = nI (fo_n (fun p => (o p).isSome) n) ∧ s'.2.1 = nI n ∧ (∀ k i j, ¬ k = 12 → s'.2.2.1 k i j = τ.1 k i j) ∧ (∀ k i j, ¬ k = 13 → s'.2.2.2 k i j = τ.2 k i j) ∧ (∀ p, p < n → s'.2.2.1 12 0 (f p) = oI am (f p) (o p) ∧ s'.2.2.2 13 0 (f p) = oJ (o p)) ∧ ∀ c, (∀ p, p < n → ¬ f p = c) → s'.2.2.1 12 0 c = τ.1 12 0 c ∧ s'.2.2.2 13 0 c = τ.2 13 0 c) ∧ nr - s'.2.1.toNatClampNeg < nr - n := by
        intro x hx
        refine ⟨_, rfl, ⟨n + 1, hlt, hx, rfl, fun k i j hk => by show z'.1 k i j = _; rw [y1, if_neg (fun q => hk q.1)]; exact h1 k i j hk, fun k i j hk => by show z'.2 k i j = _; rw [y2, if_neg (fun q => hk q.1)]; exact h2 k i j hk, fun p hp => ?_, fun c hc => ?_⟩, hm3⟩
        · by_cases hpn : p = n
          · subst hpn
            exact ⟨by show z'.1 12 0 (f p) = _; rw [y1]; simp, by show z'.2 13 0 (f p) = _; rw [y2]; simp⟩
          · have := h3 p (by omega)
            have hne := hfr p (by omega)
            exact ⟨by show z'.1 12 0 (f p) = _; rw [y1, if_neg (fun q => hne q.2.2)]; exact this.1, by show z'.2 13 0 (f p) = _; rw [y2, if_neg (fun q => hne q.2.2)]; exact this.2⟩
        · have := h4 c (fun p hp => hc p (by omega))
          have hne : ¬ c = f n := fun q => hc n (by omega) q.symm
          exact ⟨by show z'.1 12 0 c = _; rw [y1, if_neg (fun q => hne q.2.2)]; exact this.1, by show z'.2 13 0 c = _; rw [y2, if_neg (fun q => hne q.2.2)]; exact this.2⟩
      cases ho : o n with
      | none =>
        rw [ho] at hC
        have d : oI am (f n) none ≤ 0 := by show (0 : Int32) ≤ 0; decide
        rw [if_pos d]
        exact fin _ (by rw [hC]; exact Int32.add_zero _)
      | some v =>
        rw [ho] at hC
        obtain ⟨a1, a2⟩ := ham n hlt
        have d : ¬ oI am (f n) (some v) ≤ 0 := by show ¬ nI (am (f n)) ≤ 0; exact nI_nle (by omega) (by omega)
        rw [if_neg d]
        exact fin _ (by rw [hC]; rfl)) fo_FU (0, 0, τ) ⟨0, by omega, rfl, rfl, fun _ _ _ _ => rfl, fun _ _ _ _ => rfl, fun p hp => absurd hp (Nat.not_lt_zero p), fun _ _ => ⟨rfl, rfl⟩⟩ (fo_FU_gt (by simp only [sb_cl0]; omega))
  refine ⟨y.2.2, ?_, hy2⟩
  rw [hy, ← hy1, ← hy1']
