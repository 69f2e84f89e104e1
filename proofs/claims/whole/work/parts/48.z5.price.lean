-- the price
def bst (v : Nat → Nat) : Nat → Int32 × Nat
  | 0 => (-1, 0)
  | p + 1 => if (bst v p).2 < v (p + 1) then (nI (p + 1), v (p + 1)) else bst v p
theorem bst_c (v : Nat → Nat) : ∀ n, (bst v n).1 = -1 ∨ ∃ p, 1 ≤ p ∧ p ≤ n ∧ (bst v n).1 = nI p := by
  intro n
  induction n with
  | zero => exact Or.inl rfl
  | succ n ih =>
    rw [bst]
    split
    · exact Or.inr ⟨n + 1, by omega, Nat.le_refl _, rfl⟩
    · rcases ih with h | ⟨p, h1, h2, h3⟩
      · exact Or.inl h
      · exact Or.inr ⟨p, h1, by omega, h3⟩
theorem bst_le {v : Nat → Nat} {B : Nat} (h : ∀ p, v p ≤ B) : ∀ n, (bst v n).2 ≤ B := by
  intro n
  induction n with
  | zero => exact Nat.zero_le B
  | succ n ih =>
    rw [bst]
    split
    · exact h _
    · exact ih
def vol (own sd pr am : Nat → Nat) (mg : (Nat → Nat) × (Nat → Nat)) (f : Nat → Nat) (nr p : Nat) : Nat := aV (aG own sd pr am mg p f nr)
theorem vol_le {own sd pr am f : Nat → Nat} {mg : (Nat → Nat) × (Nat → Nat)} {nr : Nat} (ha : ∀ k, k < nr → am (f k) ≤ 1000) (hnr : nr ≤ 16) (p : Nat) : vol own sd pr am mg f nr p ≤ 16000 := by
  have hBd := aG_Bd (own := own) (sd := sd) (pr := pr) (mg := mg) (p := p) (f := f) (nr := nr) ha nr (Nat.le_refl nr)
  have b1 := hBd.2.2.1
  have b2 := hBd.2.2.2
  unfold vol aV
  split
  · omega
  · omega
theorem q_vol {s : aS} {σ : fo_S} (hG : Ga s σ) (hB : aBd 16000 s) : q_Auction_volume σ = some (lN (aV s)) := by
  unfold q_Auction_volume
  have b1 := hB.2.2.1
  have b2 := hB.2.2.2
  have k : (lN s.2.2 < lN s.2.1) ↔ s.2.2 < s.2.1 := pk_lLT (by omega) (by omega)
  rw [hG.2.1, hG.2.2]
  unfold aV
  by_cases c : s.2.2 < s.2.1
  · rw [if_pos (k.mpr c), if_pos c]
  · rw [if_neg (fun q => c (k.mp q)), if_neg c]
theorem q_fp {own sd pr am f : Nat → Nat} {mg : (Nat → Nat) × (Nat → Nat)} {na nr : Nat} {σ : fo_S} (hna : na ≤ 8) (hnr : nr ≤ 16) (hN : ∀ k, k < nr → CdN na own sd pr am (f k)) (hmb : mgB na mg) (hQ : BcQ own sd pr am mg na nr f σ) : ∃ σ' : fo_S, q_Auction_findPrice σ 0 0 = some ((bst (vol own sd pr am mg f nr) 1000).1, σ') ∧ FGa σ' σ := by
  unfold q_Auction_findPrice
  obtain ⟨y, hy, hy1, hy2⟩ := fo_lp_for (b := q_Auction_findPrice_L9 0 0) 1000 (fun n s => s.1 = (bst (vol own sd pr am mg f nr) n).1 ∧ s.2.1 = lN (bst (vol own sd pr am mg f nr) n).2 ∧ s.2.2.1 = nI (n + 1) ∧ FGa s.2.2.2 σ) (fun y => y.1 = (bst (vol own sd pr am mg f nr) 1000).1 ∧ FGa y.2.2.2 σ) (by
    rintro n ⟨b, g, u, z⟩ hn ⟨h1, h2, h3, h4⟩
    simp only at h1 h2 h3 h4
    subst h1
    subst h2
    subst h3
    left
    unfold q_Auction_findPrice_L9
    have c1 : ¬ ((1000 : Int32) < nI (n + 1)) := by
      show ¬ (nI 1000 < nI (n + 1))
      rw [nI_ltI (by omega) (by omega)]
      omega
    obtain ⟨z', g1, g2, g3, g4⟩ := q_gth (p := n + 1) hna hnr (by omega) hN hmb (BcQ_f hQ h4)
    have hBd := aBd_m (aG_Bd (own := own) (sd := sd) (pr := pr) (mg := mg) (p := n + 1) (f := f) (nr := nr) (fun k hk => (hN k hk).2.2.2.2) nr (Nat.le_refl nr)) (show nr * 1000 ≤ 16000 by omega)
    have hv := q_vol g2 hBd
    have hle := vol_le (own := own) (sd := sd) (pr := pr) (am := am) (f := f) (mg := mg) (nr := nr) (fun k hk => (hN k hk).2.2.2.2) hnr
    have hb := bst_le hle n
    have hvn := hle (n + 1)
    unfold vol at hvn
    have kk : (lg_cmp (lN (aV (aG own sd pr am mg (n + 1) f nr))) (lN (bst (vol own sd pr am mg f nr) n).2) ≤ 0) ↔ aV (aG own sd pr am mg (n + 1) f nr) ≤ (bst (vol own sd pr am mg f nr) n).2 := by rw [lg_cmp_le, pk_lLE (by omega) (by omega)]
    simp only [if_neg c1, g1, Option.bind_some, hv, kk, nI_1]
    have e : bst (vol own sd pr am mg f nr) (n + 1) = if (bst (vol own sd pr am mg f nr) n).2 < aV (aG own sd pr am mg (n + 1) f nr) then (nI (n + 1), aV (aG own sd pr am mg (n + 1) f nr)) else bst (vol own sd pr am mg f nr) n := rfl
    rw [e]
    by_cases c2 : aV (aG own sd pr am mg (n + 1) f nr) ≤ (bst (vol own sd pr am mg f nr) n).2
    · rw [if_pos c2, if_neg (by omega)]
      exact ⟨_, rfl, rfl, rfl, rfl, FGa_t g4 h4⟩
    · rw [if_neg c2, if_pos (by omega)]
      exact ⟨_, rfl, rfl, rfl, rfl, FGa_t g4 h4⟩) (by
    rintro ⟨b, g, u, z⟩ ⟨h1, h2, h3, h4⟩
    simp only at h1 h2 h3 h4
    subst h3
    unfold q_Auction_findPrice_L9
    have c1 : ((1000 : Int32) < nI (1000 + 1)) := by decide
    simp only [if_pos c1]
    exact ⟨_, rfl, h1, h4⟩) (s0 := ((-1 : Int32), (0 : Int64), (1 : Int32), σ)) ⟨rfl, rfl, rfl, FGa_r σ⟩ (by omega)
  rw [hy]
  exact ⟨y.2.2.2, by rw [Option.bind_some, hy1], hy2⟩
theorem r_fp {own sd pr am f : Nat → Nat} {mg : (Nat → Nat) × (Nat → Nat)} {na nr : Nat} {τ : fo_S} (hna : na ≤ 8) (hnr : nr ≤ 16) (hN : ∀ k, k < nr → CdN na own sd pr am (f k)) (hinj : ∀ j k, j < nr → k < nr → f j = f k → j = k) (hmb : mgB na mg) (hQ : BcR own sd pr am mg na nr f τ) : ∃ y, fo_lp r_batch_L17 fo_FU ((-1 : Int32), (0 : Int64), (1 : Int32), τ) = some y ∧ y.1 = (bst (vol own sd pr am mg f nr) 1000).1 ∧ FGm y.2.2.2 τ := by
  refine fo_lp_for (b := r_batch_L17) 1000 (fun n s => s.1 = (bst (vol own sd pr am mg f nr) n).1 ∧ s.2.1 = lN (bst (vol own sd pr am mg f nr) n).2 ∧ s.2.2.1 = nI (n + 1) ∧ FGm s.2.2.2 τ) _ ?_ ?_ ⟨rfl, rfl, rfl, FGm_r τ⟩ (by omega)
  · rintro n ⟨b, g, u, z⟩ hn ⟨h1, h2, h3, h4⟩
    simp only at h1 h2 h3 h4
    subst h1
    subst h2
    subst h3
    left
    unfold r_batch_L17 r_batch_J46
    have c1 : ¬ ((1000 : Int32) < nI (n + 1)) := by
      show ¬ (nI 1000 < nI (n + 1))
      rw [nI_ltI (by omega) (by omega)]
      omega
    obtain ⟨z', g1, g2, g3⟩ := r_mkt (p := n + 1) hna hnr (by omega) hN hinj hmb (BcR_f hQ h4)
    have hle := vol_le (own := own) (sd := sd) (pr := pr) (am := am) (f := f) (mg := mg) (nr := nr) (fun k hk => (hN k hk).2.2.2.2) hnr
    have hb := bst_le hle n
    have hvn := hle (n + 1)
    unfold vol at hvn
    have kk : (lg_cmp (lN (aV (aG own sd pr am mg (n + 1) f nr))) (lN (bst (vol own sd pr am mg f nr) n).2) ≤ 0) ↔ aV (aG own sd pr am mg (n + 1) f nr) ≤ (bst (vol own sd pr am mg f nr) n).2 := by rw [lg_cmp_le, pk_lLE (by omega) (by omega)]
    simp only [if_neg c1, g1, Option.bind_some, kk, nI_1]
    have e : bst (vol own sd pr am mg f nr) (n + 1) = if (bst (vol own sd pr am mg f nr) n).2 < aV (aG own sd pr am mg (n + 1) f nr) then (nI (n + 1), aV (aG own sd pr am mg (n + 1) f nr)) else bst (vol own sd pr am mg f nr) n := rfl
    rw [e]
    by_cases c2 : aV (aG own sd pr am mg (n + 1) f nr) ≤ (bst (vol own sd pr am mg f nr) n).2
    · simp only [if_pos c2]
      rw [if_neg (by omega)]
      exact ⟨_, rfl, rfl, rfl, rfl, FGm_t g3 h4⟩
    · simp only [if_neg c2]
      rw [if_pos (by omega)]
      exact ⟨_, rfl, rfl, rfl, rfl, FGm_t g3 h4⟩
  · rintro ⟨b, g, u, z⟩ ⟨h1, h2, h3, h4⟩
    simp only at h1 h2 h3 h4
    subst h3
    unfold r_batch_L17
    have c1 : ((1000 : Int32) < nI (1000 + 1)) := by decide
    simp only [if_pos c1]
    exact ⟨_, rfl, h1, h4⟩
