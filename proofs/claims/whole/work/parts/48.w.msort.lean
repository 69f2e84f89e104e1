-- the model's row
def Rp (n : Nat) (f : Nat → Nat) (τ : fo_S) : Prop := τ.1 0 0 17 = nI n ∧ ∀ k, k < n → τ.1 11 0 k = nI (f k)
def F11 (τ' τ : fo_S) : Prop := τ'.2 = τ.2 ∧ ∀ k i j, ¬ (k = 0 ∧ i = 0 ∧ j = 17) → ¬ (k = 11 ∧ i = 0) → τ'.1 k i j = τ.1 k i j
theorem F11_r (σ : fo_S) : F11 σ σ := ⟨rfl, fun _ _ _ _ _ => rfl⟩
theorem F11_t {σ σ' σ'' : fo_S} (h : F11 σ'' σ') (h' : F11 σ' σ) : F11 σ'' σ := ⟨h.1.trans h'.1, fun k i j h1 h2 => (h.2 k i j h1 h2).trans (h'.2 k i j h1 h2)⟩
theorem F11_p (σ : fo_S) (j : Nat) (v : Int32) : F11 (fo_pI σ 11 0 j v) σ := ⟨rfl, fun k i j' h1 h2 => by rw [e_pI, if_neg (fun q => h2 ⟨q.1, q.2.1⟩)]⟩
theorem F11_l (σ : fo_S) (v : Int32) : F11 (fo_pI σ 0 0 17 v) σ := ⟨rfl, fun k i j' h1 h2 => by rw [e_pI, if_neg h1]⟩
theorem r_srt {nc : Nat} {O : Nat → Bool} {K : Nat → Int} {rk : Nat → Int32} {a1 : Int32} {τ : fo_S} (hnc : nc ≤ 16) (h8 : τ.1 0 0 8 = nI nc) (hO : ∀ c, c < nc → τ.1 6 0 c = b1 (O c)) (hrk : ∀ z, F11 z τ → ∀ c, c < nc → O c = true → r_rankOf z a1 (nI c) = some (rk c)) (hK : ∀ a b, a < nc → b < nc → O a = true → O b = true → ((rk a ≤ rk b) ↔ K a ≤ K b)) : ∃ y, fo_lp (r_order_L34 a1) fo_FU ((0 : Int32), fo_pI τ 0 0 17 (0 : Int32)) = some y ∧ Rp (fo_n O nc) (srt K (oR O nc) (fo_n O nc)) y.2 ∧ F11 y.2 τ := by
  have hg := oR_Rk O nc
  have inner : ∀ (c : Nat) (f : Nat → Nat) (n : Nat) (z zz : fo_S), n < 16 → c < nc → O c = true → (∀ k, k < n → f k < nc ∧ O (f k) = true) → Rp n f z → F11 z τ → ∃ y, fo_lp (r_order_L59 a1 (nI c, zz)) fo_FU (nI n, z) = some y ∧ ∃ p, p ≤ n ∧ p = ipos K f c n ∧ y.1 = nI p ∧ y.2.1 0 0 17 = nI n ∧ (∀ k, k < p → y.2.1 11 0 k = nI (f k)) ∧ (∀ k, p < k → k ≤ n → y.2.1 11 0 k = nI (f (k - 1))) ∧ F11 y.2 τ := by
    intro c f n z zz hn hc hOc hf hz hzF
    refine fo_lp_dec (b := r_order_L59 a1 (nI c, zz)) (fun p s => p ≤ n ∧ s.1 = nI p ∧ s.2.1 0 0 17 = nI n ∧ (∀ k, k < p → s.2.1 11 0 k = nI (f k)) ∧ (∀ k, p < k → k ≤ n → s.2.1 11 0 k = nI (f (k - 1))) ∧ F11 s.2 τ ∧ ipos K f c n = ipos K f c p) _ ?_ fo_FU n (nI n, z) ⟨Nat.le_refl n, rfl, hz.1, hz.2, fun k h1 h2 => absurd h1 (by omega), hzF, rfl⟩ (fo_FU_gt (by omega))
    rintro p ⟨x, w⟩ ⟨h1, h2, h3, h4, h5, h6, h7⟩
    simp only at h2 h3 h4 h5 h6
    subst h2
    unfold r_order_L59
    cases p with
    | zero =>
      right
      have : nI 0 ≤ 0 := by rw [nI_0]; decide
      simp only [if_pos this]
      exact ⟨_, rfl, 0, by omega, h7.symm, rfl, h3, h4, h5, h6⟩
    | succ p =>
      have c0 : ¬ (nI (p + 1) ≤ 0) := by
        rw [← nI_0]
        exact f_nge (by omega) (by omega)
      obtain ⟨f1, f2⟩ := hf p (by omega)
      simp only [if_neg c0, nI_pred, if_pos (f_vi (c := p) (N := 16) (by omega) (by omega)), if_pos (f_vi (c := p + 1) (N := 16) (by omega) (by omega)), f_cl (show p < 1000000 by omega), f_cl (show p + 1 < 1000000 by omega), h4 p (by omega), hrk w h6 _ f1 f2, hrk w h6 _ hc hOc, Option.bind_some, hK _ _ f1 hc f2 hOc]
      by_cases c1 : K (f p) ≤ K c
      · right
        simp only [if_pos c1]
        refine ⟨_, rfl, p + 1, h1, ?_, rfl, h3, h4, h5, h6⟩
        rw [h7, ipos, if_neg (by omega)]
      · left
        simp only [if_neg c1, pk_m1]
        refine ⟨_, p, rfl, by omega, by omega, rfl, ?_, fun k hk => ?_, fun k hk1 hk2 => ?_, F11_t (F11_p _ _ _) h6, ?_⟩
        · show (fo_pI w 11 0 (p + 1) (nI (f p))).1 0 0 17 = _
          rw [e_pI, if_neg (by omega)]
          exact h3
        · show (fo_pI w 11 0 (p + 1) (nI (f p))).1 11 0 k = _
          rw [e_pI, if_neg (by omega)]
          exact h4 k (by omega)
        · show (fo_pI w 11 0 (p + 1) (nI (f p))).1 11 0 k = _
          rw [e_pI]
          by_cases k1 : k = p + 1
          · rw [if_pos ⟨rfl, rfl, k1⟩, k1, Nat.add_sub_cancel]
          · rw [if_neg (fun q => k1 q.2.2)]
            exact h5 k (by omega) hk2
        · rw [h7, ipos, if_pos (by omega)]
  obtain ⟨y, hy, hy1, hy2⟩ := fo_lp_for (b := r_order_L34 a1) nc (fun c s => s.1 = nI c ∧ Rp (fo_n O c) (srt K (oR O nc) (fo_n O c)) s.2 ∧ F11 s.2 τ) (fun y => Rp (fo_n O nc) (srt K (oR O nc) (fo_n O nc)) y.2 ∧ F11 y.2 τ) (by
    rintro c ⟨x, z⟩ hc ⟨h1, h2, h3⟩
    simp only at h1 h2 h3
    subst h1
    left
    unfold r_order_L34
    have e8 : z.1 0 0 8 = nI nc := by rw [h3.2 0 0 8 (by omega) (by omega)]; exact h8
    have e6 : z.1 6 0 c = b1 (O c) := by rw [h3.2 6 0 c (by omega) (by omega)]; exact hO c hc
    simp only [e8, if_neg (f_nge hc (show nc < 1000000 by omega)), if_pos (f_vi (c := c) (N := 16) (by omega) (by omega)), f_cl (show c < 1000000 by omega), e6, b1_0, nI_1]
    cases hOc : O c with
    | false =>
      simp only [if_true]
      have e : fo_n O (c + 1) = fo_n O c := by rw [fo_n, hOc]; rfl
      exact ⟨_, rfl, rfl, by rw [e]; exact h2, h3⟩
    | true =>
      simp only [Bool.true_eq_false, if_false]
      have e : fo_n O (c + 1) = fo_n O c + 1 := by rw [fo_n, if_pos hOc]
      have lt := fo_n_st hc hOc
      have le := fo_n_le O c
      have hs := srt_Rk (K := K) hg (fo_n O c) (by omega)
      have hcc : srt K (oR O nc) (fo_n O c) (fo_n O c) = c := by
        rw [srt_hi _ _ (Nat.le_refl _)]
        exact oR_at hc hOc
      obtain ⟨y, i1, p, i2, i3, i4, i5, i6, i7, i8⟩ := inner c (srt K (oR O nc) (fo_n O c)) (fo_n O c) z z (by omega) hc hOc (fun k hk => hs.1 k (by omega)) h2 h3
      rw [h2.1, i1]
      simp only [Option.bind_some, i4, if_pos (f_vi (c := p) (N := 16) (by omega) (by omega)), f_cl (show p < 1000000 by omega)]
      have e17 : (fo_pI y.2 11 0 p (nI c)).1 0 0 17 = nI (fo_n O c) := by
        rw [e_pI, if_neg (by omega)]
        exact i5
      rw [e17, nI_1]
      refine ⟨_, rfl, rfl, ⟨?_, fun k hk => ?_⟩, F11_t (F11_l _ _) (F11_t (F11_p _ _ _) i8)⟩
      · show (fo_pI (fo_pI y.2 11 0 p (nI c)) 0 0 17 (nI (fo_n O c + 1))).1 0 0 17 = _
        rw [e_pI, if_pos ⟨rfl, rfl, rfl⟩, e]
      · show (fo_pI (fo_pI y.2 11 0 p (nI c)) 0 0 17 (nI (fo_n O c + 1))).1 11 0 k = _
        rw [e_pI, if_neg (by omega), e_pI, e, srt_s, hcc, ← i3]
        rw [e] at hk
        generalize fo_n O c = n at *
        by_cases k1 : k = p
        · rw [if_pos ⟨rfl, rfl, k1⟩]
          unfold mvp
          rw [if_pos k1, hcc]
        · rw [if_neg (fun q => k1 q.2.2)]
          by_cases k2 : k < p
          · rw [i6 k k2]
            unfold mvp
            rw [if_neg k1, if_pos k2, if_pos (by omega)]
          · rw [i7 k (by omega) (by omega)]
            unfold mvp
            rw [if_neg k1, if_neg k2, if_pos (by omega)]) (by
    rintro ⟨x, z⟩ ⟨h1, h2, h3⟩
    simp only at h1 h2 h3
    subst h1
    unfold r_order_L34
    have e8 : z.1 0 0 8 = nI nc := by rw [h3.2 0 0 8 (by omega) (by omega)]; exact h8
    simp only [e8, if_pos (f_ge (Nat.le_refl nc) (show nc < 1000000 by omega))]
    exact ⟨_, rfl, h2, h3⟩) (s0 := ((0 : Int32), fo_pI τ 0 0 17 (0 : Int32))) ⟨rfl, ⟨by rw [e_pI, if_pos ⟨rfl, rfl, rfl⟩]; rfl, fun k hk => absurd hk (Nat.not_lt_zero k)⟩, F11_l _ _⟩ (by omega)
  exact ⟨y, hy, hy1, hy2⟩
