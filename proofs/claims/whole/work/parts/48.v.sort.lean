/-- where c goes behind a row's first p -/
def ipos (K : Nat → Int) (f : Nat → Nat) (c : Nat) : Nat → Nat
  | 0 => 0
  | p + 1 => if K c < K (f p) then ipos K f c p else p + 1
theorem ipos_le (K : Nat → Int) (f : Nat → Nat) (c : Nat) : ∀ p, ipos K f c p ≤ p := by
  intro p
  induction p with
  | zero => exact Nat.le_refl 0
  | succ p ih =>
    rw [ipos]
    split
    · omega
    · exact Nat.le_refl _
/-- sorted up to i, by insertion -/
def srt (K : Nat → Int) (g : Nat → Nat) : Nat → Nat → Nat
  | 0 => g
  | i + 1 => fun k => srt K g i (mvp i (ipos K (srt K g i) (srt K g i i) i) k)
theorem srt_s (K : Nat → Int) (g : Nat → Nat) (i k : Nat) : srt K g (i + 1) k = srt K g i (mvp i (ipos K (srt K g i) (srt K g i i) i) k) := rfl
theorem mvp_hi {i p k : Nat} (hp : p ≤ i) (hk : i < k) : mvp i p k = k := by
  unfold mvp
  rw [if_neg (by omega), if_neg (by omega), if_neg (by omega)]
theorem srt_hi {K : Nat → Int} {g : Nat → Nat} : ∀ i k, i ≤ k → srt K g i k = g k := by
  intro i
  induction i with
  | zero => intro k _; rfl
  | succ i ih =>
    intro k hk
    rw [srt_s, mvp_hi (ipos_le _ _ _ _) (by omega)]
    exact ih k (by omega)
theorem srt_Rk {nc n : Nat} {O : Nat → Bool} {K : Nat → Int} {g : Nat → Nat} (h : Rk nc O n g) : ∀ i, i ≤ n → Rk nc O n (srt K g i) := by
  intro i
  induction i with
  | zero => intro _; exact h
  | succ i ih =>
    intro hi
    have g1 := ih (by omega)
    have hp := ipos_le K (srt K g i) (srt K g i i) i
    refine ⟨fun k hk => ?_, fun j k hj hk e => ?_⟩
    · rw [srt_s]
      exact g1.1 _ (mvp_lt (by omega) (by omega) hk)
    · rw [srt_s, srt_s] at e
      exact mvp_inj (g1.2 _ _ (mvp_lt (by omega) (by omega) hj) (mvp_lt (by omega) (by omega) hk) e)
theorem srt_1 {K : Nat → Int} {g : Nat → Nat} (k : Nat) : srt K g 1 k = g k := by
  rw [srt_s]
  show g (mvp 0 0 k) = g k
  by_cases hk : k = 0
  · subst hk
    rfl
  · rw [mvp_hi (Nat.le_refl 0) (by omega)]
theorem srt_0 {K : Nat → Int} {g : Nat → Nat} (h : ∀ a b, K a = K b) : ∀ i k, srt K g i k = g k := by
  intro i
  induction i with
  | zero => intro k; rfl
  | succ i ih =>
    intro k
    have e : ipos K (srt K g i) (srt K g i i) i = i := by
      cases i with
      | zero => rfl
      | succ i =>
        rw [ipos, if_neg]
        have := h (srt K g (i + 1) (i + 1)) (srt K g (i + 1) i)
        omega
    rw [srt_s, e, ih]
    unfold mvp
    by_cases h1 : k = i
    · rw [if_pos h1, h1]
    · rw [if_neg h1]
      by_cases h2 : k < i
      · rw [if_pos h2, if_pos h2]
      · rw [if_neg h2, if_neg (by omega)]
/-- the class's row while the one at i goes down to p -/
def dnR (f : Nat → Nat) (i p k : Nat) : Nat := f (mvp i p k)
theorem q_srt {K : Nat → Int} {g : Nat → Nat} {n : Nat} {σ : fo_S} (hn : n ≤ 16) (h : Rq n g σ) (hg : ∀ k, k < n → g k < 16) (hK : ∀ k, k < n → (σ.1 7 0 (g k)).toInt = K (g k)) : ∃ σ' : fo_S, q_Row_sortBy σ 0 = some σ' ∧ Rq n (srt K g n) σ' ∧ F56 σ' σ := by
  unfold q_Row_sortBy
  by_cases hn0 : n = 0
  · subst hn0
    refine ⟨σ, ?_, h, F56_r σ⟩
    have : fo_lp (q_Row_sortBy_L2 0) fo_FU ((1 : Int32), σ) = some ((1 : Int32), σ) := fo_lp_run (fun _ => ((1 : Int32), σ)) 0 _ (fun n hn => absurd hn (Nat.not_lt_zero n)) (by
      unfold q_Row_sortBy_L2
      have : nI 0 ≤ (1 : Int32) := f_ge (b := 1) (by omega) (by omega)
      simp only [h.1, if_pos this]) fo_FU (fo_FU_gt (by omega))
    rw [this]
    rfl
  have hsr : ∀ i, i ≤ n → ∀ k, k < n → ∃ k', k' < n ∧ srt K g i k = g k' := by
    intro i
    induction i with
    | zero => intro _ k hk; exact ⟨k, hk, rfl⟩
    | succ i ih =>
      intro hi k hk
      rw [srt_s]
      have hp := ipos_le K (srt K g i) (srt K g i i) i
      exact ih (by omega) _ (mvp_lt (by omega) (by omega) hk)
  have inner : ∀ (i : Nat) (z : fo_S), i < n → Rq n (srt K g i) z → F56 z σ → ∃ y, fo_lp (q_Row_sortBy_L12 0) fo_FU (nI i, z) = some y ∧ Rq n (srt K g (i + 1)) y.2 ∧ F56 y.2 σ := by
    intro i z hi hz hzF
    refine fo_lp_dec (b := q_Row_sortBy_L12 0) (fun p s => p ≤ i ∧ s.1 = nI p ∧ Rq n (dnR (srt K g i) i p) s.2 ∧ F56 s.2 σ ∧ ipos K (srt K g i) (srt K g i i) i = ipos K (srt K g i) (srt K g i i) p) _ ?_ fo_FU i (nI i, z) ⟨Nat.le_refl i, rfl, ?_, hzF, rfl⟩ (fo_FU_gt (by omega))
    · rintro p ⟨x, w⟩ ⟨h1, h2, h3, h4, h5⟩
      simp only at h2 h3 h4
      subst h2
      unfold q_Row_sortBy_L12
      cases p with
      | zero =>
        right
        have : nI 0 ≤ 0 := by rw [nI_0]; decide
        simp only [if_pos this]
        refine ⟨_, rfl, ?_, h4⟩
        rw [ipos] at h5
        refine ⟨h3.1, fun k hk => ?_⟩
        rw [srt_s, h5]
        exact h3.2 k hk
      | succ p =>
        have c0 : ¬ (nI (p + 1) ≤ 0) := by
          rw [← nI_0]
          exact f_nge (by omega) (by omega)
        have m1 : mvp i (p + 1) p = p := by
          unfold mvp
          rw [if_neg (by omega), if_pos (by omega), if_pos (by omega)]
        have m2 : mvp i (p + 1) (p + 1) = i := by
          unfold mvp
          rw [if_pos rfl]
        have r1 : w.1 6 0 p = nI (srt K g i p) := by
          rw [h3.2 p (by omega)]
          unfold dnR
          rw [m1]
        have r2 : w.1 6 0 (p + 1) = nI (srt K g i i) := by
          rw [h3.2 (p + 1) (by omega)]
          unfold dnR
          rw [m2]
        obtain ⟨k1, hk1, e1⟩ := hsr i (by omega) p (by omega)
        obtain ⟨k2, hk2, e2⟩ := hsr i (by omega) i hi
        have l1 : srt K g i p < 16 := by rw [e1]; exact hg k1 hk1
        have l2 : srt K g i i < 16 := by rw [e2]; exact hg k2 hk2
        have K1 : (w.1 7 0 (srt K g i p)).toInt = K (srt K g i p) := by rw [h4.2 7 0 _ (by omega) (by omega), e1]; exact hK k1 hk1
        have K2 : (w.1 7 0 (srt K g i i)).toInt = K (srt K g i i) := by rw [h4.2 7 0 _ (by omega) (by omega), e2]; exact hK k2 hk2
        have kle : (w.1 7 0 (srt K g i p) ≤ w.1 7 0 (srt K g i i)) ↔ K (srt K g i p) ≤ K (srt K g i i) := by rw [fi_le, K1, K2]
        simp only [if_neg c0, nI_pred, if_pos (f_vi (c := p) (N := 16) (by omega) (by omega)), if_pos (f_vi (c := p + 1) (N := 16) (by omega) (by omega)), f_cl (show p < 1000000 by omega), f_cl (show p + 1 < 1000000 by omega), r1, r2, if_pos (f_vi l1 (by omega)), if_pos (f_vi l2 (by omega)), f_cl (show srt K g i p < 1000000 by omega), f_cl (show srt K g i i < 1000000 by omega), kle]
        by_cases c1 : K (srt K g i p) ≤ K (srt K g i i)
        · right
          simp only [if_pos c1]
          refine ⟨_, rfl, ?_, h4⟩
          rw [ipos, if_neg (by omega)] at h5
          refine ⟨h3.1, fun k hk => ?_⟩
          rw [srt_s, h5]
          exact h3.2 k hk
        · left
          obtain ⟨w', t1, t2, t3⟩ := q_swp (σ := w) (i0 := 0) (p := p) (q := p + 1) (by omega) (by omega)
          simp only [if_neg c1, t1, Option.bind_some, pk_m1]
          refine ⟨_, p, rfl, by omega, by omega, rfl, ⟨?_, fun k hk => ?_⟩, ⟨?_, fun k i j a1 a2 => ?_⟩, ?_⟩
          · show w'.1 5 0 1 = nI n
            rw [t3, if_neg (by omega), if_neg (by omega)]
            exact h3.1
          · show w'.1 6 0 k = _
            rw [t3, r1, r2]
            unfold dnR
            by_cases k1 : k = p + 1
            · have : mvp i p k = p := by
                unfold mvp
                rw [if_neg (by omega), if_neg (by omega), if_pos (by omega)]
                omega
              rw [if_pos ⟨rfl, rfl, k1⟩, this]
            · rw [if_neg (fun q => k1 q.2.2)]
              by_cases k2 : k = p
              · have : mvp i p k = i := by
                  unfold mvp
                  rw [if_pos k2]
                rw [if_pos ⟨rfl, rfl, k2⟩, this]
              · rw [if_neg (fun q => k2 q.2.2), h3.2 k hk]
                unfold dnR
                have : mvp i p k = mvp i (p + 1) k := by
                  unfold mvp
                  rw [if_neg k2, if_neg k1]
                  by_cases k3 : k < p
                  · rw [if_pos k3, if_pos (show k < p + 1 by omega)]
                  · rw [if_neg k3, if_neg (show ¬ k < p + 1 by omega)]
                rw [this]
          · exact t2.trans h4.1
          · show w'.1 k i j = _
            rw [t3, if_neg (fun q => a2 ⟨q.1, q.2.1⟩), if_neg (fun q => a2 ⟨q.1, q.2.1⟩)]
            exact h4.2 k i j a1 a2
          · rw [h5, ipos, if_pos (by omega)]
    · refine ⟨hz.1, fun k hk => ?_⟩
      rw [hz.2 k hk]
      unfold dnR
      have : mvp i i k = k := by
        unfold mvp
        by_cases k1 : k = i
        · rw [if_pos k1, k1]
        · rw [if_neg k1]
          by_cases k2 : k < i
          · rw [if_pos k2, if_pos k2]
          · rw [if_neg k2, if_neg (by omega)]
      rw [this]
  obtain ⟨y, hy, hy1, hy2⟩ := fo_lp_for (b := q_Row_sortBy_L2 0) (n - 1) (fun m s => s.1 = nI (m + 1) ∧ Rq n (srt K g (m + 1)) s.2 ∧ F56 s.2 σ) (fun y => Rq n (srt K g n) y.2 ∧ F56 y.2 σ) (by
    rintro m ⟨x, z⟩ hm ⟨h1, h2, h3⟩
    simp only at h1 h2 h3
    subst h1
    left
    unfold q_Row_sortBy_L2
    obtain ⟨y, i1, i2, i3⟩ := inner (m + 1) z (by omega) h2 h3
    simp only [h2.1, if_neg (f_nge (show m + 1 < n by omega) (show n < 1000000 by omega)), i1, Option.bind_some, nI_1]
    exact ⟨_, rfl, rfl, i2, i3⟩) (by
    rintro ⟨x, z⟩ ⟨h1, h2, h3⟩
    simp only at h1 h2 h3
    have e : n - 1 + 1 = n := by omega
    rw [e] at h1 h2
    subst h1
    unfold q_Row_sortBy_L2
    simp only [h2.1, if_pos (f_ge (Nat.le_refl n) (show n < 1000000 by omega))]
    exact ⟨_, rfl, h2, h3⟩) (s0 := ((1 : Int32), σ)) ⟨rfl, ⟨h.1, fun k hk => by rw [srt_1]; exact h.2 k hk⟩, F56_r σ⟩ (by omega)
  rw [hy]
  exact ⟨_, rfl, hy1, hy2⟩
