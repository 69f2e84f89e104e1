-- the model's knots
def F21 (τ' τ : fo_S) : Prop := τ'.2 = τ.2 ∧ ∀ k i j, ¬ k = 19 → ¬ k = 21 → τ'.1 k i j = τ.1 k i j
theorem F21_r (σ : fo_S) : F21 σ σ := ⟨rfl, fun _ _ _ _ _ => rfl⟩
theorem F21_t {σ σ' σ'' : fo_S} (h : F21 σ'' σ') (h' : F21 σ' σ) : F21 σ'' σ := ⟨h.1.trans h'.1, fun k i j h1 h2 => (h.2 k i j h1 h2).trans (h'.2 k i j h1 h2)⟩
def F19 (τ' τ : fo_S) : Prop := τ'.2 = τ.2 ∧ ∀ k i j, ¬ k = 19 → τ'.1 k i j = τ.1 k i j
theorem F19_r (σ : fo_S) : F19 σ σ := ⟨rfl, fun _ _ _ _ => rfl⟩
theorem F19_t {σ σ' σ'' : fo_S} (h : F19 σ'' σ') (h' : F19 σ' σ) : F19 σ'' σ := ⟨h.1.trans h'.1, fun k i j h1 => (h.2 k i j h1).trans (h'.2 k i j h1)⟩
theorem F19_21 {σ σ' : fo_S} (h : F19 σ' σ) : F21 σ' σ := ⟨h.1, fun k i j h1 _ => h.2 k i j h1⟩
theorem e_n0 : vp_nar .boolean (0 : Int32) = 0 := b1_n false
theorem e_n1 : vp_nar .boolean (1 : Int32) = 1 := b1_n true
def TX (nc : Nat) (O : Nat → Bool) (x : Nat → Nat → Int32) (T : Nat → Nat → Bool) : Prop := ∀ a b, a < nc → b < nc → (T a b = true ↔ fR nc O (fX x) a b)
theorem r_ldT {nc a b : Nat} {O : Nat → Bool} {x : Nat → Nat → Int32} {T : Nat → Nat → Bool} {τ : fo_S} (hnc : nc ≤ 16) (h : Lm nc O x τ) (hT : TX nc O x T) (ha : a < nc) (hb : b < nc) (hOa : O a = true) : ∃ τ' : fo_S, r_leads τ (nI a) (nI b) = some (b1 (T a b), τ') ∧ F19 τ' τ := by
  obtain ⟨τ', v, h1, h2, h3, h4⟩ := r_ld hnc h ha hb hOa
  have hv : T a b = v := by
    have := (hT a b ha hb).trans h2.symm
    cases hT : T a b <;> cases hv : v <;> simp_all
  rw [← hv] at h1
  exact ⟨τ', h1, h3, h4⟩
theorem r_ti {nc a : Nat} {O L : Nat → Bool} {x : Nat → Nat → Int32} {T : Nat → Nat → Bool} {τ : fo_S} (hnc : nc ≤ 16) (hLm : Lm nc O x τ) (hT : TX nc O x T) (ha : a < nc) (hLO : ∀ c, c < nc → L c = true → O c = true) (hL : ∀ c, c < nc → τ.1 20 0 c = b1 (L c)) (hOa : O a = true) : ∃ τ' : fo_S, r_tie τ (nI a) = some τ' ∧ (∀ d, d < nc → τ'.1 21 0 d = b1 (L d && muT T a d)) ∧ F21 τ' τ := by
  unfold r_tie
  obtain ⟨y, hy, hy1, hy2⟩ := fo_lp_for (b := r_tie_L2 (nI a)) nc (fun n s => s.1 = nI n ∧ (∀ d, d < n → s.2.1 21 0 d = b1 (L d && muT T a d)) ∧ F21 s.2 τ) (fun y => (∀ d, d < nc → y.2.1 21 0 d = b1 (L d && muT T a d)) ∧ F21 y.2 τ) (by
    rintro n ⟨u, z⟩ hn ⟨h1, h2, h3⟩
    simp only at h1 h2 h3
    subst h1
    left
    unfold r_tie_L2
    have hz : Lm nc O x z := Lm_fr hLm (h3.2 _ _ _ (by omega) (by omega)) (fun c => h3.2 _ _ _ (by omega) (by omega)) (fun c => h3.2 _ _ _ (by omega) (by omega))
    have e20 : z.1 20 0 n = b1 (L n) := by rw [h3.2 20 0 n (by omega) (by omega)]; exact hL n hn
    have vn := f_vi (c := n) (N := 16) (by omega) (by omega)
    have en : (nI n = nI a) ↔ n = a := nI_eq (by omega) (by omega)
    simp only [hz.1, if_neg (f_nge hn (show nc < 1000000 by omega)), if_pos vn, f_cl (show n < 1000000 by omega), e20, b1_0, nI_1, e_n0, e_n1, en]
    have fin : ∀ (z' : fo_S) (v : Bool) (w : Int32), F21 z' z → (∀ d, d < n → z'.1 21 0 d = z.1 21 0 d) → w = b1 v → v = (L n && muT T a n) → ∃ s', (some (Sum.inl (nI (n + 1), fo_pI z' 21 0 n w)) : Option ((Int32 × fo_S) ⊕ (Int32 × fo_S))) = some (.inl s') ∧ s'.1 = nI (n + 1) ∧ (∀ d, d < n + 1 → s'.2.1 21 0 d = b1 (L d && muT T a d)) ∧ F21 s'.2 τ := by
      intro z' v w hF hd hw hv
      refine ⟨_, rfl, rfl, fun d hd' => ?_, hF.1.trans h3.1, fun k i j k1 k2 => ?_⟩
      · show (fo_pI z' 21 0 n w).1 21 0 d = _
        rw [e_pI]
        by_cases q : d = n
        · rw [if_pos ⟨rfl, rfl, q⟩, hw, hv, q]
        · rw [if_neg (fun r => q r.2.2), hd d (by omega)]
          exact h2 d (by omega)
      · show (fo_pI z' 21 0 n w).1 k i j = _
        rw [e_pI, if_neg (fun r => k2 r.1)]
        exact (hF.2 k i j k1 k2).trans (h3.2 k i j k1 k2)
    cases hLn : L n with
    | false =>
      simp only [if_true]
      exact fin z false 0 (F21_r z) (fun _ _ => rfl) rfl (by rw [hLn]; rfl)
    | true =>
      simp only [Bool.true_eq_false, if_false]
      by_cases hna : n = a
      · rw [if_pos hna]
        exact fin z true 1 (F21_r z) (fun _ _ => rfl) rfl (by rw [hLn, hna]; simp [muT])
      · rw [if_neg hna]
        obtain ⟨z1, l1, l2⟩ := r_ldT hnc hz hT ha hn hOa
        rw [l1]
        simp only [Option.bind_some, b1_0]
        cases t1 : T a n with
        | false =>
          simp only [if_true]
          exact fin z1 false 0 (F19_21 l2) (fun d _ => l2.2 _ _ _ (by omega)) rfl (by simp [muT, hna, t1])
        | true =>
          simp only [Bool.true_eq_false, if_false]
          have hz1 : Lm nc O x z1 := Lm_fr hz (l2.2 _ _ _ (by omega)) (fun c => l2.2 _ _ _ (by omega)) (fun c => l2.2 _ _ _ (by omega))
          obtain ⟨z2, m1, m2⟩ := r_ldT hnc hz1 hT hn ha (hLO n hn hLn)
          rw [m1]
          simp only [Option.bind_some, b1_0]
          have m3 := F19_t m2 l2
          cases t2 : T n a with
          | false =>
            simp only [if_true]
            exact fin z2 false 0 (F19_21 m3) (fun d _ => m3.2 _ _ _ (by omega)) rfl (by simp [muT, hna, t2])
          | true =>
            simp only [Bool.true_eq_false, if_false]
            exact fin z2 true 1 (F19_21 m3) (fun d _ => m3.2 _ _ _ (by omega)) rfl (by simp [muT, t1, t2, hLn])) (by
    rintro ⟨u, z⟩ ⟨h1, h2, h3⟩
    simp only at h1 h2 h3
    subst h1
    unfold r_tie_L2
    have e8 : z.1 0 0 8 = nI nc := by rw [h3.2 0 0 8 (by omega) (by omega)]; exact hLm.1
    simp only [e8, if_pos (f_ge (Nat.le_refl nc) (show nc < 1000000 by omega))]
    exact ⟨_, rfl, h2, h3⟩) (s0 := ((0 : Int32), τ)) ⟨rfl, fun d hd => absurd hd (Nat.not_lt_zero d), F21_r τ⟩ (by omega)
  rw [hy]
  exact ⟨_, rfl, hy1, hy2⟩
def hdP (T : Nat → Nat → Bool) (L Kn : Nat → Bool) (k b : Nat) : Prop := Kn k = true ∧ L b = true ∧ Kn b = false ∧ T b k = true
theorem r_hd {nc : Nat} {O L Kn : Nat → Bool} {x : Nat → Nat → Int32} {T : Nat → Nat → Bool} {τ : fo_S} (hnc : nc ≤ 16) (hLm : Lm nc O x τ) (hT : TX nc O x T) (hLO : ∀ c, c < nc → L c = true → O c = true) (hL : ∀ c, c < nc → τ.1 20 0 c = b1 (L c)) (hK : ∀ c, c < nc → τ.1 21 0 c = b1 (Kn c)) : ∃ (τ' : fo_S) (v : Bool), r_isHeld τ = some (b1 v, τ') ∧ (v = true ↔ ∃ k b, k < nc ∧ b < nc ∧ hdP T L Kn k b) ∧ F19 τ' τ := by
  unfold r_isHeld
  have inner : ∀ (k : Nat) (z zz : fo_S), k < nc → F19 z τ → ∃ y, fo_lp (r_isHeld_L12 (nI k, zz)) fo_FU ((0 : Int32), z) = some y ∧ ((∃ u z', y = .inl (u, z') ∧ F19 z' τ ∧ ∀ b, b < nc → ¬ hdP T L Kn k b) ∨ (∃ z', y = .inr ((1 : Int32), z') ∧ F19 z' τ ∧ ∃ b, b < nc ∧ hdP T L Kn k b)) := by
    intro k z zz hk hz0
    refine fo_lp_for (b := r_isHeld_L12 (nI k, zz)) nc (fun n s => s.1 = nI n ∧ F19 s.2 τ ∧ ∀ b, b < n → ¬ hdP T L Kn k b) _ ?_ ?_ ⟨rfl, hz0, fun b hb => absurd hb (Nat.not_lt_zero b)⟩ (by omega)
    · rintro n ⟨u, z⟩ hn ⟨h1, h2, h3⟩
      simp only at h1 h2
      subst h1
      unfold r_isHeld_L12
      have hz : Lm nc O x z := Lm_fr hLm (h2.2 _ _ _ (by omega)) (fun c => h2.2 _ _ _ (by omega)) (fun c => h2.2 _ _ _ (by omega))
      have e20 : z.1 20 0 n = b1 (L n) := by rw [h2.2 20 0 n (by omega)]; exact hL n hn
      have e21 : z.1 21 0 n = b1 (Kn n) := by rw [h2.2 21 0 n (by omega)]; exact hK n hn
      have e21k : z.1 21 0 k = b1 (Kn k) := by rw [h2.2 21 0 k (by omega)]; exact hK k hk
      have vn := f_vi (c := n) (N := 16) (by omega) (by omega)
      have vk := f_vi (c := k) (N := 16) (by omega) (by omega)
      simp only [hz.1, if_neg (f_nge hn (show nc < 1000000 by omega)), if_pos vn, if_pos vk, f_cl (show n < 1000000 by omega), f_cl (show k < 1000000 by omega), e20, e21, e21k, b1_0, nI_1]
      have stay : ∀ z' : fo_S, F19 z' z → ¬ hdP T L Kn k n → ∃ s', (some (Sum.inl (nI (n + 1), z')) : Option ((Int32 × fo_S) ⊕ ((Int32 × fo_S) ⊕ (Int32 × fo_S)))) = some (.inl s') ∧ s'.1 = nI (n + 1) ∧ F19 s'.2 τ ∧ ∀ b, b < n + 1 → ¬ hdP T L Kn k b := by
        intro z' hF hno
        refine ⟨_, rfl, rfl, F19_t hF h2, fun b hb => ?_⟩
        by_cases q : b = n
        · rw [q]
          exact hno
        · exact h3 b (by omega)
      cases a1 : Kn k with
      | false =>
        simp only [if_true]
        exact Or.inl (stay z (F19_r z) (fun q => by have := q.1; rw [a1] at this; exact absurd this (by decide)))
      | true =>
        simp only [Bool.true_eq_false, if_false]
        cases a2 : L n with
        | false =>
          simp only [if_true]
          exact Or.inl (stay z (F19_r z) (fun q => by have := q.2.1; rw [a2] at this; exact absurd this (by decide)))
        | true =>
          simp only [Bool.true_eq_false, if_false]
          cases a3 : Kn n with
          | true =>
            simp only [Bool.true_eq_false, if_false]
            exact Or.inl (stay z (F19_r z) (fun q => by have := q.2.2.1; rw [a3] at this; exact absurd this (by decide)))
          | false =>
            simp only [if_true]
            obtain ⟨z1, l1, l2⟩ := r_ldT hnc hz hT hn hk (hLO n hn a2)
            rw [l1]
            simp only [Option.bind_some, b1_0]
            cases t1 : T n k with
            | false =>
              simp only [if_true]
              exact Or.inl (stay z1 l2 (fun q => by have := q.2.2.2; rw [t1] at this; exact absurd this (by decide)))
            | true =>
              simp only [Bool.true_eq_false, if_false]
              exact Or.inr ⟨_, rfl, Or.inr ⟨z1, rfl, F19_t l2 h2, n, hn, a1, a2, a3, t1⟩⟩
    · rintro ⟨u, z⟩ ⟨h1, h2, h3⟩
      simp only at h1 h2
      subst h1
      unfold r_isHeld_L12
      have e8 : z.1 0 0 8 = nI nc := by rw [h2.2 0 0 8 (by omega)]; exact hLm.1
      simp only [e8, if_pos (f_ge (Nat.le_refl nc) (show nc < 1000000 by omega))]
      exact ⟨_, rfl, Or.inl ⟨_, _, rfl, h2, h3⟩⟩
  obtain ⟨y, hy, hy1⟩ := fo_lp_for (b := r_isHeld_L2) nc (fun n s => s.1 = nI n ∧ F19 s.2 τ ∧ ∀ k, k < n → ∀ b, b < nc → ¬ hdP T L Kn k b) (fun y => (∃ u z', y = .inl (u, z') ∧ F19 z' τ ∧ ∀ k, k < nc → ∀ b, b < nc → ¬ hdP T L Kn k b) ∨ (∃ z', y = .inr ((1 : Int32), z') ∧ F19 z' τ ∧ ∃ k b, k < nc ∧ b < nc ∧ hdP T L Kn k b)) (by
    rintro n ⟨u, z⟩ hn ⟨h1, h2, h3⟩
    simp only at h1 h2
    subst h1
    unfold r_isHeld_L2
    have e8 : z.1 0 0 8 = nI nc := by rw [h2.2 0 0 8 (by omega)]; exact hLm.1
    obtain ⟨y, i1, i2⟩ := inner n z z hn h2
    simp only [e8, if_neg (f_nge hn (show nc < 1000000 by omega)), i1, Option.bind_some, nI_1]
    rcases i2 with ⟨u, z', rfl, g2, g3⟩ | ⟨z', rfl, g2, b, g3, g4⟩
    · left
      refine ⟨_, rfl, rfl, g2, fun k hk => ?_⟩
      by_cases q : k = n
      · rw [q]
        exact g3
      · exact h3 k (by omega)
    · right
      exact ⟨_, rfl, Or.inr ⟨z', rfl, g2, n, b, hn, g3, g4⟩⟩) (by
    rintro ⟨u, z⟩ ⟨h1, h2, h3⟩
    simp only at h1 h2
    subst h1
    unfold r_isHeld_L2
    have e8 : z.1 0 0 8 = nI nc := by rw [h2.2 0 0 8 (by omega)]; exact hLm.1
    simp only [e8, if_pos (f_ge (Nat.le_refl nc) (show nc < 1000000 by omega))]
    exact ⟨_, rfl, Or.inl ⟨_, _, rfl, h2, h3⟩⟩) (s0 := ((0 : Int32), τ)) ⟨rfl, F19_r τ, fun k hk => absurd hk (Nat.not_lt_zero k)⟩ (by omega)
  rw [hy]
  rcases hy1 with ⟨u, z', rfl, g2, g3⟩ | ⟨z', rfl, g2, g3⟩
  · exact ⟨z', false, rfl, ⟨fun q => absurd q (by decide), fun ⟨k, b, q1, q2, q3⟩ => absurd q3 (g3 k q1 b q2)⟩, g2⟩
  · exact ⟨z', true, rfl, ⟨fun _ => g3, fun _ => rfl⟩, g2⟩
theorem hd_fre {nc a : Nat} {L : Nat → Bool} {T : Nat → Nat → Bool} (hT : ∀ a b c, a < nc → b < nc → c < nc → T a b = true → T b c = true → T a c = true) (ha : a < nc) (hLa : L a = true) : (∃ k b, k < nc ∧ b < nc ∧ hdP T L (fun d => L d && muT T a d) k b) ↔ ¬ Fre nc T L a := by
  constructor
  · rintro ⟨k, b, hk, hb, h1, h2, h3, h4⟩ hF
    simp only [Bool.and_eq_true] at h1
    simp only [h2, Bool.true_and] at h3
    have hba : T b a = true := by
      have := h1.2
      unfold muT at this
      simp only [Bool.or_eq_true, decide_eq_true_eq, Bool.and_eq_true] at this
      rcases this with q | ⟨q1, q2⟩
      · rw [q] at h4
        exact h4
      · exact hT b k a hb hk ha h4 q2
    have hab := hF b hb h2 hba
    unfold muT at h3
    rw [hab, hba] at h3
    simp at h3
  · intro hF
    have : ∃ b, b < nc ∧ L b = true ∧ T b a = true ∧ ¬ T a b = true := by
      refine Classical.byContradiction (fun q => hF (fun b hb hLb hba => ?_))
      exact Classical.byContradiction (fun q2 => q ⟨b, hb, hLb, hba, q2⟩)
    obtain ⟨b, hb, hLb, hba, hab⟩ := this
    have hne : ¬ b = a := fun q => by
      rw [q] at hba hab
      exact hab hba
    refine ⟨a, b, ha, hb, ?_, hLb, ?_, hba⟩
    · simp [hLa, muT]
    · simp [muT, hne, hab]
theorem r_f42 {nc a : Nat} {O L : Nat → Bool} {x : Nat → Nat → Int32} {T : Nat → Nat → Bool} {τ : fo_S} (hnc : nc ≤ 16) (hLm : Lm nc O x τ) (hT : TX nc O x T) (hTt : ∀ a b c, a < nc → b < nc → c < nc → T a b = true → T b c = true → T a c = true) (ha : a < nc) (hLO : ∀ c, c < nc → L c = true → O c = true) (hL : ∀ c, c < nc → τ.1 20 0 c = b1 (L c)) (hLa : L a = true) (hF : Fre nc T L a) (hlt : ∀ b, b < a → ¬ (L b = true ∧ Fre nc T L b)) : ∃ y, fo_lp r_fair_L42 fo_FU ((0 : Int32), (0 : Int32), τ) = some y ∧ (∀ d, d < nc → y.2.2.1 21 0 d = b1 (L d && muT T a d)) ∧ F21 y.2.2 τ := by
  refine fo_lp_for (b := r_fair_L42) (a + 1) (fun n s => s.1 = nI n ∧ F21 s.2.2 τ ∧ ((n ≤ a ∧ s.2.1 = 0) ∨ (n = a + 1 ∧ s.2.1 = 1 ∧ ∀ d, d < nc → s.2.2.1 21 0 d = b1 (L d && muT T a d)))) _ ?_ ?_ ⟨rfl, F21_r τ, Or.inl ⟨by omega, rfl⟩⟩ (by omega)
  · rintro n ⟨u, v, z⟩ hn ⟨h1, h2, h3⟩
    simp only at h1 h2 h3
    subst h1
    left
    have hv : v = 0 := by
      rcases h3 with h3 | h3
      · exact h3.2
      · omega
    subst hv
    unfold r_fair_L42
    have hz : Lm nc O x z := Lm_fr hLm (h2.2 _ _ _ (by omega) (by omega)) (fun c => h2.2 _ _ _ (by omega) (by omega)) (fun c => h2.2 _ _ _ (by omega) (by omega))
    have e20 : ∀ c, c < nc → z.1 20 0 c = b1 (L c) := fun c hc => by rw [h2.2 20 0 c (by omega) (by omega)]; exact hL c hc
    simp only [if_true, if_pos (f_vi (c := n) (N := 16) (by omega) (by omega)), f_cl (show n < 1000000 by omega), e20 n (by omega), b1_0, nI_1]
    cases hLn : L n with
    | false =>
      simp only [if_true]
      have hna : ¬ n = a := fun q => by
        rw [q, hLa] at hLn
        exact absurd hLn (by decide)
      exact ⟨_, rfl, rfl, h2, Or.inl ⟨by omega, rfl⟩⟩
    | true =>
      simp only [Bool.true_eq_false, if_false]
      obtain ⟨z1, t1, t2, t3⟩ := r_ti (a := n) hnc hz hT (by omega) hLO e20 (hLO n (by omega) hLn)
      have hz1 : Lm nc O x z1 := Lm_fr hz (t3.2 _ _ _ (by omega) (by omega)) (fun c => t3.2 _ _ _ (by omega) (by omega)) (fun c => t3.2 _ _ _ (by omega) (by omega))
      obtain ⟨z2, v, g1, g2, g3⟩ := r_hd (Kn := fun d => L d && muT T n d) hnc hz1 hT hLO (fun c hc => by rw [t3.2 20 0 c (by omega) (by omega)]; exact e20 c hc) t2
      have g4 := g2.trans (hd_fre hTt (show n < nc by omega) hLn)
      simp only [t1, Option.bind_some, g1, b1_0]
      have hFr := F21_t (F19_21 g3) (F21_t t3 h2)
      by_cases hna : n = a
      · subst hna
        have : v = false := by
          cases hv : v with
          | false => rfl
          | true => exact absurd hF (g4.mp hv)
        simp only [if_pos this]
        exact ⟨_, rfl, rfl, hFr, Or.inr ⟨by trivial, rfl, fun d hd => by rw [g3.2 21 0 d (by omega)]; exact t2 d hd⟩⟩
      · have : ¬ v = false := by
          rw [g4.mpr (fun q => hlt n (by omega) ⟨hLn, q⟩)]
          decide
        simp only [if_neg this]
        exact ⟨_, rfl, rfl, hFr, Or.inl ⟨by omega, rfl⟩⟩
  · rintro ⟨u, v, z⟩ ⟨h1, h2, h3⟩
    simp only at h1 h2 h3
    rcases h3 with h3 | ⟨-, h3, h4⟩
    · omega
    · unfold r_fair_L42
      have : ¬ v = 0 := by rw [h3]; decide
      simp only [if_neg this]
      exact ⟨_, rfl, h4, h2⟩
theorem r_f82 {nc n : Nat} {L K : Nat → Bool} {f : Nat → Nat} {τ : fo_S} (hnc : nc ≤ 16) (h8 : τ.1 0 0 8 = nI nc) (hL : ∀ c, c < nc → τ.1 20 0 c = b1 (L c)) (hK : ∀ c, c < nc → τ.1 21 0 c = b1 (K c)) (hf : ∀ k, k < n → τ.1 11 0 k = nI (f k)) (hn : n + fo_n K nc ≤ 16) : ∃ y, fo_lp r_fair_L82 fo_FU (nI n, (0 : Int32), τ) = some y ∧ y.1 = nI (n + fo_n K nc) ∧ (∀ k, k < n + fo_n K nc → y.2.2.1 11 0 k = nI (xR K f n nc k)) ∧ (∀ c, c < nc → y.2.2.1 20 0 c = b1 (L c && !K c)) ∧ y.2.2.2 = τ.2 ∧ ∀ k i j, ¬ (k = 11 ∧ i = 0) → ¬ k = 20 → y.2.2.1 k i j = τ.1 k i j := by
  refine fo_lp_for (b := r_fair_L82) nc (fun m s => s.1 = nI (n + fo_n K m) ∧ s.2.1 = nI m ∧ (∀ k, k < n + fo_n K m → s.2.2.1 11 0 k = nI (xR K f n m k)) ∧ (∀ c, c < nc → s.2.2.1 20 0 c = b1 (if c < m then L c && !K c else L c)) ∧ s.2.2.2 = τ.2 ∧ ∀ k i j, ¬ (k = 11 ∧ i = 0) → ¬ k = 20 → s.2.2.1 k i j = τ.1 k i j) _ ?_ ?_ ⟨rfl, rfl, hf, fun c hc => by rw [if_neg (by omega)]; exact hL c hc, rfl, fun _ _ _ _ _ => rfl⟩ (by omega)
  · rintro m ⟨u, v, z⟩ hm ⟨h1, h2, h3, h4, h5, h6⟩
    simp only at h1 h2 h3 h4 h5 h6
    subst h1
    subst h2
    left
    unfold r_fair_L82
    have e8 : z.1 0 0 8 = nI nc := by rw [h6 0 0 8 (by omega) (by omega)]; exact h8
    have e21 : z.1 21 0 m = b1 (K m) := by rw [h6 21 0 m (by omega) (by omega)]; exact hK m hm
    simp only [e8, if_neg (f_nge hm (show nc < 1000000 by omega)), if_pos (f_vi (c := m) (N := 16) (by omega) (by omega)), f_cl (show m < 1000000 by omega), e21, b1_0, nI_1, e_n0]
    cases hKm : K m with
    | false =>
      simp only [if_true]
      have e : fo_n K (m + 1) = fo_n K m := by rw [fo_n, hKm]; rfl
      refine ⟨_, rfl, by rw [e], rfl, fun k hk => ?_, fun c hc => ?_, h5, h6⟩
      · rw [e] at hk
        rw [xR, hKm]
        exact h3 k hk
      · show z.1 20 0 c = _
        rw [h4 c hc]
        by_cases q : c = m
        · rw [q, if_neg (by omega), if_pos (by omega), hKm]
          simp
        · by_cases q2 : c < m
          · rw [if_pos q2, if_pos (by omega)]
          · rw [if_neg q2, if_neg (by omega)]
    | true =>
      simp only [Bool.true_eq_false, if_false]
      have e : fo_n K (m + 1) = fo_n K m + 1 := by rw [fo_n, if_pos hKm]
      have le := fo_n_le2 (p := K) (show m + 1 ≤ nc from hm)
      rw [e] at le
      simp only [if_pos (f_vi (c := n + fo_n K m) (N := 16) (by omega) (by omega)), f_cl (show n + fo_n K m < 1000000 by omega)]
      refine ⟨_, rfl, by rw [e]; rfl, rfl, fun k hk => ?_, fun c hc => ?_, h5, fun k i j k1 k2 => ?_⟩
      · show (fo_pI (fo_pI z 11 0 (n + fo_n K m) (nI m)) 20 0 m 0).1 11 0 k = _
        rw [e_pI, if_neg (by omega), e_pI, xR, if_pos hKm]
        show _ = nI (if k = n + fo_n K m then m else xR K f n m k)
        rw [e] at hk
        by_cases q : k = n + fo_n K m
        · rw [if_pos ⟨rfl, rfl, q⟩, if_pos q]
        · rw [if_neg (fun r => q r.2.2), if_neg q]
          exact h3 k (by omega)
      · show (fo_pI (fo_pI z 11 0 (n + fo_n K m) (nI m)) 20 0 m 0).1 20 0 c = _
        rw [e_pI]
        by_cases q : c = m
        · rw [if_pos ⟨rfl, rfl, q⟩, q, if_pos (by omega), hKm]
          simp [b1]
        · rw [if_neg (fun r => q r.2.2), e_pI, if_neg (by omega), h4 c hc]
          by_cases q2 : c < m
          · rw [if_pos q2, if_pos (by omega)]
          · rw [if_neg q2, if_neg (by omega)]
      · show (fo_pI (fo_pI z 11 0 (n + fo_n K m) (nI m)) 20 0 m 0).1 k i j = _
        rw [e_pI, if_neg (fun r => k2 r.1), e_pI, if_neg (fun r => k1 ⟨r.1, r.2.1⟩)]
        exact h6 k i j k1 k2
  · rintro ⟨u, v, z⟩ ⟨h1, h2, h3, h4, h5, h6⟩
    simp only at h1 h2 h3 h4 h5 h6
    subst h2
    unfold r_fair_L82
    have e8 : z.1 0 0 8 = nI nc := by rw [h6 0 0 8 (by omega) (by omega)]; exact h8
    simp only [e8, if_pos (f_ge (Nat.le_refl nc) (show nc < 1000000 by omega))]
    exact ⟨_, rfl, h1, h3, fun c hc => by have := h4 c hc; rw [if_pos hc] at this; exact this, h5, h6⟩
