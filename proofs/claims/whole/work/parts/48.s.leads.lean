/-- a loop that ends as a number falls -/
theorem fo_lp_dec {σ ε : Type} {b : σ → Option (σ ⊕ ε)} (I : Nat → σ → Prop) (Q : ε → Prop) (hs : ∀ m s, I m s → (∃ s' m', b s = some (.inl s') ∧ m' < m ∧ I m' s') ∨ (∃ y, b s = some (.inr y) ∧ Q y)) : ∀ (f m : Nat) (s : σ), I m s → m < f → ∃ y, fo_lp b f s = some y ∧ Q y := by
  intro f
  induction f with
  | zero => intro m s _ h; exact absurd h (Nat.not_lt_zero m)
  | succ f ih =>
    intro m s hI hm
    rcases hs m s hI with ⟨s', m', h1, h2, h3⟩ | ⟨y, h1, h2⟩
    · obtain ⟨y, h4, h5⟩ := ih m' s' h3 (by omega)
      exact ⟨y, by rw [fo_lp, h1]; exact h4, h5⟩
    · exact ⟨y, by rw [fo_lp, h1], h2⟩
/-- what the model's links are read from -/
def Lm (nc : Nat) (O : Nat → Bool) (x : Nat → Nat → Int32) (τ : fo_S) : Prop := τ.1 0 0 8 = nI nc ∧ (∀ c, c < nc → τ.1 6 0 c = b1 (O c)) ∧ ∀ c n, c < nc → n < 5 → Rt (x c n) (τ.1 10 0 (5 * c + n))
theorem Lm_fr {nc : Nat} {O : Nat → Bool} {x : Nat → Nat → Int32} {τ τ' : fo_S} (h : Lm nc O x τ) (h8 : τ'.1 0 0 8 = τ.1 0 0 8) (h6 : ∀ c, τ'.1 6 0 c = τ.1 6 0 c) (h10 : ∀ c, τ'.1 10 0 c = τ.1 10 0 c) : Lm nc O x τ' := by
  refine ⟨by rw [h8]; exact h.1, fun c hc => by rw [h6]; exact h.2.1 c hc, fun c n hc hn => by rw [h10]; exact h.2.2 c n hc hn⟩
def fX (x : Nat → Nat → Int32) (a b : Nat) : Bool := f_ah (x a) (x b)
theorem Lm_ah {nc : Nat} {O : Nat → Bool} {x : Nat → Nat → Int32} {τ : fo_S} (h : Lm nc O x τ) (hnc : nc ≤ 16) {a b : Nat} (ha : a < nc) (hb : b < nc) : r_isAhead τ (nI a) (nI b) = some (b1 (fX x a b)) := r_ah (by omega) (by omega) (fun n hn => h.2.2 a n ha hn) (fun n hn => h.2.2 b n hb hn)
theorem r_ld {nc a b : Nat} {O : Nat → Bool} {x : Nat → Nat → Int32} {τ : fo_S} (hnc : nc ≤ 16) (h : Lm nc O x τ) (ha : a < nc) (hb : b < nc) (hOa : O a = true) : ∃ (τ' : fo_S) (v : Bool), r_leads τ (nI a) (nI b) = some (b1 v, τ') ∧ (v = true ↔ fR nc O (fX x) a b) ∧ τ'.2 = τ.2 ∧ ∀ k i j, ¬ k = 19 → τ'.1 k i j = τ.1 k i j := by
  unfold r_leads
  have hL : ∀ z : fo_S, (∀ k i j, ¬ k = 19 → z.1 k i j = τ.1 k i j) → Lm nc O x z := fun z hz => Lm_fr h (hz _ _ _ (by omega)) (fun c => hz _ _ _ (by omega)) (fun c => hz _ _ _ (by omega))
  obtain ⟨y, hy, hy1, hy2, hy3⟩ := fo_lp_for (b := r_leads_L2 (nI a)) nc (fun n s => s.1 = nI n ∧ s.2.2 = τ.2 ∧ (∀ k i j, ¬ k = 19 → s.2.1 k i j = τ.1 k i j) ∧ ∀ c, c < n → s.2.1 19 0 c = b1 (O c && fX x a c)) (fun y => y.2.2 = τ.2 ∧ (∀ k i j, ¬ k = 19 → y.2.1 k i j = τ.1 k i j) ∧ ∀ c, c < nc → y.2.1 19 0 c = b1 (O c && fX x a c)) (by
    rintro n ⟨u, z⟩ hn ⟨h1, h2, h3, h4⟩
    simp only at h1 h2 h3 h4
    subst h1
    left
    unfold r_leads_L2
    have hz := hL z h3
    have vn := f_vi (c := n) (N := 16) (by omega) (by omega)
    simp only [hz.1, if_neg (f_nge hn (show nc < 1000000 by omega)), if_pos vn, f_cl (show n < 1000000 by omega), hz.2.1 n hn, b1_0, Lm_ah hz hnc ha hn, Option.bind_some, nI_1]
    have fin : ∀ v : Bool, v = (O n && fX x a n) → ∃ s', (some (Sum.inl (nI (n + 1), fo_pI z 19 0 n (vp_nar .boolean (b1 v)))) : Option ((Int32 × fo_S) ⊕ (Int32 × fo_S))) = some (.inl s') ∧ s'.1 = nI (n + 1) ∧ s'.2.2 = τ.2 ∧ (∀ k i j, ¬ k = 19 → s'.2.1 k i j = τ.1 k i j) ∧ ∀ c, c < n + 1 → s'.2.1 19 0 c = b1 (O c && fX x a c) := by
      intro v hv
      refine ⟨_, rfl, rfl, h2, fun k i j hk => ?_, fun c hc => ?_⟩
      · simp only [e_pI]
        rw [if_neg (fun q => hk q.1)]
        exact h3 k i j hk
      · simp only [e_pI, b1_n]
        by_cases hcn : c = n
        · subst hcn
          rw [if_pos ⟨trivial, trivial, rfl⟩, hv]
        · rw [if_neg (fun q => hcn q.2.2)]
          exact h4 c (by omega)
    cases hOn : O n with
    | false =>
      simp only [if_true]
      exact fin false (by simp [hOn])
    | true =>
      simp only [Bool.true_eq_false, if_false]
      cases hX : fX x a n with
      | false =>
        simp only [if_true]
        exact fin false (by simp [hX])
      | true =>
        simp only [Bool.true_eq_false, if_false]
        exact fin true (by simp [hX, hOn])) (by
    rintro ⟨u, z⟩ ⟨h1, h2, h3, h4⟩
    simp only at h1 h2 h3 h4
    subst h1
    unfold r_leads_L2
    have hz := hL z h3
    simp only [hz.1, if_pos (f_ge (Nat.le_refl nc) (show nc < 1000000 by omega))]
    exact ⟨_, rfl, h2, h3, h4⟩) (s0 := ((0 : Int32), τ)) ⟨rfl, rfl, fun _ _ _ _ => rfl, fun a ha => absurd ha (Nat.not_lt_zero a)⟩ (by omega)
  rw [hy]
  simp only [Option.bind_some]
  have inner : ∀ (M0 : Nat → Bool) (c : Nat) (m0 : Int32) (zz z0 : fo_S) (w : Int32), c < nc → (∃ M : Nat → Bool, z0.2 = τ.2 ∧ (∀ k i j, ¬ k = 19 → z0.1 k i j = τ.1 k i j) ∧ (∀ e, e < nc → z0.1 19 0 e = b1 (M e)) ∧ (∀ e, e < nc → M0 e = true → M e = true) ∧ (∀ e, e < nc → M e = true → fR nc O (fX x) a e) ∧ ((m0 = 0 ∧ ∀ e, e < nc → M e = M0 e) ∨ (m0 = 1 ∧ fo_n (fun e => !M e) nc < fo_n (fun e => !M0 e) nc))) → ∃ y, fo_lp (r_leads_L68 (w, nI c, zz)) fo_FU (m0, (0 : Int32), z0) = some y ∧ ∃ M : Nat → Bool, y.2.2.2 = τ.2 ∧ (∀ k i j, ¬ k = 19 → y.2.2.1 k i j = τ.1 k i j) ∧ (∀ e, e < nc → y.2.2.1 19 0 e = b1 (M e)) ∧ (∀ e, e < nc → M0 e = true → M e = true) ∧ (∀ e, e < nc → M e = true → fR nc O (fX x) a e) ∧ ((y.1 = 0 ∧ (m0 = 0 ∧ ∀ e, e < nc → M e = M0 e) ∧ (M c = true → ∀ d, fE nc O (fX x) c d → M d = true)) ∨ (y.1 = 1 ∧ fo_n (fun e => !M e) nc < fo_n (fun e => !M0 e) nc)) := by
    intro M0 c m0 zz z0 w hc ⟨M1, p1, p2, p3, p4, p5, p6⟩
    refine fo_lp_for (b := r_leads_L68 (w, nI c, zz)) nc (fun d s => ∃ M : Nat → Bool, s.2.1 = nI d ∧ s.2.2.2 = τ.2 ∧ (∀ k i j, ¬ k = 19 → s.2.2.1 k i j = τ.1 k i j) ∧ (∀ e, e < nc → s.2.2.1 19 0 e = b1 (M e)) ∧ (∀ e, e < nc → M0 e = true → M e = true) ∧ (∀ e, e < nc → M e = true → fR nc O (fX x) a e) ∧ ((s.1 = 0 ∧ (m0 = 0 ∧ ∀ e, e < nc → M e = M0 e) ∧ (∀ d', d' < d → fE nc O (fX x) c d' → M d' = true)) ∨ (s.1 = 1 ∧ fo_n (fun e => !M e) nc < fo_n (fun e => !M0 e) nc))) _ ?_ ?_ ?_ (by omega)
    · rintro d ⟨m, u, z⟩ hd ⟨M, h1, h2, h3, h4, h5, h6, h7⟩
      simp only at h1 h2 h3 h4 h7
      subst h1
      unfold r_leads_L68
      have hz := hL z h3
      have vc := f_vi (c := c) (N := 16) (by omega) (by omega)
      have vd := f_vi (c := d) (N := 16) (by omega) (by omega)
      simp only [hz.1, if_neg (f_nge hd (show nc < 1000000 by omega)), if_pos vc, if_pos vd, f_cl (show c < 1000000 by omega), f_cl (show d < 1000000 by omega), h4 c hc, h4 d hd, hz.2.1 d hd, b1_0, Lm_ah hz hnc hc hd, Option.bind_some, nI_1]
      cases hMc : M c with
      | false =>
        right
        simp only [if_true]
        refine ⟨_, rfl, M, h2, h3, h4, h5, h6, ?_⟩
        rcases h7 with ⟨g1, g2, g3⟩ | g
        · exact Or.inl ⟨g1, g2, fun q => absurd q (by simp [hMc])⟩
        · exact Or.inr g
      | true =>
        left
        simp only [Bool.true_eq_false, if_false]
        have stay : (fE nc O (fX x) c d → M d = true) → ∃ s', (some (Sum.inl (m, nI (d + 1), z)) : Option ((Int32 × Int32 × fo_S) ⊕ (Int32 × Int32 × fo_S))) = some (.inl s') ∧ ∃ M : Nat → Bool, s'.2.1 = nI (d + 1) ∧ s'.2.2.2 = τ.2 ∧ (∀ k i j, ¬ k = 19 → s'.2.2.1 k i j = τ.1 k i j) ∧ (∀ e, e < nc → s'.2.2.1 19 0 e = b1 (M e)) ∧ (∀ e, e < nc → M0 e = true → M e = true) ∧ (∀ e, e < nc → M e = true → fR nc O (fX x) a e) ∧ ((s'.1 = 0 ∧ (m0 = 0 ∧ ∀ e, e < nc → M e = M0 e) ∧ (∀ d', d' < d + 1 → fE nc O (fX x) c d' → M d' = true)) ∨ (s'.1 = 1 ∧ fo_n (fun e => !M e) nc < fo_n (fun e => !M0 e) nc)) := by
          intro hst
          refine ⟨_, rfl, M, rfl, h2, h3, h4, h5, h6, ?_⟩
          rcases h7 with ⟨g1, g2, g3⟩ | g
          · refine Or.inl ⟨g1, g2, fun d' hd' he => ?_⟩
            by_cases q : d' = d
            · subst q
              exact hst he
            · exact g3 d' (by omega) he
          · exact Or.inr g
        cases hOd : O d with
        | false =>
          simp only [if_true]
          exact stay (fun he => absurd he.2.2.2.1 (by simp [hOd]))
        | true =>
          simp only [Bool.true_eq_false, if_false]
          cases hMd : M d with
          | true =>
            simp only [Bool.true_eq_false, if_false]
            exact stay (fun _ => hMd)
          | false =>
            simp only [if_true]
            cases hX : fX x c d with
            | false =>
              simp only [if_true]
              exact stay (fun he => absurd he.2.2.2.2 (by simp [hX]))
            | true =>
              simp only [Bool.true_eq_false, if_false]
              have hRc := h6 c hc hMc
              have hEd : fE nc O (fX x) c d := ⟨hc, hd, (fR_r hRc).2, hOd, hX⟩
              refine ⟨_, rfl, (fun e => decide (e = d) || M e), rfl, h2, fun k i j hk => ?_, fun e he => ?_, fun e he q => by simp [h5 e he q], fun e he q => ?_, Or.inr ⟨rfl, ?_⟩⟩
              · simp only [e_pI]
                rw [if_neg (fun q => hk q.1)]
                exact h3 k i j hk
              · simp only [e_pI]
                by_cases hed : e = d
                · subst hed
                  simp only [and_self, if_true, decide_true, Bool.true_or]
                  rfl
                · rw [if_neg (fun q => hed q.2.2), h4 e he]
                  simp [hed]
              · simp only [Bool.or_eq_true, decide_eq_true_eq] at q
                rcases q with q | q
                · subst q
                  exact fR_t hRc (fR_1 hEd)
                · exact h6 e he q
              · have q1 : fo_n (fun e => !(decide (e = d) || M e)) nc < fo_n (fun e => !M e) nc := fo_n_lt (fun i hi q => by simp only [Bool.not_eq_true', Bool.or_eq_false_iff] at q ⊢; exact q.2) hd (by simp [hMd]) (by simp)
                have q2 : fo_n (fun e => !M e) nc ≤ fo_n (fun e => !M0 e) nc := fo_n_mono (fun i hi q => by
                  cases hM0 : M0 i with
                  | false => rfl
                  | true => rw [h5 i hi hM0] at q; simp at q)
                exact Nat.lt_of_lt_of_le q1 q2
    · rintro ⟨m, u, z⟩ ⟨M, h1, h2, h3, h4, h5, h6, h7⟩
      simp only at h1 h2 h3 h4 h7
      subst h1
      unfold r_leads_L68
      have hz := hL z h3
      simp only [hz.1, if_pos (f_ge (Nat.le_refl nc) (show nc < 1000000 by omega))]
      refine ⟨_, rfl, M, h2, h3, h4, h5, h6, ?_⟩
      rcases h7 with ⟨g1, g2, g3⟩ | g
      · exact Or.inl ⟨g1, g2, fun _ d he => g3 d he.2.1 he⟩
      · exact Or.inr g
    · refine ⟨M1, rfl, p1, p2, p3, p4, p5, ?_⟩
      rcases p6 with ⟨g1, g2⟩ | g
      · exact Or.inl ⟨g1, ⟨g1, g2⟩, fun d' hd' => absurd hd' (Nat.not_lt_zero d')⟩
      · exact Or.inr g
  have pass : ∀ (M0 : Nat → Bool) (z0 : fo_S), z0.2 = τ.2 → (∀ k i j, ¬ k = 19 → z0.1 k i j = τ.1 k i j) → (∀ e, e < nc → z0.1 19 0 e = b1 (M0 e)) → (∀ e, e < nc → M0 e = true → fR nc O (fX x) a e) → ∃ y, fo_lp r_leads_L56 fo_FU ((0 : Int32), (0 : Int32), z0) = some y ∧ ∃ M : Nat → Bool, y.2.2.2 = τ.2 ∧ (∀ k i j, ¬ k = 19 → y.2.2.1 k i j = τ.1 k i j) ∧ (∀ e, e < nc → y.2.2.1 19 0 e = b1 (M e)) ∧ (∀ e, e < nc → M0 e = true → M e = true) ∧ (∀ e, e < nc → M e = true → fR nc O (fX x) a e) ∧ ((y.1 = 0 ∧ (∀ e, e < nc → M e = M0 e) ∧ (∀ c, c < nc → M c = true → ∀ d, fE nc O (fX x) c d → M d = true)) ∨ (y.1 = 1 ∧ fo_n (fun e => !M e) nc < fo_n (fun e => !M0 e) nc)) := by
    intro M0 z0 p1 p2 p3 p4
    refine fo_lp_for (b := r_leads_L56) nc (fun c s => ∃ M : Nat → Bool, s.2.1 = nI c ∧ s.2.2.2 = τ.2 ∧ (∀ k i j, ¬ k = 19 → s.2.2.1 k i j = τ.1 k i j) ∧ (∀ e, e < nc → s.2.2.1 19 0 e = b1 (M e)) ∧ (∀ e, e < nc → M0 e = true → M e = true) ∧ (∀ e, e < nc → M e = true → fR nc O (fX x) a e) ∧ ((s.1 = 0 ∧ (∀ e, e < nc → M e = M0 e) ∧ (∀ c', c' < c → M c' = true → ∀ d, fE nc O (fX x) c' d → M d = true)) ∨ (s.1 = 1 ∧ fo_n (fun e => !M e) nc < fo_n (fun e => !M0 e) nc))) _ ?_ ?_ ?_ (by omega)
    · rintro c ⟨m, u, z⟩ hc ⟨M, h1, h2, h3, h4, h5, h6, h7⟩
      simp only at h1 h2 h3 h4 h7
      subst h1
      left
      unfold r_leads_L56
      have hz := hL z h3
      obtain ⟨y, i1, M', i2, i3, i4, i5, i6, i7⟩ := inner M0 c m z z m hc ⟨M, h2, h3, h4, h5, h6, by
        rcases h7 with ⟨g1, g2, -⟩ | g
        · exact Or.inl ⟨g1, g2⟩
        · exact Or.inr g⟩
      simp only [hz.1, if_neg (f_nge hc (show nc < 1000000 by omega)), i1, Option.bind_some, nI_1]
      refine ⟨_, rfl, M', rfl, i2, i3, i4, i5, i6, ?_⟩
      rcases i7 with ⟨g1, ⟨g0, g2⟩, g3⟩ | g
      · rcases h7 with ⟨k1, k2, k3⟩ | ⟨k1, k2⟩
        · refine Or.inl ⟨g1, g2, fun c' hc' hM d he => ?_⟩
          by_cases q : c' = c
          · subst q
            exact g3 hM d he
          · have q1 : M c' = true := by rw [k2 c' (by omega), ← g2 c' (by omega)]; exact hM
            rw [g2 d he.2.1, ← k2 d he.2.1]
            exact k3 c' (by omega) q1 d he
        · exfalso
          rw [k1] at g0
          exact absurd g0 (by decide)
      · exact Or.inr g
    · rintro ⟨m, u, z⟩ ⟨M, h1, h2, h3, h4, h5, h6, h7⟩
      simp only at h1 h2 h3 h4 h7
      subst h1
      unfold r_leads_L56
      have hz := hL z h3
      simp only [hz.1, if_pos (f_ge (Nat.le_refl nc) (show nc < 1000000 by omega))]
      exact ⟨_, rfl, M, h2, h3, h4, h5, h6, h7⟩
    · exact ⟨M0, rfl, p1, p2, p3, fun _ _ q => q, p4, Or.inl ⟨rfl, fun _ _ => rfl, fun c' hc' => absurd hc' (Nat.not_lt_zero c')⟩⟩
  obtain ⟨w, hw, M, w1, w2, w3, w4, w5, w6⟩ := fo_lp_dec (b := r_leads_L47) (fun m s => ∃ M : Nat → Bool, s.2.2 = τ.2 ∧ (∀ k i j, ¬ k = 19 → s.2.1 k i j = τ.1 k i j) ∧ (∀ e, e < nc → s.2.1 19 0 e = b1 (M e)) ∧ (∀ e, fE nc O (fX x) a e → M e = true) ∧ (∀ e, e < nc → M e = true → fR nc O (fX x) a e) ∧ ((s.1 = 0 ∧ ∀ c, c < nc → M c = true → ∀ d, fE nc O (fX x) c d → M d = true) ∨ (s.1 = 1 ∧ fo_n (fun e => !M e) nc < m))) (fun y => ∃ M : Nat → Bool, y.2.2 = τ.2 ∧ (∀ k i j, ¬ k = 19 → y.2.1 k i j = τ.1 k i j) ∧ (∀ e, e < nc → y.2.1 19 0 e = b1 (M e)) ∧ (∀ e, fE nc O (fX x) a e → M e = true) ∧ (∀ e, e < nc → M e = true → fR nc O (fX x) a e) ∧ ∀ c, c < nc → M c = true → ∀ d, fE nc O (fX x) c d → M d = true) (by
    rintro m ⟨u, z⟩ ⟨M, h1, h2, h3, h4, h5, h6⟩
    simp only at h1 h2 h3 h6
    unfold r_leads_L47
    rcases h6 with ⟨g1, g2⟩ | ⟨g1, g2⟩
    · right
      simp only [if_pos g1]
      exact ⟨_, rfl, M, h1, h2, h3, h4, h5, g2⟩
    · left
      subst g1
      obtain ⟨y, p1, M', p2, p3, p4, p5, p6, p7⟩ := pass M z h1 h2 h3 h5
      have e10 : ¬ ((1 : Int32) = 0) := by decide
      simp only [if_neg e10, p1, Option.bind_some]
      refine ⟨_, fo_n (fun e => !M e) nc, rfl, g2, M', p2, p3, p4, fun e he => p5 e he.2.1 (h4 e he), p6, ?_⟩
      rcases p7 with ⟨k1, -, k3⟩ | k
      · exact Or.inl ⟨k1, k3⟩
      · exact Or.inr k) fo_FU 1000 ((1 : Int32), y.2) ⟨(fun c => O c && fX x a c), hy1, hy2, hy3, fun e he => by simp [he.2.2.2.1, he.2.2.2.2], fun e he q => by
      simp only [Bool.and_eq_true] at q
      exact fR_1 ⟨ha, he, hOa, q.1, q.2⟩, Or.inr ⟨rfl, by have := fo_n_le (fun e => !(O e && fX x a e)) nc; exact Nat.lt_of_le_of_lt this (by omega)⟩⟩ (fo_FU_gt (by omega))
  rw [hw]
  simp only [Option.bind_some, if_pos (f_vi (c := b) (N := 16) (by omega) (by omega)), f_cl (show b < 1000000 by omega), w3 b hb, if_pos (b1_01 _)]
  refine ⟨_, _, rfl, ⟨w5 b hb, fun hr => ?_⟩, w1, w2⟩
  exact (fR_in (T := fun c => c < nc ∧ M c = true) (fun c hc => ⟨hc.2.1, w4 c hc⟩) (fun c d hc hd => ⟨hd.2.1, w6 c hc.1 hc.2 d hd⟩) hr).2
