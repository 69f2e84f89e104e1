/-- a row of calls on a market, one behind the other -/
def tQ (own sd pr am : Nat → Nat) (f : Nat → Nat) (mg : (Nat → Nat) × (Nat → Nat)) : Nat → (Nat → Nat) × (Nat → Nat)
  | 0 => mg
  | n + 1 => tN own sd pr am (tQ own sd pr am f mg n) (f n)
def CdN (na : Nat) (own sd pr am : Nat → Nat) (c : Nat) : Prop := own c < na ∧ sd c ≤ 1 ∧ pr c ≤ 1000 ∧ 1 ≤ am c ∧ am c ≤ 1000
def CdQ (own sd pr am : Nat → Nat) (σ : fo_S) (c : Nat) : Prop := σ.1 14 c 1 = nI (own c) ∧ σ.1 14 c 5 = nI (sd c) ∧ σ.1 14 c 6 = nI (pr c) ∧ σ.1 14 c 7 = nI (am c)
def CdR (own sd pr am : Nat → Nat) (τ : fo_S) (c : Nat) : Prop := τ.1 3 0 c = nI (own c) ∧ τ.1 7 0 c = nI (sd c) ∧ τ.1 8 0 c = nI (pr c) ∧ τ.1 9 0 c = nI (am c)
theorem tQ_B {own sd pr am f : Nat → Nat} {na B Bg nr : Nat} {mg : (Nat → Nat) × (Nat → Nat)} (hna : na ≤ 8) (hc : ∀ p, p < nr → CdN na own sd pr am (f p)) (hb : tB na B Bg mg) : ∀ n, n ≤ nr → tB na (B + n * 1000000) (Bg + n * 1000) (tQ own sd pr am f mg n) := by
  intro n
  induction n with
  | zero => intro _; simpa [tQ] using hb
  | succ n ih =>
    intro hn
    obtain ⟨c1, c2, c3, c4, c5⟩ := hc n (by omega)
    have h := tB_N (own := own) (sd := sd) (pr := pr) (am := am) (c := f n) hna c1 c3 c4 c5 (ih (by omega))
    rw [tQ]
    have e1 : B + (n + 1) * 1000000 = B + n * 1000000 + 1000000 := by omega
    have e2 : Bg + (n + 1) * 1000 = Bg + n * 1000 + 1000 := by omega
    rw [e1, e2]
    exact h
theorem q_trial_lp {own sd pr am f : Nat → Nat} {na B Bg nr i1 : Nat} {mg : (Nat → Nat) × (Nat → Nat)} {σ : fo_S} (hna : na ≤ 8) (hnr : nr ≤ 16) (hB : B ≤ 8600000000000) (hBg : Bg ≤ 8600000000000) (hb : tB na B Bg mg) (hlen : σ.1 5 i1 1 = nI nr) (hrow : ∀ p, p < nr → σ.1 6 i1 p = nI (f p) ∧ f p < 16) (hN : ∀ p, p < nr → CdN na own sd pr am (f p)) (hQ : ∀ p, p < nr → CdQ own sd pr am σ (f p)) (hm : MkC na 1 mg σ) :
    ∃ σ' : fo_S, fo_lp (q_FairOrder_heldAfterTrial_L14 i1) fo_FU ((0 : Int32), σ) = some (nI nr, σ') ∧ MkC na 1 (tQ own sd pr am f mg nr) σ' ∧ σ'.1 = σ.1 ∧ ∀ k i j, ¬ ((k = 2 ∨ k = 3) ∧ i = 1) → σ'.2 k i j = σ.2 k i j := by
  obtain ⟨y, hy, ⟨hy1, hy2⟩⟩ := fo_lp_inv (b := q_FairOrder_heldAfterTrial_L14 i1) (fun s => ∃ n, n ≤ nr ∧ s.1 = nI n ∧ MkC na 1 (tQ own sd pr am f mg n) s.2 ∧ s.2.1 = σ.1 ∧ ∀ k i j, ¬ ((k = 2 ∨ k = 3) ∧ i = 1) → s.2.2 k i j = σ.2 k i j) (fun s => nr - s.1.toNatClampNeg) (fun y => y.1 = nI nr ∧ MkC na 1 (tQ own sd pr am f mg nr) y.2 ∧ y.2.1 = σ.1 ∧ ∀ k i j, ¬ ((k = 2 ∨ k = 3) ∧ i = 1) → y.2.2 k i j = σ.2 k i j) (by
    rintro ⟨x, z⟩ ⟨n, hn, hx, h1, h2, h3⟩
    simp only at hx h1 h2 h3
    subst hx
    unfold q_FairOrder_heldAfterTrial_L14
    simp only [h2, hlen]
    by_cases hnn : n = nr
    · subst hnn
      right
      refine ⟨(nI n, z), by simp only [if_pos (f_ge (Nat.le_refl n) (by omega))], rfl, h1, h2, h3⟩
    · left
      have hlt : n < nr := by omega
      obtain ⟨r1, r2⟩ := hrow n hlt
      obtain ⟨c1, c2, c3, c4, c5⟩ := hN n hlt
      obtain ⟨q1, q2, q3, q4⟩ := hQ n hlt
      obtain ⟨z', t1, t2, t3, t4⟩ := q_step (i0 := 1) (σ := z) (B := B + n * 1000000) (Bg := Bg + n * 1000) hna (by omega) (by omega) (tQ_B hna hN hb n hn) c1 c2 c3 c4 c5 h1 (by rw [h2]; exact q1) (by rw [h2]; exact q2) (by rw [h2]; exact q3) (by rw [h2]; exact q4)
      refine ⟨(nI (n + 1), z'), ?_, ⟨n + 1, hlt, rfl, t2, by rw [t3]; exact h2, fun k i j hk => by rw [t4 k i j hk]; exact h3 k i j hk⟩, ?_⟩
      · simp only [if_neg (f_nge hlt (by omega)), if_pos (f_vi (c := n) (N := 16) (by omega) (by omega)), f_cl (show n < 1000000 by omega), r1, if_pos (f_vi (c := f n) (N := 16) r2 (by omega)), f_cl (show f n < 1000000 by omega), t1, Option.bind_some, nI_1]
      · simp only [f_cl (show n < 1000000 by omega), f_cl (show n + 1 < 1000000 by omega)]
        omega) fo_FU (0, σ) ⟨0, by omega, rfl, hm, rfl, fun _ _ _ _ => rfl⟩ (fo_FU_gt (by simp only [sb_cl0]; omega))
  refine ⟨y.2, ?_, hy2⟩
  rw [hy, ← hy1]
def oI (am : Nat → Nat) (c : Nat) : Option Nat → Int32
  | none => 0
  | some _ => nI (am c)
def oJ : Option Nat → Int64
  | none => 0
  | some v => lN v
theorem r_all_lp {own sd pr am f : Nat → Nat} {na B Bg nr : Nat} {mg : (Nat → Nat) × (Nat → Nat)} {τ : fo_S} (hna : na ≤ 8) (hnr : nr ≤ 16) (hB : B ≤ 8600000000000) (hBg : Bg ≤ 8600000000000) (hb : tB na B Bg mg) (hlen : τ.1 0 0 17 = nI nr) (hrow : ∀ p, p < nr → τ.1 14 0 p = nI (f p) ∧ f p < 16) (hinj : ∀ p q, p < nr → q < nr → f p = f q → p = q) (hN : ∀ p, p < nr → CdN na own sd pr am (f p)) (hR : ∀ p, p < nr → CdR own sd pr am τ (f p)) (hm : MkM na mg τ) :
    ∃ τ' : fo_S, fo_lp r_tryAll_L58 fo_FU ((0 : Int32), τ) = some (nI nr, τ') ∧ MkM na (tQ own sd pr am f mg nr) τ' ∧ (∀ k i j, ¬ k = 17 → τ'.1 k i j = τ.1 k i j) ∧ (∀ p, p < nr → τ'.1 17 0 (f p) = oI am (f p) (tS own sd pr am (tQ own sd pr am f mg p) (f p)) ∧ τ'.2 18 0 (f p) = oJ (tS own sd pr am (tQ own sd pr am f mg p) (f p))) ∧ ∀ k i j, ¬ k = 15 → ¬ k = 16 → ¬ k = 18 → ¬ (k = 0 ∧ (j = 25 ∨ j = 26)) → τ'.2 k i j = τ.2 k i j := by
  obtain ⟨y, hy, ⟨hy1, hy2⟩⟩ := fo_lp_inv (b := r_tryAll_L58) (fun s => ∃ n, n ≤ nr ∧ s.1 = nI n ∧ MkM na (tQ own sd pr am f mg n) s.2 ∧ (∀ k i j, ¬ k = 17 → s.2.1 k i j = τ.1 k i j) ∧ (∀ p, p < n → s.2.1 17 0 (f p) = oI am (f p) (tS own sd pr am (tQ own sd pr am f mg p) (f p)) ∧ s.2.2 18 0 (f p) = oJ (tS own sd pr am (tQ own sd pr am f mg p) (f p))) ∧ ∀ k i j, ¬ k = 15 → ¬ k = 16 → ¬ k = 18 → ¬ (k = 0 ∧ (j = 25 ∨ j = 26)) → s.2.2 k i j = τ.2 k i j) (fun s => nr - s.1.toNatClampNeg) (fun y => y.1 = nI nr ∧ MkM na (tQ own sd pr am f mg nr) y.2 ∧ (∀ k i j, ¬ k = 17 → y.2.1 k i j = τ.1 k i j) ∧ (∀ p, p < nr → y.2.1 17 0 (f p) = oI am (f p) (tS own sd pr am (tQ own sd pr am f mg p) (f p)) ∧ y.2.2 18 0 (f p) = oJ (tS own sd pr am (tQ own sd pr am f mg p) (f p))) ∧ ∀ k i j, ¬ k = 15 → ¬ k = 16 → ¬ k = 18 → ¬ (k = 0 ∧ (j = 25 ∨ j = 26)) → y.2.2 k i j = τ.2 k i j) (by
    rintro ⟨x, z⟩ ⟨n, hn, hx, h1, h2, h3, h4⟩
    simp only at hx h1 h2 h3 h4
    subst hx
    unfold r_tryAll_L58
    simp only [h2 0 0 17 (by omega), hlen]
    by_cases hnn : n = nr
    · subst hnn
      right
      refine ⟨(nI n, z), by simp only [if_pos (f_ge (Nat.le_refl n) (by omega))], rfl, h1, h2, h3, h4⟩
    · left
      have hlt : n < nr := by omega
      obtain ⟨r1, r2⟩ := hrow n hlt
      obtain ⟨c1, c2, c3, c4, c5⟩ := hN n hlt
      obtain ⟨q1, q2, q3, q4⟩ := hR n hlt
      obtain ⟨z', t1, t2, t3, t4, t5, t6⟩ := r_step (τ := z) (B := B + n * 1000000) (Bg := Bg + n * 1000) r2 hna (by omega) (by omega) (tQ_B hna hN hb n hn) c1 c2 c3 c4 c5 h1 (by rw [h2 _ _ _ (by omega)]; exact q1) (by rw [h2 _ _ _ (by omega)]; exact q2) (by rw [h2 _ _ _ (by omega)]; exact q3) (by rw [h2 _ _ _ (by omega)]; exact q4)
      refine ⟨(nI (n + 1), z'), ?_, ⟨n + 1, hlt, rfl, t2, fun k i j hk => by rw [t5 k i j (fun q => hk q.1)]; exact h2 k i j hk, fun p hp => ?_, fun k i j k1 k2 k3 k4 => by rw [t6 k i j k1 k2 (fun q => k3 q.1) k4]; exact h4 k i j k1 k2 k3 k4⟩, ?_⟩
      · simp only [if_neg (f_nge hlt (by omega)), if_pos (f_vi (c := n) (N := 16) (by omega) (by omega)), f_cl (show n < 1000000 by omega), h2 14 0 n (by omega), r1, t1, Option.bind_some, nI_1]
      · by_cases hpn : p = n
        · subst hpn
          refine ⟨?_, ?_⟩
          · show z'.1 17 0 (f p) = _
            rw [t3]
            cases tS own sd pr am (tQ own sd pr am f mg p) (f p) <;> rfl
          · show z'.2 18 0 (f p) = _
            rw [t4]
            cases tS own sd pr am (tQ own sd pr am f mg p) (f p) <;> rfl
        · have hne : ¬ f p = f n := fun q => hpn (hinj p n (by omega) hlt q)
          have := h3 p (by omega)
          refine ⟨?_, ?_⟩
          · show z'.1 17 0 (f p) = _
            rw [t5 17 0 (f p) (fun q => hne q.2.2)]
            exact this.1
          · show z'.2 18 0 (f p) = _
            rw [t6 18 0 (f p) (by omega) (by omega) (fun q => hne q.2.2) (by omega)]
            exact this.2
      · simp only [f_cl (show n < 1000000 by omega), f_cl (show n + 1 < 1000000 by omega)]
        omega) fo_FU (0, τ) ⟨0, by omega, rfl, hm, fun _ _ _ _ => rfl, fun p hp => absurd hp (Nat.not_lt_zero p), fun _ _ _ _ _ _ _ => rfl⟩ (fo_FU_gt (by simp only [sb_cl0]; omega))
  refine ⟨y.2, ?_, hy2⟩
  rw [hy, ← hy1]
theorem r_cp_lp {τ : fo_S} {na : Nat} (hna : na ≤ 8) (h : τ.1 0 0 0 = nI na) : ∃ τ' : fo_S, fo_lp r_tryAll_L2 fo_FU ((0 : Int32), τ) = some (nI na, τ') ∧ τ'.1 = τ.1 ∧ ∀ k i j, τ'.2 k i j = if k = 15 ∧ i = 0 ∧ j < na then τ.2 1 0 j else if k = 16 ∧ i = 0 ∧ j < na then τ.2 2 0 j else τ.2 k i j := by
  obtain ⟨y, hy, ⟨hy1, hy2⟩⟩ := fo_lp_inv (b := r_tryAll_L2) (fun s => ∃ n, n ≤ na ∧ s.1 = nI n ∧ s.2.1 = τ.1 ∧ ∀ k i j, s.2.2 k i j = if k = 15 ∧ i = 0 ∧ j < n then τ.2 1 0 j else if k = 16 ∧ i = 0 ∧ j < n then τ.2 2 0 j else τ.2 k i j) (fun s => na - s.1.toNatClampNeg) (fun y => y.1 = nI na ∧ y.2.1 = τ.1 ∧ ∀ k i j, y.2.2 k i j = if k = 15 ∧ i = 0 ∧ j < na then τ.2 1 0 j else if k = 16 ∧ i = 0 ∧ j < na then τ.2 2 0 j else τ.2 k i j) (by
    rintro ⟨x, z⟩ ⟨n, hn, hx, h1, h2⟩
    simp only at hx h1 h2
    subst hx
    unfold r_tryAll_L2
    simp only [h1, h]
    by_cases hnn : n = na
    · subst hnn
      right
      exact ⟨(nI n, z), by simp only [if_pos (f_ge (Nat.le_refl n) (by omega))], rfl, h1, h2⟩
    · left
      have hlt : n < na := by omega
      refine ⟨_, by simp only [if_neg (f_nge hlt (by omega)), if_pos (f_vi (c := n) (N := 8) (by omega) (by omega)), f_cl (show n < 1000000 by omega), nI_1]; rfl, ⟨n + 1, hlt, rfl, h1, fun k i j => ?_⟩, ?_⟩
      · simp only [e_pJ, h2]
        by_cases k15 : k = 15
        · subst k15
          by_cases hi : i = 0
          · subst hi
            by_cases hj : j = n
            · subst hj
              simp
            · have : (j < n + 1) ↔ j < n := by omega
              simp [hj, this]
          · simp [hi]
        · by_cases k16 : k = 16
          · subst k16
            by_cases hi : i = 0
            · subst hi
              by_cases hj : j = n
              · subst hj
                simp
              · have : (j < n + 1) ↔ j < n := by omega
                simp [hj, this]
            · simp [hi]
          · simp [k15, k16]
      · simp only [f_cl (show n < 1000000 by omega), f_cl (show n + 1 < 1000000 by omega)]
        omega) fo_FU (0, τ) ⟨0, by omega, rfl, rfl, fun k i j => by simp⟩ (fo_FU_gt (by simp only [sb_cl0]; omega))
  refine ⟨y.2, ?_, hy2⟩
  rw [hy, ← hy1]
