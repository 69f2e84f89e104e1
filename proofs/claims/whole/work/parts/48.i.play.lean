theorem r_tryA {own sd pr am f : Nat → Nat} {na B Bg nr : Nat} {mg : (Nat → Nat) × (Nat → Nat)} {τ : fo_S} (hna : na ≤ 8) (hnr : nr ≤ 16) (hB : B ≤ 8600000000000) (hBg : Bg ≤ 8600000000000) (hb : tB na B Bg mg) (h0 : τ.1 0 0 0 = nI na) (hlen : τ.1 0 0 17 = nI nr) (hrow : ∀ p, p < nr → τ.1 14 0 p = nI (f p) ∧ f p < 16) (hinj : ∀ p q, p < nr → q < nr → f p = f q → p = q) (hN : ∀ p, p < nr → CdN na own sd pr am (f p)) (hR : ∀ p, p < nr → CdR own sd pr am τ (f p)) (hmon : ∀ a, a < na → τ.2 1 0 a = lN (mg.1 a) ∧ τ.2 2 0 a = lN (mg.2 a)) (hpm : τ.2 0 0 3 = lN (mg.1 8)) (hpg : τ.2 0 0 4 = lN (mg.2 8)) :
    ∃ τ' : fo_S, r_tryAll τ = some τ' ∧ MkM na (tQ own sd pr am f mg nr) τ' ∧ (∀ k i j, ¬ k = 17 → τ'.1 k i j = τ.1 k i j) ∧ (∀ p, p < nr → τ'.1 17 0 (f p) = oI am (f p) (tS own sd pr am (tQ own sd pr am f mg p) (f p)) ∧ τ'.2 18 0 (f p) = oJ (tS own sd pr am (tQ own sd pr am f mg p) (f p))) ∧ ∀ k i j, ¬ k = 15 → ¬ k = 16 → ¬ k = 18 → ¬ (k = 0 ∧ (j = 25 ∨ j = 26)) → τ'.2 k i j = τ.2 k i j := by
  obtain ⟨τ1, g1, g2, g3⟩ := r_cp_lp hna h0
  unfold r_tryAll
  rw [g1]
  simp only [Option.bind_some]
  obtain ⟨τ2, hτ2⟩ : ∃ z, z = fo_pJ (fo_pJ τ1 0 0 25 (τ1.2 0 0 3)) 0 0 26 ((fo_pJ τ1 0 0 25 (τ1.2 0 0 3)).2 0 0 4) := ⟨_, rfl⟩
  rw [← hτ2]
  have s1 : τ2.1 = τ.1 := by rw [hτ2]; exact g2
  have s2 : ∀ k i j, τ2.2 k i j = if k = 0 ∧ i = 0 ∧ j = 26 then lN (mg.2 8) else if k = 0 ∧ i = 0 ∧ j = 25 then lN (mg.1 8) else if k = 15 ∧ i = 0 ∧ j < na then τ.2 1 0 j else if k = 16 ∧ i = 0 ∧ j < na then τ.2 2 0 j else τ.2 k i j := by
    intro k i j
    rw [hτ2]
    simp [e_pJ, g3, hpm, hpg]
  have hm : MkM na mg τ2 := by
    refine ⟨fun a ha => ?_, by rw [s2]; simp, by rw [s2]; simp⟩
    rw [s2, s2]
    simpa [ha] using hmon a ha
  obtain ⟨τ', q1, q2, q3, q4, q5⟩ := r_all_lp (τ := τ2) hna hnr hB hBg hb (by rw [s1]; exact hlen) (fun p hp => by rw [s1]; exact hrow p hp) hinj hN (fun p hp => by have := hR p hp; unfold CdR at this ⊢; rw [s1]; exact this) hm
  rw [q1]
  refine ⟨τ', rfl, q2, fun k i j hk => by rw [q3 k i j hk, s1], q4, fun k i j k1 k2 k3 k4 => ?_⟩
  rw [q5 k i j k1 k2 k3 k4, s2]
  have a1 : ¬ (k = 0 ∧ i = 0 ∧ j = 26) := fun q => k4 ⟨q.1, Or.inr q.2.2⟩
  have a2 : ¬ (k = 0 ∧ i = 0 ∧ j = 25) := fun q => k4 ⟨q.1, Or.inl q.2.2⟩
  rw [if_neg a1, if_neg a2, if_neg (fun q => k1 q.1), if_neg (fun q => k2 q.1)]
/-- how many of a row's first n are done -/
def tC (own sd pr am f : Nat → Nat) (mg : (Nat → Nat) × (Nat → Nat)) (n : Nat) : Nat := fo_n (fun p => (tS own sd pr am (tQ own sd pr am f mg p) (f p)).isSome) n
theorem q_play_lp {own sd pr am f : Nat → Nat} {na B Bg nr : Nat} {mg : (Nat → Nat) × (Nat → Nat)} {σ : fo_S} (hna : na ≤ 8) (hnr : nr ≤ 16) (hB : B ≤ 8600000000000) (hBg : Bg ≤ 8600000000000) (hb : tB na B Bg mg) (hlen : σ.1 5 0 1 = nI nr) (hrow : ∀ p, p < nr → σ.1 6 0 p = nI (f p) ∧ f p < 16) (hinj : ∀ p q, p < nr → q < nr → f p = f q → p = q) (hN : ∀ p, p < nr → CdN na own sd pr am (f p)) (hQ : ∀ p, p < nr → CdQ own sd pr am σ (f p)) (hm : MkC na 0 mg σ) (hz : ∀ p, p < nr → σ.1 14 (f p) 8 = 0 ∧ σ.2 14 (f p) 9 = 0) :
    ∃ σ' : fo_S, fo_lp q_FairOrder_play_L19 fo_FU ((0 : Int32), (0 : Int32), σ) = some (nI (tC own sd pr am f mg nr), nI nr, σ') ∧ MkC na 0 (tQ own sd pr am f mg nr) σ' ∧ (∀ k i j, ¬ (k = 14 ∧ j = 8) → σ'.1 k i j = σ.1 k i j) ∧ (∀ c, (∀ p, p < nr → ¬ f p = c) → σ'.1 14 c 8 = σ.1 14 c 8 ∧ σ'.2 14 c 9 = σ.2 14 c 9) ∧ (∀ p, p < nr → σ'.1 14 (f p) 8 = oI am (f p) (tS own sd pr am (tQ own sd pr am f mg p) (f p)) ∧ σ'.2 14 (f p) 9 = oJ (tS own sd pr am (tQ own sd pr am f mg p) (f p))) ∧ ∀ k i j, ¬ ((k = 2 ∨ k = 3) ∧ i = 0) → ¬ (k = 14 ∧ j = 9) → σ'.2 k i j = σ.2 k i j := by
  obtain ⟨y, hy, ⟨hy1, hy1', hy2⟩⟩ := fo_lp_inv (b := q_FairOrder_play_L19) (fun s => ∃ n, n ≤ nr ∧ s.1 = nI (tC own sd pr am f mg n) ∧ s.2.1 = nI n ∧ MkC na 0 (tQ own sd pr am f mg n) s.2.2 ∧ (∀ k i j, ¬ (k = 14 ∧ j = 8) → s.2.2.1 k i j = σ.1 k i j) ∧ (∀ c, (∀ p, p < n → ¬ f p = c) → s.2.2.1 14 c 8 = σ.1 14 c 8 ∧ s.2.2.2 14 c 9 = σ.2 14 c 9) ∧ (∀ p, p < n → s.2.2.1 14 (f p) 8 = oI am (f p) (tS own sd pr am (tQ own sd pr am f mg p) (f p)) ∧ s.2.2.2 14 (f p) 9 = oJ (tS own sd pr am (tQ own sd pr am f mg p) (f p))) ∧ ∀ k i j, ¬ ((k = 2 ∨ k = 3) ∧ i = 0) → ¬ (k = 14 ∧ j = 9) → s.2.2.2 k i j = σ.2 k i j) (fun s => nr - s.2.1.toNatClampNeg) (fun y => y.1 = nI (tC own sd pr am f mg nr) ∧ y.2.1 = nI nr ∧ MkC na 0 (tQ own sd pr am f mg nr) y.2.2 ∧ (∀ k i j, ¬ (k = 14 ∧ j = 8) → y.2.2.1 k i j = σ.1 k i j) ∧ (∀ c, (∀ p, p < nr → ¬ f p = c) → y.2.2.1 14 c 8 = σ.1 14 c 8 ∧ y.2.2.2 14 c 9 = σ.2 14 c 9) ∧ (∀ p, p < nr → y.2.2.1 14 (f p) 8 = oI am (f p) (tS own sd pr am (tQ own sd pr am f mg p) (f p)) ∧ y.2.2.2 14 (f p) 9 = oJ (tS own sd pr am (tQ own sd pr am f mg p) (f p))) ∧ ∀ k i j, ¬ ((k = 2 ∨ k = 3) ∧ i = 0) → ¬ (k = 14 ∧ j = 9) → y.2.2.2 k i j = σ.2 k i j) (by
    rintro ⟨x, x2, z⟩ ⟨n, hn, hx, hx2, h1, h2, h3, h4, h5⟩
    simp only at hx hx2 h1 h2 h3 h4 h5
    subst hx
    subst hx2
    unfold q_FairOrder_play_L19
    simp only [h2 5 0 1 (by omega), hlen]
    by_cases hnn : n = nr
    · subst hnn
      right
      exact ⟨_, by simp only [if_pos (f_ge (Nat.le_refl n) (show n < 1000000 by omega))]; rfl, rfl, rfl, h1, h2, h3, h4, h5⟩
    · left
      have hlt : n < nr := by omega
      obtain ⟨r1, r2⟩ := hrow n hlt
      obtain ⟨c1, c2, c3, c4, c5⟩ := hN n hlt
      obtain ⟨q1, q2, q3, q4⟩ := hQ n hlt
      obtain ⟨z', t1, t2, t3, t4⟩ := q_step (i0 := 0) (σ := z) (B := B + n * 1000000) (Bg := Bg + n * 1000) hna (by omega) (by omega) (tQ_B hna hN hb n hn) c1 c2 c3 c4 c5 h1 (by rw [h2 _ _ _ (by omega)]; exact q1) (by rw [h2 _ _ _ (by omega)]; exact q2) (by rw [h2 _ _ _ (by omega)]; exact q3) (by rw [h2 _ _ _ (by omega)]; exact q4)
      have hfr : ∀ p, p < n → ¬ f p = f n := fun p hp q => by have := hinj p n (by omega) hlt q; omega
      have hb2 := tQ_B hna hN hb n hn
      simp only [if_neg (f_nge hlt (show nr < 1000000 by omega)), if_pos (f_vi (c := n) (N := 16) (by omega) (by omega)), f_cl (show n < 1000000 by omega), h2 6 0 n (by omega), r1, if_pos (f_vi (c := f n) (N := 16) r2 (by omega)), f_cl (show f n < 1000000 by omega), t1, Option.bind_some, lg_cmp_eq, nI_1]
      have hC : tC own sd pr am f mg (n + 1) = tC own sd pr am f mg n + (if (tS own sd pr am (tQ own sd pr am f mg n) (f n)).isSome then 1 else 0) := rfl
      have hm3 : nr - (nI (n + 1)).toNatClampNeg < nr - n := by
        rw [f_cl (show n + 1 < 1000000 by omega)]
        omega
      have t2' : MkC na 0 (tQ own sd pr am f mg (n + 1)) z' := t2
      cases hts : tS own sd pr am (tQ own sd pr am f mg n) (f n) with
      | none =>
        simp only [if_true]
        rw [hts] at hC
        refine ⟨_, rfl, ⟨n + 1, hlt, by rw [hC]; rfl, rfl, t2, fun k i j hk => by show z'.1 k i j = _; rw [t3]; exact h2 k i j hk, fun c hc => ?_, fun p hp => ?_, fun k i j k1 k2 => by show z'.2 k i j = _; rw [t4 k i j k1]; exact h5 k i j k1 k2⟩, hm3⟩
        · have := h3 c (fun p hp => hc p (by omega))
          refine ⟨by show z'.1 14 c 8 = _; rw [t3]; exact this.1, by show z'.2 14 c 9 = _; rw [t4 14 c 9 (by omega)]; exact this.2⟩
        · by_cases hpn : p = n
          · subst hpn
            have := h3 (f p) (fun q hq => hfr q hq)
            have hz' := hz p hlt
            rw [hts]
            refine ⟨by show z'.1 14 (f p) 8 = _; rw [t3, this.1, hz'.1]; rfl, by show z'.2 14 (f p) 9 = _; rw [t4 14 (f p) 9 (by omega), this.2, hz'.2]; rfl⟩
          · have := h4 p (by omega)
            refine ⟨by show z'.1 14 (f p) 8 = _; rw [t3]; exact this.1, by show z'.2 14 (f p) 9 = _; rw [t4 14 (f p) 9 (by omega)]; exact this.2⟩
      | some v =>
        have hv : v < 2 ^ 44 := by
          obtain ⟨w1, w2⟩ := tK_v c4 hts
          obtain ⟨bb1, bb2, bb3⟩ := hb2
          have hpa : pr (f n) * am (f n) ≤ 1000 * 1000 := Nat.mul_le_mul c3 c5
          by_cases hs0 : sd (f n) = 0
          · have := (w1 hs0).1
            omega
          · have := (w2 hs0).1
            omega
        have hne : ¬ lN v = (-1 : Int64) := by
          rw [fj_eq, pk_lT (by omega)]
          have : (-1 : Int64).toInt = -1 := rfl
          omega
        simp only [if_neg hne, q_Call_note, Option.bind_some]
        rw [hts] at hC
        have za : z'.1 14 (f n) 7 = nI (am (f n)) := by rw [t3, h2 _ _ _ (by omega)]; exact q4
        rw [za]
        refine ⟨_, rfl, ⟨n + 1, hlt, by rw [hC]; rfl, rfl, fun a haa => by have := t2' a haa; simpa [e_pJ, e_pI2] using this, fun k i j hk => ?_, fun c hc => ?_, fun p hp => ?_, fun k i j k1 k2 => ?_⟩, hm3⟩
        · show (if k = 14 ∧ i = f n ∧ j = 8 then nI (am (f n)) else z'.1 k i j) = _
          rw [if_neg (fun q => hk ⟨q.1, q.2.2⟩), t3]
          exact h2 k i j hk
        · have := h3 c (fun p hp => hc p (by omega))
          have hcn : ¬ c = f n := fun q => hc n (by omega) q.symm
          refine ⟨?_, ?_⟩
          · show (if 14 = 14 ∧ c = f n ∧ 8 = 8 then nI (am (f n)) else z'.1 14 c 8) = _
            rw [if_neg (fun q => hcn q.2.1), t3]
            exact this.1
          · show (if 14 = 14 ∧ c = f n ∧ 9 = 9 then lN v else z'.2 14 c 9) = _
            rw [if_neg (fun q => hcn q.2.1), t4 14 c 9 (by omega)]
            exact this.2
        · by_cases hpn : p = n
          · subst hpn
            rw [hts]
            refine ⟨?_, ?_⟩
            · show (if 14 = 14 ∧ f p = f p ∧ 8 = 8 then nI (am (f p)) else z'.1 14 (f p) 8) = _
              rw [if_pos ⟨rfl, rfl, rfl⟩]
              rfl
            · show (if 14 = 14 ∧ f p = f p ∧ 9 = 9 then lN v else z'.2 14 (f p) 9) = _
              rw [if_pos ⟨rfl, rfl, rfl⟩]
              rfl
          · have := h4 p (by omega)
            have hcn : ¬ f p = f n := hfr p (by omega)
            refine ⟨?_, ?_⟩
            · show (if 14 = 14 ∧ f p = f n ∧ 8 = 8 then nI (am (f n)) else z'.1 14 (f p) 8) = _
              rw [if_neg (fun q => hcn q.2.1), t3]
              exact this.1
            · show (if 14 = 14 ∧ f p = f n ∧ 9 = 9 then lN v else z'.2 14 (f p) 9) = _
              rw [if_neg (fun q => hcn q.2.1), t4 14 (f p) 9 (by omega)]
              exact this.2
        · show (if k = 14 ∧ i = f n ∧ j = 9 then lN v else z'.2 k i j) = _
          rw [if_neg (fun q => k2 ⟨q.1, q.2.2⟩), t4 k i j k1]
          exact h5 k i j k1 k2) fo_FU (0, 0, σ) ⟨0, by omega, rfl, rfl, hm, fun _ _ _ _ => rfl, fun _ _ => ⟨rfl, rfl⟩, fun p hp => absurd hp (Nat.not_lt_zero p), fun _ _ _ _ _ => rfl⟩ (fo_FU_gt (by simp only [sb_cl0]; omega))
  refine ⟨y.2.2, ?_, hy2⟩
  rw [hy, ← hy1, ← hy1']
