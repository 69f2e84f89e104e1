theorem r_180 {k c o p A mo go tb ts : Nat} {sell : Bool} {y : Int32 × Int64 × Int32 × fo_S} {z : fo_S} (hk : k < 16) (hc : c < 16) (ho : o < 8) (hp : p ≤ 1000) (hA : A ≤ 1000) (hy : y.1 = nI p) (e11 : z.1 11 0 k = nI c) (e3 : z.1 3 0 c = nI o) (e7 : z.1 7 0 c = nI (if sell then 1 else 0)) (h1 : z.2 1 0 o = lN mo) (h2 : z.2 2 0 o = lN go) (hb : sell = false → A * p ≤ mo ∧ A ≤ tb) (hs : sell = true → A ≤ go ∧ A ≤ ts) : ∃ z' : fo_S, r_batch_J180 y (lN tb, lN ts, nI k, z) (lN A) = some (.inl (lN (if sell then tb else tb - A), lN (if sell then ts - A else ts), nI (k + 1), z')) ∧ (∀ k i j, z'.1 k i j = if k = 12 ∧ i = 0 ∧ j = c then nI A else z.1 k i j) ∧ ∀ k i j, z'.2 k i j = if k = 2 ∧ i = 0 ∧ j = o then lN (if sell then go - A else go + A) else if k = 1 ∧ i = 0 ∧ j = o then lN (if sell then mo + A * p else mo - A * p) else if k = 13 ∧ i = 0 ∧ j = c then lN (A * p) else z.2 k i j := by
  unfold r_batch_J180
  have eA : (nI A).toInt64 = lN A := nI_l (by omega)
  have ep : lN A * (nI p).toInt64 = lN (A * p) := e_m (by omega)
  have x12 : (fo_pI z 12 0 c (nI A)).1 12 0 c = nI A := by rw [e_pI, if_pos ⟨rfl, rfl, rfl⟩]
  have x7 : (fo_pI z 12 0 c (nI A)).1 7 0 c = nI (if sell then 1 else 0) := by rw [e_pI, if_neg (by omega)]; exact e7
  have x3 : (fo_pI z 12 0 c (nI A)).1 3 0 c = nI o := by rw [e_pI, if_neg (by omega)]; exact e3
  obtain ⟨z1, hz1⟩ : ∃ s, s = fo_pJ (fo_pI z 12 0 c (nI A)) 13 0 c (lN (A * p)) := ⟨_, rfl⟩
  have t12 : z1.1 12 0 c = nI A := by rw [hz1, e_pJ1, x12]
  have t7 : z1.1 7 0 c = nI (if sell then 1 else 0) := by rw [hz1, e_pJ1, e_pI, if_neg (by omega)]; exact e7
  have t3 : z1.1 3 0 c = nI o := by rw [hz1, e_pJ1, e_pI, if_neg (by omega)]; exact e3
  have t13 : z1.2 13 0 c = lN (A * p) := by rw [hz1, e_pJ, if_pos ⟨rfl, rfl, rfl⟩]
  have t1 : z1.2 1 0 o = lN mo := by rw [hz1, e_pJ, if_neg (by omega)]; exact h1
  have t2 : ∀ v, (fo_pJ z1 1 0 o v).2 2 0 o = lN go := fun v => by rw [e_pJ, if_neg (by omega), hz1, e_pJ, if_neg (by omega)]; exact h2
  have u1 : ∀ k i j, z1.1 k i j = if k = 12 ∧ i = 0 ∧ j = c then nI A else z.1 k i j := fun k i j => by rw [hz1, e_pJ1, e_pI]
  have u2 : ∀ k i j, z1.2 k i j = if k = 13 ∧ i = 0 ∧ j = c then lN (A * p) else z.2 k i j := fun k i j => by rw [hz1, e_pJ, e_pI2]
  simp only [f_cl (show k < 1000000 by omega), e11, if_pos (f_vi (c := c) (N := 16) hc (by omega)), f_cl (show c < 1000000 by omega), lN_i, Option.bind_some, x12, x7, x3, eA, hy, ep, ← hz1, t7, t3, if_pos (f_vi (c := o) (N := 8) ho (by omega)), f_cl (show o < 1000000 by omega), t1, t13, t12, e_pJ1, t2, nI_1]
  cases sell with
  | false =>
    have k0 : nI (if false = true then 1 else 0) = 0 := by decide
    simp only [if_pos k0, lN_sub (hb rfl).1, lN_sub (hb rfl).2, lN_add]
    exact ⟨_, rfl, fun k i j => by rw [e_pJ1, e_pJ1, u1], fun k i j => by rw [e_pJ, e_pJ, u2]; rfl⟩
  | true =>
    have k0 : ¬ nI (if true = true then 1 else 0) = 0 := by decide
    simp only [if_neg k0, lN_sub (hs rfl).1, lN_sub (hs rfl).2, lN_add]
    exact ⟨_, rfl, fun k i j => by rw [e_pJ1, e_pJ1, u1], fun k i j => by rw [e_pJ, e_pJ, u2]; rfl⟩
theorem r_145 {k c m a : Nat} {y : Int32 × Int64 × Int32 × fo_S} {tb ts : Int64} {z : fo_S} (hk : k < 16) (hc : c < 16) (hm : m < 2 ^ 62) (ha : a ≤ 1000) (e11 : z.1 11 0 k = nI c) (e9 : z.1 9 0 c = nI a) : r_batch_J145 y (tb, ts, nI k, z) (lN m) = r_batch_J180 y (tb, ts, nI k, z) (lN (if m < a then m else a)) := by
  unfold r_batch_J145
  have kk : (0 ≤ lg_cmp (lN m) (lN a)) ↔ a ≤ m := by rw [lg_cmp_ge, pk_lLE (by omega) (by omega)]
  simp only [f_cl (show k < 1000000 by omega), e11, if_pos (f_vi (c := c) (N := 16) hc (by omega)), f_cl (show c < 1000000 by omega), e9, nI_l (show a < 2 ^ 31 by omega), kk]
  by_cases q : m < a
  · rw [if_pos q, if_neg (by omega)]
  · rw [if_neg q, if_pos (by omega)]
theorem r_stl {own sd pr am f : Nat → Nat} {mg : (Nat → Nat) × (Nat → Nat)} {na nc nr p v : Nat} {y : Int32 × Int64 × Int32 × fo_S} {τ : fo_S} (hna : na ≤ 8) (hnr : nr ≤ 16) (hp : p ≤ 1000) (hv : v < 2 ^ 62) (hy : y.1 = nI p) (hN : ∀ k, k < nr → CdN na own sd pr am (f k)) (hinj : ∀ j k, j < nr → k < nr → f j = f k → j = k) (hfc : ∀ k, k < nr → f k < nc) (hQ : BcR own sd pr am mg na nr f τ) (hT : ∀ k, k < nr → τ.1 22 0 (f k) = b1 (aT own sd pr am mg p f k)) (hd : ∀ c, c < nc → τ.1 12 0 c = 0 ∧ τ.2 13 0 c = 0) : ∃ w, fo_lp (r_batch_L96 y) fo_FU (lN v, lN v, (0 : Int32), τ) = some w ∧ (∀ a, a < na → w.2.2.2.2 1 0 a = lN ((bS (aT own sd pr am mg p f) own sd am f mg v p nr).2.1.1 a) ∧ w.2.2.2.2 2 0 a = lN ((bS (aT own sd pr am mg p f) own sd am f mg v p nr).2.1.2 a)) ∧ (∀ c, c < nc → w.2.2.2.1 12 0 c = nI ((bS (aT own sd pr am mg p f) own sd am f mg v p nr).2.2 c) ∧ w.2.2.2.2 13 0 c = lN ((bS (aT own sd pr am mg p f) own sd am f mg v p nr).2.2 c * p)) ∧ (∀ k i j, ¬ k = 12 → w.2.2.2.1 k i j = τ.1 k i j) ∧ ∀ k i j, ¬ k = 1 → ¬ k = 2 → ¬ k = 13 → w.2.2.2.2 k i j = τ.2 k i j := by
  refine fo_lp_for (b := r_batch_L96 y) nr (fun n s => s.1 = lN (bS (aT own sd pr am mg p f) own sd am f mg v p n).1.1 ∧ s.2.1 = lN (bS (aT own sd pr am mg p f) own sd am f mg v p n).1.2 ∧ s.2.2.1 = nI n ∧ (∀ a, a < na → s.2.2.2.2 1 0 a = lN ((bS (aT own sd pr am mg p f) own sd am f mg v p n).2.1.1 a) ∧ s.2.2.2.2 2 0 a = lN ((bS (aT own sd pr am mg p f) own sd am f mg v p n).2.1.2 a)) ∧ (∀ c, c < nc → s.2.2.2.1 12 0 c = nI ((bS (aT own sd pr am mg p f) own sd am f mg v p n).2.2 c) ∧ s.2.2.2.2 13 0 c = lN ((bS (aT own sd pr am mg p f) own sd am f mg v p n).2.2 c * p)) ∧ (∀ k i j, ¬ k = 12 → s.2.2.2.1 k i j = τ.1 k i j) ∧ ∀ k i j, ¬ k = 1 → ¬ k = 2 → ¬ k = 13 → s.2.2.2.2 k i j = τ.2 k i j) _ ?_ ?_ ⟨rfl, rfl, rfl, hQ.2.2, fun c hc => ?_, fun _ _ _ _ => rfl, fun _ _ _ _ _ _ => rfl⟩ (by omega)
  · rintro n ⟨b, g, u, z⟩ hn ⟨h1, h2, h3, h4, h5, h6, h7⟩
    simp only at h1 h2 h3 h4 h5 h6 h7
    subst h1
    subst h2
    subst h3
    left
    obtain ⟨r1, r2, r3⟩ := hQ.2.1 n hn
    obtain ⟨g3, g7, g8, g9⟩ := r3
    obtain ⟨o1, o2, o3, o4, o5⟩ := hN n hn
    have ho : own (f n) < 8 := by omega
    have z17 : z.1 0 0 17 = nI nr := by rw [h6 0 0 17 (by omega)]; exact hQ.1
    have z11 : z.1 11 0 n = nI (f n) := by rw [h6 11 0 n (by omega)]; exact r1
    have z22 : z.1 22 0 (f n) = b1 (aT own sd pr am mg p f n) := by rw [h6 22 0 _ (by omega)]; exact hT n hn
    have z3 : z.1 3 0 (f n) = nI (own (f n)) := by rw [h6 3 0 _ (by omega)]; exact g3
    have z7 : z.1 7 0 (f n) = nI (sd (f n)) := by rw [h6 7 0 _ (by omega)]; exact g7
    have z9 : z.1 9 0 (f n) = nI (am (f n)) := by rw [h6 9 0 _ (by omega)]; exact g9
    have ks : (nI (sd (f n)) = 0) ↔ sd (f n) = 0 := nI_eq (b := 0) (by omega) (by omega)
    have e : bS (aT own sd pr am mg p f) own sd am f mg v p (n + 1) = bM (bS (aT own sd pr am mg p f) own sd am f mg v p n) (own (f n)) (f n) (bA (aT own sd pr am mg p f) sd am f (bS (aT own sd pr am mg p f) own sd am f mg v p n) n) p (decide (¬ sd (f n) = 0)) := rfl
    have hbv := bS_v (T := aT own sd pr am mg p f) (own := own) (sd := sd) (am := am) (mg := mg) (v := v) (p := p) (f := f) n
    have hhas := bS_has (own := own) (sd := sd) (pr := pr) (am := am) (f := f) (mg := mg) (v := v) (p := p) (n := n)
    have hle2 := bA_le (T := aT own sd pr am mg p f) (sd := sd) (am := am) (f := f) (s := bS (aT own sd pr am mg p f) own sd am f mg v p n) (k := n)
    obtain ⟨hle1, hle⟩ := hle2
    obtain ⟨mz1, mz2⟩ := h4 (own (f n)) o1
    have hL : r_batch_L96 y (lN (bS (aT own sd pr am mg p f) own sd am f mg v p n).1.1, lN (bS (aT own sd pr am mg p f) own sd am f mg v p n).1.2, nI n, z) = r_batch_J180 y (lN (bS (aT own sd pr am mg p f) own sd am f mg v p n).1.1, lN (bS (aT own sd pr am mg p f) own sd am f mg v p n).1.2, nI n, z) (lN (bA (aT own sd pr am mg p f) sd am f (bS (aT own sd pr am mg p f) own sd am f mg v p n) n)) := by
      unfold r_batch_L96 bA
      have l0 : (0 : Int64) = lN 0 := rfl
      simp only [z17, if_neg (f_nge hn (show nr < 1000000 by omega)), if_pos (f_vi (c := n) (N := 16) (by omega) (by omega)), f_cl (show n < 1000000 by omega), z11, if_pos (f_vi (c := f n) (N := 16) (by omega) (by omega)), f_cl (show f n < 1000000 by omega), z22, b1_0, z7, ks]
      cases hTn : aT own sd pr am mg p f n with
      | false =>
        simp only [if_true, Bool.false_eq_true, if_false]
        rw [l0, r_145 (by omega) r2 (by omega) o5 z11 z9, if_pos (by omega)]
      | true =>
        simp only [Bool.true_eq_false, if_false, if_true]
        by_cases hs : sd (f n) = 0
        · simp only [if_pos hs]
          rw [r_145 (by omega) r2 (by omega) o5 z11 z9]
        · simp only [if_neg hs]
          rw [r_145 (by omega) r2 (by omega) o5 z11 z9]
    rw [hL, e]
    generalize bA (aT own sd pr am mg p f) sd am f (bS (aT own sd pr am mg p f) own sd am f mg v p n) n = A at hhas hle hle1 ⊢
    generalize bS (aT own sd pr am mg p f) own sd am f mg v p n = S at hhas hle hbv mz1 mz2 h4 h5 ⊢
    have fin : ∀ (z' : fo_S) (sell : Bool), sell = decide (¬ sd (f n) = 0) → (∀ k i j, z'.1 k i j = if k = 12 ∧ i = 0 ∧ j = f n then nI A else z.1 k i j) → (∀ k i j, z'.2 k i j = if k = 2 ∧ i = 0 ∧ j = own (f n) then lN (if sell then S.2.1.2 (own (f n)) - A else S.2.1.2 (own (f n)) + A) else if k = 1 ∧ i = 0 ∧ j = own (f n) then lN (if sell then S.2.1.1 (own (f n)) + A * p else S.2.1.1 (own (f n)) - A * p) else if k = 13 ∧ i = 0 ∧ j = f n then lN (A * p) else z.2 k i j) → (∀ a, a < na → z'.2 1 0 a = lN ((bM S (own (f n)) (f n) A p (decide (¬ sd (f n) = 0))).2.1.1 a) ∧ z'.2 2 0 a = lN ((bM S (own (f n)) (f n) A p (decide (¬ sd (f n) = 0))).2.1.2 a)) ∧ (∀ c, c < nc → z'.1 12 0 c = nI ((bM S (own (f n)) (f n) A p (decide (¬ sd (f n) = 0))).2.2 c) ∧ z'.2 13 0 c = lN ((bM S (own (f n)) (f n) A p (decide (¬ sd (f n) = 0))).2.2 c * p)) ∧ (∀ k i j, ¬ k = 12 → z'.1 k i j = τ.1 k i j) ∧ ∀ k i j, ¬ k = 1 → ¬ k = 2 → ¬ k = 13 → z'.2 k i j = τ.2 k i j := by
      intro z' sell hsell w1 w2
      rw [← hsell]
      refine ⟨fun a ha => ?_, fun c hc => ?_, fun k i j q => ?_, fun k i j q1 q2 q3 => ?_⟩
      · have := h4 a ha
        rw [w2, w2]
        unfold bM
        cases sell with
        | true =>
          rw [if_pos rfl]
          show _ = lN (uN S.2.1.1 _ _ a) ∧ _ = lN (uN S.2.1.2 _ _ a)
          by_cases q : a = own (f n)
          · rw [q, uN_e, uN_e]
            simp
          · rw [uN_n q, uN_n q]
            simp only [q, and_false, if_false]
            rw [if_neg (by omega), if_neg (by omega)]
            exact this
        | false =>
          rw [if_neg (show ¬ (false = true) by decide)]
          show _ = lN (uN S.2.1.1 _ _ a) ∧ _ = lN (uN S.2.1.2 _ _ a)
          by_cases q : a = own (f n)
          · rw [q, uN_e, uN_e]
            simp
          · rw [uN_n q, uN_n q]
            simp only [q, and_false, if_false]
            rw [if_neg (by omega), if_neg (by omega)]
            exact this
      · have := h5 c hc
        rw [w1, w2, bM_d]
        rw [if_neg (show ¬ (13 = 2 ∧ 0 = 0 ∧ c = own (f n)) by omega), if_neg (show ¬ (13 = 1 ∧ 0 = 0 ∧ c = own (f n)) by omega)]
        by_cases q : c = f n
        · rw [q, uN_e, if_pos ⟨rfl, rfl, rfl⟩, if_pos ⟨rfl, rfl, rfl⟩]
          exact ⟨rfl, rfl⟩
        · rw [uN_n q, if_neg (fun r => q r.2.2), if_neg (fun r => q r.2.2)]
          exact this
      · rw [w1, if_neg (fun r => q r.1)]
        exact h6 k i j q
      · rw [w2, if_neg (fun r => q2 r.1), if_neg (fun r => q1 r.1), if_neg (fun r => q3 r.1)]
        exact h7 k i j q1 q2 q3
    by_cases hs : sd (f n) = 0
    · have hsell : false = decide (¬ sd (f n) = 0) := by simp [hs]
      rw [if_pos hs] at hle
      obtain ⟨z', k1, k2, k3⟩ := r_180 (k := n) (c := f n) (A := A) (sell := false) (y := y) (z := z) (tb := S.1.1) (ts := S.1.2) (by omega) r2 ho hp (by omega) hy z11 z3 (by rw [z7, hs]; rfl) mz1 mz2 (fun _ => ⟨hhas.1 hs, hle⟩) (fun q => absurd q (by decide))
      obtain ⟨x1, x2, x3, x4⟩ := fin z' false hsell k2 k3
      rw [k1]
      refine ⟨_, rfl, ?_, ?_, rfl, x1, x2, x3, x4⟩
      · rw [← hsell]; rfl
      · rw [← hsell]; rfl
    · have hsell : true = decide (¬ sd (f n) = 0) := by simp [hs]
      rw [if_neg hs] at hle
      obtain ⟨z', k1, k2, k3⟩ := r_180 (k := n) (c := f n) (A := A) (sell := true) (y := y) (z := z) (tb := S.1.1) (ts := S.1.2) (by omega) r2 ho hp (by omega) hy z11 z3 (by rw [z7, show sd (f n) = 1 by omega]; rfl) mz1 mz2 (fun q => absurd q (by decide)) (fun _ => ⟨hhas.2 hs, hle⟩)
      obtain ⟨x1, x2, x3, x4⟩ := fin z' true hsell k2 k3
      rw [k1]
      refine ⟨_, rfl, ?_, ?_, rfl, x1, x2, x3, x4⟩
      · rw [← hsell]; rfl
      · rw [← hsell]; rfl
  · rintro ⟨b, g, u, z⟩ ⟨h1, h2, h3, h4, h5, h6, h7⟩
    simp only at h1 h2 h3 h4 h5 h6 h7
    subst h3
    unfold r_batch_L96
    have z17 : z.1 0 0 17 = nI nr := by rw [h6 0 0 17 (by omega)]; exact hQ.1
    simp only [z17, if_pos (f_ge (Nat.le_refl nr) (show nr < 1000000 by omega))]
    exact ⟨_, rfl, h4, h5, h6, h7⟩
  · have := hd c hc
    show τ.1 12 0 c = nI 0 ∧ τ.2 13 0 c = lN (0 * p)
    rw [Nat.zero_mul, nI_0]
    exact this
