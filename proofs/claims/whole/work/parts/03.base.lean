-- loops as functions: a body answers the next state or the loop's end; fuel
def fo_lp {σ ε : Type} (b : σ → Option (σ ⊕ ε)) : Nat → σ → Option ε
  | 0, _ => none
  | n + 1, s => match b s with
    | none => none
    | some (.inl s') => fo_lp b n s'
    | some (.inr x) => some x
theorem fo_lp_ind {σ ε : Type} {b : σ → Option (σ ⊕ ε)} {x : ε} (T : σ → Prop)
    (step : ∀ (s : σ) (o : Option (σ ⊕ ε)), b s = o → o ≠ none → (∀ s', some (.inl s') = o → T s') → (∀ y, some (.inr y) = o → y = x) → T s) :
    ∀ (n : Nat) (s : σ), fo_lp b n s = some x → T s := by
  intro n
  induction n with
  | zero => intro s h; simp [fo_lp] at h
  | succ n ih =>
    intro s h
    rw [fo_lp] at h
    refine step s (b s) rfl ?_ ?_ ?_
    · intro hn
      rw [hn] at h
      cases h
    · intro s' hs
      rw [← hs] at h
      exact ih s' h
    · intro y hy
      rw [← hy] at h
      exact Option.some.inj h
theorem fo_itT {α : Type} {c : Prop} {i : Decidable c} {a b o : α} (hc : c) (h : @ite α c i a b = o) : a = o := by
  rw [if_pos hc] at h
  exact h
theorem fo_itF {α : Type} {c : Prop} {i : Decidable c} {a b o : α} (hc : ¬ c) (h : @ite α c i a b = o) : b = o := by
  rw [if_neg hc] at h
  exact h
/-- a guard of a function that is defined -/
theorem fo_gd {α : Type} {c : Prop} {i : Decidable c} {a o : Option α} (h : @ite (Option α) c i a none = o) (hN : o ≠ none) : c ∧ a = o := by
  by_cases hc : c
  · rw [if_pos hc] at h
    exact ⟨hc, h⟩
  · rw [if_neg hc] at h
    exact absurd h.symm hN
theorem fo_bd {α β : Type} {a : Option α} {k : α → Option β} {o : Option β} (h : a.bind k = o) (hN : o ≠ none) : ∃ x, a = some x ∧ k x = o := by
  cases a with
  | none => exact absurd h.symm hN
  | some x => exact ⟨x, rfl, h⟩
theorem fo_lp_inv {σ ε : Type} {b : σ → Option (σ ⊕ ε)} (I : σ → Prop) (μ : σ → Nat) (P : ε → Prop) (step : ∀ s, I s → (∃ s', b s = some (.inl s') ∧ I s' ∧ μ s' < μ s) ∨ (∃ y, b s = some (.inr y) ∧ P y)) : ∀ (n : Nat) (s : σ), I s → μ s < n → ∃ y, fo_lp b n s = some y ∧ P y := by
  intro n
  induction n with
  | zero => intro s _ h; exact absurd h (Nat.not_lt_zero _)
  | succ n ih =>
    intro s hI hm
    rcases step s hI with ⟨s', h1, h2, h3⟩ | ⟨y, h1, h2⟩
    · obtain ⟨y, hy, hP⟩ := ih s' h2 (by omega)
      exact ⟨y, by rw [fo_lp, h1]; exact hy, hP⟩
    · exact ⟨y, by rw [fo_lp, h1], h2⟩
def fo_FU : Nat := 100000
/-- an index in its bounds, as a test -/
abbrev fo_vi (x : Int32) (n : Nat) : Prop := ¬ (x < 0 ∨ n ≤ x.toNatClampNeg)
-- the registers of a world: ints and longs by kind, number, place
abbrev fo_S : Type := (Nat → Nat → Nat → Int32) × (Nat → Nat → Nat → Int64)
def fo_pI (σ : fo_S) (k i j : Nat) (v : Int32) : fo_S := (fun a b c => if a = k ∧ b = i ∧ c = j then v else σ.1 a b c, σ.2)
def fo_pJ (σ : fo_S) (k i j : Nat) (v : Int64) : fo_S := (σ.1, fun a b c => if a = k ∧ b = i ∧ c = j then v else σ.2 a b c)
/-- a whole row of ints, of longs -/
def fo_rI (σ : fo_S) (k i : Nat) (f : Nat → Int32) : fo_S := (fun a b c => if a = k ∧ b = i then f c else σ.1 a b c, σ.2)
def fo_rJ (σ : fo_S) (k i : Nat) (f : Nat → Int64) : fo_S := (σ.1, fun a b c => if a = k ∧ b = i then f c else σ.2 a b c)
theorem fo_pI_1 (σ : fo_S) (k i j : Nat) (v : Int32) : (fo_pI σ k i j v).1 k i = upd (σ.1 k i) j v := by
  funext c
  simp [fo_pI, upd]
theorem fo_pI_n {σ : fo_S} {k i j k' i' : Nat} {v : Int32} (h : ¬ (k' = k ∧ i' = i)) : (fo_pI σ k i j v).1 k' i' = σ.1 k' i' := by
  funext c
  show (if k' = k ∧ i' = i ∧ c = j then v else σ.1 k' i' c) = σ.1 k' i' c
  rw [if_neg (fun q => h ⟨q.1, q.2.1⟩)]
theorem fo_pJ_1 (σ : fo_S) (k i j : Nat) (v : Int64) : (fo_pJ σ k i j v).2 k i = vp_updL (σ.2 k i) j v := by
  funext c
  simp [fo_pJ, vp_updL]
theorem fo_pJ_n {σ : fo_S} {k i j k' i' : Nat} {v : Int64} (h : ¬ (k' = k ∧ i' = i)) : (fo_pJ σ k i j v).2 k' i' = σ.2 k' i' := by
  funext c
  show (if k' = k ∧ i' = i ∧ c = j then v else σ.2 k' i' c) = σ.2 k' i' c
  rw [if_neg (fun q => h ⟨q.1, q.2.1⟩)]
theorem fo_rI_1 (σ : fo_S) (k i : Nat) (f : Nat → Int32) : (fo_rI σ k i f).1 k i = f := by
  funext c
  simp [fo_rI]
theorem fo_rI_n {σ : fo_S} {k i k' i' : Nat} {f : Nat → Int32} (h : ¬ (k' = k ∧ i' = i)) : (fo_rI σ k i f).1 k' i' = σ.1 k' i' := by
  funext c
  show (if k' = k ∧ i' = i then f c else σ.1 k' i' c) = σ.1 k' i' c
  rw [if_neg h]
theorem fo_rJ_1 (σ : fo_S) (k i : Nat) (f : Nat → Int64) : (fo_rJ σ k i f).2 k i = f := by
  funext c
  simp [fo_rJ]
theorem fo_rJ_n {σ : fo_S} {k i k' i' : Nat} {f : Nat → Int64} (h : ¬ (k' = k ∧ i' = i)) : (fo_rJ σ k i f).2 k' i' = σ.2 k' i' := by
  funext c
  show (if k' = k ∧ i' = i then f c else σ.2 k' i' c) = σ.2 k' i' c
  rw [if_neg h]
-- a world of K cells, by places
def fo_vx (K : Nat) (ad : Nat → Nat) (e : Nat → va_E) : va_W := (List.range K).map (fun j => (ad j, e j))
theorem fo_vx_len (K : Nat) (ad : Nat → Nat) (e : Nat → va_E) : (fo_vx K ad e).length = K := by
  simp [fo_vx]
theorem fo_vx_at {K : Nat} {ad : Nat → Nat} {e : Nat → va_E} {j : Nat} (h : j < K) : (fo_vx K ad e)[j]? = some (ad j, e j) := by
  simp [fo_vx, h]
theorem fo_vx_get {K : Nat} {ad : Nat → Nat} {e : Nat → va_E} {j : Nat} {q : Nat × va_E} (h : (fo_vx K ad e)[j]? = some q) : j < K ∧ q = (ad j, e j) := by
  by_cases hj : j < K
  · rw [fo_vx_at hj] at h
    exact ⟨hj, (Option.some.inj h).symm⟩
  · rw [List.getElem?_eq_none (by rw [fo_vx_len]; omega)] at h
    cases h
theorem fo_vx_set {K : Nat} {ad : Nat → Nat} {e e' : Nat → va_E} {j : Nat} {x : va_E} (h : j < K) (hx : e' j = x) (hn : ∀ i, i < K → i ≠ j → e' i = e i) : (fo_vx K ad e).set j (ad j, x) = fo_vx K ad e' := by
  apply List.ext_getElem?
  intro i
  by_cases hi : i < K
  · rw [fo_vx_at hi, List.getElem?_set]
    by_cases hij : j = i
    · subst hij
      rw [if_pos rfl, if_pos (by rw [fo_vx_len]; exact hi), hx]
    · rw [if_neg hij, fo_vx_at hi, hn i hi (Ne.symm hij)]
  · rw [List.getElem?_eq_none (by rw [List.length_set, fo_vx_len]; omega), List.getElem?_eq_none (by rw [fo_vx_len]; omega)]
theorem fo_vx_D {A : Nat → Prop} {K : Nat} {ad : Nat → Nat} {e e' : Nat → va_E} (h : va_D A (fo_vx K ad e)) : va_D A (fo_vx K ad e') := by
  refine ⟨fun i j p q hp hq hpq => ?_, fun k q hq => ?_⟩
  · obtain ⟨hi, rfl⟩ := fo_vx_get hp
    obtain ⟨hj, rfl⟩ := fo_vx_get hq
    exact h.1 i j _ _ (fo_vx_at hi) (fo_vx_at hj) hpq
  · obtain ⟨hk, rfl⟩ := fo_vx_get hq
    exact h.2 k (ad k, e k) (fo_vx_at hk)
/-- which cells a method of the world may change: the world's, and new ones -/
def fo_A (K : Nat) (ad : Nat → Nat) (sz : Nat) : Nat → Prop := fun q => (∃ j, j < K ∧ q = ad j) ∨ sz ≤ q
theorem fo_A_D {A : Nat → Prop} {K : Nat} {ad : Nat → Nat} {e e' : Nat → va_E} {sz : Nat} (h : va_D A (fo_vx K ad e)) : va_D (fo_A K ad sz) (fo_vx K ad e') := by
  refine ⟨(fo_vx_D h).1, fun k q hq => ?_⟩
  obtain ⟨hk, rfl⟩ := fo_vx_get hq
  exact Or.inl ⟨k, hk, rfl⟩
theorem fo_A_le {K : Nat} {ad : Nat → Nat} {a b q : Nat} (h : a ≤ b) (hq : fo_A K ad b q) : fo_A K ad a q := by
  rcases hq with hq | hq
  · exact Or.inl hq
  · exact Or.inr (Nat.le_trans h hq)
/-- a contract's start and ends, over a world -/
def fo_Pre (K : Nat) (D : va_G) (cl : List vw_C) (tys : List (ClassId × FieldType)) (ad : Nat → Nat) (e : Nat → va_E) (sz : Nat) (av : List Value) : Array Value → State → Prop :=
  va_Pc av (fun U => U.heap.size = sz ∧ va_P D cl (fo_vx K ad e) U.heap ∧ va_K D cl tys U ∧ va_D (fun _ => True) (fo_vx K ad e))
def fo_Bh (K : Nat) (D : va_G) (cl : List vw_C) (tys : List (ClassId × FieldType)) (ad : Nat → Nat) (e : Nat → va_E) : Unit → State → Prop := fun _ t => va_P D cl (fo_vx K ad e) t.heap ∧ va_K D cl tys t
def fo_PoI (K : Nat) (D : va_G) (cl : List vw_C) (tys : List (ClassId × FieldType)) (ad : Nat → Nat) (e : Nat → va_E) (sz : Nat) (r : Int32) : Array Value → State → Outcome → State → Prop :=
  va_Qi (fun r' (_ : Unit) => r' = r) (fo_Bh K D cl tys ad e) (fo_A K ad sz)
def fo_PoL (K : Nat) (D : va_G) (cl : List vw_C) (tys : List (ClassId × FieldType)) (ad : Nat → Nat) (e : Nat → va_E) (sz : Nat) (r : Int64) : Array Value → State → Outcome → State → Prop :=
  va_Ql (fun r' (_ : Unit) => r' = r) (fo_Bh K D cl tys ad e) (fo_A K ad sz)
def fo_PoV (K : Nat) (D : va_G) (cl : List vw_C) (tys : List (ClassId × FieldType)) (ad : Nat → Nat) (e : Nat → va_E) (sz : Nat) : Array Value → State → Outcome → State → Prop :=
  va_Qv (fun (_ : Unit) => True) (fo_Bh K D cl tys ad e) (fo_A K ad sz)
theorem fo_Pre_blind {K : Nat} {D : va_G} {cl : List vw_C} {tys : List (ClassId × FieldType)} {ad : Nat → Nat} {e : Nat → va_E} {sz : Nat} {av : List Value} : FrameBlind (fo_Pre K D cl tys ad e sz av) := by
  intro a U g mk q
  obtain ⟨q0, q1, qP, qK, qD⟩ := q
  exact ⟨q0, q1, qP, va_K.moved (u := U) (U := U.calling g mk a) (Vm.Alike.refl U.vm) qK, qD⟩
theorem fo_Pre_at {K : Nat} {D : va_G} {cl : List vw_C} {tys : List (ClassId × FieldType)} {ad : Nat → Nat} {e : Nat → va_E} {av : List Value} {s : State} {H : Heap} {A : Nat → Prop} (hP : va_P D cl (fo_vx K ad e) H) (hK : va_K D cl tys s) (hD : va_D A (fo_vx K ad e)) : ∀ U : State, U.heap = H → s.WarmedH U.vm → fo_Pre K D cl tys ad e H.size av av.toArray U := by
  intro U hU hW
  exact ⟨rfl, by rw [hU], by rw [hU]; exact hP, va_K.moved hW.alike hK, hD.weaken (fun _ _ _ _ => trivial)⟩
section FOC
variable {p : Program} {l : Launch} {e : Env} {R : Room} {s : State} {m : MethodId} {args : Array Value} {below : List Frame} {meth : Method} {c : Code} {H : Heap} {locs : List Loc} {cells slots : Nat} {Q : State → Prop}
variable {pc : Nat} {ls : Array Slot} {rest st0 : List Value} {a : Array Value} {K : Nat} {D : va_G} {cl : List vw_C} {tys : List (ClassId × FieldType)} {ad : Nat → Nat} {e1 : Nat → va_E}
/-- behind a call inside a world -/
theorem fo_calli {r : Int32} (hr : va_Run p l e R s m args below meth c H locs cells slots 0 0 (F0 m pc ls st0) rest (fo_PoI K D cl tys ad e1 H.size r a) (fo_A K ad H.size)) (hS : va_S (fo_A K ad s.heap.size) s.heap H locs)
    (kk : ∀ (H1 : Heap) (locs1 : List Loc), va_P D cl (fo_vx K ad e1) H1 → va_S (fo_A K ad s.heap.size) s.heap H1 locs1 → W p l e R s m args below meth c H1 locs1 cells slots Q (F0 m (pc + 3) ls (.int r :: rest))) : W p l e R s m args below meth c H locs cells slots Q (F0 m pc ls st0) := by
  refine va_calli hr hS (fun q _ h => fo_A_le hS.1 h) (fun q h => fo_A_le hS.1 h) (fun r1 u t H1 locs1 ht hvm hw hB hz hk hS1 => ?_)
  obtain ⟨hP1, hK1⟩ := hB
  rw [ht] at hP1
  subst hw
  exact kk H1 locs1 hP1 hS1
theorem fo_calll {r : Int64} (hr : va_Run p l e R s m args below meth c H locs cells slots 0 0 (F0 m pc ls st0) rest (fo_PoL K D cl tys ad e1 H.size r a) (fo_A K ad H.size)) (hS : va_S (fo_A K ad s.heap.size) s.heap H locs)
    (kk : ∀ (H1 : Heap) (locs1 : List Loc), va_P D cl (fo_vx K ad e1) H1 → va_S (fo_A K ad s.heap.size) s.heap H1 locs1 → W p l e R s m args below meth c H1 locs1 cells slots Q (F0 m (pc + 3) ls (.long r :: rest))) : W p l e R s m args below meth c H locs cells slots Q (F0 m pc ls st0) := by
  refine va_calll hr hS (fun q _ h => fo_A_le hS.1 h) (fun q h => fo_A_le hS.1 h) (fun r1 u t H1 locs1 ht hvm hw hB hz hk hS1 => ?_)
  obtain ⟨hP1, hK1⟩ := hB
  rw [ht] at hP1
  subst hw
  exact kk H1 locs1 hP1 hS1
theorem fo_callv (hr : va_Run p l e R s m args below meth c H locs cells slots 0 0 (F0 m pc ls st0) rest (fo_PoV K D cl tys ad e1 H.size a) (fo_A K ad H.size)) (hS : va_S (fo_A K ad s.heap.size) s.heap H locs)
    (kk : ∀ (H1 : Heap) (locs1 : List Loc), va_P D cl (fo_vx K ad e1) H1 → va_S (fo_A K ad s.heap.size) s.heap H1 locs1 → W p l e R s m args below meth c H1 locs1 cells slots Q (F0 m (pc + 3) ls rest)) : W p l e R s m args below meth c H locs cells slots Q (F0 m pc ls st0) := by
  refine va_callv hr hS (fun q _ h => fo_A_le hS.1 h) (fun q h => fo_A_le hS.1 h) (fun u t H1 locs1 ht hvm hw hB hz hk hS1 => ?_)
  obtain ⟨hP1, hK1⟩ := hB
  rw [ht] at hP1
  exact kk H1 locs1 hP1 hS1
end FOC
theorem fo_in {x : Int32} {n : Nat} (h : vp_in x n) : x.toNatClampNeg < n := Nat.not_le.mp fun q => h (Or.inr q)
theorem fo_zn {x : Int32} (h : x = 0 ∨ x = 1) : narrow .boolean (.int x) = .int x := by
  rcases h with rfl | rfl <;> rfl
def fo_fil {α : Type} (f : Nat → α) (n : Nat) (v : α) : Nat → α := fun j => if j < n then v else f j
-- worlds that grow
theorem fo_vx_push {K : Nat} {ad : Nat → Nat} {e : Nat → va_E} {q : Nat} {x : va_E} : fo_vx K ad e ++ [(q, x)] = fo_vx (K + 1) (va_up ad K q) (va_up e K x) := by
  unfold fo_vx
  rw [List.range_succ, List.map_append]
  congr 1
  · apply List.map_congr_left
    intro j hj
    have h : j ≠ K := Nat.ne_of_lt (List.mem_range.mp hj)
    simp [va_up, h]
  · simp [va_up]
theorem fo_up_lt {α : Type} {f : Nat → α} {K j : Nat} {x : α} (h : j < K) : va_up f K x j = f j := by
  simp [va_up, Nat.ne_of_lt h]
theorem fo_up_eq {α : Type} {f : Nat → α} {K : Nat} {x : α} : va_up f K x K = x := by
  simp [va_up]
theorem fo_vx_up {K : Nat} {ad : Nat → Nat} {e : Nat → va_E} {j a : Nat} {x : va_E} (h : j < K) (ha : ad j = a) : (fo_vx K ad e).set j (a, x) = fo_vx K ad (va_up e j x) := by
  subst ha
  refine fo_vx_set h fo_up_eq (fun i _ hne => ?_)
  simp [va_up, hne]
theorem fo_vx_ext {K : Nat} {ad : Nat → Nat} {e e' : Nat → va_E} (h : ∀ j, j < K → e j = e' j) : fo_vx K ad e = fo_vx K ad e' := by
  unfold fo_vx
  apply List.map_congr_left
  intro j hj
  rw [h j (List.mem_range.mp hj)]
theorem fo_A_sub {A0 : Nat → Prop} {K : Nat} {ad : Nat → Nat} {e : Nat → va_E} {H0 H : Heap} {locs : List Loc} (hD : va_D A0 (fo_vx K ad e)) (hS : va_S A0 H0 H locs) (hA : ∀ q, H0.size ≤ q → A0 q) : ∀ q, fo_A K ad H.size q → A0 q := by
  intro q hq
  rcases hq with ⟨j, hj, rfl⟩ | hq
  · exact hD.2 j _ (fo_vx_at hj)
  · exact hA q (Nat.le_trans hS.1 hq)
section FOG
variable {p : Program} {l : Launch} {e : Env} {R : Room} {s : State} {m : MethodId} {args : Array Value} {below : List Frame} {meth : Method} {c : Code} {H : Heap} {locs : List Loc} {cells slots : Nat} {Q : State → Prop}
variable {cc : ByteArray} {pc : Nat} {ls : Array Slot} {rest : List Value} {D : va_G} {cl : List vw_C} {tys : List (ClassId × FieldType)} {A : Nat → Prop} {H0 : Heap} {K : Nat} {ad : Nat → Nat} {e1 : Nat → va_E}
/-- a new array of a primitive type whose class is known -/
theorem fo_newa {atype : ArrayType} {ty : FieldType} {cA0 : ClassId} (hx : p.tables.exec = Jvm.exec) (hb : c.code = cc) (harr : (Cond.arrayClass (newarray.typeOf atype)).before args s = true) (hty : newarray.typeOf atype = ty) (hK : va_K D cl tys s) (t0 : Nat) (ht : tys[t0]? = some (cA0, ty)) (hra : ∀ cA : ClassId, va_RA s cA ty → va_RA s cA0 ty → cA = cA0) (hP : va_P D cl (fo_vx K ad e1) H) (hD : va_D A (fo_vx K ad e1)) (hS : va_S A H0 H locs) (hA : ∀ q, H0.size ≤ q → A q)
    {n : Int32} {N' : Nat} {a0 : vp_A} (ha : ∀ cA : ClassId, vp_cell cA a0 = arrV cA N' (fun _ => defaultValue ty)) (hn : ¬ n < 0) (hN : n.toNatClampNeg = N') (hbytes : N' * componentBytes ty ≤ 536870912) (hcells : cells + 1 ≤ R.cells) (hslots : slots + N' ≤ R.slots) (hdg : decode cc pc = .ok (.newarray atype, 2))
    (kk : ∀ (q : Nat) (H1 : Heap), va_P D cl (fo_vx (K + 1) (va_up ad K q) (va_up e1 K (.inl (cA0, a0)))) H1 → va_D A (fo_vx (K + 1) (va_up ad K q) (va_up e1 K (.inl (cA0, a0)))) → va_S A H0 H1 locs → W p l e R s m args below meth c H1 locs (cells + 1) (slots + N') Q (F0 m (pc + 2) ls (.ref q :: rest))) : W p l e R s m args below meth c H locs cells slots Q (F0 m pc ls (.int n :: rest)) := by
  refine va_newa hx hb harr hty hK hP hD hS hA ha hn hN hbytes hcells hslots hdg (fun q cA H1 hK1 hP1 hD1 hS1 => ?_)
  have h1 := (hK1.2 tys.length (cA, ty) (by simp)).2
  have h2 := (hK.2 t0 _ ht).2
  have hc : cA = cA0 := hra cA h1 h2
  subst hc
  rw [fo_vx_push] at hP1 hD1
  exact kk q H1 hP1 hD1 hS1
theorem fo_new {own C : String} {T : u_T} {N ci index : Nat} {Ts : List Cond} (hx : p.tables.exec = Jvm.exec) (hb : c.code = cc) (hts : ∀ w ∈ Ts, w.before args s = true) (hin : ∀ w ∈ u_ws C T N, w ∈ Ts) (ty : Nat → FieldType) (hty : ∀ k, k < N → parseFieldDescriptor (T k).2.2.1 = some (ty k)) (hown : s.vm.findClass own = some m.cls) (hcl : (Cond.classLink own index C).before args s = true) (hinst : (Cond.instantiable C N).before args s = true) (hini : (Cond.initialized C).before args s = true)
    (hK : va_K D cl tys s) (hP : va_P D cl (fo_vx K ad e1) H) (hD : va_D A (fo_vx K ad e1)) (hS : va_S A H0 H locs) (hA : ∀ q, H0.size ≤ q → A q) (hc : cl[ci]? = some (C, T, N)) {fs : List Value} (hfs : ∀ j, j < N → defaultValue (ty j) = vp_V fs j) (hcells : cells + 1 ≤ R.cells) (hslots : slots + N ≤ R.slots) (hdg : decode cc pc = .ok (.new index, 3))
    (kk : ∀ (q : Nat) (H1 : Heap), va_P D cl (fo_vx (K + 1) (va_up ad K q) (va_up e1 K (.inr (ci, fs)))) H1 → va_D A (fo_vx (K + 1) (va_up ad K q) (va_up e1 K (.inr (ci, fs)))) → va_S A H0 H1 locs → W p l e R s m args below meth c H1 locs (cells + 1) (slots + N) Q (F0 m (pc + 3) ls (.ref q :: rest))) : W p l e R s m args below meth c H locs cells slots Q (F0 m pc ls rest) := by
  refine va_new hx hb hts hin ty hty hown hcl hinst hini hK hP hD hS hA hc hfs hcells hslots hdg (fun q H1 hP1 hD1 hS1 => ?_)
  rw [fo_vx_push] at hP1 hD1
  exact kk q H1 hP1 hD1 hS1
theorem fo_putF {own ref C : String} {T : u_T} {N ci index : Nat} {Ts : List Cond} (hx : p.tables.exec = Jvm.exec) (hb : c.code = cc) (hts : ∀ w ∈ Ts, w.before args s = true) (hin : ∀ w ∈ u_ws C T N, w ∈ Ts) (ty0 : Nat → FieldType) (hty : ∀ k, k < N → parseFieldDescriptor (T k).2.2.1 = some (ty0 k)) (hnm : ∀ a, a < N → ∀ b, b < N → a ≠ b → (T a).2.1 ≠ (T b).2.1) (hown : s.vm.findClass own = some m.cls) (hK : va_K D cl tys s) (hP : va_P D cl (fo_vx K ad e1) H) (hD : va_D A (fo_vx K ad e1)) (hS : va_S A H0 H locs) (j : Nat) {a : Nat} (hj : j < K) (ha : ad j = a) {fs : List Value} (hej : e1 j = .inr (ci, fs)) (hc : cl[ci]? = some (C, T, N)) (k : Nat) (hk : k < N) (hlink : (Cond.fieldLink own index ref (T k).2.1 (T k).2.2.1).before args s = true) (hsame : ∀ x, s.fieldFound? (T k).1 (T k).2.1 (T k).2.2.1 = some x → s.fieldFound? ref (T k).2.1 (T k).2.2.1 = some x) (hfin : (T k).2.2.2 = true) (hin2 : meth.name = "<init>") (hdecl : (T k).1 = own) {ty : FieldType} {v : Value} (hd : parseFieldDescriptor (T k).2.2.1 = some ty) (hn : narrow ty v = v) (hfit : fits ty v = true) (hl : k < fs.length) (hdg : decode cc pc = .ok (.putfield index, 3))
    (kk : ∀ (H1 : Heap) (locs1 : List Loc), va_P D cl (fo_vx K ad (va_up e1 j (.inr (ci, fs.set k v)))) H1 → va_D A (fo_vx K ad (va_up e1 j (.inr (ci, fs.set k v)))) → va_S A H0 H1 locs1 → W p l e R s m args below meth c H1 locs1 cells slots Q (F0 m (pc + 3) ls rest)) : W p l e R s m args below meth c H locs cells slots Q (F0 m pc ls (v :: .ref a :: rest)) := by
  refine va_putF hx hb hts hin ty0 hty hnm hown hK hP hD hS j (by rw [fo_vx_at hj, ha, hej]) hc k hk hlink hsame hfin hin2 hdecl hd hn hfit hl hdg (fun H1 locs1 hP1 hD1 hS1 => ?_)
  rw [fo_vx_up hj ha] at hP1 hD1
  exact kk H1 locs1 hP1 hD1 hS1
theorem fo_newq {own C : String} {index : Nat} {cA0 : ClassId} (hx : p.tables.exec = Jvm.exec) (hb : c.code = cc) (hown : s.vm.findClass own = some m.cls) (hcl : (Cond.classLink own index C).before args s = true) (hover : va_AO C s) (hK : va_K D cl tys s) (t0 : Nat) (ht : tys[t0]? = some (cA0, .object C)) (hP : va_P D cl (fo_vx K ad e1) H) (hD : va_D A (fo_vx K ad e1)) (hS : va_S A H0 H locs) (hA : ∀ q, H0.size ≤ q → A q)
    {n : Int32} {N' : Nat} (hn : ¬ n < 0) (hN : n.toNatClampNeg = N') (hbytes : N' * 4 ≤ 536870912) (hcells : cells + 1 ≤ R.cells) (hslots : slots + N' ≤ R.slots) (hdg : decode cc pc = .ok (.anewarray index, 3))
    (kk : ∀ (q : Nat) (H1 : Heap), va_P D cl (fo_vx (K + 1) (va_up ad K q) (va_up e1 K (.inl (cA0, N', .inr (.inr (.inr (.inr (fun _ => none)))))))) H1 → va_D A (fo_vx (K + 1) (va_up ad K q) (va_up e1 K (.inl (cA0, N', .inr (.inr (.inr (.inr (fun _ => none)))))))) → va_S A H0 H1 locs → W p l e R s m args below meth c H1 locs (cells + 1) (slots + N') Q (F0 m (pc + 3) ls (.ref q :: rest))) : W p l e R s m args below meth c H locs cells slots Q (F0 m pc ls (.int n :: rest)) := by
  refine va_newq hx hb hown hcl hover hK hP hD hS hA hn hN hbytes hcells hslots hdg (fun q cA H1 hK1 hP1 hD1 hS1 => ?_)
  obtain ⟨kA, comp, a1, a2, a3, a4⟩ := (hK1.2 tys.length (cA, .object C) (by simp)).2
  obtain ⟨kA', comp', b1, b2, b3, b4⟩ := (hK.2 t0 _ ht).2
  have hc : cA = cA0 := Option.some.inj (a4.symm.trans b4)
  subst hc
  rw [fo_vx_push] at hP1 hD1
  exact kk q H1 hP1 hD1 hS1
end FOG
section FOG2
variable {p : Program} {l : Launch} {e : Env} {R : Room} {s : State} {m : MethodId} {args : Array Value} {below : List Frame} {meth : Method} {c : Code} {H : Heap} {locs : List Loc} {cells slots : Nat} {Q : State → Prop}
variable {cc : ByteArray} {pc : Nat} {ls : Array Slot} {rest : List Value} {D : va_G} {cl : List vw_C} {tys : List (ClassId × FieldType)} {A : Nat → Prop} {H0 : Heap} {K : Nat} {ad : Nat → Nat} {e1 : Nat → va_E}
theorem fo_astq (hx : p.tables.exec = Jvm.exec) (hb : c.code = cc) (hK : va_K D cl tys s) (hP : va_P D cl (fo_vx K ad e1) H) (hD : va_D A (fo_vx K ad e1)) (hS : va_S A H0 H locs) (j jk t0 ci : Nat) (hj : j < K) (hjk : jk < K) {a v : Nat} (ha : ad j = a) (hv : ad jk = v) {cA : ClassId} {r : vw_C} {n : Nat} {vs : List Value} {f : Nat → Option Nat} (hej : e1 j = .inl (cA, n, .inr (.inr (.inr (.inr f))))) (ht : tys[t0]? = some (cA, .object r.1)) (hek : e1 jk = .inr (ci, vs)) (hc : cl[ci]? = some r) {i : Int32} (hin : vp_in i n) (hdg : decode cc pc = .ok (.aastore, 1))
    (kk : ∀ (H1 : Heap) (locs1 : List Loc), va_P D cl (fo_vx K ad (va_up e1 j (.inl (cA, n, .inr (.inr (.inr (.inr (va_up f i.toNatClampNeg (some v))))))))) H1 → va_D A (fo_vx K ad (va_up e1 j (.inl (cA, n, .inr (.inr (.inr (.inr (va_up f i.toNatClampNeg (some v))))))))) → va_S A H0 H1 locs1 → W p l e R s m args below meth c H1 locs1 cells slots Q (F0 m (pc + 1) ls rest)) : W p l e R s m args below meth c H locs cells slots Q (F0 m pc ls (.ref v :: .int i :: .ref a :: rest)) := by
  refine va_astq hx hb hK hP hD hS j t0 jk ci (by rw [fo_vx_at hj, ha, hej]) ht (by rw [fo_vx_at hjk, hv, hek]) hc hin hdg (fun H1 locs1 hP1 hD1 hS1 => ?_)
  rw [fo_vx_up hj ha] at hP1 hD1
  exact kk H1 locs1 hP1 hD1 hS1
end FOG2
