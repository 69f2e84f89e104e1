theorem fo_P_at {D : va_G} {cl : List vw_C} {H : Heap} {K : Nat} {ad : Nat → Nat} {e e' : Nat → va_E} (hP : va_P D cl (fo_vx K ad e) H) (h : ∀ j, j < K → e' j = e j ∨ ∃ (cA : ClassId) (n : Nat) (f g : Nat → Option Nat), e j = .inl (cA, n, .inr (.inr (.inr (.inr f)))) ∧ e' j = .inl (cA, n, .inr (.inr (.inr (.inr g)))) ∧ ∀ q, q < n → g q = f q) : va_P D cl (fo_vx K ad e') H := by
  intro k q hk
  obtain ⟨hj, rfl⟩ := fo_vx_get hk
  have h0 := hP k _ (fo_vx_at hj)
  rcases h k hj with h1 | ⟨cA, n, f, g, h1, h2, h3⟩
  · rw [h1]
    exact h0
  · rw [h1] at h0
    rw [h2]
    have h4 : H[ad k]? = some (vp_cell cA (n, .inr (.inr (.inr (.inr f))))) := h0
    show H[ad k]? = some (vp_cell cA (n, .inr (.inr (.inr (.inr g)))))
    rw [h4, vp_cell_q, vp_cell_q]
    unfold arrV
    congr 3
    funext j
    exact congrArg va_rf (h3 j.val j.isLt).symm
section FOG3
variable {p : Program} {l : Launch} {e : Env} {R : Room} {s : State} {m : MethodId} {args : Array Value} {below : List Frame} {meth : Method} {c : Code} {H : Heap} {locs : List Loc} {cells slots : Nat} {Q : State → Prop}
variable {cc : ByteArray} {pc : Nat} {ls : Array Slot} {rest : List Value} {D : va_G} {cl : List vw_C} {tys : List (ClassId × FieldType)} {A : Nat → Prop} {H0 : Heap} {K : Nat} {ad : Nat → Nat} {e1 : Nat → va_E}
theorem fo_put {own ref C : String} {T : u_T} {N ci index : Nat} {Ts : List Cond} (hx : p.tables.exec = Jvm.exec) (hb : c.code = cc) (hts : ∀ w ∈ Ts, w.before args s = true) (hin : ∀ w ∈ u_ws C T N, w ∈ Ts) (ty0 : Nat → FieldType) (hty : ∀ k, k < N → parseFieldDescriptor (T k).2.2.1 = some (ty0 k)) (hnm : ∀ a, a < N → ∀ b, b < N → a ≠ b → (T a).2.1 ≠ (T b).2.1) (hown : s.vm.findClass own = some m.cls) (hK : va_K D cl tys s) (hP : va_P D cl (fo_vx K ad e1) H) (hD : va_D A (fo_vx K ad e1)) (hS : va_S A H0 H locs) (j : Nat) {a : Nat} (hj : j < K) (ha : ad j = a) {fs : List Value} (hej : e1 j = .inr (ci, fs)) (hc : cl[ci]? = some (C, T, N)) (k : Nat) (hk : k < N) (hlink : (Cond.fieldLink own index ref (T k).2.1 (T k).2.2.1).before args s = true) (hsame : ∀ x, s.fieldFound? (T k).1 (T k).2.1 (T k).2.2.1 = some x → s.fieldFound? ref (T k).2.1 (T k).2.2.1 = some x) (hfin : (T k).2.2.2 = false) {ty : FieldType} {v : Value} (hd : parseFieldDescriptor (T k).2.2.1 = some ty) (hn : narrow ty v = v) (hfit : fits ty v = true) (hl : k < fs.length) (hdg : decode cc pc = .ok (.putfield index, 3))
    (kk : ∀ (H1 : Heap) (locs1 : List Loc), va_P D cl (fo_vx K ad (va_up e1 j (.inr (ci, fs.set k v)))) H1 → va_D A (fo_vx K ad (va_up e1 j (.inr (ci, fs.set k v)))) → va_S A H0 H1 locs1 → W p l e R s m args below meth c H1 locs1 cells slots Q (F0 m (pc + 3) ls rest)) : W p l e R s m args below meth c H locs cells slots Q (F0 m pc ls (v :: .ref a :: rest)) := by
  refine va_put hx hb hts hin ty0 hty hnm hown hK hP hD hS j (by rw [fo_vx_at hj, ha, hej]) hc k hk hlink hsame hfin hd hn hfit hl hdg (fun H1 locs1 hP1 hD1 hS1 => ?_)
  rw [fo_vx_up hj ha] at hP1 hD1
  exact kk H1 locs1 hP1 hD1 hS1
end FOG3
