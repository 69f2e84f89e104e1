def fo_base : Nat → Nat := fun k => match k with
  | 0 => 0
  | 1 => 1
  | 2 => 2
  | 3 => 3
  | 4 => 7
  | 5 => 8
  | 6 => 9
  | 7 => 12
  | 8 => 13
  | 9 => 14
  | 10 => 15
  | 11 => 16
  | 12 => 17
  | 13 => 18
  | 14 => 19
  | 15 => 20
  | _ => 0
def fo_cnt : Nat → Nat := fun k => match k with
  | 0 => 1
  | 1 => 2
  | 2 => 2
  | 3 => 2
  | 4 => 1
  | 5 => 2
  | 6 => 2
  | 7 => 1
  | 8 => 1
  | 9 => 1
  | 10 => 1
  | 11 => 1
  | 12 => 1
  | 13 => 1
  | 14 => 16
  | 15 => 16
  | _ => 0
def fo_str : Nat → Nat := fun k => match k with
  | 0 => 0
  | 1 => 3
  | 2 => 3
  | 3 => 3
  | 4 => 0
  | 5 => 2
  | 6 => 2
  | 7 => 0
  | 8 => 0
  | 9 => 0
  | 10 => 0
  | 11 => 0
  | 12 => 0
  | 13 => 0
  | 14 => 2
  | 15 => 2
  | _ => 0
def fo_lay (k i : Nat) : Nat := fo_base k + fo_str k * i
def fo_tab : List (Nat × Nat) := [(0, 0), (1, 0), (2, 0), (3, 0), (1, 1), (2, 1), (3, 1), (4, 0), (5, 0), (6, 0), (5, 1), (6, 1), (7, 0), (8, 0), (9, 0), (10, 0), (11, 0), (12, 0), (13, 0), (14, 0), (15, 0), (14, 1), (15, 1), (14, 2), (15, 2), (14, 3), (15, 3), (14, 4), (15, 4), (14, 5), (15, 5), (14, 6), (15, 6), (14, 7), (15, 7), (14, 8), (15, 8), (14, 9), (15, 9), (14, 10), (15, 10), (14, 11), (15, 11), (14, 12), (15, 12), (14, 13), (15, 13), (14, 14), (15, 14), (14, 15), (15, 15)]
def fo_kd (j : Nat) : Nat × Nat := fo_tab.getD j (0, 0)
theorem fo_tabA : ∀ k, k < 16 → ∀ i, i < fo_cnt k → fo_lay k i < 51 ∧ fo_kd (fo_lay k i) = (k, i) := by decide +kernel
theorem fo_tabB : ∀ j, j < 51 → (fo_kd j).1 < 16 ∧ (fo_kd j).2 < fo_cnt (fo_kd j).1 ∧ fo_lay (fo_kd j).1 (fo_kd j).2 = j := by decide +kernel
def fo_row (ca : Nat → ClassId) (ad : Nat → Nat) (I : Nat → Int32) (J : Nat → Int64) (k i : Nat) : va_E := match k with
  | 0 => .inr (0, [.ref (ad (fo_lay 1 0)), .ref (ad (fo_lay 1 1)), .ref (ad (fo_lay 4 0)), .ref (ad (fo_lay 5 0)), .ref (ad (fo_lay 5 1)), .ref (ad (fo_lay 7 0)), .ref (ad (fo_lay 8 0)), .ref (ad (fo_lay 10 0)), .int (I 8), .int (I 9), .int (I 10), .int (I 11), .long (J 12), .int (I 13), .int (I 14)])
  | 1 => .inr (2, [.ref (ad (fo_lay 2 i)), .ref (ad (fo_lay 3 i))])
  | 2 => .inl (ca 1, 9, .inr (.inl J))
  | 3 => .inl (ca 1, 9, .inr (.inl J))
  | 4 => .inl (ca 3, 16, .inr (.inr (.inr (.inr (fun q => some (ad (fo_lay 14 q)))))))
  | 5 => .inr (3, [.ref (ad (fo_lay 6 i)), .int (I 1)])
  | 6 => .inl (ca 0, 16, .inl I)
  | 7 => .inl (ca 0, 16, .inl I)
  | 8 => .inr (4, [.ref (ad (fo_lay 9 i))])
  | 9 => .inl (ca 0, 16, .inl I)
  | 10 => .inr (5, [.ref (ad (fo_lay 11 i)), .ref (ad (fo_lay 12 i)), .ref (ad (fo_lay 13 i)), .long (J 3), .long (J 4)])
  | 11 => .inl (ca 2, 16, .inl I)
  | 12 => .inl (ca 1, 8, .inr (.inl J))
  | 13 => .inl (ca 1, 8, .inr (.inl J))
  | 14 => .inr (1, [.ref (ad (fo_lay 15 i)), .int (I 1), .long (J 2), .long (J 3), .int (I 4), .int (I 5), .int (I 6), .int (I 7), .int (I 8), .long (J 9)])
  | 15 => .inl (ca 0, 5, .inl I)
  | _ => .inr (0, [])
def fo_ck (ca : Nat → ClassId) (ad : Nat → Nat) (σ : fo_S) (k i : Nat) : va_E := fo_row ca ad (σ.1 k i) (σ.2 k i) k i
def fo_ce (ca : Nat → ClassId) (ad : Nat → Nat) (σ : fo_S) (j : Nat) : va_E := fo_ck ca ad σ (fo_kd j).1 (fo_kd j).2
abbrev fo_tys (ca : Nat → ClassId) : List (ClassId × FieldType) := [(ca 0, .int), (ca 1, .long), (ca 2, .boolean), (ca 3, .object "FairOrder$Call")]
theorem fo_at {ca : Nat → ClassId} {ad : Nat → Nat} {σ : fo_S} {k i : Nat} (hk : k < 16) (hi : i < fo_cnt k) : (fo_vx 51 ad (fo_ce ca ad σ))[fo_lay k i]? = some (ad (fo_lay k i), fo_row ca ad (σ.1 k i) (σ.2 k i) k i) := by
  obtain ⟨h1, h2⟩ := fo_tabA k hk i hi
  rw [fo_vx_at h1, fo_ce, h2, fo_ck]
theorem fo_set {ca : Nat → ClassId} {ad : Nat → Nat} {σ σ' : fo_S} {k i : Nat} {x : va_E} (hk : k < 16) (hi : i < fo_cnt k) (hx : fo_row ca ad (σ'.1 k i) (σ'.2 k i) k i = x) (h1 : ∀ k' i', ¬ (k' = k ∧ i' = i) → σ'.1 k' i' = σ.1 k' i') (h2 : ∀ k' i', ¬ (k' = k ∧ i' = i) → σ'.2 k' i' = σ.2 k' i') : (fo_vx 51 ad (fo_ce ca ad σ)).set (fo_lay k i) (ad (fo_lay k i), x) = fo_vx 51 ad (fo_ce ca ad σ') := by
  obtain ⟨q1, q2⟩ := fo_tabA k hk i hi
  refine fo_vx_set q1 ?_ ?_
  · rw [fo_ce, q2, fo_ck]
    exact hx
  · intro j hj hne
    obtain ⟨b1, b2, b3⟩ := fo_tabB j hj
    have hn : ¬ ((fo_kd j).1 = k ∧ (fo_kd j).2 = i) := fun q => hne (by rw [← b3, q.1, q.2])
    rw [fo_ce, fo_ce, fo_ck, fo_ck, h1 _ _ hn, h2 _ _ hn]
theorem fo_setI {ca : Nat → ClassId} {ad : Nat → Nat} {σ : fo_S} {k i j : Nat} {v : Int32} {x : va_E} (hk : k < 16) (hi : i < fo_cnt k) (hx : fo_row ca ad (upd (σ.1 k i) j v) (σ.2 k i) k i = x) : (fo_vx 51 ad (fo_ce ca ad σ)).set (fo_lay k i) (ad (fo_lay k i), x) = fo_vx 51 ad (fo_ce ca ad (fo_pI σ k i j v)) :=
  fo_set hk hi (by rw [fo_pI_1]; exact hx) (fun _ _ h => fo_pI_n h) (fun _ _ _ => rfl)
theorem fo_setJ {ca : Nat → ClassId} {ad : Nat → Nat} {σ : fo_S} {k i j : Nat} {v : Int64} {x : va_E} (hk : k < 16) (hi : i < fo_cnt k) (hx : fo_row ca ad (σ.1 k i) (vp_updL (σ.2 k i) j v) k i = x) : (fo_vx 51 ad (fo_ce ca ad σ)).set (fo_lay k i) (ad (fo_lay k i), x) = fo_vx 51 ad (fo_ce ca ad (fo_pJ σ k i j v)) :=
  fo_set hk hi (by rw [fo_pJ_1]; exact hx) (fun _ _ _ => rfl) (fun _ _ h => fo_pJ_n h)
theorem fo_setrI {ca : Nat → ClassId} {ad : Nat → Nat} {σ : fo_S} {k i : Nat} {f : Nat → Int32} {x : va_E} (hk : k < 16) (hi : i < fo_cnt k) (hx : fo_row ca ad f (σ.2 k i) k i = x) : (fo_vx 51 ad (fo_ce ca ad σ)).set (fo_lay k i) (ad (fo_lay k i), x) = fo_vx 51 ad (fo_ce ca ad (fo_rI σ k i f)) :=
  fo_set hk hi (by rw [fo_rI_1]; exact hx) (fun _ _ h => fo_rI_n h) (fun _ _ _ => rfl)
theorem fo_setrJ {ca : Nat → ClassId} {ad : Nat → Nat} {σ : fo_S} {k i : Nat} {f : Nat → Int64} {x : va_E} (hk : k < 16) (hi : i < fo_cnt k) (hx : fo_row ca ad (σ.1 k i) f k i = x) : (fo_vx 51 ad (fo_ce ca ad σ)).set (fo_lay k i) (ad (fo_lay k i), x) = fo_vx 51 ad (fo_ce ca ad (fo_rJ σ k i f)) :=
  fo_set hk hi (by rw [fo_rJ_1]; exact hx) (fun _ _ _ => rfl) (fun _ _ h => fo_rJ_n h)
def fo_CX (p : Program) (s : State) (m : MethodId) (args : Array Value) (c : Code) (cc : ByteArray) (nL : Nat) (own : String) (D : va_G) (ca : Nat → ClassId) (ad : Nat → Nat) : Prop :=
  p.tables.exec = Jvm.exec ∧ c.code = cc ∧ c.maxLocals = nL ∧ s.vm.findClass own = some m.cls ∧ (∀ w ∈ fo_T, w.before args s = true) ∧ va_K D vwCl (fo_tys ca) s ∧ ∀ e, va_D (fo_A 51 ad s.heap.size) (fo_vx 51 ad e)
theorem fo_mkI {l : Launch} {y : MethodName} {cc : ByteArray} {maxL : Nat} {rm : Room} {D : va_G} {ca : Nat → ClassId} {ad : Nat → Nat} {e0 e1 : Nat → va_E} {sz : Nat} {r : Int32} {av : List Value} (hy : plainName y.cls = true)
    (body : ∀ {p : Program} {e : Env} {s : State} {m : MethodId} {args : Array Value} {below : List Frame} {meth : Method} {c : Code} {Q : State → Prop}, fo_CX p s m args c cc maxL y.cls D ca ad → (∀ (pc : Nat) (ls : Array Slot) (H : Heap) (locs : List Loc), decode cc pc = .ok (.ireturn, 1) → va_P D vwCl (fo_vx 51 ad e1) H → va_S (fo_A 51 ad s.heap.size) s.heap H locs → W p l e rm s m args below meth c H locs 0 0 Q (F0 m pc ls [.int r])) → va_P D vwCl (fo_vx 51 ad e0) s.heap → W p l e rm s m args below meth c s.heap [] 0 0 Q (entryFrame m av.toArray maxL)) :
    Met l y (.code y cc maxL (some .int) :: fo_T) rm (fo_Pre 51 D vwCl (fo_tys ca) ad e0 sz av) (fo_PoI 51 D vwCl (fo_tys ca) ad e1 sz r) 0 0 (fo_A 51 ad sz) := by
  refine Met.ofW (cc := cc) (maxL := maxL) (ret := some .int) hy rfl ?_
  intro p e s m args below meth c s₁ B hml hv
  obtain ⟨rfl, hsz, hP, hK, hD0⟩ := hv
  subst hsz
  have hr := B.returns
  have hlocks := B.notSynchronized
  have hts := atoms_spec (ws := .code y cc maxL (some .int) :: fo_T) B.pre
  refine body ⟨B.exec, B.bytes, hml, findClass_of_methodNamed B.named, fun w h => hts w (List.mem_cons_of_mem _ h), hK, fun e => fo_A_D hD0⟩ (fun pc ls H locs hd hP1 hS => ?_) hP
  exact W.iret B.exec B.bytes hr (fun t ht hW => ⟨⟨r, (), rfl, rfl, by rw [ht]; exact hP1, va_K.moved hW.alike hK⟩, hS.F ht⟩) hS.2.2 hd
theorem fo_mkZ {l : Launch} {y : MethodName} {cc : ByteArray} {maxL : Nat} {rm : Room} {D : va_G} {ca : Nat → ClassId} {ad : Nat → Nat} {e0 e1 : Nat → va_E} {sz : Nat} {r : Int32} {av : List Value} (hy : plainName y.cls = true)
    (body : ∀ {p : Program} {e : Env} {s : State} {m : MethodId} {args : Array Value} {below : List Frame} {meth : Method} {c : Code} {Q : State → Prop}, fo_CX p s m args c cc maxL y.cls D ca ad → (∀ (pc : Nat) (ls : Array Slot) (H : Heap) (locs : List Loc), narrow .boolean (.int r) = .int r → decode cc pc = .ok (.ireturn, 1) → va_P D vwCl (fo_vx 51 ad e1) H → va_S (fo_A 51 ad s.heap.size) s.heap H locs → W p l e rm s m args below meth c H locs 0 0 Q (F0 m pc ls [.int r])) → va_P D vwCl (fo_vx 51 ad e0) s.heap → W p l e rm s m args below meth c s.heap [] 0 0 Q (entryFrame m av.toArray maxL)) :
    Met l y (.code y cc maxL (some .boolean) :: fo_T) rm (fo_Pre 51 D vwCl (fo_tys ca) ad e0 sz av) (fo_PoI 51 D vwCl (fo_tys ca) ad e1 sz r) 0 0 (fo_A 51 ad sz) := by
  refine Met.ofW (cc := cc) (maxL := maxL) (ret := some .boolean) hy rfl ?_
  intro p e s m args below meth c s₁ B hml hv
  obtain ⟨rfl, hsz, hP, hK, hD0⟩ := hv
  subst hsz
  have hr := B.returns
  have hlocks := B.notSynchronized
  have hts := atoms_spec (ws := .code y cc maxL (some .boolean) :: fo_T) B.pre
  refine body ⟨B.exec, B.bytes, hml, findClass_of_methodNamed B.named, fun w h => hts w (List.mem_cons_of_mem _ h), hK, fun e => fo_A_D hD0⟩ (fun pc ls H locs hz hd hP1 hS => ?_) hP
  exact W.zret B.exec B.bytes hr hz (fun t ht hW => ⟨⟨r, (), rfl, rfl, by rw [ht]; exact hP1, va_K.moved hW.alike hK⟩, hS.F ht⟩) hS.2.2 hd
theorem fo_mkL {l : Launch} {y : MethodName} {cc : ByteArray} {maxL : Nat} {rm : Room} {D : va_G} {ca : Nat → ClassId} {ad : Nat → Nat} {e0 e1 : Nat → va_E} {sz : Nat} {r : Int64} {av : List Value} (hy : plainName y.cls = true)
    (body : ∀ {p : Program} {e : Env} {s : State} {m : MethodId} {args : Array Value} {below : List Frame} {meth : Method} {c : Code} {Q : State → Prop}, fo_CX p s m args c cc maxL y.cls D ca ad → (∀ (pc : Nat) (ls : Array Slot) (H : Heap) (locs : List Loc), decode cc pc = .ok (.lreturn, 1) → va_P D vwCl (fo_vx 51 ad e1) H → va_S (fo_A 51 ad s.heap.size) s.heap H locs → W p l e rm s m args below meth c H locs 0 0 Q (F0 m pc ls [.long r])) → va_P D vwCl (fo_vx 51 ad e0) s.heap → W p l e rm s m args below meth c s.heap [] 0 0 Q (entryFrame m av.toArray maxL)) :
    Met l y (.code y cc maxL (some .long) :: fo_T) rm (fo_Pre 51 D vwCl (fo_tys ca) ad e0 sz av) (fo_PoL 51 D vwCl (fo_tys ca) ad e1 sz r) 0 0 (fo_A 51 ad sz) := by
  refine Met.ofW (cc := cc) (maxL := maxL) (ret := some .long) hy rfl ?_
  intro p e s m args below meth c s₁ B hml hv
  obtain ⟨rfl, hsz, hP, hK, hD0⟩ := hv
  subst hsz
  have hr := B.returns
  have hlocks := B.notSynchronized
  have hts := atoms_spec (ws := .code y cc maxL (some .long) :: fo_T) B.pre
  refine body ⟨B.exec, B.bytes, hml, findClass_of_methodNamed B.named, fun w h => hts w (List.mem_cons_of_mem _ h), hK, fun e => fo_A_D hD0⟩ (fun pc ls H locs hd hP1 hS => ?_) hP
  exact W.lret B.exec B.bytes hr (fun t ht hW => ⟨⟨r, (), rfl, rfl, by rw [ht]; exact hP1, va_K.moved hW.alike hK⟩, hS.F ht⟩) hS.2.2 hd
theorem fo_mkV {l : Launch} {y : MethodName} {cc : ByteArray} {maxL : Nat} {rm : Room} {D : va_G} {ca : Nat → ClassId} {ad : Nat → Nat} {e0 e1 : Nat → va_E} {sz : Nat} {av : List Value} (hy : plainName y.cls = true)
    (body : ∀ {p : Program} {e : Env} {s : State} {m : MethodId} {args : Array Value} {below : List Frame} {meth : Method} {c : Code} {Q : State → Prop}, fo_CX p s m args c cc maxL y.cls D ca ad → (∀ (pc : Nat) (ls : Array Slot) (H : Heap) (locs : List Loc), decode cc pc = .ok (.return_, 1) → va_P D vwCl (fo_vx 51 ad e1) H → va_S (fo_A 51 ad s.heap.size) s.heap H locs → W p l e rm s m args below meth c H locs 0 0 Q (F0 m pc ls [])) → va_P D vwCl (fo_vx 51 ad e0) s.heap → W p l e rm s m args below meth c s.heap [] 0 0 Q (entryFrame m av.toArray maxL)) :
    Met l y (.code y cc maxL (none) :: fo_T) rm (fo_Pre 51 D vwCl (fo_tys ca) ad e0 sz av) (fo_PoV 51 D vwCl (fo_tys ca) ad e1 sz) 0 0 (fo_A 51 ad sz) := by
  refine Met.ofW (cc := cc) (maxL := maxL) (ret := none) hy rfl ?_
  intro p e s m args below meth c s₁ B hml hv
  obtain ⟨rfl, hsz, hP, hK, hD0⟩ := hv
  subst hsz
  have hr := B.returns
  have hlocks := B.notSynchronized
  have hts := atoms_spec (ws := .code y cc maxL (none) :: fo_T) B.pre
  refine body ⟨B.exec, B.bytes, hml, findClass_of_methodNamed B.named, fun w h => hts w (List.mem_cons_of_mem _ h), hK, fun e => fo_A_D hD0⟩ (fun pc ls H locs hd hP1 hS => ?_) hP
  exact W.vret B.exec B.bytes hr (fun t ht hW => ⟨⟨(), rfl, trivial, by rw [ht]; exact hP1, va_K.moved hW.alike hK⟩, hS.F ht⟩) hS.2.2 hd
section FOM
variable {p : Program} {l : Launch} {e : Env} {R : Room} {s : State} {m : MethodId} {args : Array Value} {below : List Frame} {meth : Method} {c : Code} {H : Heap} {locs : List Loc} {cells slots : Nat} {Q : State → Prop}
variable {cc : ByteArray} {pc : Nat} {ls : Array Slot} {rest : List Value} {D : va_G} {A : Nat → Prop} {H0 : Heap} {ca : Nat → ClassId} {ad : Nat → Nat} {σ : fo_S}
theorem fo_iald (hx : p.tables.exec = Jvm.exec) (hb : c.code = cc) (hK : va_K D vwCl (fo_tys ca) s) (hP : va_P D vwCl (fo_vx 51 ad (fo_ce ca ad σ)) H) {k i n : Nat} (hk : k < 16) (hi : i < fo_cnt k) (hrow : ∀ (I : Nat → Int32) (J : Nat → Int64), fo_row ca ad I J k i = .inl (ca 0, n, .inl I)) {ix : Int32} (hin : vp_in ix n) (hdg : decode cc pc = .ok (.iaload, 1))
    (kk : W p l e R s m args below meth c H locs cells slots Q (F0 m (pc + 1) ls (.int (σ.1 k i ix.toNatClampNeg) :: rest))) : W p l e R s m args below meth c H locs cells slots Q (F0 m pc ls (.int ix :: .ref (ad (fo_lay k i)) :: rest)) :=
  va_iald hx hb hK hP (fo_lay k i) 0 (by rw [fo_at hk hi, hrow]) rfl hin hdg kk
theorem fo_zald (hx : p.tables.exec = Jvm.exec) (hb : c.code = cc) (hK : va_K D vwCl (fo_tys ca) s) (hP : va_P D vwCl (fo_vx 51 ad (fo_ce ca ad σ)) H) {k i n : Nat} (hk : k < 16) (hi : i < fo_cnt k) (hrow : ∀ (I : Nat → Int32) (J : Nat → Int64), fo_row ca ad I J k i = .inl (ca 2, n, .inl I)) {ix : Int32} (hin : vp_in ix n) (hdg : decode cc pc = .ok (.baload, 1))
    (kk : W p l e R s m args below meth c H locs cells slots Q (F0 m (pc + 1) ls (.int (σ.1 k i ix.toNatClampNeg) :: rest))) : W p l e R s m args below meth c H locs cells slots Q (F0 m pc ls (.int ix :: .ref (ad (fo_lay k i)) :: rest)) :=
  va_zald hx hb hK hP (fo_lay k i) 2 (by rw [fo_at hk hi, hrow]) rfl hin hdg kk
theorem fo_lald (hx : p.tables.exec = Jvm.exec) (hb : c.code = cc) (hK : va_K D vwCl (fo_tys ca) s) (hP : va_P D vwCl (fo_vx 51 ad (fo_ce ca ad σ)) H) {k i n : Nat} (hk : k < 16) (hi : i < fo_cnt k) (hrow : ∀ (I : Nat → Int32) (J : Nat → Int64), fo_row ca ad I J k i = .inl (ca 1, n, .inr (.inl J))) {ix : Int32} (hin : vp_in ix n) (hdg : decode cc pc = .ok (.laload, 1))
    (kk : W p l e R s m args below meth c H locs cells slots Q (F0 m (pc + 1) ls (.long (σ.2 k i ix.toNatClampNeg) :: rest))) : W p l e R s m args below meth c H locs cells slots Q (F0 m pc ls (.int ix :: .ref (ad (fo_lay k i)) :: rest)) :=
  va_lald hx hb hK hP (fo_lay k i) 1 (by rw [fo_at hk hi, hrow]) rfl hin hdg kk
theorem fo_iast (hx : p.tables.exec = Jvm.exec) (hb : c.code = cc) (hK : va_K D vwCl (fo_tys ca) s) (hP : va_P D vwCl (fo_vx 51 ad (fo_ce ca ad σ)) H) (hD : ∀ e, va_D A (fo_vx 51 ad e)) (hS : va_S A H0 H locs) {k i n : Nat} (hk : k < 16) (hi : i < fo_cnt k) (hrow : ∀ (I : Nat → Int32) (J : Nat → Int64), fo_row ca ad I J k i = .inl (ca 0, n, .inl I)) {ix : Int32} {x : Int32} (hin : vp_in ix n) (hdg : decode cc pc = .ok (.iastore, 1))
    (kk : ∀ (H1 : Heap) (locs1 : List Loc), va_P D vwCl (fo_vx 51 ad (fo_ce ca ad (fo_pI σ k i ix.toNatClampNeg x))) H1 → va_S A H0 H1 locs1 → W p l e R s m args below meth c H1 locs1 cells slots Q (F0 m (pc + 1) ls rest)) : W p l e R s m args below meth c H locs cells slots Q (F0 m pc ls (.int x :: .int ix :: .ref (ad (fo_lay k i)) :: rest)) := by
  refine va_iast hx hb hK hP (hD _) hS (fo_lay k i) 0 (by rw [fo_at hk hi, hrow]) rfl hin hdg (fun H1 locs1 hP1 hD1 hS1 => ?_)
  rw [fo_setI hk hi (hrow _ _)] at hP1
  exact kk H1 locs1 hP1 hS1
theorem fo_zast (hx : p.tables.exec = Jvm.exec) (hb : c.code = cc) (hK : va_K D vwCl (fo_tys ca) s) (hP : va_P D vwCl (fo_vx 51 ad (fo_ce ca ad σ)) H) (hD : ∀ e, va_D A (fo_vx 51 ad e)) (hS : va_S A H0 H locs) {k i n : Nat} (hk : k < 16) (hi : i < fo_cnt k) (hrow : ∀ (I : Nat → Int32) (J : Nat → Int64), fo_row ca ad I J k i = .inl (ca 2, n, .inl I)) {ix : Int32} {x : Int32} (hin : vp_in ix n) (hdg : decode cc pc = .ok (.bastore, 1))
    (kk : ∀ (H1 : Heap) (locs1 : List Loc), va_P D vwCl (fo_vx 51 ad (fo_ce ca ad (fo_pI σ k i ix.toNatClampNeg (vp_nar .boolean x)))) H1 → va_S A H0 H1 locs1 → W p l e R s m args below meth c H1 locs1 cells slots Q (F0 m (pc + 1) ls rest)) : W p l e R s m args below meth c H locs cells slots Q (F0 m pc ls (.int x :: .int ix :: .ref (ad (fo_lay k i)) :: rest)) := by
  refine va_zast hx hb hK hP (hD _) hS (fo_lay k i) 2 (by rw [fo_at hk hi, hrow]) rfl hin hdg (fun H1 locs1 hP1 hD1 hS1 => ?_)
  rw [fo_setI hk hi (hrow _ _)] at hP1
  exact kk H1 locs1 hP1 hS1
theorem fo_last (hx : p.tables.exec = Jvm.exec) (hb : c.code = cc) (hK : va_K D vwCl (fo_tys ca) s) (hP : va_P D vwCl (fo_vx 51 ad (fo_ce ca ad σ)) H) (hD : ∀ e, va_D A (fo_vx 51 ad e)) (hS : va_S A H0 H locs) {k i n : Nat} (hk : k < 16) (hi : i < fo_cnt k) (hrow : ∀ (I : Nat → Int32) (J : Nat → Int64), fo_row ca ad I J k i = .inl (ca 1, n, .inr (.inl J))) {ix : Int32} {x : Int64} (hin : vp_in ix n) (hdg : decode cc pc = .ok (.lastore, 1))
    (kk : ∀ (H1 : Heap) (locs1 : List Loc), va_P D vwCl (fo_vx 51 ad (fo_ce ca ad (fo_pJ σ k i ix.toNatClampNeg x))) H1 → va_S A H0 H1 locs1 → W p l e R s m args below meth c H1 locs1 cells slots Q (F0 m (pc + 1) ls rest)) : W p l e R s m args below meth c H locs cells slots Q (F0 m pc ls (.long x :: .int ix :: .ref (ad (fo_lay k i)) :: rest)) := by
  refine va_last hx hb hK hP (hD _) hS (fo_lay k i) 1 (by rw [fo_at hk hi, hrow]) rfl hin hdg (fun H1 locs1 hP1 hD1 hS1 => ?_)
  rw [fo_setJ hk hi (hrow _ _)] at hP1
  exact kk H1 locs1 hP1 hS1
theorem fo_rc0 {s : State} {H : Heap} {D : va_G} {ca : Nat → ClassId} {ad : Nat → Nat} {σ : fo_S} (hK : va_K D vwCl (fo_tys ca) s) (hP : va_P D vwCl (fo_vx 51 ad (fo_ce ca ad σ)) H) {i : Nat} (hi : i < 1) : ∃ cell : Cell, H[ad (fo_lay 0 i)]? = some cell ∧ cell.vm.isStatics = false ∧ s.vm.findClass RX0 = some cell.cls :=
  va_recv hK hP (ci := 0) (q0 := fo_lay 0 i) rfl (fo_at (by decide) hi)
theorem fo_rc1 {s : State} {H : Heap} {D : va_G} {ca : Nat → ClassId} {ad : Nat → Nat} {σ : fo_S} (hK : va_K D vwCl (fo_tys ca) s) (hP : va_P D vwCl (fo_vx 51 ad (fo_ce ca ad σ)) H) {i : Nat} (hi : i < 2) : ∃ cell : Cell, H[ad (fo_lay 1 i)]? = some cell ∧ cell.vm.isStatics = false ∧ s.vm.findClass RX2 = some cell.cls :=
  va_recv hK hP (ci := 2) (q0 := fo_lay 1 i) rfl (fo_at (by decide) hi)
theorem fo_alen_2 (hx : p.tables.exec = Jvm.exec) (hb : c.code = cc) (hK : va_K D vwCl (fo_tys ca) s) (hP : va_P D vwCl (fo_vx 51 ad (fo_ce ca ad σ)) H) {i : Nat} (hi : i < 2) (hdg : decode cc pc = .ok (.arraylength, 1))
    (kk : W p l e R s m args below meth c H locs cells slots Q (F0 m (pc + 1) ls (.int 9 :: rest))) : W p l e R s m args below meth c H locs cells slots Q (F0 m pc ls (.ref (ad (fo_lay 2 i)) :: rest)) :=
  va_alen hx hb hK hP (fo_lay 2 i) 1 (fo_at (by decide) hi) rfl rfl hdg kk
theorem fo_alen_3 (hx : p.tables.exec = Jvm.exec) (hb : c.code = cc) (hK : va_K D vwCl (fo_tys ca) s) (hP : va_P D vwCl (fo_vx 51 ad (fo_ce ca ad σ)) H) {i : Nat} (hi : i < 2) (hdg : decode cc pc = .ok (.arraylength, 1))
    (kk : W p l e R s m args below meth c H locs cells slots Q (F0 m (pc + 1) ls (.int 9 :: rest))) : W p l e R s m args below meth c H locs cells slots Q (F0 m pc ls (.ref (ad (fo_lay 3 i)) :: rest)) :=
  va_alen hx hb hK hP (fo_lay 3 i) 1 (fo_at (by decide) hi) rfl rfl hdg kk
theorem fo_aald_4 (hx : p.tables.exec = Jvm.exec) (hb : c.code = cc) (hK : va_K D vwCl (fo_tys ca) s) (hP : va_P D vwCl (fo_vx 51 ad (fo_ce ca ad σ)) H) {i : Nat} (hi : i < 1) {ix : Int32} (hin : vp_in ix 16) (hdg : decode cc pc = .ok (.aaload, 1))
    (kk : W p l e R s m args below meth c H locs cells slots Q (F0 m (pc + 1) ls (.ref (ad (fo_lay 14 ix.toNatClampNeg)) :: rest))) : W p l e R s m args below meth c H locs cells slots Q (F0 m pc ls (.int ix :: .ref (ad (fo_lay 4 i)) :: rest)) :=
  va_aldq hx hb hK hP (fo_lay 4 i) 3 (fo_at (by decide) hi) rfl hin hdg kk
theorem fo_alen_4 (hx : p.tables.exec = Jvm.exec) (hb : c.code = cc) (hK : va_K D vwCl (fo_tys ca) s) (hP : va_P D vwCl (fo_vx 51 ad (fo_ce ca ad σ)) H) {i : Nat} (hi : i < 1) (hdg : decode cc pc = .ok (.arraylength, 1))
    (kk : W p l e R s m args below meth c H locs cells slots Q (F0 m (pc + 1) ls (.int 16 :: rest))) : W p l e R s m args below meth c H locs cells slots Q (F0 m pc ls (.ref (ad (fo_lay 4 i)) :: rest)) :=
  va_alen hx hb hK hP (fo_lay 4 i) 3 (fo_at (by decide) hi) rfl rfl hdg kk
theorem fo_rc5 {s : State} {H : Heap} {D : va_G} {ca : Nat → ClassId} {ad : Nat → Nat} {σ : fo_S} (hK : va_K D vwCl (fo_tys ca) s) (hP : va_P D vwCl (fo_vx 51 ad (fo_ce ca ad σ)) H) {i : Nat} (hi : i < 2) : ∃ cell : Cell, H[ad (fo_lay 5 i)]? = some cell ∧ cell.vm.isStatics = false ∧ s.vm.findClass RX3 = some cell.cls :=
  va_recv hK hP (ci := 3) (q0 := fo_lay 5 i) rfl (fo_at (by decide) hi)
theorem fo_alen_6 (hx : p.tables.exec = Jvm.exec) (hb : c.code = cc) (hK : va_K D vwCl (fo_tys ca) s) (hP : va_P D vwCl (fo_vx 51 ad (fo_ce ca ad σ)) H) {i : Nat} (hi : i < 2) (hdg : decode cc pc = .ok (.arraylength, 1))
    (kk : W p l e R s m args below meth c H locs cells slots Q (F0 m (pc + 1) ls (.int 16 :: rest))) : W p l e R s m args below meth c H locs cells slots Q (F0 m pc ls (.ref (ad (fo_lay 6 i)) :: rest)) :=
  va_alen hx hb hK hP (fo_lay 6 i) 0 (fo_at (by decide) hi) rfl rfl hdg kk
theorem fo_alen_7 (hx : p.tables.exec = Jvm.exec) (hb : c.code = cc) (hK : va_K D vwCl (fo_tys ca) s) (hP : va_P D vwCl (fo_vx 51 ad (fo_ce ca ad σ)) H) {i : Nat} (hi : i < 1) (hdg : decode cc pc = .ok (.arraylength, 1))
    (kk : W p l e R s m args below meth c H locs cells slots Q (F0 m (pc + 1) ls (.int 16 :: rest))) : W p l e R s m args below meth c H locs cells slots Q (F0 m pc ls (.ref (ad (fo_lay 7 i)) :: rest)) :=
  va_alen hx hb hK hP (fo_lay 7 i) 0 (fo_at (by decide) hi) rfl rfl hdg kk
theorem fo_rc8 {s : State} {H : Heap} {D : va_G} {ca : Nat → ClassId} {ad : Nat → Nat} {σ : fo_S} (hK : va_K D vwCl (fo_tys ca) s) (hP : va_P D vwCl (fo_vx 51 ad (fo_ce ca ad σ)) H) {i : Nat} (hi : i < 1) : ∃ cell : Cell, H[ad (fo_lay 8 i)]? = some cell ∧ cell.vm.isStatics = false ∧ s.vm.findClass RX4 = some cell.cls :=
  va_recv hK hP (ci := 4) (q0 := fo_lay 8 i) rfl (fo_at (by decide) hi)
theorem fo_alen_9 (hx : p.tables.exec = Jvm.exec) (hb : c.code = cc) (hK : va_K D vwCl (fo_tys ca) s) (hP : va_P D vwCl (fo_vx 51 ad (fo_ce ca ad σ)) H) {i : Nat} (hi : i < 1) (hdg : decode cc pc = .ok (.arraylength, 1))
    (kk : W p l e R s m args below meth c H locs cells slots Q (F0 m (pc + 1) ls (.int 16 :: rest))) : W p l e R s m args below meth c H locs cells slots Q (F0 m pc ls (.ref (ad (fo_lay 9 i)) :: rest)) :=
  va_alen hx hb hK hP (fo_lay 9 i) 0 (fo_at (by decide) hi) rfl rfl hdg kk
theorem fo_rc10 {s : State} {H : Heap} {D : va_G} {ca : Nat → ClassId} {ad : Nat → Nat} {σ : fo_S} (hK : va_K D vwCl (fo_tys ca) s) (hP : va_P D vwCl (fo_vx 51 ad (fo_ce ca ad σ)) H) {i : Nat} (hi : i < 1) : ∃ cell : Cell, H[ad (fo_lay 10 i)]? = some cell ∧ cell.vm.isStatics = false ∧ s.vm.findClass RX5 = some cell.cls :=
  va_recv hK hP (ci := 5) (q0 := fo_lay 10 i) rfl (fo_at (by decide) hi)
theorem fo_alen_11 (hx : p.tables.exec = Jvm.exec) (hb : c.code = cc) (hK : va_K D vwCl (fo_tys ca) s) (hP : va_P D vwCl (fo_vx 51 ad (fo_ce ca ad σ)) H) {i : Nat} (hi : i < 1) (hdg : decode cc pc = .ok (.arraylength, 1))
    (kk : W p l e R s m args below meth c H locs cells slots Q (F0 m (pc + 1) ls (.int 16 :: rest))) : W p l e R s m args below meth c H locs cells slots Q (F0 m pc ls (.ref (ad (fo_lay 11 i)) :: rest)) :=
  va_alen hx hb hK hP (fo_lay 11 i) 2 (fo_at (by decide) hi) rfl rfl hdg kk
theorem fo_alen_12 (hx : p.tables.exec = Jvm.exec) (hb : c.code = cc) (hK : va_K D vwCl (fo_tys ca) s) (hP : va_P D vwCl (fo_vx 51 ad (fo_ce ca ad σ)) H) {i : Nat} (hi : i < 1) (hdg : decode cc pc = .ok (.arraylength, 1))
    (kk : W p l e R s m args below meth c H locs cells slots Q (F0 m (pc + 1) ls (.int 8 :: rest))) : W p l e R s m args below meth c H locs cells slots Q (F0 m pc ls (.ref (ad (fo_lay 12 i)) :: rest)) :=
  va_alen hx hb hK hP (fo_lay 12 i) 1 (fo_at (by decide) hi) rfl rfl hdg kk
theorem fo_alen_13 (hx : p.tables.exec = Jvm.exec) (hb : c.code = cc) (hK : va_K D vwCl (fo_tys ca) s) (hP : va_P D vwCl (fo_vx 51 ad (fo_ce ca ad σ)) H) {i : Nat} (hi : i < 1) (hdg : decode cc pc = .ok (.arraylength, 1))
    (kk : W p l e R s m args below meth c H locs cells slots Q (F0 m (pc + 1) ls (.int 8 :: rest))) : W p l e R s m args below meth c H locs cells slots Q (F0 m pc ls (.ref (ad (fo_lay 13 i)) :: rest)) :=
  va_alen hx hb hK hP (fo_lay 13 i) 1 (fo_at (by decide) hi) rfl rfl hdg kk
theorem fo_rc14 {s : State} {H : Heap} {D : va_G} {ca : Nat → ClassId} {ad : Nat → Nat} {σ : fo_S} (hK : va_K D vwCl (fo_tys ca) s) (hP : va_P D vwCl (fo_vx 51 ad (fo_ce ca ad σ)) H) {i : Nat} (hi : i < 16) : ∃ cell : Cell, H[ad (fo_lay 14 i)]? = some cell ∧ cell.vm.isStatics = false ∧ s.vm.findClass RX1 = some cell.cls :=
  va_recv hK hP (ci := 1) (q0 := fo_lay 14 i) rfl (fo_at (by decide) hi)
theorem fo_alen_15 (hx : p.tables.exec = Jvm.exec) (hb : c.code = cc) (hK : va_K D vwCl (fo_tys ca) s) (hP : va_P D vwCl (fo_vx 51 ad (fo_ce ca ad σ)) H) {i : Nat} (hi : i < 16) (hdg : decode cc pc = .ok (.arraylength, 1))
    (kk : W p l e R s m args below meth c H locs cells slots Q (F0 m (pc + 1) ls (.int 5 :: rest))) : W p l e R s m args below meth c H locs cells slots Q (F0 m pc ls (.ref (ad (fo_lay 15 i)) :: rest)) :=
  va_alen hx hb hK hP (fo_lay 15 i) 0 (fo_at (by decide) hi) rfl rfl hdg kk
end FOM
section FOM
variable {p : Program} {l : Launch} {e : Env} {R : Room} {s : State} {m : MethodId} {args : Array Value} {below : List Frame} {meth : Method} {c : Code} {H : Heap} {locs : List Loc} {cells slots : Nat} {Q : State → Prop}
variable {cc : ByteArray} {pc : Nat} {ls : Array Slot} {rest : List Value} {D : va_G} {A : Nat → Prop} {H0 : Heap} {ca : Nat → ClassId} {ad : Nat → Nat} {σ : fo_S}
theorem fo_cpJ (hx : p.tables.exec = Jvm.exec) (hb : c.code = cc) (hml : c.maxLocals = ls.size) {own : String} {index : Nat} (hown : s.vm.findClass own = some m.cls) (hlink : (Cond.methodLink own index arraycopyName).before args s = true) (hT : ∀ w ∈ fo_T, w.before args s = true) (hK : va_K D vwCl (fo_tys ca) s) (hP : va_P D vwCl (fo_vx 51 ad (fo_ce ca ad σ)) H) (hD : ∀ e, va_D A (fo_vx 51 ad e)) (hS : va_S A H0 H locs) {k0 i0 n0 k i n : Nat} (hk0 : k0 < 16) (hi0 : i0 < fo_cnt k0) (hk : k < 16) (hi : i < fo_cnt k) (hrow0 : ∀ (I : Nat → Int32) (J : Nat → Int64), fo_row ca ad I J k0 i0 = .inl (ca 1, n0, .inr (.inl J))) (hrow : ∀ (I : Nat → Int32) (J : Nat → Int64), fo_row ca ad I J k i = .inl (ca 1, n, .inr (.inl J))) {sp dp len : Int32} (h1 : ¬ sp < 0) (h2 : ¬ dp < 0) (h3 : ¬ len < 0) (h4 : sp.toNatClampNeg + len.toNatClampNeg ≤ n0) (h5 : dp.toNatClampNeg + len.toNatClampNeg ≤ n) (hframes : 1 ≤ R.frames) (hlocals : (rest.map fun v => v.category).sum + (nativeFrameWords "java/lang/System" "arraycopy" 5 + 11) ≤ R.locals) (hdg : decode cc pc = .ok (.invokestatic index, 3))
    (kk : ∀ (H1 : Heap) (locs1 : List Loc), va_P D vwCl (fo_vx 51 ad (fo_ce ca ad (fo_rJ σ k i (va_cpy (σ.2 k0 i0) (σ.2 k i) sp.toNatClampNeg dp.toNatClampNeg len.toNatClampNeg)))) H1 → va_S A H0 H1 locs1 → W p l e R s m args below meth c H1 locs1 cells slots Q (F0 m (pc + 3) ls rest)) : W p l e R s m args below meth c H locs cells slots Q (F0 m pc ls (.int len :: .int dp :: .ref (ad (fo_lay k i)) :: .int sp :: .ref (ad (fo_lay k0 i0)) :: rest)) := by
  refine va_copyl hx hb hml hown hlink (fo_cpn hT) (fo_cps hT) (fo_cpi hT) hK hP (hD _) hS (fo_lay k0 i0) (fo_lay k i) 1 1 (by rw [fo_at hk0 hi0, hrow0]) (by rw [fo_at hk hi, hrow]) rfl rfl rfl h1 h2 h3 h4 h5 (fun _ _ => rfl) hframes hlocals hdg (fun H1 locs1 hP1 hD1 hS1 => ?_)
  rw [fo_setrJ hk hi (hrow _ _)] at hP1
  exact kk H1 locs1 hP1 hS1
theorem fo_cpI (hx : p.tables.exec = Jvm.exec) (hb : c.code = cc) (hml : c.maxLocals = ls.size) {own : String} {index : Nat} (hown : s.vm.findClass own = some m.cls) (hlink : (Cond.methodLink own index arraycopyName).before args s = true) (hT : ∀ w ∈ fo_T, w.before args s = true) (hK : va_K D vwCl (fo_tys ca) s) (hP : va_P D vwCl (fo_vx 51 ad (fo_ce ca ad σ)) H) (hD : ∀ e, va_D A (fo_vx 51 ad e)) (hS : va_S A H0 H locs) {k0 i0 n0 k i n : Nat} (hk0 : k0 < 16) (hi0 : i0 < fo_cnt k0) (hk : k < 16) (hi : i < fo_cnt k) (hrow0 : ∀ (I : Nat → Int32) (J : Nat → Int64), fo_row ca ad I J k0 i0 = .inl (ca 0, n0, .inl I)) (hrow : ∀ (I : Nat → Int32) (J : Nat → Int64), fo_row ca ad I J k i = .inl (ca 0, n, .inl I)) {sp dp len : Int32} (h1 : ¬ sp < 0) (h2 : ¬ dp < 0) (h3 : ¬ len < 0) (h4 : sp.toNatClampNeg + len.toNatClampNeg ≤ n0) (h5 : dp.toNatClampNeg + len.toNatClampNeg ≤ n) (hframes : 1 ≤ R.frames) (hlocals : (rest.map fun v => v.category).sum + (nativeFrameWords "java/lang/System" "arraycopy" 5 + 11) ≤ R.locals) (hdg : decode cc pc = .ok (.invokestatic index, 3))
    (kk : ∀ (H1 : Heap) (locs1 : List Loc), va_P D vwCl (fo_vx 51 ad (fo_ce ca ad (fo_rI σ k i (va_cpy (σ.1 k0 i0) (σ.1 k i) sp.toNatClampNeg dp.toNatClampNeg len.toNatClampNeg)))) H1 → va_S A H0 H1 locs1 → W p l e R s m args below meth c H1 locs1 cells slots Q (F0 m (pc + 3) ls rest)) : W p l e R s m args below meth c H locs cells slots Q (F0 m pc ls (.int len :: .int dp :: .ref (ad (fo_lay k i)) :: .int sp :: .ref (ad (fo_lay k0 i0)) :: rest)) := by
  refine va_copyi hx hb hml hown hlink (fo_cpn hT) (fo_cps hT) (fo_cpi hT) hK hP (hD _) hS (fo_lay k0 i0) (fo_lay k i) 0 0 (by rw [fo_at hk0 hi0, hrow0]) (by rw [fo_at hk hi, hrow]) rfl rfl rfl h1 h2 h3 h4 h5 (fun _ _ => rfl) hframes hlocals hdg (fun H1 locs1 hP1 hD1 hS1 => ?_)
  rw [fo_setrI hk hi (hrow _ _)] at hP1
  exact kk H1 locs1 hP1 hS1
end FOM
