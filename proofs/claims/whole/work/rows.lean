section
-- ===== PART A: goes FIRST, ahead of the names: the tables' words, and 'selects' of the private methods out of them =====
/-- a private method of a class that the tables say can be made, by its rows of tables_1 -/
def lw_okq (q : MethodName × Nat) : Prop := (q.1.cls ≠ "java/lang/invoke/MethodHandle" ∧ q.1.cls ≠ "java/lang/invoke/VarHandle") ∧ Cond.instantiable q.1.cls q.2 ∈ tables_1 ∧ Cond.privateMethod q.1 ∈ tables_1 ∧ Cond.instanceMethod q.1 ∈ tables_1
theorem lw_p0 : lw_okq (⟨"FairOrder", "beginBlock", "()V"⟩, 15) := ⟨⟨by decide +kernel, by decide +kernel⟩, List.mem_of_getElem? (i := 13) (by decide +kernel), List.mem_of_getElem? (i := 201) (by decide +kernel), List.mem_of_getElem? (i := 202) (by decide +kernel)⟩
theorem lw_p1 : lw_okq (⟨"FairOrder", "isAccount", "(I)Z"⟩, 15) := ⟨⟨by decide +kernel, by decide +kernel⟩, List.mem_of_getElem? (i := 13) (by decide +kernel), List.mem_of_getElem? (i := 239) (by decide +kernel), List.mem_of_getElem? (i := 240) (by decide +kernel)⟩
theorem lw_p2 : lw_okq (⟨"FairOrder", "isCall", "(I)Z"⟩, 15) := ⟨⟨by decide +kernel, by decide +kernel⟩, List.mem_of_getElem? (i := 13) (by decide +kernel), List.mem_of_getElem? (i := 260) (by decide +kernel), List.mem_of_getElem? (i := 261) (by decide +kernel)⟩
theorem lw_p3 : lw_okq (⟨"FairOrder", "takeLostDeposits", "()V"⟩, 15) := ⟨⟨by decide +kernel, by decide +kernel⟩, List.mem_of_getElem? (i := 13) (by decide +kernel), List.mem_of_getElem? (i := 278) (by decide +kernel), List.mem_of_getElem? (i := 279) (by decide +kernel)⟩
theorem lw_p4 : lw_okq (⟨"FairOrder$Links", "setBehind", "(I[LFairOrder$Call;I)I"⟩, 1) := ⟨⟨by decide +kernel, by decide +kernel⟩, List.mem_of_getElem? (i := 58) (by decide +kernel), List.mem_of_getElem? (i := 290) (by decide +kernel), List.mem_of_getElem? (i := 291) (by decide +kernel)⟩
theorem lw_p5 : lw_okq (⟨"FairOrder", "openedSet", "()I"⟩, 15) := ⟨⟨by decide +kernel, by decide +kernel⟩, List.mem_of_getElem? (i := 13) (by decide +kernel), List.mem_of_getElem? (i := 308) (by decide +kernel), List.mem_of_getElem? (i := 309) (by decide +kernel)⟩
theorem lw_p6 : lw_okq (⟨"FairOrder$Links", "firstKnot", "(II)I"⟩, 1) := ⟨⟨by decide +kernel, by decide +kernel⟩, List.mem_of_getElem? (i := 58) (by decide +kernel), List.mem_of_getElem? (i := 316) (by decide +kernel), List.mem_of_getElem? (i := 317) (by decide +kernel)⟩
theorem lw_p7 : lw_okq (⟨"FairOrder$Links", "isFree", "(III)Z"⟩, 1) := ⟨⟨by decide +kernel, by decide +kernel⟩, List.mem_of_getElem? (i := 58) (by decide +kernel), List.mem_of_getElem? (i := 320) (by decide +kernel), List.mem_of_getElem? (i := 321) (by decide +kernel)⟩
theorem lw_p8 : lw_okq (⟨"FairOrder$Links", "knotOf", "(II)I"⟩, 1) := ⟨⟨by decide +kernel, by decide +kernel⟩, List.mem_of_getElem? (i := 58) (by decide +kernel), List.mem_of_getElem? (i := 324) (by decide +kernel), List.mem_of_getElem? (i := 325) (by decide +kernel)⟩
theorem lw_p9 : lw_okq (⟨"FairOrder", "addByNumbers", "()V"⟩, 15) := ⟨⟨by decide +kernel, by decide +kernel⟩, List.mem_of_getElem? (i := 13) (by decide +kernel), List.mem_of_getElem? (i := 335) (by decide +kernel), List.mem_of_getElem? (i := 336) (by decide +kernel)⟩
theorem lw_p10 : lw_okq (⟨"FairOrder", "arrange", "(IJ)V"⟩, 15) := ⟨⟨by decide +kernel, by decide +kernel⟩, List.mem_of_getElem? (i := 13) (by decide +kernel), List.mem_of_getElem? (i := 340) (by decide +kernel), List.mem_of_getElem? (i := 341) (by decide +kernel)⟩
theorem lw_p11 : lw_okq (⟨"FairOrder$Row", "swap", "(II)V"⟩, 2) := ⟨⟨by decide +kernel, by decide +kernel⟩, List.mem_of_getElem? (i := 40) (by decide +kernel), List.mem_of_getElem? (i := 350) (by decide +kernel), List.mem_of_getElem? (i := 351) (by decide +kernel)⟩
theorem lw_p12 : lw_okq (⟨"FairOrder$Call", "nodesBefore", "(I)I"⟩, 10) := ⟨⟨by decide +kernel, by decide +kernel⟩, List.mem_of_getElem? (i := 90) (by decide +kernel), List.mem_of_getElem? (i := 361) (by decide +kernel), List.mem_of_getElem? (i := 362) (by decide +kernel)⟩
theorem lw_p13 : lw_okq (⟨"FairOrder", "isOpenedCall", "(I)Z"⟩, 15) := ⟨⟨by decide +kernel, by decide +kernel⟩, List.mem_of_getElem? (i := 13) (by decide +kernel), List.mem_of_getElem? (i := 381) (by decide +kernel), List.mem_of_getElem? (i := 382) (by decide +kernel)⟩
theorem lw_p14 : lw_okq (⟨"FairOrder", "mayPlay", "()Z"⟩, 15) := ⟨⟨by decide +kernel, by decide +kernel⟩, List.mem_of_getElem? (i := 13) (by decide +kernel), List.mem_of_getElem? (i := 394) (by decide +kernel), List.mem_of_getElem? (i := 395) (by decide +kernel)⟩
theorem lw_p15 : lw_okq (⟨"FairOrder$Market", "buyFromPool", "(LFairOrder$Call;)J"⟩, 2) := ⟨⟨by decide +kernel, by decide +kernel⟩, List.mem_of_getElem? (i := 21) (by decide +kernel), List.mem_of_getElem? (i := 402) (by decide +kernel), List.mem_of_getElem? (i := 403) (by decide +kernel)⟩
def lw_privs_1 : List (MethodName × Nat) := [(⟨"FairOrder", "beginBlock", "()V"⟩, 15), (⟨"FairOrder", "isAccount", "(I)Z"⟩, 15), (⟨"FairOrder", "isCall", "(I)Z"⟩, 15), (⟨"FairOrder", "takeLostDeposits", "()V"⟩, 15), (⟨"FairOrder$Links", "setBehind", "(I[LFairOrder$Call;I)I"⟩, 1), (⟨"FairOrder", "openedSet", "()I"⟩, 15), (⟨"FairOrder$Links", "firstKnot", "(II)I"⟩, 1), (⟨"FairOrder$Links", "isFree", "(III)Z"⟩, 1), (⟨"FairOrder$Links", "knotOf", "(II)I"⟩, 1), (⟨"FairOrder", "addByNumbers", "()V"⟩, 15), (⟨"FairOrder", "arrange", "(IJ)V"⟩, 15), (⟨"FairOrder$Row", "swap", "(II)V"⟩, 2), (⟨"FairOrder$Call", "nodesBefore", "(I)I"⟩, 10), (⟨"FairOrder", "isOpenedCall", "(I)Z"⟩, 15), (⟨"FairOrder", "mayPlay", "()Z"⟩, 15), (⟨"FairOrder$Market", "buyFromPool", "(LFairOrder$Call;)J"⟩, 2)]
theorem lw_r1 : ∀ q ∈ lw_privs_1, lw_okq q := List.forall_mem_cons.mpr ⟨lw_p0, List.forall_mem_cons.mpr ⟨lw_p1, List.forall_mem_cons.mpr ⟨lw_p2, List.forall_mem_cons.mpr ⟨lw_p3, List.forall_mem_cons.mpr ⟨lw_p4, List.forall_mem_cons.mpr ⟨lw_p5, List.forall_mem_cons.mpr ⟨lw_p6, List.forall_mem_cons.mpr ⟨lw_p7, List.forall_mem_cons.mpr ⟨lw_p8, List.forall_mem_cons.mpr ⟨lw_p9, List.forall_mem_cons.mpr ⟨lw_p10, List.forall_mem_cons.mpr ⟨lw_p11, List.forall_mem_cons.mpr ⟨lw_p12, List.forall_mem_cons.mpr ⟨lw_p13, List.forall_mem_cons.mpr ⟨lw_p14, List.forall_mem_cons.mpr ⟨lw_p15, fun _ h => absurd h List.not_mem_nil⟩⟩⟩⟩⟩⟩⟩⟩⟩⟩⟩⟩⟩⟩⟩⟩
theorem lw_p16 : lw_okq (⟨"FairOrder$Market", "sellToPool", "(LFairOrder$Call;)J"⟩, 2) := ⟨⟨by decide +kernel, by decide +kernel⟩, List.mem_of_getElem? (i := 21) (by decide +kernel), List.mem_of_getElem? (i := 419) (by decide +kernel), List.mem_of_getElem? (i := 420) (by decide +kernel)⟩
theorem lw_p17 : lw_okq (⟨"FairOrder$Auction", "gather", "(ILFairOrder$Row;[LFairOrder$Call;LFairOrder$Market;)V"⟩, 5) := ⟨⟨by decide +kernel, by decide +kernel⟩, List.mem_of_getElem? (i := 68) (by decide +kernel), List.mem_of_getElem? (i := 433) (by decide +kernel), List.mem_of_getElem? (i := 434) (by decide +kernel)⟩
theorem lw_p18 : lw_okq (⟨"FairOrder$Auction", "joinBuys", "(LFairOrder$Call;ILFairOrder$Market;)Z"⟩, 5) := ⟨⟨by decide +kernel, by decide +kernel⟩, List.mem_of_getElem? (i := 68) (by decide +kernel), List.mem_of_getElem? (i := 438) (by decide +kernel), List.mem_of_getElem? (i := 439) (by decide +kernel)⟩
theorem lw_p19 : lw_okq (⟨"FairOrder$Auction", "joinSells", "(LFairOrder$Call;ILFairOrder$Market;)Z"⟩, 5) := ⟨⟨by decide +kernel, by decide +kernel⟩, List.mem_of_getElem? (i := 68) (by decide +kernel), List.mem_of_getElem? (i := 442) (by decide +kernel), List.mem_of_getElem? (i := 443) (by decide +kernel)⟩
theorem lw_p20 : lw_okq (⟨"FairOrder$Auction", "volume", "()J"⟩, 5) := ⟨⟨by decide +kernel, by decide +kernel⟩, List.mem_of_getElem? (i := 68) (by decide +kernel), List.mem_of_getElem? (i := 446) (by decide +kernel), List.mem_of_getElem? (i := 447) (by decide +kernel)⟩
theorem lw_p21 : lw_okq (⟨"FairOrder", "heldAfterTrial", "(LFairOrder$Row;II)J"⟩, 15) := ⟨⟨by decide +kernel, by decide +kernel⟩, List.mem_of_getElem? (i := 13) (by decide +kernel), List.mem_of_getElem? (i := 490) (by decide +kernel), List.mem_of_getElem? (i := 491) (by decide +kernel)⟩
theorem lw_p22 : lw_okq (⟨"FairOrderModel", "newBlock", "()V"⟩, 37) := ⟨⟨by decide +kernel, by decide +kernel⟩, List.mem_of_getElem? (i := 525) (by decide +kernel), List.mem_of_getElem? (i := 647) (by decide +kernel), List.mem_of_getElem? (i := 648) (by decide +kernel)⟩
theorem lw_p23 : lw_okq (⟨"FairOrderModel", "isCall", "(I)Z"⟩, 37) := ⟨⟨by decide +kernel, by decide +kernel⟩, List.mem_of_getElem? (i := 525) (by decide +kernel), List.mem_of_getElem? (i := 685) (by decide +kernel), List.mem_of_getElem? (i := 686) (by decide +kernel)⟩
theorem lw_p24 : lw_okq (⟨"FairOrderModel", "rankOf", "(II)I"⟩, 37) := ⟨⟨by decide +kernel, by decide +kernel⟩, List.mem_of_getElem? (i := 525) (by decide +kernel), List.mem_of_getElem? (i := 702) (by decide +kernel), List.mem_of_getElem? (i := 703) (by decide +kernel)⟩
theorem lw_p25 : lw_okq (⟨"FairOrderModel", "third", "(I)I"⟩, 37) := ⟨⟨by decide +kernel, by decide +kernel⟩, List.mem_of_getElem? (i := 525) (by decide +kernel), List.mem_of_getElem? (i := 706) (by decide +kernel), List.mem_of_getElem? (i := 707) (by decide +kernel)⟩
theorem lw_p26 : lw_okq (⟨"FairOrderModel", "fair", "()V"⟩, 37) := ⟨⟨by decide +kernel, by decide +kernel⟩, List.mem_of_getElem? (i := 525) (by decide +kernel), List.mem_of_getElem? (i := 711) (by decide +kernel), List.mem_of_getElem? (i := 712) (by decide +kernel)⟩
theorem lw_p27 : lw_okq (⟨"FairOrderModel", "tie", "(I)V"⟩, 37) := ⟨⟨by decide +kernel, by decide +kernel⟩, List.mem_of_getElem? (i := 525) (by decide +kernel), List.mem_of_getElem? (i := 715) (by decide +kernel), List.mem_of_getElem? (i := 716) (by decide +kernel)⟩
theorem lw_p28 : lw_okq (⟨"FairOrderModel", "leads", "(II)Z"⟩, 37) := ⟨⟨by decide +kernel, by decide +kernel⟩, List.mem_of_getElem? (i := 525) (by decide +kernel), List.mem_of_getElem? (i := 719) (by decide +kernel), List.mem_of_getElem? (i := 720) (by decide +kernel)⟩
theorem lw_p29 : lw_okq (⟨"FairOrderModel", "isAhead", "(II)Z"⟩, 37) := ⟨⟨by decide +kernel, by decide +kernel⟩, List.mem_of_getElem? (i := 525) (by decide +kernel), List.mem_of_getElem? (i := 723) (by decide +kernel), List.mem_of_getElem? (i := 724) (by decide +kernel)⟩
theorem lw_p30 : lw_okq (⟨"FairOrderModel", "isHeld", "()Z"⟩, 37) := ⟨⟨by decide +kernel, by decide +kernel⟩, List.mem_of_getElem? (i := 525) (by decide +kernel), List.mem_of_getElem? (i := 727) (by decide +kernel), List.mem_of_getElem? (i := 728) (by decide +kernel)⟩
theorem lw_p31 : lw_okq (⟨"FairOrderModel", "byLot", "(J)V"⟩, 37) := ⟨⟨by decide +kernel, by decide +kernel⟩, List.mem_of_getElem? (i := 525) (by decide +kernel), List.mem_of_getElem? (i := 731) (by decide +kernel), List.mem_of_getElem? (i := 732) (by decide +kernel)⟩
def lw_privs_2 : List (MethodName × Nat) := [(⟨"FairOrder$Market", "sellToPool", "(LFairOrder$Call;)J"⟩, 2), (⟨"FairOrder$Auction", "gather", "(ILFairOrder$Row;[LFairOrder$Call;LFairOrder$Market;)V"⟩, 5), (⟨"FairOrder$Auction", "joinBuys", "(LFairOrder$Call;ILFairOrder$Market;)Z"⟩, 5), (⟨"FairOrder$Auction", "joinSells", "(LFairOrder$Call;ILFairOrder$Market;)Z"⟩, 5), (⟨"FairOrder$Auction", "volume", "()J"⟩, 5), (⟨"FairOrder", "heldAfterTrial", "(LFairOrder$Row;II)J"⟩, 15), (⟨"FairOrderModel", "newBlock", "()V"⟩, 37), (⟨"FairOrderModel", "isCall", "(I)Z"⟩, 37), (⟨"FairOrderModel", "rankOf", "(II)I"⟩, 37), (⟨"FairOrderModel", "third", "(I)I"⟩, 37), (⟨"FairOrderModel", "fair", "()V"⟩, 37), (⟨"FairOrderModel", "tie", "(I)V"⟩, 37), (⟨"FairOrderModel", "leads", "(II)Z"⟩, 37), (⟨"FairOrderModel", "isAhead", "(II)Z"⟩, 37), (⟨"FairOrderModel", "isHeld", "()Z"⟩, 37), (⟨"FairOrderModel", "byLot", "(J)V"⟩, 37)]
theorem lw_r2 : ∀ q ∈ lw_privs_2, lw_okq q := List.forall_mem_cons.mpr ⟨lw_p16, List.forall_mem_cons.mpr ⟨lw_p17, List.forall_mem_cons.mpr ⟨lw_p18, List.forall_mem_cons.mpr ⟨lw_p19, List.forall_mem_cons.mpr ⟨lw_p20, List.forall_mem_cons.mpr ⟨lw_p21, List.forall_mem_cons.mpr ⟨lw_p22, List.forall_mem_cons.mpr ⟨lw_p23, List.forall_mem_cons.mpr ⟨lw_p24, List.forall_mem_cons.mpr ⟨lw_p25, List.forall_mem_cons.mpr ⟨lw_p26, List.forall_mem_cons.mpr ⟨lw_p27, List.forall_mem_cons.mpr ⟨lw_p28, List.forall_mem_cons.mpr ⟨lw_p29, List.forall_mem_cons.mpr ⟨lw_p30, List.forall_mem_cons.mpr ⟨lw_p31, fun _ h => absurd h List.not_mem_nil⟩⟩⟩⟩⟩⟩⟩⟩⟩⟩⟩⟩⟩⟩⟩⟩
theorem lw_p32 : lw_okq (⟨"FairOrderModel", "mayPlay", "()Z"⟩, 37) := ⟨⟨by decide +kernel, by decide +kernel⟩, List.mem_of_getElem? (i := 525) (by decide +kernel), List.mem_of_getElem? (i := 752) (by decide +kernel), List.mem_of_getElem? (i := 753) (by decide +kernel)⟩
theorem lw_p33 : lw_okq (⟨"FairOrderModel", "tryAll", "()V"⟩, 37) := ⟨⟨by decide +kernel, by decide +kernel⟩, List.mem_of_getElem? (i := 525) (by decide +kernel), List.mem_of_getElem? (i := 756) (by decide +kernel), List.mem_of_getElem? (i := 757) (by decide +kernel)⟩
theorem lw_p34 : lw_okq (⟨"FairOrderModel", "tryOne", "(I)V"⟩, 37) := ⟨⟨by decide +kernel, by decide +kernel⟩, List.mem_of_getElem? (i := 525) (by decide +kernel), List.mem_of_getElem? (i := 760) (by decide +kernel), List.mem_of_getElem? (i := 761) (by decide +kernel)⟩
theorem lw_p35 : lw_okq (⟨"FairOrderModel", "begin", "()V"⟩, 37) := ⟨⟨by decide +kernel, by decide +kernel⟩, List.mem_of_getElem? (i := 525) (by decide +kernel), List.mem_of_getElem? (i := 764) (by decide +kernel), List.mem_of_getElem? (i := 765) (by decide +kernel)⟩
theorem lw_p36 : lw_okq (⟨"FairOrderModel", "market", "(I)J"⟩, 37) := ⟨⟨by decide +kernel, by decide +kernel⟩, List.mem_of_getElem? (i := 525) (by decide +kernel), List.mem_of_getElem? (i := 772) (by decide +kernel), List.mem_of_getElem? (i := 773) (by decide +kernel)⟩
def lw_privs_3 : List (MethodName × Nat) := [(⟨"FairOrderModel", "mayPlay", "()Z"⟩, 37), (⟨"FairOrderModel", "tryAll", "()V"⟩, 37), (⟨"FairOrderModel", "tryOne", "(I)V"⟩, 37), (⟨"FairOrderModel", "begin", "()V"⟩, 37), (⟨"FairOrderModel", "market", "(I)J"⟩, 37)]
theorem lw_r3 : ∀ q ∈ lw_privs_3, lw_okq q := List.forall_mem_cons.mpr ⟨lw_p32, List.forall_mem_cons.mpr ⟨lw_p33, List.forall_mem_cons.mpr ⟨lw_p34, List.forall_mem_cons.mpr ⟨lw_p35, List.forall_mem_cons.mpr ⟨lw_p36, fun _ h => absurd h List.not_mem_nil⟩⟩⟩⟩⟩
def lw_privs : List (MethodName × Nat) := lw_privs_1 ++ (lw_privs_2 ++ (lw_privs_3))
def lw_tbl : List Cond := k2_sels lw_privs ++ tables_1
theorem lw_privs_ok : ∀ q ∈ lw_privs, lw_okq q := by
  show ∀ q ∈ lw_privs_1 ++ (lw_privs_2 ++ (lw_privs_3)), lw_okq q
  exact List.forall_mem_append.mpr ⟨lw_r1, List.forall_mem_append.mpr ⟨lw_r2, lw_r3⟩⟩
/-- the words that every method of the system takes: those of the tables that a call keeps -/
def fo_T : List Cond := lw_tbl.filter goodWord
theorem fo_tb (i : Nat) {w : Cond} (h : tables_1[i]? = some w) (g : goodWord w = true) : w ∈ fo_T := List.mem_filter.mpr ⟨List.mem_append_right _ (List.mem_of_getElem? h), g⟩
theorem fo_ts (i : Nat) {w : Cond} (h : (k2_sels lw_privs)[i]? = some w) (g : goodWord w = true) : w ∈ fo_T := List.mem_filter.mpr ⟨List.mem_append_left _ (List.mem_of_getElem? h), g⟩
theorem fo_good {w : Cond} (h : w ∈ fo_T) : GoodIn fo_T (w :: fo_T) := fun v hv =>
  have hm : v ∈ fo_T := (List.mem_cons.mp hv).elim (fun q => q ▸ h) (fun q => q)
  ⟨hm, good_of_word (List.mem_filter.mp hm).2⟩
def RX0 : String := "FairOrder"
def TX0 : u_T := fun k => match k with
  | 0 => ("FairOrder", "market", "LFairOrder$Market;", true)
  | 1 => ("FairOrder", "trial", "LFairOrder$Market;", true)
  | 2 => ("FairOrder", "calls", "[LFairOrder$Call;", true)
  | 3 => ("FairOrder", "row", "LFairOrder$Row;", true)
  | 4 => ("FairOrder", "movedRow", "LFairOrder$Row;", true)
  | 5 => ("FairOrder", "keys", "[I", true)
  | 6 => ("FairOrder", "links", "LFairOrder$Links;", true)
  | 7 => ("FairOrder", "auction", "LFairOrder$Auction;", true)
  | 8 => ("FairOrder", "accounts", "I", false)
  | 9 => ("FairOrder", "size", "I", false)
  | 10 => ("FairOrder", "phase", "I", false)
  | 11 => ("FairOrder", "endedBlocks", "I", false)
  | 12 => ("FairOrder", "pot", "J", false)
  | 13 => ("FairOrder", "ordered", "Z", false)
  | _ => ("FairOrder", "played", "Z", false)
def tyX0 : Nat → FieldType := fun k => match k with
  | 0 => .object "FairOrder$Market"
  | 1 => .object "FairOrder$Market"
  | 2 => .array (.object "FairOrder$Call")
  | 3 => .object "FairOrder$Row"
  | 4 => .object "FairOrder$Row"
  | 5 => .array .int
  | 6 => .object "FairOrder$Links"
  | 7 => .object "FairOrder$Auction"
  | 8 => .int
  | 9 => .int
  | 10 => .int
  | 11 => .int
  | 12 => .long
  | 13 => .boolean
  | _ => .boolean
theorem nmX0 : ∀ a, a < 15 → ∀ b, b < 15 → a ≠ b → (TX0 a).2.1 ≠ (TX0 b).2.1 := by decide +kernel
theorem tyX0_ok : ∀ k, k < 15 → parseFieldDescriptor (TX0 k).2.2.1 = some (tyX0 k) := by decide +kernel
theorem fo_in0 : ∀ w ∈ u_ws RX0 TX0 15, w ∈ fo_T := fun w h => List.mem_filter.mpr ⟨(show ∀ w ∈ u_ws RX0 TX0 15, w ∈ lw_tbl by decide +kernel) w h, (show ∀ w ∈ u_ws RX0 TX0 15, goodWord w = true by decide +kernel) w h⟩
def RX1 : String := "FairOrder$Call"
def TX1 : u_T := fun k => match k with
  | 0 => ("FairOrder$Call", "times", "[I", true)
  | 1 => ("FairOrder$Call", "account", "I", false)
  | 2 => ("FairOrder$Call", "deposit", "J", false)
  | 3 => ("FairOrder$Call", "seal", "J", false)
  | 4 => ("FairOrder$Call", "opened", "Z", false)
  | 5 => ("FairOrder$Call", "side", "I", false)
  | 6 => ("FairOrder$Call", "price", "I", false)
  | 7 => ("FairOrder$Call", "amount", "I", false)
  | 8 => ("FairOrder$Call", "doneAmount", "I", false)
  | _ => ("FairOrder$Call", "passedMoney", "J", false)
def tyX1 : Nat → FieldType := fun k => match k with
  | 0 => .array .int
  | 1 => .int
  | 2 => .long
  | 3 => .long
  | 4 => .boolean
  | 5 => .int
  | 6 => .int
  | 7 => .int
  | 8 => .int
  | _ => .long
theorem nmX1 : ∀ a, a < 10 → ∀ b, b < 10 → a ≠ b → (TX1 a).2.1 ≠ (TX1 b).2.1 := by decide +kernel
theorem tyX1_ok : ∀ k, k < 10 → parseFieldDescriptor (TX1 k).2.2.1 = some (tyX1 k) := by decide +kernel
theorem fo_in1 : ∀ w ∈ u_ws RX1 TX1 10, w ∈ fo_T := fun w h => List.mem_filter.mpr ⟨(show ∀ w ∈ u_ws RX1 TX1 10, w ∈ lw_tbl by decide +kernel) w h, (show ∀ w ∈ u_ws RX1 TX1 10, goodWord w = true by decide +kernel) w h⟩
def RX2 : String := "FairOrder$Market"
def TX2 : u_T := fun k => match k with
  | 0 => ("FairOrder$Market", "money", "[J", true)
  | _ => ("FairOrder$Market", "goods", "[J", true)
def tyX2 : Nat → FieldType := fun k => match k with
  | 0 => .array .long
  | _ => .array .long
theorem nmX2 : ∀ a, a < 2 → ∀ b, b < 2 → a ≠ b → (TX2 a).2.1 ≠ (TX2 b).2.1 := by decide +kernel
theorem tyX2_ok : ∀ k, k < 2 → parseFieldDescriptor (TX2 k).2.2.1 = some (tyX2 k) := by decide +kernel
theorem fo_in2 : ∀ w ∈ u_ws RX2 TX2 2, w ∈ fo_T := fun w h => List.mem_filter.mpr ⟨(show ∀ w ∈ u_ws RX2 TX2 2, w ∈ lw_tbl by decide +kernel) w h, (show ∀ w ∈ u_ws RX2 TX2 2, goodWord w = true by decide +kernel) w h⟩
def RX3 : String := "FairOrder$Row"
def TX3 : u_T := fun k => match k with
  | 0 => ("FairOrder$Row", "numbers", "[I", true)
  | _ => ("FairOrder$Row", "length", "I", false)
def tyX3 : Nat → FieldType := fun k => match k with
  | 0 => .array .int
  | _ => .int
theorem nmX3 : ∀ a, a < 2 → ∀ b, b < 2 → a ≠ b → (TX3 a).2.1 ≠ (TX3 b).2.1 := by decide +kernel
theorem tyX3_ok : ∀ k, k < 2 → parseFieldDescriptor (TX3 k).2.2.1 = some (tyX3 k) := by decide +kernel
theorem fo_in3 : ∀ w ∈ u_ws RX3 TX3 2, w ∈ fo_T := fun w h => List.mem_filter.mpr ⟨(show ∀ w ∈ u_ws RX3 TX3 2, w ∈ lw_tbl by decide +kernel) w h, (show ∀ w ∈ u_ws RX3 TX3 2, goodWord w = true by decide +kernel) w h⟩
def RX4 : String := "FairOrder$Links"
def TX4 : u_T := fun k => match k with
  | _ => ("FairOrder$Links", "reached", "[I", true)
def tyX4 : Nat → FieldType := fun k => match k with
  | _ => .array .int
theorem nmX4 : ∀ a, a < 1 → ∀ b, b < 1 → a ≠ b → (TX4 a).2.1 ≠ (TX4 b).2.1 := by decide +kernel
theorem tyX4_ok : ∀ k, k < 1 → parseFieldDescriptor (TX4 k).2.2.1 = some (tyX4 k) := by decide +kernel
theorem fo_in4 : ∀ w ∈ u_ws RX4 TX4 1, w ∈ fo_T := fun w h => List.mem_filter.mpr ⟨(show ∀ w ∈ u_ws RX4 TX4 1, w ∈ lw_tbl by decide +kernel) w h, (show ∀ w ∈ u_ws RX4 TX4 1, goodWord w = true by decide +kernel) w h⟩
def RX5 : String := "FairOrder$Auction"
def TX5 : u_T := fun k => match k with
  | 0 => ("FairOrder$Auction", "takesPart", "[Z", true)
  | 1 => ("FairOrder$Auction", "bought", "[J", true)
  | 2 => ("FairOrder$Auction", "sold", "[J", true)
  | 3 => ("FairOrder$Auction", "demand", "J", false)
  | _ => ("FairOrder$Auction", "supply", "J", false)
def tyX5 : Nat → FieldType := fun k => match k with
  | 0 => .array .boolean
  | 1 => .array .long
  | 2 => .array .long
  | 3 => .long
  | _ => .long
theorem nmX5 : ∀ a, a < 5 → ∀ b, b < 5 → a ≠ b → (TX5 a).2.1 ≠ (TX5 b).2.1 := by decide +kernel
theorem tyX5_ok : ∀ k, k < 5 → parseFieldDescriptor (TX5 k).2.2.1 = some (tyX5 k) := by decide +kernel
theorem fo_in5 : ∀ w ∈ u_ws RX5 TX5 5, w ∈ fo_T := fun w h => List.mem_filter.mpr ⟨(show ∀ w ∈ u_ws RX5 TX5 5, w ∈ lw_tbl by decide +kernel) w h, (show ∀ w ∈ u_ws RX5 TX5 5, goodWord w = true by decide +kernel) w h⟩
def RX6 : String := "FairOrderModel"
def TX6 : u_T := fun k => match k with
  | 0 => ("FairOrderModel", "accounts", "I", false)
  | 1 => ("FairOrderModel", "money", "[J", true)
  | 2 => ("FairOrderModel", "goods", "[J", true)
  | 3 => ("FairOrderModel", "poolMoney", "J", false)
  | 4 => ("FairOrderModel", "poolGoods", "J", false)
  | 5 => ("FairOrderModel", "pot", "J", false)
  | 6 => ("FairOrderModel", "phase", "I", false)
  | 7 => ("FairOrderModel", "blocks", "I", false)
  | 8 => ("FairOrderModel", "calls", "I", false)
  | 9 => ("FairOrderModel", "owner", "[I", true)
  | 10 => ("FairOrderModel", "deposits", "[J", true)
  | 11 => ("FairOrderModel", "seals", "[J", true)
  | 12 => ("FairOrderModel", "opened", "[Z", true)
  | 13 => ("FairOrderModel", "side", "[I", true)
  | 14 => ("FairOrderModel", "price", "[I", true)
  | 15 => ("FairOrderModel", "amount", "[I", true)
  | 16 => ("FairOrderModel", "times", "[I", true)
  | 17 => ("FairOrderModel", "ordered", "I", false)
  | 18 => ("FairOrderModel", "row", "[I", true)
  | 19 => ("FairOrderModel", "played", "Z", false)
  | 20 => ("FairOrderModel", "done", "[I", true)
  | 21 => ("FairOrderModel", "passed", "[J", true)
  | 22 => ("FairOrderModel", "tried", "[I", true)
  | 23 => ("FairOrderModel", "triedMoney", "[J", true)
  | 24 => ("FairOrderModel", "triedGoods", "[J", true)
  | 25 => ("FairOrderModel", "triedPoolMoney", "J", false)
  | 26 => ("FairOrderModel", "triedPoolGoods", "J", false)
  | 27 => ("FairOrderModel", "triedDone", "[I", true)
  | 28 => ("FairOrderModel", "triedPassed", "[J", true)
  | 29 => ("FairOrderModel", "met", "[Z", true)
  | 30 => ("FairOrderModel", "left", "[Z", true)
  | 31 => ("FairOrderModel", "knot", "[Z", true)
  | 32 => ("FairOrderModel", "takes", "[Z", true)
  | 33 => ("FairOrderModel", "buys", "[J", true)
  | 34 => ("FairOrderModel", "sells", "[J", true)
  | 35 => ("FairOrderModel", "bought", "J", false)
  | _ => ("FairOrderModel", "sold", "J", false)
def tyX6 : Nat → FieldType := fun k => match k with
  | 0 => .int
  | 1 => .array .long
  | 2 => .array .long
  | 3 => .long
  | 4 => .long
  | 5 => .long
  | 6 => .int
  | 7 => .int
  | 8 => .int
  | 9 => .array .int
  | 10 => .array .long
  | 11 => .array .long
  | 12 => .array .boolean
  | 13 => .array .int
  | 14 => .array .int
  | 15 => .array .int
  | 16 => .array .int
  | 17 => .int
  | 18 => .array .int
  | 19 => .boolean
  | 20 => .array .int
  | 21 => .array .long
  | 22 => .array .int
  | 23 => .array .long
  | 24 => .array .long
  | 25 => .long
  | 26 => .long
  | 27 => .array .int
  | 28 => .array .long
  | 29 => .array .boolean
  | 30 => .array .boolean
  | 31 => .array .boolean
  | 32 => .array .boolean
  | 33 => .array .long
  | 34 => .array .long
  | 35 => .long
  | _ => .long
theorem nmX6 : ∀ a, a < 37 → ∀ b, b < 37 → a ≠ b → (TX6 a).2.1 ≠ (TX6 b).2.1 := by decide +kernel
theorem tyX6_ok : ∀ k, k < 37 → parseFieldDescriptor (TX6 k).2.2.1 = some (tyX6 k) := by decide +kernel
theorem fo_in6 : ∀ w ∈ u_ws RX6 TX6 37, w ∈ fo_T := fun w h => List.mem_filter.mpr ⟨(show ∀ w ∈ u_ws RX6 TX6 37, w ∈ lw_tbl by decide +kernel) w h, (show ∀ w ∈ u_ws RX6 TX6 37, goodWord w = true by decide +kernel) w h⟩
def RX7 : String := "java/lang/Integer"
def RX8 : String := "java/util/Arrays"
def RX9 : String := "FairOrderLaw"
abbrev vwCl : List vw_C := [(RX0, TX0, 15), (RX1, TX1, 10), (RX2, TX2, 2), (RX3, TX3, 2), (RX4, TX4, 1), (RX5, TX5, 5), (RX6, TX6, 37)]
abbrev cX0_init : ByteArray := prog_1_method_1_code
def yX0_init : MethodName := ⟨RX0, "<init>", "()V"⟩
abbrev cX0_clear : ByteArray := prog_1_method_2_code
def yX0_clear : MethodName := ⟨RX0, "clear", "()I"⟩
abbrev cX0_account : ByteArray := prog_1_method_3_code
def yX0_account : MethodName := ⟨RX0, "account", "(JJ)I"⟩
abbrev cX0_pool : ByteArray := prog_1_method_4_code
def yX0_pool : MethodName := ⟨RX0, "pool", "(JJ)I"⟩
abbrev cX0_seal : ByteArray := prog_1_method_5_code
def yX0_seal : MethodName := ⟨RX0, "seal", "(IIII)J"⟩
abbrev cX0_commit : ByteArray := prog_1_method_6_code
def yX0_commit : MethodName := ⟨RX0, "commit", "(IJJ)I"⟩
abbrev cX0_hear : ByteArray := prog_1_method_7_code
def yX0_hear : MethodName := ⟨RX0, "hear", "(III)I"⟩
abbrev cX0_open : ByteArray := prog_1_method_8_code
def yX0_open : MethodName := ⟨RX0, "open", "(IIIII)I"⟩
abbrev cX0_next : ByteArray := prog_1_method_9_code
def yX0_next : MethodName := ⟨RX0, "next", "()I"⟩
abbrev cX0_order : ByteArray := prog_1_method_10_code
def yX0_order : MethodName := ⟨RX0, "order", "(IJ)I"⟩
abbrev cX0_at : ByteArray := prog_1_method_11_code
def yX0_at : MethodName := ⟨RX0, "at", "(I)I"⟩
abbrev cX0_linked : ByteArray := prog_1_method_12_code
def yX0_linked : MethodName := ⟨RX0, "linked", "(II)I"⟩
abbrev cX0_heard : ByteArray := prog_1_method_13_code
def yX0_heard : MethodName := ⟨RX0, "heard", "(I)I"⟩
abbrev cX0_play : ByteArray := prog_1_method_14_code
def yX0_play : MethodName := ⟨RX0, "play", "()I"⟩
abbrev cX0_batch : ByteArray := prog_1_method_15_code
def yX0_batch : MethodName := ⟨RX0, "batch", "()I"⟩
abbrev cX0_done : ByteArray := prog_1_method_16_code
def yX0_done : MethodName := ⟨RX0, "done", "(I)I"⟩
abbrev cX0_passed : ByteArray := prog_1_method_17_code
def yX0_passed : MethodName := ⟨RX0, "passed", "(I)J"⟩
abbrev cX0_gain : ByteArray := prog_1_method_18_code
def yX0_gain : MethodName := ⟨RX0, "gain", "(III)J"⟩
abbrev cX0_has : ByteArray := prog_1_method_19_code
def yX0_has : MethodName := ⟨RX0, "has", "(II)J"⟩
abbrev cX0_of : ByteArray := prog_1_method_20_code
def yX0_of : MethodName := ⟨RX0, "of", "(II)I"⟩
abbrev cX0_count : ByteArray := prog_1_method_21_code
def yX0_count : MethodName := ⟨RX0, "count", "(I)I"⟩
abbrev cX0_mayBeginWith : ByteArray := prog_1_method_22_code
def yX0_mayBeginWith : MethodName := ⟨RX0, "mayBeginWith", "(J)Z"⟩
abbrev cX0_areTerms : ByteArray := prog_1_method_23_code
def yX0_areTerms : MethodName := ⟨RX0, "areTerms", "(III)Z"⟩
abbrev cX0_isHolding : ByteArray := prog_1_method_24_code
def yX0_isHolding : MethodName := ⟨RX0, "isHolding", "(I)Z"⟩
abbrev cX0_sealOf : ByteArray := prog_1_method_25_code
def yX0_sealOf : MethodName := ⟨RX0, "sealOf", "(IIII)J"⟩
abbrev cX0_isAccount : ByteArray := prog_1_method_26_code
def yX0_isAccount : MethodName := ⟨RX0, "isAccount", "(I)Z"⟩
abbrev cX0_isCall : ByteArray := prog_1_method_27_code
def yX0_isCall : MethodName := ⟨RX0, "isCall", "(I)Z"⟩
abbrev cX0_isOpenedCall : ByteArray := prog_1_method_28_code
def yX0_isOpenedCall : MethodName := ⟨RX0, "isOpenedCall", "(I)Z"⟩
abbrev cX0_mayPlay : ByteArray := prog_1_method_29_code
def yX0_mayPlay : MethodName := ⟨RX0, "mayPlay", "()Z"⟩
abbrev cX0_beginBlock : ByteArray := prog_1_method_30_code
def yX0_beginBlock : MethodName := ⟨RX0, "beginBlock", "()V"⟩
abbrev cX0_takeLostDeposits : ByteArray := prog_1_method_31_code
def yX0_takeLostDeposits : MethodName := ⟨RX0, "takeLostDeposits", "()V"⟩
abbrev cX0_openedSet : ByteArray := prog_1_method_32_code
def yX0_openedSet : MethodName := ⟨RX0, "openedSet", "()I"⟩
abbrev cX0_addByNumbers : ByteArray := prog_1_method_33_code
def yX0_addByNumbers : MethodName := ⟨RX0, "addByNumbers", "()V"⟩
abbrev cX0_arrange : ByteArray := prog_1_method_34_code
def yX0_arrange : MethodName := ⟨RX0, "arrange", "(IJ)V"⟩
abbrev cX0_keyOf : ByteArray := prog_1_method_35_code
def yX0_keyOf : MethodName := ⟨RX0, "keyOf", "(LFairOrder$Call;I)I"⟩
abbrev cX0_heldAfterTrial : ByteArray := prog_1_method_36_code
def yX0_heldAfterTrial : MethodName := ⟨RX0, "heldAfterTrial", "(LFairOrder$Row;II)J"⟩
abbrev cX6_init : ByteArray := prog_8_method_1_code
def yX6_init : MethodName := ⟨RX6, "<init>", "()V"⟩
abbrev cX6_in : ByteArray := prog_8_method_3_code
def yX6_in : MethodName := ⟨RX6, "in", "(JJJ)Z"⟩
abbrev cX6_isCall : ByteArray := prog_8_method_4_code
def yX6_isCall : MethodName := ⟨RX6, "isCall", "(I)Z"⟩
abbrev cX6_newBlock : ByteArray := prog_8_method_5_code
def yX6_newBlock : MethodName := ⟨RX6, "newBlock", "()V"⟩
abbrev cX6_clear : ByteArray := prog_8_method_6_code
def yX6_clear : MethodName := ⟨RX6, "clear", "()I"⟩
abbrev cX6_account : ByteArray := prog_8_method_7_code
def yX6_account : MethodName := ⟨RX6, "account", "(JJ)I"⟩
abbrev cX6_pool : ByteArray := prog_8_method_8_code
def yX6_pool : MethodName := ⟨RX6, "pool", "(JJ)I"⟩
abbrev cX6_isOffer : ByteArray := prog_8_method_9_code
def yX6_isOffer : MethodName := ⟨RX6, "isOffer", "(III)Z"⟩
abbrev cX6_seal : ByteArray := prog_8_method_10_code
def yX6_seal : MethodName := ⟨RX6, "seal", "(IIII)J"⟩
abbrev cX6_commit : ByteArray := prog_8_method_11_code
def yX6_commit : MethodName := ⟨RX6, "commit", "(IJJ)I"⟩
abbrev cX6_hear : ByteArray := prog_8_method_12_code
def yX6_hear : MethodName := ⟨RX6, "hear", "(III)I"⟩
abbrev cX6_open : ByteArray := prog_8_method_13_code
def yX6_open : MethodName := ⟨RX6, "open", "(IIIII)I"⟩
abbrev cX6_next : ByteArray := prog_8_method_14_code
def yX6_next : MethodName := ⟨RX6, "next", "()I"⟩
abbrev cX6_third : ByteArray := prog_8_method_15_code
def yX6_third : MethodName := ⟨RX6, "third", "(I)I"⟩
abbrev cX6_isAhead : ByteArray := prog_8_method_16_code
def yX6_isAhead : MethodName := ⟨RX6, "isAhead", "(II)Z"⟩
abbrev cX6_leads : ByteArray := prog_8_method_17_code
def yX6_leads : MethodName := ⟨RX6, "leads", "(II)Z"⟩
abbrev cX6_tie : ByteArray := prog_8_method_18_code
def yX6_tie : MethodName := ⟨RX6, "tie", "(I)V"⟩
abbrev cX6_isHeld : ByteArray := prog_8_method_19_code
def yX6_isHeld : MethodName := ⟨RX6, "isHeld", "()Z"⟩
abbrev cX6_fair : ByteArray := prog_8_method_20_code
def yX6_fair : MethodName := ⟨RX6, "fair", "()V"⟩
abbrev cX6_byLot : ByteArray := prog_8_method_21_code
def yX6_byLot : MethodName := ⟨RX6, "byLot", "(J)V"⟩
abbrev cX6_rankOf : ByteArray := prog_8_method_22_code
def yX6_rankOf : MethodName := ⟨RX6, "rankOf", "(II)I"⟩
abbrev cX6_order : ByteArray := prog_8_method_23_code
def yX6_order : MethodName := ⟨RX6, "order", "(IJ)I"⟩
abbrev cX6_at : ByteArray := prog_8_method_24_code
def yX6_at : MethodName := ⟨RX6, "at", "(I)I"⟩
abbrev cX6_linked : ByteArray := prog_8_method_25_code
def yX6_linked : MethodName := ⟨RX6, "linked", "(II)I"⟩
abbrev cX6_heard : ByteArray := prog_8_method_26_code
def yX6_heard : MethodName := ⟨RX6, "heard", "(I)I"⟩
abbrev cX6_mayPlay : ByteArray := prog_8_method_27_code
def yX6_mayPlay : MethodName := ⟨RX6, "mayPlay", "()Z"⟩
abbrev cX6_tryOne : ByteArray := prog_8_method_28_code
def yX6_tryOne : MethodName := ⟨RX6, "tryOne", "(I)V"⟩
abbrev cX6_tryAll : ByteArray := prog_8_method_29_code
def yX6_tryAll : MethodName := ⟨RX6, "tryAll", "()V"⟩
abbrev cX6_begin : ByteArray := prog_8_method_30_code
def yX6_begin : MethodName := ⟨RX6, "begin", "()V"⟩
abbrev cX6_play : ByteArray := prog_8_method_31_code
def yX6_play : MethodName := ⟨RX6, "play", "()I"⟩
abbrev cX6_market : ByteArray := prog_8_method_32_code
def yX6_market : MethodName := ⟨RX6, "market", "(I)J"⟩
abbrev cX6_batch : ByteArray := prog_8_method_33_code
def yX6_batch : MethodName := ⟨RX6, "batch", "()I"⟩
abbrev cX6_done : ByteArray := prog_8_method_34_code
def yX6_done : MethodName := ⟨RX6, "done", "(I)I"⟩
abbrev cX6_passed : ByteArray := prog_8_method_35_code
def yX6_passed : MethodName := ⟨RX6, "passed", "(I)J"⟩
abbrev cX6_gain : ByteArray := prog_8_method_36_code
def yX6_gain : MethodName := ⟨RX6, "gain", "(III)J"⟩
abbrev cX6_has : ByteArray := prog_8_method_37_code
def yX6_has : MethodName := ⟨RX6, "has", "(II)J"⟩
abbrev cX6_of : ByteArray := prog_8_method_38_code
def yX6_of : MethodName := ⟨RX6, "of", "(II)I"⟩
abbrev cX6_count : ByteArray := prog_8_method_39_code
def yX6_count : MethodName := ⟨RX6, "count", "(I)I"⟩
abbrev cX5_init : ByteArray := prog_2_method_1_code
def yX5_init : MethodName := ⟨RX5, "<init>", "()V"⟩
abbrev cX5_findPrice : ByteArray := prog_2_method_2_code
def yX5_findPrice : MethodName := ⟨RX5, "findPrice", "(LFairOrder$Row;[LFairOrder$Call;LFairOrder$Market;)I"⟩
abbrev cX5_settle : ByteArray := prog_2_method_3_code
def yX5_settle : MethodName := ⟨RX5, "settle", "(ILFairOrder$Row;[LFairOrder$Call;LFairOrder$Market;)V"⟩
abbrev cX5_volume : ByteArray := prog_2_method_4_code
def yX5_volume : MethodName := ⟨RX5, "volume", "()J"⟩
abbrev cX5_gather : ByteArray := prog_2_method_5_code
def yX5_gather : MethodName := ⟨RX5, "gather", "(ILFairOrder$Row;[LFairOrder$Call;LFairOrder$Market;)V"⟩
abbrev cX5_joinBuys : ByteArray := prog_2_method_6_code
def yX5_joinBuys : MethodName := ⟨RX5, "joinBuys", "(LFairOrder$Call;ILFairOrder$Market;)Z"⟩
abbrev cX5_joinSells : ByteArray := prog_2_method_7_code
def yX5_joinSells : MethodName := ⟨RX5, "joinSells", "(LFairOrder$Call;ILFairOrder$Market;)Z"⟩
abbrev cX5_fill : ByteArray := prog_2_method_8_code
def yX5_fill : MethodName := ⟨RX5, "fill", "(LFairOrder$Call;JILFairOrder$Market;)J"⟩
abbrev cX1_init : ByteArray := prog_3_method_1_code
def yX1_init : MethodName := ⟨RX1, "<init>", "()V"⟩
abbrev cX1_begin : ByteArray := prog_3_method_2_code
def yX1_begin : MethodName := ⟨RX1, "begin", "(IJJ)V"⟩
abbrev cX1_tell : ByteArray := prog_3_method_3_code
def yX1_tell : MethodName := ⟨RX1, "tell", "(III)V"⟩
abbrev cX1_note : ByteArray := prog_3_method_4_code
def yX1_note : MethodName := ⟨RX1, "note", "(IJ)V"⟩
abbrev cX1_term : ByteArray := prog_3_method_5_code
def yX1_term : MethodName := ⟨RX1, "term", "(I)I"⟩
abbrev cX1_limit : ByteArray := prog_3_method_6_code
def yX1_limit : MethodName := ⟨RX1, "limit", "()J"⟩
abbrev cX1_thirdTime : ByteArray := prog_3_method_7_code
def yX1_thirdTime : MethodName := ⟨RX1, "thirdTime", "()I"⟩
abbrev cX1_nodesBefore : ByteArray := prog_3_method_8_code
def yX1_nodesBefore : MethodName := ⟨RX1, "nodesBefore", "(I)I"⟩
abbrev cX1_isAheadOf : ByteArray := prog_3_method_9_code
def yX1_isAheadOf : MethodName := ⟨RX1, "isAheadOf", "(LFairOrder$Call;)Z"⟩
abbrev cX4_init : ByteArray := prog_4_method_1_code
def yX4_init : MethodName := ⟨RX4, "<init>", "()V"⟩
abbrev cX4_find : ByteArray := prog_4_method_2_code
def yX4_find : MethodName := ⟨RX4, "find", "([LFairOrder$Call;I)V"⟩
abbrev cX4_setBehind : ByteArray := prog_4_method_3_code
def yX4_setBehind : MethodName := ⟨RX4, "setBehind", "(I[LFairOrder$Call;I)I"⟩
abbrev cX4_leads : ByteArray := prog_4_method_4_code
def yX4_leads : MethodName := ⟨RX4, "leads", "(II)Z"⟩
abbrev cX4_addKnots : ByteArray := prog_4_method_5_code
def yX4_addKnots : MethodName := ⟨RX4, "addKnots", "(LFairOrder$Row;II)V"⟩
abbrev cX4_firstKnot : ByteArray := prog_4_method_6_code
def yX4_firstKnot : MethodName := ⟨RX4, "firstKnot", "(II)I"⟩
abbrev cX4_isFree : ByteArray := prog_4_method_7_code
def yX4_isFree : MethodName := ⟨RX4, "isFree", "(III)Z"⟩
abbrev cX4_knotOf : ByteArray := prog_4_method_8_code
def yX4_knotOf : MethodName := ⟨RX4, "knotOf", "(II)I"⟩
abbrev cX4_addSet : ByteArray := prog_4_method_9_code
def yX4_addSet : MethodName := ⟨RX4, "addSet", "(LFairOrder$Row;II)V"⟩
abbrev cX4_contains : ByteArray := prog_4_method_10_code
def yX4_contains : MethodName := ⟨RX4, "contains", "(II)Z"⟩
abbrev cX2_init : ByteArray := prog_5_method_1_code
def yX2_init : MethodName := ⟨RX2, "<init>", "()V"⟩
abbrev cX2_makeEmpty : ByteArray := prog_5_method_2_code
def yX2_makeEmpty : MethodName := ⟨RX2, "makeEmpty", "()V"⟩
abbrev cX2_put : ByteArray := prog_5_method_3_code
def yX2_put : MethodName := ⟨RX2, "put", "(IJJ)V"⟩
abbrev cX2_copyFrom : ByteArray := prog_5_method_4_code
def yX2_copyFrom : MethodName := ⟨RX2, "copyFrom", "(LFairOrder$Market;)V"⟩
abbrev cX2_held : ByteArray := prog_5_method_5_code
def yX2_held : MethodName := ⟨RX2, "held", "(II)J"⟩
abbrev cX2_trade : ByteArray := prog_5_method_6_code
def yX2_trade : MethodName := ⟨RX2, "trade", "(LFairOrder$Call;)J"⟩
abbrev cX2_buyFromPool : ByteArray := prog_5_method_7_code
def yX2_buyFromPool : MethodName := ⟨RX2, "buyFromPool", "(LFairOrder$Call;)J"⟩
abbrev cX2_sellToPool : ByteArray := prog_5_method_8_code
def yX2_sellToPool : MethodName := ⟨RX2, "sellToPool", "(LFairOrder$Call;)J"⟩
abbrev cX2_take : ByteArray := prog_5_method_9_code
def yX2_take : MethodName := ⟨RX2, "take", "(IJJ)V"⟩
abbrev cX2_give : ByteArray := prog_5_method_10_code
def yX2_give : MethodName := ⟨RX2, "give", "(IJJ)V"⟩
abbrev cX3_init : ByteArray := prog_6_method_1_code
def yX3_init : MethodName := ⟨RX3, "<init>", "()V"⟩
abbrev cX3_hasPlace : ByteArray := prog_6_method_2_code
def yX3_hasPlace : MethodName := ⟨RX3, "hasPlace", "(I)Z"⟩
abbrev cX3_add : ByteArray := prog_6_method_3_code
def yX3_add : MethodName := ⟨RX3, "add", "(I)V"⟩
abbrev cX3_copyFrom : ByteArray := prog_6_method_4_code
def yX3_copyFrom : MethodName := ⟨RX3, "copyFrom", "(LFairOrder$Row;)V"⟩
abbrev cX3_sortBy : ByteArray := prog_6_method_5_code
def yX3_sortBy : MethodName := ⟨RX3, "sortBy", "([I)V"⟩
abbrev cX3_shuffle : ByteArray := prog_6_method_6_code
def yX3_shuffle : MethodName := ⟨RX3, "shuffle", "(J)V"⟩
abbrev cX3_move : ByteArray := prog_6_method_7_code
def yX3_move : MethodName := ⟨RX3, "move", "(II)V"⟩
abbrev cX3_swap : ByteArray := prog_6_method_8_code
def yX3_swap : MethodName := ⟨RX3, "swap", "(II)V"⟩
abbrev cX9_law : ByteArray := code
abbrev cX7_bitCount : ByteArray := prog_9_method_49_code
def yX7_bitCount : MethodName := ⟨RX7, "bitCount", "(I)I"⟩
abbrev cX7_compare : ByteArray := prog_9_method_40_code
def yX7_compare : MethodName := ⟨RX7, "compare", "(II)I"⟩
abbrev cX8_fillI : ByteArray := prog_12_method_103_code
def yX8_fillI : MethodName := ⟨RX8, "fill", "([II)V"⟩
abbrev cX8_fillJ : ByteArray := prog_12_method_101_code
def yX8_fillJ : MethodName := ⟨RX8, "fill", "([JJ)V"⟩
end
section
theorem dX0_init_0 : decode cX0_init 0 = .ok (.aload_n 0, 1) := by decide +kernel
theorem dX0_init_1 : decode cX0_init 1 = .ok (.invokespecial 3, 3) := by decide +kernel
theorem dX0_init_4 : decode cX0_init 4 = .ok (.aload_n 0, 1) := by decide +kernel
theorem dX0_init_5 : decode cX0_init 5 = .ok (.new 9, 3) := by decide +kernel
theorem dX0_init_8 : decode cX0_init 8 = .ok (.dup, 1) := by decide +kernel
theorem dX0_init_9 : decode cX0_init 9 = .ok (.invokespecial 11, 3) := by decide +kernel
theorem dX0_init_12 : decode cX0_init 12 = .ok (.putfield 12, 3) := by decide +kernel
theorem dX0_init_15 : decode cX0_init 15 = .ok (.aload_n 0, 1) := by decide +kernel
theorem dX0_init_16 : decode cX0_init 16 = .ok (.new 9, 3) := by decide +kernel
theorem dX0_init_19 : decode cX0_init 19 = .ok (.dup, 1) := by decide +kernel
theorem dX0_init_20 : decode cX0_init 20 = .ok (.invokespecial 11, 3) := by decide +kernel
theorem dX0_init_23 : decode cX0_init 23 = .ok (.putfield 16, 3) := by decide +kernel
theorem dX0_init_26 : decode cX0_init 26 = .ok (.aload_n 0, 1) := by decide +kernel
theorem dX0_init_27 : decode cX0_init 27 = .ok (.bipush 16, 2) := by decide +kernel
theorem dX0_init_29 : decode cX0_init 29 = .ok (.anewarray 19, 3) := by decide +kernel
theorem dX0_init_32 : decode cX0_init 32 = .ok (.putfield 21, 3) := by decide +kernel
theorem dX0_init_35 : decode cX0_init 35 = .ok (.aload_n 0, 1) := by decide +kernel
theorem dX0_init_36 : decode cX0_init 36 = .ok (.new 25, 3) := by decide +kernel
theorem dX0_init_39 : decode cX0_init 39 = .ok (.dup, 1) := by decide +kernel
theorem dX0_init_40 : decode cX0_init 40 = .ok (.invokespecial 27, 3) := by decide +kernel
theorem dX0_init_43 : decode cX0_init 43 = .ok (.putfield 28, 3) := by decide +kernel
theorem dX0_init_46 : decode cX0_init 46 = .ok (.aload_n 0, 1) := by decide +kernel
theorem dX0_init_47 : decode cX0_init 47 = .ok (.new 25, 3) := by decide +kernel
theorem dX0_init_50 : decode cX0_init 50 = .ok (.dup, 1) := by decide +kernel
theorem dX0_init_51 : decode cX0_init 51 = .ok (.invokespecial 27, 3) := by decide +kernel
theorem dX0_init_54 : decode cX0_init 54 = .ok (.putfield 32, 3) := by decide +kernel
theorem dX0_init_57 : decode cX0_init 57 = .ok (.aload_n 0, 1) := by decide +kernel
theorem dX0_init_58 : decode cX0_init 58 = .ok (.bipush 16, 2) := by decide +kernel
theorem dX0_init_60 : decode cX0_init 60 = .ok (.newarray .int, 2) := by decide +kernel
theorem dX0_init_62 : decode cX0_init 62 = .ok (.putfield 35, 3) := by decide +kernel
theorem dX0_init_65 : decode cX0_init 65 = .ok (.aload_n 0, 1) := by decide +kernel
theorem dX0_init_66 : decode cX0_init 66 = .ok (.new 39, 3) := by decide +kernel
theorem dX0_init_69 : decode cX0_init 69 = .ok (.dup, 1) := by decide +kernel
theorem dX0_init_70 : decode cX0_init 70 = .ok (.invokespecial 41, 3) := by decide +kernel
theorem dX0_init_73 : decode cX0_init 73 = .ok (.putfield 42, 3) := by decide +kernel
theorem dX0_init_76 : decode cX0_init 76 = .ok (.aload_n 0, 1) := by decide +kernel
theorem dX0_init_77 : decode cX0_init 77 = .ok (.new 46, 3) := by decide +kernel
theorem dX0_init_80 : decode cX0_init 80 = .ok (.dup, 1) := by decide +kernel
theorem dX0_init_81 : decode cX0_init 81 = .ok (.invokespecial 48, 3) := by decide +kernel
theorem dX0_init_84 : decode cX0_init 84 = .ok (.putfield 49, 3) := by decide +kernel
theorem dX0_init_87 : decode cX0_init 87 = .ok (.iconst 0, 1) := by decide +kernel
theorem dX0_init_88 : decode cX0_init 88 = .ok (.istore_n 1, 1) := by decide +kernel
theorem dX0_init_89 : decode cX0_init 89 = .ok (.iload_n 1, 1) := by decide +kernel
theorem dX0_init_90 : decode cX0_init 90 = .ok (.bipush 16, 2) := by decide +kernel
theorem dX0_init_92 : decode cX0_init 92 = .ok (.if_icmp .ge 22, 3) := by decide +kernel
theorem dX0_init_95 : decode cX0_init 95 = .ok (.aload_n 0, 1) := by decide +kernel
theorem dX0_init_96 : decode cX0_init 96 = .ok (.getfield 21, 3) := by decide +kernel
theorem dX0_init_99 : decode cX0_init 99 = .ok (.iload_n 1, 1) := by decide +kernel
theorem dX0_init_100 : decode cX0_init 100 = .ok (.new 19, 3) := by decide +kernel
theorem dX0_init_103 : decode cX0_init 103 = .ok (.dup, 1) := by decide +kernel
theorem dX0_init_104 : decode cX0_init 104 = .ok (.invokespecial 53, 3) := by decide +kernel
theorem dX0_init_107 : decode cX0_init 107 = .ok (.aastore, 1) := by decide +kernel
theorem dX0_init_108 : decode cX0_init 108 = .ok (.iinc 1 1, 3) := by decide +kernel
theorem dX0_init_111 : decode cX0_init 111 = .ok (.goto (-22), 3) := by decide +kernel
theorem dX0_init_114 : decode cX0_init 114 = .ok (.return_, 1) := by decide +kernel
theorem dX0_clear_0 : decode cX0_clear 0 = .ok (.aload_n 0, 1) := by decide +kernel
theorem dX0_clear_1 : decode cX0_clear 1 = .ok (.getfield 54, 3) := by decide +kernel
theorem dX0_clear_4 : decode cX0_clear 4 = .ok (.istore_n 1, 1) := by decide +kernel
theorem dX0_clear_5 : decode cX0_clear 5 = .ok (.aload_n 0, 1) := by decide +kernel
theorem dX0_clear_6 : decode cX0_clear 6 = .ok (.iconst 0, 1) := by decide +kernel
theorem dX0_clear_7 : decode cX0_clear 7 = .ok (.putfield 54, 3) := by decide +kernel
theorem dX0_clear_10 : decode cX0_clear 10 = .ok (.aload_n 0, 1) := by decide +kernel
theorem dX0_clear_11 : decode cX0_clear 11 = .ok (.getfield 12, 3) := by decide +kernel
theorem dX0_clear_14 : decode cX0_clear 14 = .ok (.invokevirtual 58, 3) := by decide +kernel
theorem dX0_clear_17 : decode cX0_clear 17 = .ok (.aload_n 0, 1) := by decide +kernel
theorem dX0_clear_18 : decode cX0_clear 18 = .ok (.lconst 0, 1) := by decide +kernel
theorem dX0_clear_19 : decode cX0_clear 19 = .ok (.putfield 61, 3) := by decide +kernel
theorem dX0_clear_22 : decode cX0_clear 22 = .ok (.aload_n 0, 1) := by decide +kernel
theorem dX0_clear_23 : decode cX0_clear 23 = .ok (.iconst 0, 1) := by decide +kernel
theorem dX0_clear_24 : decode cX0_clear 24 = .ok (.putfield 65, 3) := by decide +kernel
theorem dX0_clear_27 : decode cX0_clear 27 = .ok (.aload_n 0, 1) := by decide +kernel
theorem dX0_clear_28 : decode cX0_clear 28 = .ok (.invokevirtual 68, 3) := by decide +kernel
theorem dX0_clear_31 : decode cX0_clear 31 = .ok (.iload_n 1, 1) := by decide +kernel
theorem dX0_clear_32 : decode cX0_clear 32 = .ok (.ireturn, 1) := by decide +kernel
theorem dX0_account_0 : decode cX0_account 0 = .ok (.lload_n 1, 1) := by decide +kernel
theorem dX0_account_1 : decode cX0_account 1 = .ok (.invokestatic 71, 3) := by decide +kernel
theorem dX0_account_4 : decode cX0_account 4 = .ok (.ifCond .eq 10, 3) := by decide +kernel
theorem dX0_account_7 : decode cX0_account 7 = .ok (.lload_n 3, 1) := by decide +kernel
theorem dX0_account_8 : decode cX0_account 8 = .ok (.invokestatic 71, 3) := by decide +kernel
theorem dX0_account_11 : decode cX0_account 11 = .ok (.ifCond .ne 6, 3) := by decide +kernel
theorem dX0_account_14 : decode cX0_account 14 = .ok (.bipush (-2), 2) := by decide +kernel
theorem dX0_account_16 : decode cX0_account 16 = .ok (.ireturn, 1) := by decide +kernel
theorem dX0_account_17 : decode cX0_account 17 = .ok (.aload_n 0, 1) := by decide +kernel
theorem dX0_account_18 : decode cX0_account 18 = .ok (.getfield 54, 3) := by decide +kernel
theorem dX0_account_21 : decode cX0_account 21 = .ok (.bipush 8, 2) := by decide +kernel
theorem dX0_account_23 : decode cX0_account 23 = .ok (.if_icmp .lt 6, 3) := by decide +kernel
theorem dX0_account_26 : decode cX0_account 26 = .ok (.bipush (-3), 2) := by decide +kernel
theorem dX0_account_28 : decode cX0_account 28 = .ok (.ireturn, 1) := by decide +kernel
theorem dX0_account_29 : decode cX0_account 29 = .ok (.aload_n 0, 1) := by decide +kernel
theorem dX0_account_30 : decode cX0_account 30 = .ok (.getfield 12, 3) := by decide +kernel
theorem dX0_account_33 : decode cX0_account 33 = .ok (.aload_n 0, 1) := by decide +kernel
theorem dX0_account_34 : decode cX0_account 34 = .ok (.getfield 54, 3) := by decide +kernel
theorem dX0_account_37 : decode cX0_account 37 = .ok (.lload_n 1, 1) := by decide +kernel
theorem dX0_account_38 : decode cX0_account 38 = .ok (.lload_n 3, 1) := by decide +kernel
theorem dX0_account_39 : decode cX0_account 39 = .ok (.invokevirtual 75, 3) := by decide +kernel
theorem dX0_account_42 : decode cX0_account 42 = .ok (.aload_n 0, 1) := by decide +kernel
theorem dX0_account_43 : decode cX0_account 43 = .ok (.dup, 1) := by decide +kernel
theorem dX0_account_44 : decode cX0_account 44 = .ok (.getfield 54, 3) := by decide +kernel
theorem dX0_account_47 : decode cX0_account 47 = .ok (.iconst 1, 1) := by decide +kernel
theorem dX0_account_48 : decode cX0_account 48 = .ok (.iadd, 1) := by decide +kernel
theorem dX0_account_49 : decode cX0_account 49 = .ok (.putfield 54, 3) := by decide +kernel
theorem dX0_account_52 : decode cX0_account 52 = .ok (.aload_n 0, 1) := by decide +kernel
theorem dX0_account_53 : decode cX0_account 53 = .ok (.getfield 54, 3) := by decide +kernel
theorem dX0_account_56 : decode cX0_account 56 = .ok (.iconst 1, 1) := by decide +kernel
theorem dX0_account_57 : decode cX0_account 57 = .ok (.isub, 1) := by decide +kernel
theorem dX0_account_58 : decode cX0_account 58 = .ok (.ireturn, 1) := by decide +kernel
theorem dX0_pool_0 : decode cX0_pool 0 = .ok (.lload_n 1, 1) := by decide +kernel
theorem dX0_pool_1 : decode cX0_pool 1 = .ok (.invokestatic 71, 3) := by decide +kernel
theorem dX0_pool_4 : decode cX0_pool 4 = .ok (.ifCond .eq 10, 3) := by decide +kernel
theorem dX0_pool_7 : decode cX0_pool 7 = .ok (.lload_n 3, 1) := by decide +kernel
theorem dX0_pool_8 : decode cX0_pool 8 = .ok (.invokestatic 71, 3) := by decide +kernel
theorem dX0_pool_11 : decode cX0_pool 11 = .ok (.ifCond .ne 6, 3) := by decide +kernel
theorem dX0_pool_14 : decode cX0_pool 14 = .ok (.bipush (-2), 2) := by decide +kernel
theorem dX0_pool_16 : decode cX0_pool 16 = .ok (.ireturn, 1) := by decide +kernel
theorem dX0_pool_17 : decode cX0_pool 17 = .ok (.aload_n 0, 1) := by decide +kernel
theorem dX0_pool_18 : decode cX0_pool 18 = .ok (.getfield 12, 3) := by decide +kernel
theorem dX0_pool_21 : decode cX0_pool 21 = .ok (.bipush 8, 2) := by decide +kernel
theorem dX0_pool_23 : decode cX0_pool 23 = .ok (.lload_n 1, 1) := by decide +kernel
theorem dX0_pool_24 : decode cX0_pool 24 = .ok (.lload_n 3, 1) := by decide +kernel
theorem dX0_pool_25 : decode cX0_pool 25 = .ok (.invokevirtual 75, 3) := by decide +kernel
theorem dX0_pool_28 : decode cX0_pool 28 = .ok (.iconst 1, 1) := by decide +kernel
theorem dX0_pool_29 : decode cX0_pool 29 = .ok (.ireturn, 1) := by decide +kernel
theorem dX0_seal_0 : decode cX0_seal 0 = .ok (.iload_n 1, 1) := by decide +kernel
theorem dX0_seal_1 : decode cX0_seal 1 = .ok (.iload_n 2, 1) := by decide +kernel
theorem dX0_seal_2 : decode cX0_seal 2 = .ok (.iload_n 3, 1) := by decide +kernel
theorem dX0_seal_3 : decode cX0_seal 3 = .ok (.invokestatic 79, 3) := by decide +kernel
theorem dX0_seal_6 : decode cX0_seal 6 = .ok (.ifCond .eq 14, 3) := by decide +kernel
theorem dX0_seal_9 : decode cX0_seal 9 = .ok (.iload_n 1, 1) := by decide +kernel
theorem dX0_seal_10 : decode cX0_seal 10 = .ok (.iload_n 2, 1) := by decide +kernel
theorem dX0_seal_11 : decode cX0_seal 11 = .ok (.iload_n 3, 1) := by decide +kernel
theorem dX0_seal_12 : decode cX0_seal 12 = .ok (.iload 4, 2) := by decide +kernel
theorem dX0_seal_14 : decode cX0_seal 14 = .ok (.invokestatic 83, 3) := by decide +kernel
theorem dX0_seal_17 : decode cX0_seal 17 = .ok (.goto 4, 3) := by decide +kernel
theorem dX0_seal_20 : decode cX0_seal 20 = .ok (.lconst 0, 1) := by decide +kernel
theorem dX0_seal_21 : decode cX0_seal 21 = .ok (.lreturn, 1) := by decide +kernel
theorem dX0_commit_0 : decode cX0_commit 0 = .ok (.aload_n 0, 1) := by decide +kernel
theorem dX0_commit_1 : decode cX0_commit 1 = .ok (.iload_n 1, 1) := by decide +kernel
theorem dX0_commit_2 : decode cX0_commit 2 = .ok (.invokevirtual 87, 3) := by decide +kernel
theorem dX0_commit_5 : decode cX0_commit 5 = .ok (.ifCond .eq 17, 3) := by decide +kernel
theorem dX0_commit_8 : decode cX0_commit 8 = .ok (.lload_n 2, 1) := by decide +kernel
theorem dX0_commit_9 : decode cX0_commit 9 = .ok (.lconst 0, 1) := by decide +kernel
theorem dX0_commit_10 : decode cX0_commit 10 = .ok (.lcmp, 1) := by decide +kernel
theorem dX0_commit_11 : decode cX0_commit 11 = .ok (.ifCond .lt 11, 3) := by decide +kernel
theorem dX0_commit_14 : decode cX0_commit 14 = .ok (.lload_n 2, 1) := by decide +kernel
theorem dX0_commit_15 : decode cX0_commit 15 = .ok (.ldc2_w 91, 3) := by decide +kernel
theorem dX0_commit_18 : decode cX0_commit 18 = .ok (.lcmp, 1) := by decide +kernel
theorem dX0_commit_19 : decode cX0_commit 19 = .ok (.ifCond .le 6, 3) := by decide +kernel
theorem dX0_commit_22 : decode cX0_commit 22 = .ok (.bipush (-2), 2) := by decide +kernel
theorem dX0_commit_24 : decode cX0_commit 24 = .ok (.ireturn, 1) := by decide +kernel
theorem dX0_commit_25 : decode cX0_commit 25 = .ok (.aload_n 0, 1) := by decide +kernel
theorem dX0_commit_26 : decode cX0_commit 26 = .ok (.getfield 93, 3) := by decide +kernel
theorem dX0_commit_29 : decode cX0_commit 29 = .ok (.ifCond .eq 6, 3) := by decide +kernel
theorem dX0_commit_32 : decode cX0_commit 32 = .ok (.bipush (-4), 2) := by decide +kernel
theorem dX0_commit_34 : decode cX0_commit 34 = .ok (.ireturn, 1) := by decide +kernel
theorem dX0_commit_35 : decode cX0_commit 35 = .ok (.aload_n 0, 1) := by decide +kernel
theorem dX0_commit_36 : decode cX0_commit 36 = .ok (.getfield 96, 3) := by decide +kernel
theorem dX0_commit_39 : decode cX0_commit 39 = .ok (.bipush 16, 2) := by decide +kernel
theorem dX0_commit_41 : decode cX0_commit 41 = .ok (.if_icmp .lt 6, 3) := by decide +kernel
theorem dX0_commit_44 : decode cX0_commit 44 = .ok (.bipush (-3), 2) := by decide +kernel
theorem dX0_commit_46 : decode cX0_commit 46 = .ok (.ireturn, 1) := by decide +kernel
theorem dX0_commit_47 : decode cX0_commit 47 = .ok (.aload_n 0, 1) := by decide +kernel
theorem dX0_commit_48 : decode cX0_commit 48 = .ok (.getfield 12, 3) := by decide +kernel
theorem dX0_commit_51 : decode cX0_commit 51 = .ok (.getfield 99, 3) := by decide +kernel
theorem dX0_commit_54 : decode cX0_commit 54 = .ok (.iload_n 1, 1) := by decide +kernel
theorem dX0_commit_55 : decode cX0_commit 55 = .ok (.laload, 1) := by decide +kernel
theorem dX0_commit_56 : decode cX0_commit 56 = .ok (.lload_n 2, 1) := by decide +kernel
theorem dX0_commit_57 : decode cX0_commit 57 = .ok (.lcmp, 1) := by decide +kernel
theorem dX0_commit_58 : decode cX0_commit 58 = .ok (.ifCond .ge 6, 3) := by decide +kernel
theorem dX0_commit_61 : decode cX0_commit 61 = .ok (.bipush (-5), 2) := by decide +kernel
theorem dX0_commit_63 : decode cX0_commit 63 = .ok (.ireturn, 1) := by decide +kernel
theorem dX0_commit_64 : decode cX0_commit 64 = .ok (.aload_n 0, 1) := by decide +kernel
theorem dX0_commit_65 : decode cX0_commit 65 = .ok (.getfield 12, 3) := by decide +kernel
theorem dX0_commit_68 : decode cX0_commit 68 = .ok (.getfield 99, 3) := by decide +kernel
theorem dX0_commit_71 : decode cX0_commit 71 = .ok (.iload_n 1, 1) := by decide +kernel
theorem dX0_commit_72 : decode cX0_commit 72 = .ok (.dup2, 1) := by decide +kernel
theorem dX0_commit_73 : decode cX0_commit 73 = .ok (.laload, 1) := by decide +kernel
theorem dX0_commit_74 : decode cX0_commit 74 = .ok (.lload_n 2, 1) := by decide +kernel
theorem dX0_commit_75 : decode cX0_commit 75 = .ok (.lsub, 1) := by decide +kernel
theorem dX0_commit_76 : decode cX0_commit 76 = .ok (.lastore, 1) := by decide +kernel
theorem dX0_commit_77 : decode cX0_commit 77 = .ok (.aload_n 0, 1) := by decide +kernel
theorem dX0_commit_78 : decode cX0_commit 78 = .ok (.getfield 21, 3) := by decide +kernel
theorem dX0_commit_81 : decode cX0_commit 81 = .ok (.aload_n 0, 1) := by decide +kernel
theorem dX0_commit_82 : decode cX0_commit 82 = .ok (.getfield 96, 3) := by decide +kernel
theorem dX0_commit_85 : decode cX0_commit 85 = .ok (.aaload, 1) := by decide +kernel
theorem dX0_commit_86 : decode cX0_commit 86 = .ok (.iload_n 1, 1) := by decide +kernel
theorem dX0_commit_87 : decode cX0_commit 87 = .ok (.lload_n 2, 1) := by decide +kernel
theorem dX0_commit_88 : decode cX0_commit 88 = .ok (.lload 4, 2) := by decide +kernel
theorem dX0_commit_90 : decode cX0_commit 90 = .ok (.invokevirtual 103, 3) := by decide +kernel
theorem dX0_commit_93 : decode cX0_commit 93 = .ok (.aload_n 0, 1) := by decide +kernel
theorem dX0_commit_94 : decode cX0_commit 94 = .ok (.dup, 1) := by decide +kernel
theorem dX0_commit_95 : decode cX0_commit 95 = .ok (.getfield 96, 3) := by decide +kernel
theorem dX0_commit_98 : decode cX0_commit 98 = .ok (.iconst 1, 1) := by decide +kernel
theorem dX0_commit_99 : decode cX0_commit 99 = .ok (.iadd, 1) := by decide +kernel
theorem dX0_commit_100 : decode cX0_commit 100 = .ok (.putfield 96, 3) := by decide +kernel
theorem dX0_commit_103 : decode cX0_commit 103 = .ok (.aload_n 0, 1) := by decide +kernel
theorem dX0_commit_104 : decode cX0_commit 104 = .ok (.getfield 96, 3) := by decide +kernel
theorem dX0_commit_107 : decode cX0_commit 107 = .ok (.iconst 1, 1) := by decide +kernel
theorem dX0_commit_108 : decode cX0_commit 108 = .ok (.isub, 1) := by decide +kernel
theorem dX0_commit_109 : decode cX0_commit 109 = .ok (.ireturn, 1) := by decide +kernel
theorem dX0_hear_0 : decode cX0_hear 0 = .ok (.iload_n 1, 1) := by decide +kernel
theorem dX0_hear_1 : decode cX0_hear 1 = .ok (.ifCond .lt 26, 3) := by decide +kernel
theorem dX0_hear_4 : decode cX0_hear 4 = .ok (.iload_n 1, 1) := by decide +kernel
theorem dX0_hear_5 : decode cX0_hear 5 = .ok (.iconst 5, 1) := by decide +kernel
theorem dX0_hear_6 : decode cX0_hear 6 = .ok (.if_icmp .ge 21, 3) := by decide +kernel
theorem dX0_hear_9 : decode cX0_hear 9 = .ok (.aload_n 0, 1) := by decide +kernel
theorem dX0_hear_10 : decode cX0_hear 10 = .ok (.iload_n 2, 1) := by decide +kernel
theorem dX0_hear_11 : decode cX0_hear 11 = .ok (.invokevirtual 106, 3) := by decide +kernel
theorem dX0_hear_14 : decode cX0_hear 14 = .ok (.ifCond .eq 13, 3) := by decide +kernel
theorem dX0_hear_17 : decode cX0_hear 17 = .ok (.iload_n 3, 1) := by decide +kernel
theorem dX0_hear_18 : decode cX0_hear 18 = .ok (.ifCond .lt 9, 3) := by decide +kernel
theorem dX0_hear_21 : decode cX0_hear 21 = .ok (.iload_n 3, 1) := by decide +kernel
theorem dX0_hear_22 : decode cX0_hear 22 = .ok (.ldc 109, 2) := by decide +kernel
theorem dX0_hear_24 : decode cX0_hear 24 = .ok (.if_icmp .le 6, 3) := by decide +kernel
theorem dX0_hear_27 : decode cX0_hear 27 = .ok (.bipush (-2), 2) := by decide +kernel
theorem dX0_hear_29 : decode cX0_hear 29 = .ok (.ireturn, 1) := by decide +kernel
theorem dX0_hear_30 : decode cX0_hear 30 = .ok (.aload_n 0, 1) := by decide +kernel
theorem dX0_hear_31 : decode cX0_hear 31 = .ok (.getfield 93, 3) := by decide +kernel
theorem dX0_hear_34 : decode cX0_hear 34 = .ok (.ifCond .eq 6, 3) := by decide +kernel
theorem dX0_hear_37 : decode cX0_hear 37 = .ok (.bipush (-4), 2) := by decide +kernel
theorem dX0_hear_39 : decode cX0_hear 39 = .ok (.ireturn, 1) := by decide +kernel
theorem dX0_hear_40 : decode cX0_hear 40 = .ok (.aload_n 0, 1) := by decide +kernel
theorem dX0_hear_41 : decode cX0_hear 41 = .ok (.getfield 21, 3) := by decide +kernel
theorem dX0_hear_44 : decode cX0_hear 44 = .ok (.iload_n 2, 1) := by decide +kernel
theorem dX0_hear_45 : decode cX0_hear 45 = .ok (.aaload, 1) := by decide +kernel
theorem dX0_hear_46 : decode cX0_hear 46 = .ok (.getfield 110, 3) := by decide +kernel
theorem dX0_hear_49 : decode cX0_hear 49 = .ok (.astore 4, 2) := by decide +kernel
theorem dX0_hear_51 : decode cX0_hear 51 = .ok (.aload 4, 2) := by decide +kernel
theorem dX0_hear_53 : decode cX0_hear 53 = .ok (.iload_n 1, 1) := by decide +kernel
theorem dX0_hear_54 : decode cX0_hear 54 = .ok (.iaload, 1) := by decide +kernel
theorem dX0_hear_55 : decode cX0_hear 55 = .ok (.ldc 113, 2) := by decide +kernel
theorem dX0_hear_57 : decode cX0_hear 57 = .ok (.if_icmp .eq 6, 3) := by decide +kernel
theorem dX0_hear_60 : decode cX0_hear 60 = .ok (.bipush (-6), 2) := by decide +kernel
theorem dX0_hear_62 : decode cX0_hear 62 = .ok (.ireturn, 1) := by decide +kernel
theorem dX0_hear_63 : decode cX0_hear 63 = .ok (.aload 4, 2) := by decide +kernel
theorem dX0_hear_65 : decode cX0_hear 65 = .ok (.iload_n 1, 1) := by decide +kernel
theorem dX0_hear_66 : decode cX0_hear 66 = .ok (.iload_n 3, 1) := by decide +kernel
theorem dX0_hear_67 : decode cX0_hear 67 = .ok (.iastore, 1) := by decide +kernel
theorem dX0_hear_68 : decode cX0_hear 68 = .ok (.iconst 1, 1) := by decide +kernel
theorem dX0_hear_69 : decode cX0_hear 69 = .ok (.ireturn, 1) := by decide +kernel
theorem dX0_open_0 : decode cX0_open 0 = .ok (.aload_n 0, 1) := by decide +kernel
theorem dX0_open_1 : decode cX0_open 1 = .ok (.iload_n 1, 1) := by decide +kernel
theorem dX0_open_2 : decode cX0_open 2 = .ok (.invokevirtual 106, 3) := by decide +kernel
theorem dX0_open_5 : decode cX0_open 5 = .ok (.ifCond .eq 13, 3) := by decide +kernel
theorem dX0_open_8 : decode cX0_open 8 = .ok (.iload_n 2, 1) := by decide +kernel
theorem dX0_open_9 : decode cX0_open 9 = .ok (.iload_n 3, 1) := by decide +kernel
theorem dX0_open_10 : decode cX0_open 10 = .ok (.iload 4, 2) := by decide +kernel
theorem dX0_open_12 : decode cX0_open 12 = .ok (.invokestatic 79, 3) := by decide +kernel
theorem dX0_open_15 : decode cX0_open 15 = .ok (.ifCond .ne 6, 3) := by decide +kernel
theorem dX0_open_18 : decode cX0_open 18 = .ok (.bipush (-2), 2) := by decide +kernel
theorem dX0_open_20 : decode cX0_open 20 = .ok (.ireturn, 1) := by decide +kernel
theorem dX0_open_21 : decode cX0_open 21 = .ok (.aload_n 0, 1) := by decide +kernel
theorem dX0_open_22 : decode cX0_open 22 = .ok (.getfield 21, 3) := by decide +kernel
theorem dX0_open_25 : decode cX0_open 25 = .ok (.iload_n 1, 1) := by decide +kernel
theorem dX0_open_26 : decode cX0_open 26 = .ok (.aaload, 1) := by decide +kernel
theorem dX0_open_27 : decode cX0_open 27 = .ok (.astore 6, 2) := by decide +kernel
theorem dX0_open_29 : decode cX0_open 29 = .ok (.aload_n 0, 1) := by decide +kernel
theorem dX0_open_30 : decode cX0_open 30 = .ok (.getfield 93, 3) := by decide +kernel
theorem dX0_open_33 : decode cX0_open 33 = .ok (.iconst 1, 1) := by decide +kernel
theorem dX0_open_34 : decode cX0_open 34 = .ok (.if_icmp .ne 11, 3) := by decide +kernel
theorem dX0_open_37 : decode cX0_open 37 = .ok (.aload 6, 2) := by decide +kernel
theorem dX0_open_39 : decode cX0_open 39 = .ok (.getfield 114, 3) := by decide +kernel
theorem dX0_open_42 : decode cX0_open 42 = .ok (.ifCond .eq 6, 3) := by decide +kernel
theorem dX0_open_45 : decode cX0_open 45 = .ok (.bipush (-4), 2) := by decide +kernel
theorem dX0_open_47 : decode cX0_open 47 = .ok (.ireturn, 1) := by decide +kernel
theorem dX0_open_48 : decode cX0_open 48 = .ok (.aload 6, 2) := by decide +kernel
theorem dX0_open_50 : decode cX0_open 50 = .ok (.getfield 118, 3) := by decide +kernel
theorem dX0_open_53 : decode cX0_open 53 = .ok (.iload_n 2, 1) := by decide +kernel
theorem dX0_open_54 : decode cX0_open 54 = .ok (.iload_n 3, 1) := by decide +kernel
theorem dX0_open_55 : decode cX0_open 55 = .ok (.iload 4, 2) := by decide +kernel
theorem dX0_open_57 : decode cX0_open 57 = .ok (.iload 5, 2) := by decide +kernel
theorem dX0_open_59 : decode cX0_open 59 = .ok (.invokestatic 83, 3) := by decide +kernel
theorem dX0_open_62 : decode cX0_open 62 = .ok (.lcmp, 1) := by decide +kernel
theorem dX0_open_63 : decode cX0_open 63 = .ok (.ifCond .eq 6, 3) := by decide +kernel
theorem dX0_open_66 : decode cX0_open 66 = .ok (.bipush (-6), 2) := by decide +kernel
theorem dX0_open_68 : decode cX0_open 68 = .ok (.ireturn, 1) := by decide +kernel
theorem dX0_open_69 : decode cX0_open 69 = .ok (.aload 6, 2) := by decide +kernel
theorem dX0_open_71 : decode cX0_open 71 = .ok (.iload_n 2, 1) := by decide +kernel
theorem dX0_open_72 : decode cX0_open 72 = .ok (.iload_n 3, 1) := by decide +kernel
theorem dX0_open_73 : decode cX0_open 73 = .ok (.iload 4, 2) := by decide +kernel
theorem dX0_open_75 : decode cX0_open 75 = .ok (.invokevirtual 121, 3) := by decide +kernel
theorem dX0_open_78 : decode cX0_open 78 = .ok (.aload_n 0, 1) := by decide +kernel
theorem dX0_open_79 : decode cX0_open 79 = .ok (.getfield 12, 3) := by decide +kernel
theorem dX0_open_82 : decode cX0_open 82 = .ok (.getfield 99, 3) := by decide +kernel
theorem dX0_open_85 : decode cX0_open 85 = .ok (.aload 6, 2) := by decide +kernel
theorem dX0_open_87 : decode cX0_open 87 = .ok (.getfield 125, 3) := by decide +kernel
theorem dX0_open_90 : decode cX0_open 90 = .ok (.dup2, 1) := by decide +kernel
theorem dX0_open_91 : decode cX0_open 91 = .ok (.laload, 1) := by decide +kernel
theorem dX0_open_92 : decode cX0_open 92 = .ok (.aload 6, 2) := by decide +kernel
theorem dX0_open_94 : decode cX0_open 94 = .ok (.getfield 128, 3) := by decide +kernel
theorem dX0_open_97 : decode cX0_open 97 = .ok (.ladd, 1) := by decide +kernel
theorem dX0_open_98 : decode cX0_open 98 = .ok (.lastore, 1) := by decide +kernel
theorem dX0_open_99 : decode cX0_open 99 = .ok (.iconst 1, 1) := by decide +kernel
theorem dX0_open_100 : decode cX0_open 100 = .ok (.ireturn, 1) := by decide +kernel
theorem dX0_next_0 : decode cX0_next 0 = .ok (.aload_n 0, 1) := by decide +kernel
theorem dX0_next_1 : decode cX0_next 1 = .ok (.getfield 93, 3) := by decide +kernel
theorem dX0_next_4 : decode cX0_next 4 = .ok (.ifCond .ne 11, 3) := by decide +kernel
theorem dX0_next_7 : decode cX0_next 7 = .ok (.aload_n 0, 1) := by decide +kernel
theorem dX0_next_8 : decode cX0_next 8 = .ok (.iconst 1, 1) := by decide +kernel
theorem dX0_next_9 : decode cX0_next 9 = .ok (.putfield 93, 3) := by decide +kernel
theorem dX0_next_12 : decode cX0_next 12 = .ok (.goto 37, 3) := by decide +kernel
theorem dX0_next_15 : decode cX0_next 15 = .ok (.aload_n 0, 1) := by decide +kernel
theorem dX0_next_16 : decode cX0_next 16 = .ok (.getfield 93, 3) := by decide +kernel
theorem dX0_next_19 : decode cX0_next 19 = .ok (.iconst 1, 1) := by decide +kernel
theorem dX0_next_20 : decode cX0_next 20 = .ok (.if_icmp .ne 15, 3) := by decide +kernel
theorem dX0_next_23 : decode cX0_next 23 = .ok (.aload_n 0, 1) := by decide +kernel
theorem dX0_next_24 : decode cX0_next 24 = .ok (.iconst 2, 1) := by decide +kernel
theorem dX0_next_25 : decode cX0_next 25 = .ok (.putfield 93, 3) := by decide +kernel
theorem dX0_next_28 : decode cX0_next 28 = .ok (.aload_n 0, 1) := by decide +kernel
theorem dX0_next_29 : decode cX0_next 29 = .ok (.invokevirtual 131, 3) := by decide +kernel
theorem dX0_next_32 : decode cX0_next 32 = .ok (.goto 17, 3) := by decide +kernel
theorem dX0_next_35 : decode cX0_next 35 = .ok (.aload_n 0, 1) := by decide +kernel
theorem dX0_next_36 : decode cX0_next 36 = .ok (.dup, 1) := by decide +kernel
theorem dX0_next_37 : decode cX0_next 37 = .ok (.getfield 65, 3) := by decide +kernel
theorem dX0_next_40 : decode cX0_next 40 = .ok (.iconst 1, 1) := by decide +kernel
theorem dX0_next_41 : decode cX0_next 41 = .ok (.iadd, 1) := by decide +kernel
theorem dX0_next_42 : decode cX0_next 42 = .ok (.putfield 65, 3) := by decide +kernel
theorem dX0_next_45 : decode cX0_next 45 = .ok (.aload_n 0, 1) := by decide +kernel
theorem dX0_next_46 : decode cX0_next 46 = .ok (.invokevirtual 68, 3) := by decide +kernel
theorem dX0_next_49 : decode cX0_next 49 = .ok (.aload_n 0, 1) := by decide +kernel
theorem dX0_next_50 : decode cX0_next 50 = .ok (.getfield 93, 3) := by decide +kernel
theorem dX0_next_53 : decode cX0_next 53 = .ok (.ireturn, 1) := by decide +kernel
theorem dX0_order_0 : decode cX0_order 0 = .ok (.iload_n 1, 1) := by decide +kernel
theorem dX0_order_1 : decode cX0_order 1 = .ok (.ifCond .lt 8, 3) := by decide +kernel
theorem dX0_order_4 : decode cX0_order 4 = .ok (.iload_n 1, 1) := by decide +kernel
theorem dX0_order_5 : decode cX0_order 5 = .ok (.iconst 4, 1) := by decide +kernel
theorem dX0_order_6 : decode cX0_order 6 = .ok (.if_icmp .le 6, 3) := by decide +kernel
theorem dX0_order_9 : decode cX0_order 9 = .ok (.bipush (-2), 2) := by decide +kernel
theorem dX0_order_11 : decode cX0_order 11 = .ok (.ireturn, 1) := by decide +kernel
theorem dX0_order_12 : decode cX0_order 12 = .ok (.aload_n 0, 1) := by decide +kernel
theorem dX0_order_13 : decode cX0_order 13 = .ok (.getfield 93, 3) := by decide +kernel
theorem dX0_order_16 : decode cX0_order 16 = .ok (.iconst 2, 1) := by decide +kernel
theorem dX0_order_17 : decode cX0_order 17 = .ok (.if_icmp .eq 6, 3) := by decide +kernel
theorem dX0_order_20 : decode cX0_order 20 = .ok (.bipush (-4), 2) := by decide +kernel
theorem dX0_order_22 : decode cX0_order 22 = .ok (.ireturn, 1) := by decide +kernel
theorem dX0_order_23 : decode cX0_order 23 = .ok (.aload_n 0, 1) := by decide +kernel
theorem dX0_order_24 : decode cX0_order 24 = .ok (.getfield 28, 3) := by decide +kernel
theorem dX0_order_27 : decode cX0_order 27 = .ok (.iconst 0, 1) := by decide +kernel
theorem dX0_order_28 : decode cX0_order 28 = .ok (.putfield 134, 3) := by decide +kernel
theorem dX0_order_31 : decode cX0_order 31 = .ok (.iload_n 1, 1) := by decide +kernel
theorem dX0_order_32 : decode cX0_order 32 = .ok (.iconst 3, 1) := by decide +kernel
theorem dX0_order_33 : decode cX0_order 33 = .ok (.if_icmp .ne 40, 3) := by decide +kernel
theorem dX0_order_36 : decode cX0_order 36 = .ok (.aload_n 0, 1) := by decide +kernel
theorem dX0_order_37 : decode cX0_order 37 = .ok (.getfield 42, 3) := by decide +kernel
theorem dX0_order_40 : decode cX0_order 40 = .ok (.aload_n 0, 1) := by decide +kernel
theorem dX0_order_41 : decode cX0_order 41 = .ok (.getfield 21, 3) := by decide +kernel
theorem dX0_order_44 : decode cX0_order 44 = .ok (.aload_n 0, 1) := by decide +kernel
theorem dX0_order_45 : decode cX0_order 45 = .ok (.getfield 96, 3) := by decide +kernel
theorem dX0_order_48 : decode cX0_order 48 = .ok (.invokevirtual 137, 3) := by decide +kernel
theorem dX0_order_51 : decode cX0_order 51 = .ok (.aload_n 0, 1) := by decide +kernel
theorem dX0_order_52 : decode cX0_order 52 = .ok (.getfield 42, 3) := by decide +kernel
theorem dX0_order_55 : decode cX0_order 55 = .ok (.aload_n 0, 1) := by decide +kernel
theorem dX0_order_56 : decode cX0_order 56 = .ok (.getfield 28, 3) := by decide +kernel
theorem dX0_order_59 : decode cX0_order 59 = .ok (.aload_n 0, 1) := by decide +kernel
theorem dX0_order_60 : decode cX0_order 60 = .ok (.invokevirtual 141, 3) := by decide +kernel
theorem dX0_order_63 : decode cX0_order 63 = .ok (.aload_n 0, 1) := by decide +kernel
theorem dX0_order_64 : decode cX0_order 64 = .ok (.getfield 96, 3) := by decide +kernel
theorem dX0_order_67 : decode cX0_order 67 = .ok (.invokevirtual 145, 3) := by decide +kernel
theorem dX0_order_70 : decode cX0_order 70 = .ok (.goto 13, 3) := by decide +kernel
theorem dX0_order_73 : decode cX0_order 73 = .ok (.aload_n 0, 1) := by decide +kernel
theorem dX0_order_74 : decode cX0_order 74 = .ok (.invokevirtual 149, 3) := by decide +kernel
theorem dX0_order_77 : decode cX0_order 77 = .ok (.aload_n 0, 1) := by decide +kernel
theorem dX0_order_78 : decode cX0_order 78 = .ok (.iload_n 1, 1) := by decide +kernel
theorem dX0_order_79 : decode cX0_order 79 = .ok (.lload_n 2, 1) := by decide +kernel
theorem dX0_order_80 : decode cX0_order 80 = .ok (.invokevirtual 152, 3) := by decide +kernel
theorem dX0_order_83 : decode cX0_order 83 = .ok (.aload_n 0, 1) := by decide +kernel
theorem dX0_order_84 : decode cX0_order 84 = .ok (.iconst 1, 1) := by decide +kernel
theorem dX0_order_85 : decode cX0_order 85 = .ok (.putfield 156, 3) := by decide +kernel
theorem dX0_order_88 : decode cX0_order 88 = .ok (.aload_n 0, 1) := by decide +kernel
theorem dX0_order_89 : decode cX0_order 89 = .ok (.getfield 28, 3) := by decide +kernel
theorem dX0_order_92 : decode cX0_order 92 = .ok (.getfield 134, 3) := by decide +kernel
theorem dX0_order_95 : decode cX0_order 95 = .ok (.ireturn, 1) := by decide +kernel
theorem dX0_at_0 : decode cX0_at 0 = .ok (.aload_n 0, 1) := by decide +kernel
theorem dX0_at_1 : decode cX0_at 1 = .ok (.getfield 28, 3) := by decide +kernel
theorem dX0_at_4 : decode cX0_at 4 = .ok (.iload_n 1, 1) := by decide +kernel
theorem dX0_at_5 : decode cX0_at 5 = .ok (.invokevirtual 159, 3) := by decide +kernel
theorem dX0_at_8 : decode cX0_at 8 = .ok (.ifCond .eq 15, 3) := by decide +kernel
theorem dX0_at_11 : decode cX0_at 11 = .ok (.aload_n 0, 1) := by decide +kernel
theorem dX0_at_12 : decode cX0_at 12 = .ok (.getfield 28, 3) := by decide +kernel
theorem dX0_at_15 : decode cX0_at 15 = .ok (.getfield 162, 3) := by decide +kernel
theorem dX0_at_18 : decode cX0_at 18 = .ok (.iload_n 1, 1) := by decide +kernel
theorem dX0_at_19 : decode cX0_at 19 = .ok (.iaload, 1) := by decide +kernel
theorem dX0_at_20 : decode cX0_at 20 = .ok (.goto 4, 3) := by decide +kernel
theorem dX0_at_23 : decode cX0_at 23 = .ok (.iconst (-1), 1) := by decide +kernel
theorem dX0_at_24 : decode cX0_at 24 = .ok (.ireturn, 1) := by decide +kernel
theorem dX0_linked_0 : decode cX0_linked 0 = .ok (.aload_n 0, 1) := by decide +kernel
theorem dX0_linked_1 : decode cX0_linked 1 = .ok (.iload_n 1, 1) := by decide +kernel
theorem dX0_linked_2 : decode cX0_linked 2 = .ok (.invokevirtual 165, 3) := by decide +kernel
theorem dX0_linked_5 : decode cX0_linked 5 = .ok (.ifCond .eq 11, 3) := by decide +kernel
theorem dX0_linked_8 : decode cX0_linked 8 = .ok (.aload_n 0, 1) := by decide +kernel
theorem dX0_linked_9 : decode cX0_linked 9 = .ok (.iload_n 2, 1) := by decide +kernel
theorem dX0_linked_10 : decode cX0_linked 10 = .ok (.invokevirtual 165, 3) := by decide +kernel
theorem dX0_linked_13 : decode cX0_linked 13 = .ok (.ifCond .ne 6, 3) := by decide +kernel
theorem dX0_linked_16 : decode cX0_linked 16 = .ok (.bipush (-2), 2) := by decide +kernel
theorem dX0_linked_18 : decode cX0_linked 18 = .ok (.ireturn, 1) := by decide +kernel
theorem dX0_linked_19 : decode cX0_linked 19 = .ok (.aload_n 0, 1) := by decide +kernel
theorem dX0_linked_20 : decode cX0_linked 20 = .ok (.getfield 42, 3) := by decide +kernel
theorem dX0_linked_23 : decode cX0_linked 23 = .ok (.aload_n 0, 1) := by decide +kernel
theorem dX0_linked_24 : decode cX0_linked 24 = .ok (.getfield 21, 3) := by decide +kernel
theorem dX0_linked_27 : decode cX0_linked 27 = .ok (.aload_n 0, 1) := by decide +kernel
theorem dX0_linked_28 : decode cX0_linked 28 = .ok (.getfield 96, 3) := by decide +kernel
theorem dX0_linked_31 : decode cX0_linked 31 = .ok (.invokevirtual 137, 3) := by decide +kernel
theorem dX0_linked_34 : decode cX0_linked 34 = .ok (.aload_n 0, 1) := by decide +kernel
theorem dX0_linked_35 : decode cX0_linked 35 = .ok (.getfield 42, 3) := by decide +kernel
theorem dX0_linked_38 : decode cX0_linked 38 = .ok (.iload_n 1, 1) := by decide +kernel
theorem dX0_linked_39 : decode cX0_linked 39 = .ok (.iload_n 2, 1) := by decide +kernel
theorem dX0_linked_40 : decode cX0_linked 40 = .ok (.invokevirtual 168, 3) := by decide +kernel
theorem dX0_linked_43 : decode cX0_linked 43 = .ok (.ifCond .eq 7, 3) := by decide +kernel
theorem dX0_linked_46 : decode cX0_linked 46 = .ok (.iconst 1, 1) := by decide +kernel
theorem dX0_linked_47 : decode cX0_linked 47 = .ok (.goto 4, 3) := by decide +kernel
theorem dX0_linked_50 : decode cX0_linked 50 = .ok (.iconst 0, 1) := by decide +kernel
theorem dX0_linked_51 : decode cX0_linked 51 = .ok (.ireturn, 1) := by decide +kernel
theorem dX0_heard_0 : decode cX0_heard 0 = .ok (.aload_n 0, 1) := by decide +kernel
theorem dX0_heard_1 : decode cX0_heard 1 = .ok (.iload_n 1, 1) := by decide +kernel
theorem dX0_heard_2 : decode cX0_heard 2 = .ok (.invokevirtual 106, 3) := by decide +kernel
theorem dX0_heard_5 : decode cX0_heard 5 = .ok (.ifCond .ne 6, 3) := by decide +kernel
theorem dX0_heard_8 : decode cX0_heard 8 = .ok (.bipush (-2), 2) := by decide +kernel
theorem dX0_heard_10 : decode cX0_heard 10 = .ok (.ireturn, 1) := by decide +kernel
theorem dX0_heard_11 : decode cX0_heard 11 = .ok (.aload_n 0, 1) := by decide +kernel
theorem dX0_heard_12 : decode cX0_heard 12 = .ok (.getfield 21, 3) := by decide +kernel
theorem dX0_heard_15 : decode cX0_heard 15 = .ok (.iload_n 1, 1) := by decide +kernel
theorem dX0_heard_16 : decode cX0_heard 16 = .ok (.aaload, 1) := by decide +kernel
theorem dX0_heard_17 : decode cX0_heard 17 = .ok (.invokevirtual 172, 3) := by decide +kernel
theorem dX0_heard_20 : decode cX0_heard 20 = .ok (.istore_n 2, 1) := by decide +kernel
theorem dX0_heard_21 : decode cX0_heard 21 = .ok (.iload_n 2, 1) := by decide +kernel
theorem dX0_heard_22 : decode cX0_heard 22 = .ok (.ldc 113, 2) := by decide +kernel
theorem dX0_heard_24 : decode cX0_heard 24 = .ok (.if_icmp .ne 7, 3) := by decide +kernel
theorem dX0_heard_27 : decode cX0_heard 27 = .ok (.iconst (-1), 1) := by decide +kernel
theorem dX0_heard_28 : decode cX0_heard 28 = .ok (.goto 4, 3) := by decide +kernel
theorem dX0_heard_31 : decode cX0_heard 31 = .ok (.iload_n 2, 1) := by decide +kernel
theorem dX0_heard_32 : decode cX0_heard 32 = .ok (.ireturn, 1) := by decide +kernel
theorem dX0_play_0 : decode cX0_play 0 = .ok (.aload_n 0, 1) := by decide +kernel
theorem dX0_play_1 : decode cX0_play 1 = .ok (.invokevirtual 175, 3) := by decide +kernel
theorem dX0_play_4 : decode cX0_play 4 = .ok (.ifCond .ne 6, 3) := by decide +kernel
theorem dX0_play_7 : decode cX0_play 7 = .ok (.bipush (-4), 2) := by decide +kernel
theorem dX0_play_9 : decode cX0_play 9 = .ok (.ireturn, 1) := by decide +kernel
theorem dX0_play_10 : decode cX0_play 10 = .ok (.aload_n 0, 1) := by decide +kernel
theorem dX0_play_11 : decode cX0_play 11 = .ok (.iconst 1, 1) := by decide +kernel
theorem dX0_play_12 : decode cX0_play 12 = .ok (.putfield 179, 3) := by decide +kernel
theorem dX0_play_15 : decode cX0_play 15 = .ok (.iconst 0, 1) := by decide +kernel
theorem dX0_play_16 : decode cX0_play 16 = .ok (.istore_n 1, 1) := by decide +kernel
theorem dX0_play_17 : decode cX0_play 17 = .ok (.iconst 0, 1) := by decide +kernel
theorem dX0_play_18 : decode cX0_play 18 = .ok (.istore_n 2, 1) := by decide +kernel
theorem dX0_play_19 : decode cX0_play 19 = .ok (.iload_n 2, 1) := by decide +kernel
theorem dX0_play_20 : decode cX0_play 20 = .ok (.aload_n 0, 1) := by decide +kernel
theorem dX0_play_21 : decode cX0_play 21 = .ok (.getfield 28, 3) := by decide +kernel
theorem dX0_play_24 : decode cX0_play 24 = .ok (.getfield 134, 3) := by decide +kernel
theorem dX0_play_27 : decode cX0_play 27 = .ok (.if_icmp .ge 56, 3) := by decide +kernel
theorem dX0_play_30 : decode cX0_play 30 = .ok (.aload_n 0, 1) := by decide +kernel
theorem dX0_play_31 : decode cX0_play 31 = .ok (.getfield 21, 3) := by decide +kernel
theorem dX0_play_34 : decode cX0_play 34 = .ok (.aload_n 0, 1) := by decide +kernel
theorem dX0_play_35 : decode cX0_play 35 = .ok (.getfield 28, 3) := by decide +kernel
theorem dX0_play_38 : decode cX0_play 38 = .ok (.getfield 162, 3) := by decide +kernel
theorem dX0_play_41 : decode cX0_play 41 = .ok (.iload_n 2, 1) := by decide +kernel
theorem dX0_play_42 : decode cX0_play 42 = .ok (.iaload, 1) := by decide +kernel
theorem dX0_play_43 : decode cX0_play 43 = .ok (.aaload, 1) := by decide +kernel
theorem dX0_play_44 : decode cX0_play 44 = .ok (.astore_n 3, 1) := by decide +kernel
theorem dX0_play_45 : decode cX0_play 45 = .ok (.aload_n 0, 1) := by decide +kernel
theorem dX0_play_46 : decode cX0_play 46 = .ok (.getfield 12, 3) := by decide +kernel
theorem dX0_play_49 : decode cX0_play 49 = .ok (.aload_n 3, 1) := by decide +kernel
theorem dX0_play_50 : decode cX0_play 50 = .ok (.invokevirtual 182, 3) := by decide +kernel
theorem dX0_play_53 : decode cX0_play 53 = .ok (.lstore 4, 2) := by decide +kernel
theorem dX0_play_55 : decode cX0_play 55 = .ok (.lload 4, 2) := by decide +kernel
theorem dX0_play_57 : decode cX0_play 57 = .ok (.ldc2_w 186, 3) := by decide +kernel
theorem dX0_play_60 : decode cX0_play 60 = .ok (.lcmp, 1) := by decide +kernel
theorem dX0_play_61 : decode cX0_play 61 = .ok (.ifCond .eq 16, 3) := by decide +kernel
theorem dX0_play_64 : decode cX0_play 64 = .ok (.aload_n 3, 1) := by decide +kernel
theorem dX0_play_65 : decode cX0_play 65 = .ok (.aload_n 3, 1) := by decide +kernel
theorem dX0_play_66 : decode cX0_play 66 = .ok (.getfield 188, 3) := by decide +kernel
theorem dX0_play_69 : decode cX0_play 69 = .ok (.lload 4, 2) := by decide +kernel
theorem dX0_play_71 : decode cX0_play 71 = .ok (.invokevirtual 191, 3) := by decide +kernel
theorem dX0_play_74 : decode cX0_play 74 = .ok (.iinc 1 1, 3) := by decide +kernel
theorem dX0_play_77 : decode cX0_play 77 = .ok (.iinc 2 1, 3) := by decide +kernel
theorem dX0_play_80 : decode cX0_play 80 = .ok (.goto (-61), 3) := by decide +kernel
theorem dX0_play_83 : decode cX0_play 83 = .ok (.iload_n 1, 1) := by decide +kernel
theorem dX0_play_84 : decode cX0_play 84 = .ok (.ireturn, 1) := by decide +kernel
theorem dX0_batch_0 : decode cX0_batch 0 = .ok (.aload_n 0, 1) := by decide +kernel
theorem dX0_batch_1 : decode cX0_batch 1 = .ok (.invokevirtual 175, 3) := by decide +kernel
theorem dX0_batch_4 : decode cX0_batch 4 = .ok (.ifCond .ne 6, 3) := by decide +kernel
theorem dX0_batch_7 : decode cX0_batch 7 = .ok (.bipush (-4), 2) := by decide +kernel
theorem dX0_batch_9 : decode cX0_batch 9 = .ok (.ireturn, 1) := by decide +kernel
theorem dX0_batch_10 : decode cX0_batch 10 = .ok (.aload_n 0, 1) := by decide +kernel
theorem dX0_batch_11 : decode cX0_batch 11 = .ok (.iconst 1, 1) := by decide +kernel
theorem dX0_batch_12 : decode cX0_batch 12 = .ok (.putfield 179, 3) := by decide +kernel
theorem dX0_batch_15 : decode cX0_batch 15 = .ok (.aload_n 0, 1) := by decide +kernel
theorem dX0_batch_16 : decode cX0_batch 16 = .ok (.getfield 49, 3) := by decide +kernel
theorem dX0_batch_19 : decode cX0_batch 19 = .ok (.aload_n 0, 1) := by decide +kernel
theorem dX0_batch_20 : decode cX0_batch 20 = .ok (.getfield 28, 3) := by decide +kernel
theorem dX0_batch_23 : decode cX0_batch 23 = .ok (.aload_n 0, 1) := by decide +kernel
theorem dX0_batch_24 : decode cX0_batch 24 = .ok (.getfield 21, 3) := by decide +kernel
theorem dX0_batch_27 : decode cX0_batch 27 = .ok (.aload_n 0, 1) := by decide +kernel
theorem dX0_batch_28 : decode cX0_batch 28 = .ok (.getfield 12, 3) := by decide +kernel
theorem dX0_batch_31 : decode cX0_batch 31 = .ok (.invokevirtual 194, 3) := by decide +kernel
theorem dX0_batch_34 : decode cX0_batch 34 = .ok (.istore_n 1, 1) := by decide +kernel
theorem dX0_batch_35 : decode cX0_batch 35 = .ok (.iload_n 1, 1) := by decide +kernel
theorem dX0_batch_36 : decode cX0_batch 36 = .ok (.iconst (-1), 1) := by decide +kernel
theorem dX0_batch_37 : decode cX0_batch 37 = .ok (.if_icmp .eq 23, 3) := by decide +kernel
theorem dX0_batch_40 : decode cX0_batch 40 = .ok (.aload_n 0, 1) := by decide +kernel
theorem dX0_batch_41 : decode cX0_batch 41 = .ok (.getfield 49, 3) := by decide +kernel
theorem dX0_batch_44 : decode cX0_batch 44 = .ok (.iload_n 1, 1) := by decide +kernel
theorem dX0_batch_45 : decode cX0_batch 45 = .ok (.aload_n 0, 1) := by decide +kernel
theorem dX0_batch_46 : decode cX0_batch 46 = .ok (.getfield 28, 3) := by decide +kernel
theorem dX0_batch_49 : decode cX0_batch 49 = .ok (.aload_n 0, 1) := by decide +kernel
theorem dX0_batch_50 : decode cX0_batch 50 = .ok (.getfield 21, 3) := by decide +kernel
theorem dX0_batch_53 : decode cX0_batch 53 = .ok (.aload_n 0, 1) := by decide +kernel
theorem dX0_batch_54 : decode cX0_batch 54 = .ok (.getfield 12, 3) := by decide +kernel
theorem dX0_batch_57 : decode cX0_batch 57 = .ok (.invokevirtual 198, 3) := by decide +kernel
theorem dX0_batch_60 : decode cX0_batch 60 = .ok (.iload_n 1, 1) := by decide +kernel
theorem dX0_batch_61 : decode cX0_batch 61 = .ok (.ireturn, 1) := by decide +kernel
theorem dX0_done_0 : decode cX0_done 0 = .ok (.aload_n 0, 1) := by decide +kernel
theorem dX0_done_1 : decode cX0_done 1 = .ok (.iload_n 1, 1) := by decide +kernel
theorem dX0_done_2 : decode cX0_done 2 = .ok (.invokevirtual 106, 3) := by decide +kernel
theorem dX0_done_5 : decode cX0_done 5 = .ok (.ifCond .ne 6, 3) := by decide +kernel
theorem dX0_done_8 : decode cX0_done 8 = .ok (.bipush (-2), 2) := by decide +kernel
theorem dX0_done_10 : decode cX0_done 10 = .ok (.ireturn, 1) := by decide +kernel
theorem dX0_done_11 : decode cX0_done 11 = .ok (.aload_n 0, 1) := by decide +kernel
theorem dX0_done_12 : decode cX0_done 12 = .ok (.getfield 179, 3) := by decide +kernel
theorem dX0_done_15 : decode cX0_done 15 = .ok (.ifCond .eq 15, 3) := by decide +kernel
theorem dX0_done_18 : decode cX0_done 18 = .ok (.aload_n 0, 1) := by decide +kernel
theorem dX0_done_19 : decode cX0_done 19 = .ok (.getfield 21, 3) := by decide +kernel
theorem dX0_done_22 : decode cX0_done 22 = .ok (.iload_n 1, 1) := by decide +kernel
theorem dX0_done_23 : decode cX0_done 23 = .ok (.aaload, 1) := by decide +kernel
theorem dX0_done_24 : decode cX0_done 24 = .ok (.getfield 202, 3) := by decide +kernel
theorem dX0_done_27 : decode cX0_done 27 = .ok (.goto 4, 3) := by decide +kernel
theorem dX0_done_30 : decode cX0_done 30 = .ok (.iconst (-1), 1) := by decide +kernel
theorem dX0_done_31 : decode cX0_done 31 = .ok (.ireturn, 1) := by decide +kernel
theorem dX0_passed_0 : decode cX0_passed 0 = .ok (.aload_n 0, 1) := by decide +kernel
theorem dX0_passed_1 : decode cX0_passed 1 = .ok (.iload_n 1, 1) := by decide +kernel
theorem dX0_passed_2 : decode cX0_passed 2 = .ok (.invokevirtual 106, 3) := by decide +kernel
theorem dX0_passed_5 : decode cX0_passed 5 = .ok (.ifCond .ne 7, 3) := by decide +kernel
theorem dX0_passed_8 : decode cX0_passed 8 = .ok (.ldc2_w 205, 3) := by decide +kernel
theorem dX0_passed_11 : decode cX0_passed 11 = .ok (.lreturn, 1) := by decide +kernel
theorem dX0_passed_12 : decode cX0_passed 12 = .ok (.aload_n 0, 1) := by decide +kernel
theorem dX0_passed_13 : decode cX0_passed 13 = .ok (.getfield 179, 3) := by decide +kernel
theorem dX0_passed_16 : decode cX0_passed 16 = .ok (.ifCond .eq 15, 3) := by decide +kernel
theorem dX0_passed_19 : decode cX0_passed 19 = .ok (.aload_n 0, 1) := by decide +kernel
theorem dX0_passed_20 : decode cX0_passed 20 = .ok (.getfield 21, 3) := by decide +kernel
theorem dX0_passed_23 : decode cX0_passed 23 = .ok (.iload_n 1, 1) := by decide +kernel
theorem dX0_passed_24 : decode cX0_passed 24 = .ok (.aaload, 1) := by decide +kernel
theorem dX0_passed_25 : decode cX0_passed 25 = .ok (.getfield 207, 3) := by decide +kernel
theorem dX0_passed_28 : decode cX0_passed 28 = .ok (.goto 6, 3) := by decide +kernel
theorem dX0_passed_31 : decode cX0_passed 31 = .ok (.ldc2_w 186, 3) := by decide +kernel
theorem dX0_passed_34 : decode cX0_passed 34 = .ok (.lreturn, 1) := by decide +kernel
theorem dX0_gain_0 : decode cX0_gain 0 = .ok (.aload_n 0, 1) := by decide +kernel
theorem dX0_gain_1 : decode cX0_gain 1 = .ok (.invokevirtual 175, 3) := by decide +kernel
theorem dX0_gain_4 : decode cX0_gain 4 = .ok (.ifCond .eq 32, 3) := by decide +kernel
theorem dX0_gain_7 : decode cX0_gain 7 = .ok (.aload_n 0, 1) := by decide +kernel
theorem dX0_gain_8 : decode cX0_gain 8 = .ok (.getfield 28, 3) := by decide +kernel
theorem dX0_gain_11 : decode cX0_gain 11 = .ok (.iload_n 1, 1) := by decide +kernel
theorem dX0_gain_12 : decode cX0_gain 12 = .ok (.invokevirtual 159, 3) := by decide +kernel
theorem dX0_gain_15 : decode cX0_gain 15 = .ok (.ifCond .eq 21, 3) := by decide +kernel
theorem dX0_gain_18 : decode cX0_gain 18 = .ok (.aload_n 0, 1) := by decide +kernel
theorem dX0_gain_19 : decode cX0_gain 19 = .ok (.getfield 28, 3) := by decide +kernel
theorem dX0_gain_22 : decode cX0_gain 22 = .ok (.iload_n 2, 1) := by decide +kernel
theorem dX0_gain_23 : decode cX0_gain 23 = .ok (.invokevirtual 159, 3) := by decide +kernel
theorem dX0_gain_26 : decode cX0_gain 26 = .ok (.ifCond .eq 10, 3) := by decide +kernel
theorem dX0_gain_29 : decode cX0_gain 29 = .ok (.iload_n 3, 1) := by decide +kernel
theorem dX0_gain_30 : decode cX0_gain 30 = .ok (.invokestatic 210, 3) := by decide +kernel
theorem dX0_gain_33 : decode cX0_gain 33 = .ok (.ifCond .ne 5, 3) := by decide +kernel
theorem dX0_gain_36 : decode cX0_gain 36 = .ok (.lconst 0, 1) := by decide +kernel
theorem dX0_gain_37 : decode cX0_gain 37 = .ok (.lreturn, 1) := by decide +kernel
theorem dX0_gain_38 : decode cX0_gain 38 = .ok (.aload_n 0, 1) := by decide +kernel
theorem dX0_gain_39 : decode cX0_gain 39 = .ok (.getfield 32, 3) := by decide +kernel
theorem dX0_gain_42 : decode cX0_gain 42 = .ok (.aload_n 0, 1) := by decide +kernel
theorem dX0_gain_43 : decode cX0_gain 43 = .ok (.getfield 28, 3) := by decide +kernel
theorem dX0_gain_46 : decode cX0_gain 46 = .ok (.invokevirtual 213, 3) := by decide +kernel
theorem dX0_gain_49 : decode cX0_gain 49 = .ok (.aload_n 0, 1) := by decide +kernel
theorem dX0_gain_50 : decode cX0_gain 50 = .ok (.getfield 32, 3) := by decide +kernel
theorem dX0_gain_53 : decode cX0_gain 53 = .ok (.iload_n 1, 1) := by decide +kernel
theorem dX0_gain_54 : decode cX0_gain 54 = .ok (.iload_n 2, 1) := by decide +kernel
theorem dX0_gain_55 : decode cX0_gain 55 = .ok (.invokevirtual 217, 3) := by decide +kernel
theorem dX0_gain_58 : decode cX0_gain 58 = .ok (.aload_n 0, 1) := by decide +kernel
theorem dX0_gain_59 : decode cX0_gain 59 = .ok (.getfield 21, 3) := by decide +kernel
theorem dX0_gain_62 : decode cX0_gain 62 = .ok (.aload_n 0, 1) := by decide +kernel
theorem dX0_gain_63 : decode cX0_gain 63 = .ok (.getfield 28, 3) := by decide +kernel
theorem dX0_gain_66 : decode cX0_gain 66 = .ok (.getfield 162, 3) := by decide +kernel
theorem dX0_gain_69 : decode cX0_gain 69 = .ok (.iload_n 1, 1) := by decide +kernel
theorem dX0_gain_70 : decode cX0_gain 70 = .ok (.iaload, 1) := by decide +kernel
theorem dX0_gain_71 : decode cX0_gain 71 = .ok (.aaload, 1) := by decide +kernel
theorem dX0_gain_72 : decode cX0_gain 72 = .ok (.getfield 125, 3) := by decide +kernel
theorem dX0_gain_75 : decode cX0_gain 75 = .ok (.istore 4, 2) := by decide +kernel
theorem dX0_gain_77 : decode cX0_gain 77 = .ok (.aload_n 0, 1) := by decide +kernel
theorem dX0_gain_78 : decode cX0_gain 78 = .ok (.aload_n 0, 1) := by decide +kernel
theorem dX0_gain_79 : decode cX0_gain 79 = .ok (.getfield 28, 3) := by decide +kernel
theorem dX0_gain_82 : decode cX0_gain 82 = .ok (.iload 4, 2) := by decide +kernel
theorem dX0_gain_84 : decode cX0_gain 84 = .ok (.iload_n 3, 1) := by decide +kernel
theorem dX0_gain_85 : decode cX0_gain 85 = .ok (.invokevirtual 221, 3) := by decide +kernel
theorem dX0_gain_88 : decode cX0_gain 88 = .ok (.lstore 5, 2) := by decide +kernel
theorem dX0_gain_90 : decode cX0_gain 90 = .ok (.aload_n 0, 1) := by decide +kernel
theorem dX0_gain_91 : decode cX0_gain 91 = .ok (.aload_n 0, 1) := by decide +kernel
theorem dX0_gain_92 : decode cX0_gain 92 = .ok (.getfield 32, 3) := by decide +kernel
theorem dX0_gain_95 : decode cX0_gain 95 = .ok (.iload 4, 2) := by decide +kernel
theorem dX0_gain_97 : decode cX0_gain 97 = .ok (.iload_n 3, 1) := by decide +kernel
theorem dX0_gain_98 : decode cX0_gain 98 = .ok (.invokevirtual 221, 3) := by decide +kernel
theorem dX0_gain_101 : decode cX0_gain 101 = .ok (.lstore 7, 2) := by decide +kernel
theorem dX0_gain_103 : decode cX0_gain 103 = .ok (.lload 7, 2) := by decide +kernel
theorem dX0_gain_105 : decode cX0_gain 105 = .ok (.lload 5, 2) := by decide +kernel
theorem dX0_gain_107 : decode cX0_gain 107 = .ok (.lsub, 1) := by decide +kernel
theorem dX0_gain_108 : decode cX0_gain 108 = .ok (.lreturn, 1) := by decide +kernel
theorem dX0_has_0 : decode cX0_has 0 = .ok (.iload_n 2, 1) := by decide +kernel
theorem dX0_has_1 : decode cX0_has 1 = .ok (.invokestatic 210, 3) := by decide +kernel
theorem dX0_has_4 : decode cX0_has 4 = .ok (.ifCond .ne 5, 3) := by decide +kernel
theorem dX0_has_7 : decode cX0_has 7 = .ok (.lconst 0, 1) := by decide +kernel
theorem dX0_has_8 : decode cX0_has 8 = .ok (.lreturn, 1) := by decide +kernel
theorem dX0_has_9 : decode cX0_has 9 = .ok (.iload_n 1, 1) := by decide +kernel
theorem dX0_has_10 : decode cX0_has 10 = .ok (.iconst (-1), 1) := by decide +kernel
theorem dX0_has_11 : decode cX0_has 11 = .ok (.if_icmp .ne 14, 3) := by decide +kernel
theorem dX0_has_14 : decode cX0_has 14 = .ok (.aload_n 0, 1) := by decide +kernel
theorem dX0_has_15 : decode cX0_has 15 = .ok (.getfield 12, 3) := by decide +kernel
theorem dX0_has_18 : decode cX0_has 18 = .ok (.bipush 8, 2) := by decide +kernel
theorem dX0_has_20 : decode cX0_has 20 = .ok (.iload_n 2, 1) := by decide +kernel
theorem dX0_has_21 : decode cX0_has 21 = .ok (.invokevirtual 225, 3) := by decide +kernel
theorem dX0_has_24 : decode cX0_has 24 = .ok (.lreturn, 1) := by decide +kernel
theorem dX0_has_25 : decode cX0_has 25 = .ok (.iload_n 1, 1) := by decide +kernel
theorem dX0_has_26 : decode cX0_has 26 = .ok (.bipush (-2), 2) := by decide +kernel
theorem dX0_has_28 : decode cX0_has 28 = .ok (.if_icmp .ne 16, 3) := by decide +kernel
theorem dX0_has_31 : decode cX0_has 31 = .ok (.iload_n 2, 1) := by decide +kernel
theorem dX0_has_32 : decode cX0_has 32 = .ok (.ifCond .ne 10, 3) := by decide +kernel
theorem dX0_has_35 : decode cX0_has 35 = .ok (.aload_n 0, 1) := by decide +kernel
theorem dX0_has_36 : decode cX0_has 36 = .ok (.getfield 61, 3) := by decide +kernel
theorem dX0_has_39 : decode cX0_has 39 = .ok (.goto 4, 3) := by decide +kernel
theorem dX0_has_42 : decode cX0_has 42 = .ok (.lconst 0, 1) := by decide +kernel
theorem dX0_has_43 : decode cX0_has 43 = .ok (.lreturn, 1) := by decide +kernel
theorem dX0_has_44 : decode cX0_has 44 = .ok (.aload_n 0, 1) := by decide +kernel
theorem dX0_has_45 : decode cX0_has 45 = .ok (.iload_n 1, 1) := by decide +kernel
theorem dX0_has_46 : decode cX0_has 46 = .ok (.invokevirtual 87, 3) := by decide +kernel
theorem dX0_has_49 : decode cX0_has 49 = .ok (.ifCond .eq 15, 3) := by decide +kernel
theorem dX0_has_52 : decode cX0_has 52 = .ok (.aload_n 0, 1) := by decide +kernel
theorem dX0_has_53 : decode cX0_has 53 = .ok (.getfield 12, 3) := by decide +kernel
theorem dX0_has_56 : decode cX0_has 56 = .ok (.iload_n 1, 1) := by decide +kernel
theorem dX0_has_57 : decode cX0_has 57 = .ok (.iload_n 2, 1) := by decide +kernel
theorem dX0_has_58 : decode cX0_has 58 = .ok (.invokevirtual 225, 3) := by decide +kernel
theorem dX0_has_61 : decode cX0_has 61 = .ok (.goto 4, 3) := by decide +kernel
theorem dX0_has_64 : decode cX0_has 64 = .ok (.lconst 0, 1) := by decide +kernel
theorem dX0_has_65 : decode cX0_has 65 = .ok (.lreturn, 1) := by decide +kernel
theorem dX0_of_0 : decode cX0_of 0 = .ok (.aload_n 0, 1) := by decide +kernel
theorem dX0_of_1 : decode cX0_of 1 = .ok (.iload_n 1, 1) := by decide +kernel
theorem dX0_of_2 : decode cX0_of 2 = .ok (.invokevirtual 106, 3) := by decide +kernel
theorem dX0_of_5 : decode cX0_of 5 = .ok (.ifCond .eq 12, 3) := by decide +kernel
theorem dX0_of_8 : decode cX0_of 8 = .ok (.iload_n 2, 1) := by decide +kernel
theorem dX0_of_9 : decode cX0_of 9 = .ok (.ifCond .lt 8, 3) := by decide +kernel
theorem dX0_of_12 : decode cX0_of 12 = .ok (.iload_n 2, 1) := by decide +kernel
theorem dX0_of_13 : decode cX0_of 13 = .ok (.iconst 4, 1) := by decide +kernel
theorem dX0_of_14 : decode cX0_of 14 = .ok (.if_icmp .le 6, 3) := by decide +kernel
theorem dX0_of_17 : decode cX0_of 17 = .ok (.bipush (-2), 2) := by decide +kernel
theorem dX0_of_19 : decode cX0_of 19 = .ok (.ireturn, 1) := by decide +kernel
theorem dX0_of_20 : decode cX0_of 20 = .ok (.aload_n 0, 1) := by decide +kernel
theorem dX0_of_21 : decode cX0_of 21 = .ok (.getfield 21, 3) := by decide +kernel
theorem dX0_of_24 : decode cX0_of 24 = .ok (.iload_n 1, 1) := by decide +kernel
theorem dX0_of_25 : decode cX0_of 25 = .ok (.aaload, 1) := by decide +kernel
theorem dX0_of_26 : decode cX0_of 26 = .ok (.astore_n 3, 1) := by decide +kernel
theorem dX0_of_27 : decode cX0_of 27 = .ok (.iload_n 2, 1) := by decide +kernel
theorem dX0_of_28 : decode cX0_of 28 = .ok (.ifCond .ne 8, 3) := by decide +kernel
theorem dX0_of_31 : decode cX0_of 31 = .ok (.aload_n 3, 1) := by decide +kernel
theorem dX0_of_32 : decode cX0_of 32 = .ok (.getfield 125, 3) := by decide +kernel
theorem dX0_of_35 : decode cX0_of 35 = .ok (.ireturn, 1) := by decide +kernel
theorem dX0_of_36 : decode cX0_of 36 = .ok (.iload_n 2, 1) := by decide +kernel
theorem dX0_of_37 : decode cX0_of 37 = .ok (.iconst 1, 1) := by decide +kernel
theorem dX0_of_38 : decode cX0_of 38 = .ok (.if_icmp .ne 16, 3) := by decide +kernel
theorem dX0_of_41 : decode cX0_of 41 = .ok (.aload_n 3, 1) := by decide +kernel
theorem dX0_of_42 : decode cX0_of 42 = .ok (.getfield 114, 3) := by decide +kernel
theorem dX0_of_45 : decode cX0_of 45 = .ok (.ifCond .eq 7, 3) := by decide +kernel
theorem dX0_of_48 : decode cX0_of 48 = .ok (.iconst 1, 1) := by decide +kernel
theorem dX0_of_49 : decode cX0_of 49 = .ok (.goto 4, 3) := by decide +kernel
theorem dX0_of_52 : decode cX0_of 52 = .ok (.iconst 0, 1) := by decide +kernel
theorem dX0_of_53 : decode cX0_of 53 = .ok (.ireturn, 1) := by decide +kernel
theorem dX0_of_54 : decode cX0_of 54 = .ok (.aload_n 3, 1) := by decide +kernel
theorem dX0_of_55 : decode cX0_of 55 = .ok (.getfield 114, 3) := by decide +kernel
theorem dX0_of_58 : decode cX0_of 58 = .ok (.ifCond .eq 11, 3) := by decide +kernel
theorem dX0_of_61 : decode cX0_of 61 = .ok (.aload_n 3, 1) := by decide +kernel
theorem dX0_of_62 : decode cX0_of 62 = .ok (.iload_n 2, 1) := by decide +kernel
theorem dX0_of_63 : decode cX0_of 63 = .ok (.invokevirtual 229, 3) := by decide +kernel
theorem dX0_of_66 : decode cX0_of 66 = .ok (.goto 4, 3) := by decide +kernel
theorem dX0_of_69 : decode cX0_of 69 = .ok (.iconst (-1), 1) := by decide +kernel
theorem dX0_of_70 : decode cX0_of 70 = .ok (.ireturn, 1) := by decide +kernel
theorem dX0_count_0 : decode cX0_count 0 = .ok (.iload_n 1, 1) := by decide +kernel
theorem dX0_count_1 : decode cX0_count 1 = .ok (.tableswitch 75 0 5 #[39, 44, 49, 54, 62, 67], 39) := by decide +kernel
theorem dX0_count_40 : decode cX0_count 40 = .ok (.aload_n 0, 1) := by decide +kernel
theorem dX0_count_41 : decode cX0_count 41 = .ok (.getfield 54, 3) := by decide +kernel
theorem dX0_count_44 : decode cX0_count 44 = .ok (.ireturn, 1) := by decide +kernel
theorem dX0_count_45 : decode cX0_count 45 = .ok (.aload_n 0, 1) := by decide +kernel
theorem dX0_count_46 : decode cX0_count 46 = .ok (.getfield 96, 3) := by decide +kernel
theorem dX0_count_49 : decode cX0_count 49 = .ok (.ireturn, 1) := by decide +kernel
theorem dX0_count_50 : decode cX0_count 50 = .ok (.aload_n 0, 1) := by decide +kernel
theorem dX0_count_51 : decode cX0_count 51 = .ok (.getfield 93, 3) := by decide +kernel
theorem dX0_count_54 : decode cX0_count 54 = .ok (.ireturn, 1) := by decide +kernel
theorem dX0_count_55 : decode cX0_count 55 = .ok (.aload_n 0, 1) := by decide +kernel
theorem dX0_count_56 : decode cX0_count 56 = .ok (.invokevirtual 141, 3) := by decide +kernel
theorem dX0_count_59 : decode cX0_count 59 = .ok (.invokestatic 233, 3) := by decide +kernel
theorem dX0_count_62 : decode cX0_count 62 = .ok (.ireturn, 1) := by decide +kernel
theorem dX0_count_63 : decode cX0_count 63 = .ok (.aload_n 0, 1) := by decide +kernel
theorem dX0_count_64 : decode cX0_count 64 = .ok (.getfield 65, 3) := by decide +kernel
theorem dX0_count_67 : decode cX0_count 67 = .ok (.ireturn, 1) := by decide +kernel
theorem dX0_count_68 : decode cX0_count 68 = .ok (.aload_n 0, 1) := by decide +kernel
theorem dX0_count_69 : decode cX0_count 69 = .ok (.getfield 28, 3) := by decide +kernel
theorem dX0_count_72 : decode cX0_count 72 = .ok (.getfield 134, 3) := by decide +kernel
theorem dX0_count_75 : decode cX0_count 75 = .ok (.ireturn, 1) := by decide +kernel
theorem dX0_count_76 : decode cX0_count 76 = .ok (.bipush (-2), 2) := by decide +kernel
theorem dX0_count_78 : decode cX0_count 78 = .ok (.ireturn, 1) := by decide +kernel
theorem dX0_mayBeginWith_0 : decode cX0_mayBeginWith 0 = .ok (.lload_n 0, 1) := by decide +kernel
theorem dX0_mayBeginWith_1 : decode cX0_mayBeginWith 1 = .ok (.lconst 0, 1) := by decide +kernel
theorem dX0_mayBeginWith_2 : decode cX0_mayBeginWith 2 = .ok (.lcmp, 1) := by decide +kernel
theorem dX0_mayBeginWith_3 : decode cX0_mayBeginWith 3 = .ok (.ifCond .lt 15, 3) := by decide +kernel
theorem dX0_mayBeginWith_6 : decode cX0_mayBeginWith 6 = .ok (.lload_n 0, 1) := by decide +kernel
theorem dX0_mayBeginWith_7 : decode cX0_mayBeginWith 7 = .ok (.ldc2_w 238, 3) := by decide +kernel
theorem dX0_mayBeginWith_10 : decode cX0_mayBeginWith 10 = .ok (.lcmp, 1) := by decide +kernel
theorem dX0_mayBeginWith_11 : decode cX0_mayBeginWith 11 = .ok (.ifCond .gt 7, 3) := by decide +kernel
theorem dX0_mayBeginWith_14 : decode cX0_mayBeginWith 14 = .ok (.iconst 1, 1) := by decide +kernel
theorem dX0_mayBeginWith_15 : decode cX0_mayBeginWith 15 = .ok (.goto 4, 3) := by decide +kernel
theorem dX0_mayBeginWith_18 : decode cX0_mayBeginWith 18 = .ok (.iconst 0, 1) := by decide +kernel
theorem dX0_mayBeginWith_19 : decode cX0_mayBeginWith 19 = .ok (.ireturn, 1) := by decide +kernel
theorem dX0_areTerms_0 : decode cX0_areTerms 0 = .ok (.iload_n 0, 1) := by decide +kernel
theorem dX0_areTerms_1 : decode cX0_areTerms 1 = .ok (.ifCond .eq 8, 3) := by decide +kernel
theorem dX0_areTerms_4 : decode cX0_areTerms 4 = .ok (.iload_n 0, 1) := by decide +kernel
theorem dX0_areTerms_5 : decode cX0_areTerms 5 = .ok (.iconst 1, 1) := by decide +kernel
theorem dX0_areTerms_6 : decode cX0_areTerms 6 = .ok (.if_icmp .ne 31, 3) := by decide +kernel
theorem dX0_areTerms_9 : decode cX0_areTerms 9 = .ok (.iload_n 1, 1) := by decide +kernel
theorem dX0_areTerms_10 : decode cX0_areTerms 10 = .ok (.iconst 1, 1) := by decide +kernel
theorem dX0_areTerms_11 : decode cX0_areTerms 11 = .ok (.if_icmp .lt 26, 3) := by decide +kernel
theorem dX0_areTerms_14 : decode cX0_areTerms 14 = .ok (.iload_n 1, 1) := by decide +kernel
theorem dX0_areTerms_15 : decode cX0_areTerms 15 = .ok (.sipush 1000, 3) := by decide +kernel
theorem dX0_areTerms_18 : decode cX0_areTerms 18 = .ok (.if_icmp .gt 19, 3) := by decide +kernel
theorem dX0_areTerms_21 : decode cX0_areTerms 21 = .ok (.iload_n 2, 1) := by decide +kernel
theorem dX0_areTerms_22 : decode cX0_areTerms 22 = .ok (.iconst 1, 1) := by decide +kernel
theorem dX0_areTerms_23 : decode cX0_areTerms 23 = .ok (.if_icmp .lt 14, 3) := by decide +kernel
theorem dX0_areTerms_26 : decode cX0_areTerms 26 = .ok (.iload_n 2, 1) := by decide +kernel
theorem dX0_areTerms_27 : decode cX0_areTerms 27 = .ok (.sipush 1000, 3) := by decide +kernel
theorem dX0_areTerms_30 : decode cX0_areTerms 30 = .ok (.if_icmp .gt 7, 3) := by decide +kernel
theorem dX0_areTerms_33 : decode cX0_areTerms 33 = .ok (.iconst 1, 1) := by decide +kernel
theorem dX0_areTerms_34 : decode cX0_areTerms 34 = .ok (.goto 4, 3) := by decide +kernel
theorem dX0_areTerms_37 : decode cX0_areTerms 37 = .ok (.iconst 0, 1) := by decide +kernel
theorem dX0_areTerms_38 : decode cX0_areTerms 38 = .ok (.ireturn, 1) := by decide +kernel
theorem dX0_isHolding_0 : decode cX0_isHolding 0 = .ok (.iload_n 0, 1) := by decide +kernel
theorem dX0_isHolding_1 : decode cX0_isHolding 1 = .ok (.ifCond .eq 8, 3) := by decide +kernel
theorem dX0_isHolding_4 : decode cX0_isHolding 4 = .ok (.iload_n 0, 1) := by decide +kernel
theorem dX0_isHolding_5 : decode cX0_isHolding 5 = .ok (.iconst 1, 1) := by decide +kernel
theorem dX0_isHolding_6 : decode cX0_isHolding 6 = .ok (.if_icmp .ne 7, 3) := by decide +kernel
theorem dX0_isHolding_9 : decode cX0_isHolding 9 = .ok (.iconst 1, 1) := by decide +kernel
theorem dX0_isHolding_10 : decode cX0_isHolding 10 = .ok (.goto 4, 3) := by decide +kernel
theorem dX0_isHolding_13 : decode cX0_isHolding 13 = .ok (.iconst 0, 1) := by decide +kernel
theorem dX0_isHolding_14 : decode cX0_isHolding 14 = .ok (.ireturn, 1) := by decide +kernel
theorem dX0_sealOf_0 : decode cX0_sealOf 0 = .ok (.iload_n 3, 1) := by decide +kernel
theorem dX0_sealOf_1 : decode cX0_sealOf 1 = .ok (.i2l, 1) := by decide +kernel
theorem dX0_sealOf_2 : decode cX0_sealOf 2 = .ok (.ldc2_w 240, 3) := by decide +kernel
theorem dX0_sealOf_5 : decode cX0_sealOf 5 = .ok (.lmul, 1) := by decide +kernel
theorem dX0_sealOf_6 : decode cX0_sealOf 6 = .ok (.iload_n 0, 1) := by decide +kernel
theorem dX0_sealOf_7 : decode cX0_sealOf 7 = .ok (.i2l, 1) := by decide +kernel
theorem dX0_sealOf_8 : decode cX0_sealOf 8 = .ok (.ladd, 1) := by decide +kernel
theorem dX0_sealOf_9 : decode cX0_sealOf 9 = .ok (.ldc2_w 242, 3) := by decide +kernel
theorem dX0_sealOf_12 : decode cX0_sealOf 12 = .ok (.lmul, 1) := by decide +kernel
theorem dX0_sealOf_13 : decode cX0_sealOf 13 = .ok (.iload_n 1, 1) := by decide +kernel
theorem dX0_sealOf_14 : decode cX0_sealOf 14 = .ok (.i2l, 1) := by decide +kernel
theorem dX0_sealOf_15 : decode cX0_sealOf 15 = .ok (.ladd, 1) := by decide +kernel
theorem dX0_sealOf_16 : decode cX0_sealOf 16 = .ok (.ldc2_w 244, 3) := by decide +kernel
theorem dX0_sealOf_19 : decode cX0_sealOf 19 = .ok (.lmul, 1) := by decide +kernel
theorem dX0_sealOf_20 : decode cX0_sealOf 20 = .ok (.iload_n 2, 1) := by decide +kernel
theorem dX0_sealOf_21 : decode cX0_sealOf 21 = .ok (.i2l, 1) := by decide +kernel
theorem dX0_sealOf_22 : decode cX0_sealOf 22 = .ok (.ladd, 1) := by decide +kernel
theorem dX0_sealOf_23 : decode cX0_sealOf 23 = .ok (.lstore 4, 2) := by decide +kernel
theorem dX0_sealOf_25 : decode cX0_sealOf 25 = .ok (.lload 4, 2) := by decide +kernel
theorem dX0_sealOf_27 : decode cX0_sealOf 27 = .ok (.ldc2_w 246, 3) := by decide +kernel
theorem dX0_sealOf_30 : decode cX0_sealOf 30 = .ok (.lmul, 1) := by decide +kernel
theorem dX0_sealOf_31 : decode cX0_sealOf 31 = .ok (.lstore 4, 2) := by decide +kernel
theorem dX0_sealOf_33 : decode cX0_sealOf 33 = .ok (.lload 4, 2) := by decide +kernel
theorem dX0_sealOf_35 : decode cX0_sealOf 35 = .ok (.lload 4, 2) := by decide +kernel
theorem dX0_sealOf_37 : decode cX0_sealOf 37 = .ok (.bipush 29, 2) := by decide +kernel
theorem dX0_sealOf_39 : decode cX0_sealOf 39 = .ok (.lushr, 1) := by decide +kernel
theorem dX0_sealOf_40 : decode cX0_sealOf 40 = .ok (.lxor, 1) := by decide +kernel
theorem dX0_sealOf_41 : decode cX0_sealOf 41 = .ok (.lreturn, 1) := by decide +kernel
theorem dX0_isAccount_0 : decode cX0_isAccount 0 = .ok (.iload_n 1, 1) := by decide +kernel
theorem dX0_isAccount_1 : decode cX0_isAccount 1 = .ok (.ifCond .lt 15, 3) := by decide +kernel
theorem dX0_isAccount_4 : decode cX0_isAccount 4 = .ok (.iload_n 1, 1) := by decide +kernel
theorem dX0_isAccount_5 : decode cX0_isAccount 5 = .ok (.aload_n 0, 1) := by decide +kernel
theorem dX0_isAccount_6 : decode cX0_isAccount 6 = .ok (.getfield 54, 3) := by decide +kernel
theorem dX0_isAccount_9 : decode cX0_isAccount 9 = .ok (.if_icmp .ge 7, 3) := by decide +kernel
theorem dX0_isAccount_12 : decode cX0_isAccount 12 = .ok (.iconst 1, 1) := by decide +kernel
theorem dX0_isAccount_13 : decode cX0_isAccount 13 = .ok (.goto 4, 3) := by decide +kernel
theorem dX0_isAccount_16 : decode cX0_isAccount 16 = .ok (.iconst 0, 1) := by decide +kernel
theorem dX0_isAccount_17 : decode cX0_isAccount 17 = .ok (.ireturn, 1) := by decide +kernel
theorem dX0_isCall_0 : decode cX0_isCall 0 = .ok (.iload_n 1, 1) := by decide +kernel
theorem dX0_isCall_1 : decode cX0_isCall 1 = .ok (.ifCond .lt 15, 3) := by decide +kernel
theorem dX0_isCall_4 : decode cX0_isCall 4 = .ok (.iload_n 1, 1) := by decide +kernel
theorem dX0_isCall_5 : decode cX0_isCall 5 = .ok (.aload_n 0, 1) := by decide +kernel
theorem dX0_isCall_6 : decode cX0_isCall 6 = .ok (.getfield 96, 3) := by decide +kernel
theorem dX0_isCall_9 : decode cX0_isCall 9 = .ok (.if_icmp .ge 7, 3) := by decide +kernel
theorem dX0_isCall_12 : decode cX0_isCall 12 = .ok (.iconst 1, 1) := by decide +kernel
theorem dX0_isCall_13 : decode cX0_isCall 13 = .ok (.goto 4, 3) := by decide +kernel
theorem dX0_isCall_16 : decode cX0_isCall 16 = .ok (.iconst 0, 1) := by decide +kernel
theorem dX0_isCall_17 : decode cX0_isCall 17 = .ok (.ireturn, 1) := by decide +kernel
theorem dX0_isOpenedCall_0 : decode cX0_isOpenedCall 0 = .ok (.aload_n 0, 1) := by decide +kernel
theorem dX0_isOpenedCall_1 : decode cX0_isOpenedCall 1 = .ok (.iload_n 1, 1) := by decide +kernel
theorem dX0_isOpenedCall_2 : decode cX0_isOpenedCall 2 = .ok (.invokevirtual 106, 3) := by decide +kernel
theorem dX0_isOpenedCall_5 : decode cX0_isOpenedCall 5 = .ok (.ifCond .eq 19, 3) := by decide +kernel
theorem dX0_isOpenedCall_8 : decode cX0_isOpenedCall 8 = .ok (.aload_n 0, 1) := by decide +kernel
theorem dX0_isOpenedCall_9 : decode cX0_isOpenedCall 9 = .ok (.getfield 21, 3) := by decide +kernel
theorem dX0_isOpenedCall_12 : decode cX0_isOpenedCall 12 = .ok (.iload_n 1, 1) := by decide +kernel
theorem dX0_isOpenedCall_13 : decode cX0_isOpenedCall 13 = .ok (.aaload, 1) := by decide +kernel
theorem dX0_isOpenedCall_14 : decode cX0_isOpenedCall 14 = .ok (.getfield 114, 3) := by decide +kernel
theorem dX0_isOpenedCall_17 : decode cX0_isOpenedCall 17 = .ok (.ifCond .eq 7, 3) := by decide +kernel
theorem dX0_isOpenedCall_20 : decode cX0_isOpenedCall 20 = .ok (.iconst 1, 1) := by decide +kernel
theorem dX0_isOpenedCall_21 : decode cX0_isOpenedCall 21 = .ok (.goto 4, 3) := by decide +kernel
theorem dX0_isOpenedCall_24 : decode cX0_isOpenedCall 24 = .ok (.iconst 0, 1) := by decide +kernel
theorem dX0_isOpenedCall_25 : decode cX0_isOpenedCall 25 = .ok (.ireturn, 1) := by decide +kernel
theorem dX0_mayPlay_0 : decode cX0_mayPlay 0 = .ok (.aload_n 0, 1) := by decide +kernel
theorem dX0_mayPlay_1 : decode cX0_mayPlay 1 = .ok (.getfield 156, 3) := by decide +kernel
theorem dX0_mayPlay_4 : decode cX0_mayPlay 4 = .ok (.ifCond .eq 14, 3) := by decide +kernel
theorem dX0_mayPlay_7 : decode cX0_mayPlay 7 = .ok (.aload_n 0, 1) := by decide +kernel
theorem dX0_mayPlay_8 : decode cX0_mayPlay 8 = .ok (.getfield 179, 3) := by decide +kernel
theorem dX0_mayPlay_11 : decode cX0_mayPlay 11 = .ok (.ifCond .ne 7, 3) := by decide +kernel
theorem dX0_mayPlay_14 : decode cX0_mayPlay 14 = .ok (.iconst 1, 1) := by decide +kernel
theorem dX0_mayPlay_15 : decode cX0_mayPlay 15 = .ok (.goto 4, 3) := by decide +kernel
theorem dX0_mayPlay_18 : decode cX0_mayPlay 18 = .ok (.iconst 0, 1) := by decide +kernel
theorem dX0_mayPlay_19 : decode cX0_mayPlay 19 = .ok (.ireturn, 1) := by decide +kernel
theorem dX0_beginBlock_0 : decode cX0_beginBlock 0 = .ok (.aload_n 0, 1) := by decide +kernel
theorem dX0_beginBlock_1 : decode cX0_beginBlock 1 = .ok (.iconst 0, 1) := by decide +kernel
theorem dX0_beginBlock_2 : decode cX0_beginBlock 2 = .ok (.putfield 96, 3) := by decide +kernel
theorem dX0_beginBlock_5 : decode cX0_beginBlock 5 = .ok (.aload_n 0, 1) := by decide +kernel
theorem dX0_beginBlock_6 : decode cX0_beginBlock 6 = .ok (.iconst 0, 1) := by decide +kernel
theorem dX0_beginBlock_7 : decode cX0_beginBlock 7 = .ok (.putfield 93, 3) := by decide +kernel
theorem dX0_beginBlock_10 : decode cX0_beginBlock 10 = .ok (.aload_n 0, 1) := by decide +kernel
theorem dX0_beginBlock_11 : decode cX0_beginBlock 11 = .ok (.getfield 28, 3) := by decide +kernel
theorem dX0_beginBlock_14 : decode cX0_beginBlock 14 = .ok (.iconst 0, 1) := by decide +kernel
theorem dX0_beginBlock_15 : decode cX0_beginBlock 15 = .ok (.putfield 134, 3) := by decide +kernel
theorem dX0_beginBlock_18 : decode cX0_beginBlock 18 = .ok (.aload_n 0, 1) := by decide +kernel
theorem dX0_beginBlock_19 : decode cX0_beginBlock 19 = .ok (.iconst 0, 1) := by decide +kernel
theorem dX0_beginBlock_20 : decode cX0_beginBlock 20 = .ok (.putfield 156, 3) := by decide +kernel
theorem dX0_beginBlock_23 : decode cX0_beginBlock 23 = .ok (.aload_n 0, 1) := by decide +kernel
theorem dX0_beginBlock_24 : decode cX0_beginBlock 24 = .ok (.iconst 0, 1) := by decide +kernel
theorem dX0_beginBlock_25 : decode cX0_beginBlock 25 = .ok (.putfield 179, 3) := by decide +kernel
theorem dX0_beginBlock_28 : decode cX0_beginBlock 28 = .ok (.return_, 1) := by decide +kernel
theorem dX0_takeLostDeposits_0 : decode cX0_takeLostDeposits 0 = .ok (.iconst 0, 1) := by decide +kernel
theorem dX0_takeLostDeposits_1 : decode cX0_takeLostDeposits 1 = .ok (.istore_n 1, 1) := by decide +kernel
theorem dX0_takeLostDeposits_2 : decode cX0_takeLostDeposits 2 = .ok (.iload_n 1, 1) := by decide +kernel
theorem dX0_takeLostDeposits_3 : decode cX0_takeLostDeposits 3 = .ok (.aload_n 0, 1) := by decide +kernel
theorem dX0_takeLostDeposits_4 : decode cX0_takeLostDeposits 4 = .ok (.getfield 96, 3) := by decide +kernel
theorem dX0_takeLostDeposits_7 : decode cX0_takeLostDeposits 7 = .ok (.if_icmp .ge 39, 3) := by decide +kernel
theorem dX0_takeLostDeposits_10 : decode cX0_takeLostDeposits 10 = .ok (.aload_n 0, 1) := by decide +kernel
theorem dX0_takeLostDeposits_11 : decode cX0_takeLostDeposits 11 = .ok (.getfield 21, 3) := by decide +kernel
theorem dX0_takeLostDeposits_14 : decode cX0_takeLostDeposits 14 = .ok (.iload_n 1, 1) := by decide +kernel
theorem dX0_takeLostDeposits_15 : decode cX0_takeLostDeposits 15 = .ok (.aaload, 1) := by decide +kernel
theorem dX0_takeLostDeposits_16 : decode cX0_takeLostDeposits 16 = .ok (.getfield 114, 3) := by decide +kernel
theorem dX0_takeLostDeposits_19 : decode cX0_takeLostDeposits 19 = .ok (.ifCond .ne 21, 3) := by decide +kernel
theorem dX0_takeLostDeposits_22 : decode cX0_takeLostDeposits 22 = .ok (.aload_n 0, 1) := by decide +kernel
theorem dX0_takeLostDeposits_23 : decode cX0_takeLostDeposits 23 = .ok (.dup, 1) := by decide +kernel
theorem dX0_takeLostDeposits_24 : decode cX0_takeLostDeposits 24 = .ok (.getfield 61, 3) := by decide +kernel
theorem dX0_takeLostDeposits_27 : decode cX0_takeLostDeposits 27 = .ok (.aload_n 0, 1) := by decide +kernel
theorem dX0_takeLostDeposits_28 : decode cX0_takeLostDeposits 28 = .ok (.getfield 21, 3) := by decide +kernel
theorem dX0_takeLostDeposits_31 : decode cX0_takeLostDeposits 31 = .ok (.iload_n 1, 1) := by decide +kernel
theorem dX0_takeLostDeposits_32 : decode cX0_takeLostDeposits 32 = .ok (.aaload, 1) := by decide +kernel
theorem dX0_takeLostDeposits_33 : decode cX0_takeLostDeposits 33 = .ok (.getfield 128, 3) := by decide +kernel
theorem dX0_takeLostDeposits_36 : decode cX0_takeLostDeposits 36 = .ok (.ladd, 1) := by decide +kernel
theorem dX0_takeLostDeposits_37 : decode cX0_takeLostDeposits 37 = .ok (.putfield 61, 3) := by decide +kernel
theorem dX0_takeLostDeposits_40 : decode cX0_takeLostDeposits 40 = .ok (.iinc 1 1, 3) := by decide +kernel
theorem dX0_takeLostDeposits_43 : decode cX0_takeLostDeposits 43 = .ok (.goto (-41), 3) := by decide +kernel
theorem dX0_takeLostDeposits_46 : decode cX0_takeLostDeposits 46 = .ok (.return_, 1) := by decide +kernel
theorem dX0_openedSet_0 : decode cX0_openedSet 0 = .ok (.iconst 0, 1) := by decide +kernel
theorem dX0_openedSet_1 : decode cX0_openedSet 1 = .ok (.istore_n 1, 1) := by decide +kernel
theorem dX0_openedSet_2 : decode cX0_openedSet 2 = .ok (.iconst 0, 1) := by decide +kernel
theorem dX0_openedSet_3 : decode cX0_openedSet 3 = .ok (.istore_n 2, 1) := by decide +kernel
theorem dX0_openedSet_4 : decode cX0_openedSet 4 = .ok (.iload_n 2, 1) := by decide +kernel
theorem dX0_openedSet_5 : decode cX0_openedSet 5 = .ok (.aload_n 0, 1) := by decide +kernel
theorem dX0_openedSet_6 : decode cX0_openedSet 6 = .ok (.getfield 96, 3) := by decide +kernel
theorem dX0_openedSet_9 : decode cX0_openedSet 9 = .ok (.if_icmp .ge 27, 3) := by decide +kernel
theorem dX0_openedSet_12 : decode cX0_openedSet 12 = .ok (.aload_n 0, 1) := by decide +kernel
theorem dX0_openedSet_13 : decode cX0_openedSet 13 = .ok (.getfield 21, 3) := by decide +kernel
theorem dX0_openedSet_16 : decode cX0_openedSet 16 = .ok (.iload_n 2, 1) := by decide +kernel
theorem dX0_openedSet_17 : decode cX0_openedSet 17 = .ok (.aaload, 1) := by decide +kernel
theorem dX0_openedSet_18 : decode cX0_openedSet 18 = .ok (.getfield 114, 3) := by decide +kernel
theorem dX0_openedSet_21 : decode cX0_openedSet 21 = .ok (.ifCond .eq 9, 3) := by decide +kernel
theorem dX0_openedSet_24 : decode cX0_openedSet 24 = .ok (.iload_n 1, 1) := by decide +kernel
theorem dX0_openedSet_25 : decode cX0_openedSet 25 = .ok (.iconst 1, 1) := by decide +kernel
theorem dX0_openedSet_26 : decode cX0_openedSet 26 = .ok (.iload_n 2, 1) := by decide +kernel
theorem dX0_openedSet_27 : decode cX0_openedSet 27 = .ok (.ishl, 1) := by decide +kernel
theorem dX0_openedSet_28 : decode cX0_openedSet 28 = .ok (.ior, 1) := by decide +kernel
theorem dX0_openedSet_29 : decode cX0_openedSet 29 = .ok (.istore_n 1, 1) := by decide +kernel
theorem dX0_openedSet_30 : decode cX0_openedSet 30 = .ok (.iinc 2 1, 3) := by decide +kernel
theorem dX0_openedSet_33 : decode cX0_openedSet 33 = .ok (.goto (-29), 3) := by decide +kernel
theorem dX0_openedSet_36 : decode cX0_openedSet 36 = .ok (.iload_n 1, 1) := by decide +kernel
theorem dX0_openedSet_37 : decode cX0_openedSet 37 = .ok (.ireturn, 1) := by decide +kernel
theorem dX0_addByNumbers_0 : decode cX0_addByNumbers 0 = .ok (.iconst 0, 1) := by decide +kernel
theorem dX0_addByNumbers_1 : decode cX0_addByNumbers 1 = .ok (.istore_n 1, 1) := by decide +kernel
theorem dX0_addByNumbers_2 : decode cX0_addByNumbers 2 = .ok (.iload_n 1, 1) := by decide +kernel
theorem dX0_addByNumbers_3 : decode cX0_addByNumbers 3 = .ok (.aload_n 0, 1) := by decide +kernel
theorem dX0_addByNumbers_4 : decode cX0_addByNumbers 4 = .ok (.getfield 96, 3) := by decide +kernel
theorem dX0_addByNumbers_7 : decode cX0_addByNumbers 7 = .ok (.if_icmp .ge 29, 3) := by decide +kernel
theorem dX0_addByNumbers_10 : decode cX0_addByNumbers 10 = .ok (.aload_n 0, 1) := by decide +kernel
theorem dX0_addByNumbers_11 : decode cX0_addByNumbers 11 = .ok (.getfield 21, 3) := by decide +kernel
theorem dX0_addByNumbers_14 : decode cX0_addByNumbers 14 = .ok (.iload_n 1, 1) := by decide +kernel
theorem dX0_addByNumbers_15 : decode cX0_addByNumbers 15 = .ok (.aaload, 1) := by decide +kernel
theorem dX0_addByNumbers_16 : decode cX0_addByNumbers 16 = .ok (.getfield 114, 3) := by decide +kernel
theorem dX0_addByNumbers_19 : decode cX0_addByNumbers 19 = .ok (.ifCond .eq 11, 3) := by decide +kernel
theorem dX0_addByNumbers_22 : decode cX0_addByNumbers 22 = .ok (.aload_n 0, 1) := by decide +kernel
theorem dX0_addByNumbers_23 : decode cX0_addByNumbers 23 = .ok (.getfield 28, 3) := by decide +kernel
theorem dX0_addByNumbers_26 : decode cX0_addByNumbers 26 = .ok (.iload_n 1, 1) := by decide +kernel
theorem dX0_addByNumbers_27 : decode cX0_addByNumbers 27 = .ok (.invokevirtual 248, 3) := by decide +kernel
theorem dX0_addByNumbers_30 : decode cX0_addByNumbers 30 = .ok (.iinc 1 1, 3) := by decide +kernel
theorem dX0_addByNumbers_33 : decode cX0_addByNumbers 33 = .ok (.goto (-31), 3) := by decide +kernel
theorem dX0_addByNumbers_36 : decode cX0_addByNumbers 36 = .ok (.return_, 1) := by decide +kernel
theorem dX0_arrange_0 : decode cX0_arrange 0 = .ok (.iload_n 1, 1) := by decide +kernel
theorem dX0_arrange_1 : decode cX0_arrange 1 = .ok (.iconst 4, 1) := by decide +kernel
theorem dX0_arrange_2 : decode cX0_arrange 2 = .ok (.if_icmp .ne 12, 3) := by decide +kernel
theorem dX0_arrange_5 : decode cX0_arrange 5 = .ok (.aload_n 0, 1) := by decide +kernel
theorem dX0_arrange_6 : decode cX0_arrange 6 = .ok (.getfield 28, 3) := by decide +kernel
theorem dX0_arrange_9 : decode cX0_arrange 9 = .ok (.lload_n 2, 1) := by decide +kernel
theorem dX0_arrange_10 : decode cX0_arrange 10 = .ok (.invokevirtual 252, 3) := by decide +kernel
theorem dX0_arrange_13 : decode cX0_arrange 13 = .ok (.return_, 1) := by decide +kernel
theorem dX0_arrange_14 : decode cX0_arrange 14 = .ok (.iconst 0, 1) := by decide +kernel
theorem dX0_arrange_15 : decode cX0_arrange 15 = .ok (.istore 4, 2) := by decide +kernel
theorem dX0_arrange_17 : decode cX0_arrange 17 = .ok (.iload 4, 2) := by decide +kernel
theorem dX0_arrange_19 : decode cX0_arrange 19 = .ok (.aload_n 0, 1) := by decide +kernel
theorem dX0_arrange_20 : decode cX0_arrange 20 = .ok (.getfield 96, 3) := by decide +kernel
theorem dX0_arrange_23 : decode cX0_arrange 23 = .ok (.if_icmp .ge 27, 3) := by decide +kernel
theorem dX0_arrange_26 : decode cX0_arrange 26 = .ok (.aload_n 0, 1) := by decide +kernel
theorem dX0_arrange_27 : decode cX0_arrange 27 = .ok (.getfield 35, 3) := by decide +kernel
theorem dX0_arrange_30 : decode cX0_arrange 30 = .ok (.iload 4, 2) := by decide +kernel
theorem dX0_arrange_32 : decode cX0_arrange 32 = .ok (.aload_n 0, 1) := by decide +kernel
theorem dX0_arrange_33 : decode cX0_arrange 33 = .ok (.getfield 21, 3) := by decide +kernel
theorem dX0_arrange_36 : decode cX0_arrange 36 = .ok (.iload 4, 2) := by decide +kernel
theorem dX0_arrange_38 : decode cX0_arrange 38 = .ok (.aaload, 1) := by decide +kernel
theorem dX0_arrange_39 : decode cX0_arrange 39 = .ok (.iload_n 1, 1) := by decide +kernel
theorem dX0_arrange_40 : decode cX0_arrange 40 = .ok (.invokestatic 256, 3) := by decide +kernel
theorem dX0_arrange_43 : decode cX0_arrange 43 = .ok (.iastore, 1) := by decide +kernel
theorem dX0_arrange_44 : decode cX0_arrange 44 = .ok (.iinc 4 1, 3) := by decide +kernel
theorem dX0_arrange_47 : decode cX0_arrange 47 = .ok (.goto (-30), 3) := by decide +kernel
theorem dX0_arrange_50 : decode cX0_arrange 50 = .ok (.aload_n 0, 1) := by decide +kernel
theorem dX0_arrange_51 : decode cX0_arrange 51 = .ok (.getfield 28, 3) := by decide +kernel
theorem dX0_arrange_54 : decode cX0_arrange 54 = .ok (.aload_n 0, 1) := by decide +kernel
theorem dX0_arrange_55 : decode cX0_arrange 55 = .ok (.getfield 35, 3) := by decide +kernel
theorem dX0_arrange_58 : decode cX0_arrange 58 = .ok (.invokevirtual 260, 3) := by decide +kernel
theorem dX0_arrange_61 : decode cX0_arrange 61 = .ok (.return_, 1) := by decide +kernel
theorem dX0_keyOf_0 : decode cX0_keyOf 0 = .ok (.iload_n 1, 1) := by decide +kernel
theorem dX0_keyOf_1 : decode cX0_keyOf 1 = .ok (.lookupswitch 38 #[(1, 27), (2, 33)], 27) := by decide +kernel
theorem dX0_keyOf_28 : decode cX0_keyOf 28 = .ok (.aload_n 0, 1) := by decide +kernel
theorem dX0_keyOf_29 : decode cX0_keyOf 29 = .ok (.getfield 264, 3) := by decide +kernel
theorem dX0_keyOf_32 : decode cX0_keyOf 32 = .ok (.ineg, 1) := by decide +kernel
theorem dX0_keyOf_33 : decode cX0_keyOf 33 = .ok (.ireturn, 1) := by decide +kernel
theorem dX0_keyOf_34 : decode cX0_keyOf 34 = .ok (.aload_n 0, 1) := by decide +kernel
theorem dX0_keyOf_35 : decode cX0_keyOf 35 = .ok (.invokevirtual 172, 3) := by decide +kernel
theorem dX0_keyOf_38 : decode cX0_keyOf 38 = .ok (.ireturn, 1) := by decide +kernel
theorem dX0_keyOf_39 : decode cX0_keyOf 39 = .ok (.iconst 0, 1) := by decide +kernel
theorem dX0_keyOf_40 : decode cX0_keyOf 40 = .ok (.ireturn, 1) := by decide +kernel
theorem dX0_heldAfterTrial_0 : decode cX0_heldAfterTrial 0 = .ok (.aload_n 0, 1) := by decide +kernel
theorem dX0_heldAfterTrial_1 : decode cX0_heldAfterTrial 1 = .ok (.getfield 16, 3) := by decide +kernel
theorem dX0_heldAfterTrial_4 : decode cX0_heldAfterTrial 4 = .ok (.aload_n 0, 1) := by decide +kernel
theorem dX0_heldAfterTrial_5 : decode cX0_heldAfterTrial 5 = .ok (.getfield 12, 3) := by decide +kernel
theorem dX0_heldAfterTrial_8 : decode cX0_heldAfterTrial 8 = .ok (.invokevirtual 267, 3) := by decide +kernel
theorem dX0_heldAfterTrial_11 : decode cX0_heldAfterTrial 11 = .ok (.iconst 0, 1) := by decide +kernel
theorem dX0_heldAfterTrial_12 : decode cX0_heldAfterTrial 12 = .ok (.istore 4, 2) := by decide +kernel
theorem dX0_heldAfterTrial_14 : decode cX0_heldAfterTrial 14 = .ok (.iload 4, 2) := by decide +kernel
theorem dX0_heldAfterTrial_16 : decode cX0_heldAfterTrial 16 = .ok (.aload_n 1, 1) := by decide +kernel
theorem dX0_heldAfterTrial_17 : decode cX0_heldAfterTrial 17 = .ok (.getfield 134, 3) := by decide +kernel
theorem dX0_heldAfterTrial_20 : decode cX0_heldAfterTrial 20 = .ok (.if_icmp .ge 29, 3) := by decide +kernel
theorem dX0_heldAfterTrial_23 : decode cX0_heldAfterTrial 23 = .ok (.aload_n 0, 1) := by decide +kernel
theorem dX0_heldAfterTrial_24 : decode cX0_heldAfterTrial 24 = .ok (.getfield 16, 3) := by decide +kernel
theorem dX0_heldAfterTrial_27 : decode cX0_heldAfterTrial 27 = .ok (.aload_n 0, 1) := by decide +kernel
theorem dX0_heldAfterTrial_28 : decode cX0_heldAfterTrial 28 = .ok (.getfield 21, 3) := by decide +kernel
theorem dX0_heldAfterTrial_31 : decode cX0_heldAfterTrial 31 = .ok (.aload_n 1, 1) := by decide +kernel
theorem dX0_heldAfterTrial_32 : decode cX0_heldAfterTrial 32 = .ok (.getfield 162, 3) := by decide +kernel
theorem dX0_heldAfterTrial_35 : decode cX0_heldAfterTrial 35 = .ok (.iload 4, 2) := by decide +kernel
theorem dX0_heldAfterTrial_37 : decode cX0_heldAfterTrial 37 = .ok (.iaload, 1) := by decide +kernel
theorem dX0_heldAfterTrial_38 : decode cX0_heldAfterTrial 38 = .ok (.aaload, 1) := by decide +kernel
theorem dX0_heldAfterTrial_39 : decode cX0_heldAfterTrial 39 = .ok (.invokevirtual 182, 3) := by decide +kernel
theorem dX0_heldAfterTrial_42 : decode cX0_heldAfterTrial 42 = .ok (.pop2, 1) := by decide +kernel
theorem dX0_heldAfterTrial_43 : decode cX0_heldAfterTrial 43 = .ok (.iinc 4 1, 3) := by decide +kernel
theorem dX0_heldAfterTrial_46 : decode cX0_heldAfterTrial 46 = .ok (.goto (-32), 3) := by decide +kernel
theorem dX0_heldAfterTrial_49 : decode cX0_heldAfterTrial 49 = .ok (.aload_n 0, 1) := by decide +kernel
theorem dX0_heldAfterTrial_50 : decode cX0_heldAfterTrial 50 = .ok (.getfield 16, 3) := by decide +kernel
theorem dX0_heldAfterTrial_53 : decode cX0_heldAfterTrial 53 = .ok (.iload_n 2, 1) := by decide +kernel
theorem dX0_heldAfterTrial_54 : decode cX0_heldAfterTrial 54 = .ok (.iload_n 3, 1) := by decide +kernel
theorem dX0_heldAfterTrial_55 : decode cX0_heldAfterTrial 55 = .ok (.invokevirtual 225, 3) := by decide +kernel
theorem dX0_heldAfterTrial_58 : decode cX0_heldAfterTrial 58 = .ok (.lreturn, 1) := by decide +kernel
theorem dX6_init_0 : decode cX6_init 0 = .ok (.aload_n 0, 1) := by decide +kernel
theorem dX6_init_1 : decode cX6_init 1 = .ok (.invokespecial 1, 3) := by decide +kernel
theorem dX6_init_4 : decode cX6_init 4 = .ok (.aload_n 0, 1) := by decide +kernel
theorem dX6_init_5 : decode cX6_init 5 = .ok (.bipush 8, 2) := by decide +kernel
theorem dX6_init_7 : decode cX6_init 7 = .ok (.newarray .long, 2) := by decide +kernel
theorem dX6_init_9 : decode cX6_init 9 = .ok (.putfield 7, 3) := by decide +kernel
theorem dX6_init_12 : decode cX6_init 12 = .ok (.aload_n 0, 1) := by decide +kernel
theorem dX6_init_13 : decode cX6_init 13 = .ok (.bipush 8, 2) := by decide +kernel
theorem dX6_init_15 : decode cX6_init 15 = .ok (.newarray .long, 2) := by decide +kernel
theorem dX6_init_17 : decode cX6_init 17 = .ok (.putfield 13, 3) := by decide +kernel
theorem dX6_init_20 : decode cX6_init 20 = .ok (.aload_n 0, 1) := by decide +kernel
theorem dX6_init_21 : decode cX6_init 21 = .ok (.bipush 16, 2) := by decide +kernel
theorem dX6_init_23 : decode cX6_init 23 = .ok (.newarray .int, 2) := by decide +kernel
theorem dX6_init_25 : decode cX6_init 25 = .ok (.putfield 16, 3) := by decide +kernel
theorem dX6_init_28 : decode cX6_init 28 = .ok (.aload_n 0, 1) := by decide +kernel
theorem dX6_init_29 : decode cX6_init 29 = .ok (.bipush 16, 2) := by decide +kernel
theorem dX6_init_31 : decode cX6_init 31 = .ok (.newarray .long, 2) := by decide +kernel
theorem dX6_init_33 : decode cX6_init 33 = .ok (.putfield 20, 3) := by decide +kernel
theorem dX6_init_36 : decode cX6_init 36 = .ok (.aload_n 0, 1) := by decide +kernel
theorem dX6_init_37 : decode cX6_init 37 = .ok (.bipush 16, 2) := by decide +kernel
theorem dX6_init_39 : decode cX6_init 39 = .ok (.newarray .long, 2) := by decide +kernel
theorem dX6_init_41 : decode cX6_init 41 = .ok (.putfield 23, 3) := by decide +kernel
theorem dX6_init_44 : decode cX6_init 44 = .ok (.aload_n 0, 1) := by decide +kernel
theorem dX6_init_45 : decode cX6_init 45 = .ok (.bipush 16, 2) := by decide +kernel
theorem dX6_init_47 : decode cX6_init 47 = .ok (.newarray .boolean, 2) := by decide +kernel
theorem dX6_init_49 : decode cX6_init 49 = .ok (.putfield 26, 3) := by decide +kernel
theorem dX6_init_52 : decode cX6_init 52 = .ok (.aload_n 0, 1) := by decide +kernel
theorem dX6_init_53 : decode cX6_init 53 = .ok (.bipush 16, 2) := by decide +kernel
theorem dX6_init_55 : decode cX6_init 55 = .ok (.newarray .int, 2) := by decide +kernel
theorem dX6_init_57 : decode cX6_init 57 = .ok (.putfield 30, 3) := by decide +kernel
theorem dX6_init_60 : decode cX6_init 60 = .ok (.aload_n 0, 1) := by decide +kernel
theorem dX6_init_61 : decode cX6_init 61 = .ok (.bipush 16, 2) := by decide +kernel
theorem dX6_init_63 : decode cX6_init 63 = .ok (.newarray .int, 2) := by decide +kernel
theorem dX6_init_65 : decode cX6_init 65 = .ok (.putfield 33, 3) := by decide +kernel
theorem dX6_init_68 : decode cX6_init 68 = .ok (.aload_n 0, 1) := by decide +kernel
theorem dX6_init_69 : decode cX6_init 69 = .ok (.bipush 16, 2) := by decide +kernel
theorem dX6_init_71 : decode cX6_init 71 = .ok (.newarray .int, 2) := by decide +kernel
theorem dX6_init_73 : decode cX6_init 73 = .ok (.putfield 36, 3) := by decide +kernel
theorem dX6_init_76 : decode cX6_init 76 = .ok (.aload_n 0, 1) := by decide +kernel
theorem dX6_init_77 : decode cX6_init 77 = .ok (.bipush 80, 2) := by decide +kernel
theorem dX6_init_79 : decode cX6_init 79 = .ok (.newarray .int, 2) := by decide +kernel
theorem dX6_init_81 : decode cX6_init 81 = .ok (.putfield 39, 3) := by decide +kernel
theorem dX6_init_84 : decode cX6_init 84 = .ok (.aload_n 0, 1) := by decide +kernel
theorem dX6_init_85 : decode cX6_init 85 = .ok (.iconst (-1), 1) := by decide +kernel
theorem dX6_init_86 : decode cX6_init 86 = .ok (.putfield 42, 3) := by decide +kernel
theorem dX6_init_89 : decode cX6_init 89 = .ok (.aload_n 0, 1) := by decide +kernel
theorem dX6_init_90 : decode cX6_init 90 = .ok (.bipush 16, 2) := by decide +kernel
theorem dX6_init_92 : decode cX6_init 92 = .ok (.newarray .int, 2) := by decide +kernel
theorem dX6_init_94 : decode cX6_init 94 = .ok (.putfield 46, 3) := by decide +kernel
theorem dX6_init_97 : decode cX6_init 97 = .ok (.aload_n 0, 1) := by decide +kernel
theorem dX6_init_98 : decode cX6_init 98 = .ok (.bipush 16, 2) := by decide +kernel
theorem dX6_init_100 : decode cX6_init 100 = .ok (.newarray .int, 2) := by decide +kernel
theorem dX6_init_102 : decode cX6_init 102 = .ok (.putfield 49, 3) := by decide +kernel
theorem dX6_init_105 : decode cX6_init 105 = .ok (.aload_n 0, 1) := by decide +kernel
theorem dX6_init_106 : decode cX6_init 106 = .ok (.bipush 16, 2) := by decide +kernel
theorem dX6_init_108 : decode cX6_init 108 = .ok (.newarray .long, 2) := by decide +kernel
theorem dX6_init_110 : decode cX6_init 110 = .ok (.putfield 52, 3) := by decide +kernel
theorem dX6_init_113 : decode cX6_init 113 = .ok (.aload_n 0, 1) := by decide +kernel
theorem dX6_init_114 : decode cX6_init 114 = .ok (.bipush 16, 2) := by decide +kernel
theorem dX6_init_116 : decode cX6_init 116 = .ok (.newarray .int, 2) := by decide +kernel
theorem dX6_init_118 : decode cX6_init 118 = .ok (.putfield 55, 3) := by decide +kernel
theorem dX6_init_121 : decode cX6_init 121 = .ok (.aload_n 0, 1) := by decide +kernel
theorem dX6_init_122 : decode cX6_init 122 = .ok (.bipush 8, 2) := by decide +kernel
theorem dX6_init_124 : decode cX6_init 124 = .ok (.newarray .long, 2) := by decide +kernel
theorem dX6_init_126 : decode cX6_init 126 = .ok (.putfield 58, 3) := by decide +kernel
theorem dX6_init_129 : decode cX6_init 129 = .ok (.aload_n 0, 1) := by decide +kernel
theorem dX6_init_130 : decode cX6_init 130 = .ok (.bipush 8, 2) := by decide +kernel
theorem dX6_init_132 : decode cX6_init 132 = .ok (.newarray .long, 2) := by decide +kernel
theorem dX6_init_134 : decode cX6_init 134 = .ok (.putfield 61, 3) := by decide +kernel
theorem dX6_init_137 : decode cX6_init 137 = .ok (.aload_n 0, 1) := by decide +kernel
theorem dX6_init_138 : decode cX6_init 138 = .ok (.bipush 16, 2) := by decide +kernel
theorem dX6_init_140 : decode cX6_init 140 = .ok (.newarray .int, 2) := by decide +kernel
theorem dX6_init_142 : decode cX6_init 142 = .ok (.putfield 64, 3) := by decide +kernel
theorem dX6_init_145 : decode cX6_init 145 = .ok (.aload_n 0, 1) := by decide +kernel
theorem dX6_init_146 : decode cX6_init 146 = .ok (.bipush 16, 2) := by decide +kernel
theorem dX6_init_148 : decode cX6_init 148 = .ok (.newarray .long, 2) := by decide +kernel
theorem dX6_init_150 : decode cX6_init 150 = .ok (.putfield 67, 3) := by decide +kernel
theorem dX6_init_153 : decode cX6_init 153 = .ok (.aload_n 0, 1) := by decide +kernel
theorem dX6_init_154 : decode cX6_init 154 = .ok (.bipush 16, 2) := by decide +kernel
theorem dX6_init_156 : decode cX6_init 156 = .ok (.newarray .boolean, 2) := by decide +kernel
theorem dX6_init_158 : decode cX6_init 158 = .ok (.putfield 70, 3) := by decide +kernel
theorem dX6_init_161 : decode cX6_init 161 = .ok (.aload_n 0, 1) := by decide +kernel
theorem dX6_init_162 : decode cX6_init 162 = .ok (.bipush 16, 2) := by decide +kernel
theorem dX6_init_164 : decode cX6_init 164 = .ok (.newarray .boolean, 2) := by decide +kernel
theorem dX6_init_166 : decode cX6_init 166 = .ok (.putfield 73, 3) := by decide +kernel
theorem dX6_init_169 : decode cX6_init 169 = .ok (.aload_n 0, 1) := by decide +kernel
theorem dX6_init_170 : decode cX6_init 170 = .ok (.bipush 16, 2) := by decide +kernel
theorem dX6_init_172 : decode cX6_init 172 = .ok (.newarray .boolean, 2) := by decide +kernel
theorem dX6_init_174 : decode cX6_init 174 = .ok (.putfield 76, 3) := by decide +kernel
theorem dX6_init_177 : decode cX6_init 177 = .ok (.aload_n 0, 1) := by decide +kernel
theorem dX6_init_178 : decode cX6_init 178 = .ok (.bipush 16, 2) := by decide +kernel
theorem dX6_init_180 : decode cX6_init 180 = .ok (.newarray .boolean, 2) := by decide +kernel
theorem dX6_init_182 : decode cX6_init 182 = .ok (.putfield 79, 3) := by decide +kernel
theorem dX6_init_185 : decode cX6_init 185 = .ok (.aload_n 0, 1) := by decide +kernel
theorem dX6_init_186 : decode cX6_init 186 = .ok (.bipush 8, 2) := by decide +kernel
theorem dX6_init_188 : decode cX6_init 188 = .ok (.newarray .long, 2) := by decide +kernel
theorem dX6_init_190 : decode cX6_init 190 = .ok (.putfield 82, 3) := by decide +kernel
theorem dX6_init_193 : decode cX6_init 193 = .ok (.aload_n 0, 1) := by decide +kernel
theorem dX6_init_194 : decode cX6_init 194 = .ok (.bipush 8, 2) := by decide +kernel
theorem dX6_init_196 : decode cX6_init 196 = .ok (.newarray .long, 2) := by decide +kernel
theorem dX6_init_198 : decode cX6_init 198 = .ok (.putfield 85, 3) := by decide +kernel
theorem dX6_init_201 : decode cX6_init 201 = .ok (.return_, 1) := by decide +kernel
theorem dX6_in_0 : decode cX6_in 0 = .ok (.lload_n 0, 1) := by decide +kernel
theorem dX6_in_1 : decode cX6_in 1 = .ok (.lload_n 2, 1) := by decide +kernel
theorem dX6_in_2 : decode cX6_in 2 = .ok (.lcmp, 1) := by decide +kernel
theorem dX6_in_3 : decode cX6_in 3 = .ok (.ifCond .lt 14, 3) := by decide +kernel
theorem dX6_in_6 : decode cX6_in 6 = .ok (.lload_n 0, 1) := by decide +kernel
theorem dX6_in_7 : decode cX6_in 7 = .ok (.lload 4, 2) := by decide +kernel
theorem dX6_in_9 : decode cX6_in 9 = .ok (.lcmp, 1) := by decide +kernel
theorem dX6_in_10 : decode cX6_in 10 = .ok (.ifCond .gt 7, 3) := by decide +kernel
theorem dX6_in_13 : decode cX6_in 13 = .ok (.iconst 1, 1) := by decide +kernel
theorem dX6_in_14 : decode cX6_in 14 = .ok (.goto 4, 3) := by decide +kernel
theorem dX6_in_17 : decode cX6_in 17 = .ok (.iconst 0, 1) := by decide +kernel
theorem dX6_in_18 : decode cX6_in 18 = .ok (.ireturn, 1) := by decide +kernel
theorem dX6_isCall_0 : decode cX6_isCall 0 = .ok (.iload_n 1, 1) := by decide +kernel
theorem dX6_isCall_1 : decode cX6_isCall 1 = .ok (.i2l, 1) := by decide +kernel
theorem dX6_isCall_2 : decode cX6_isCall 2 = .ok (.lconst 0, 1) := by decide +kernel
theorem dX6_isCall_3 : decode cX6_isCall 3 = .ok (.aload_n 0, 1) := by decide +kernel
theorem dX6_isCall_4 : decode cX6_isCall 4 = .ok (.getfield 88, 3) := by decide +kernel
theorem dX6_isCall_7 : decode cX6_isCall 7 = .ok (.i2l, 1) := by decide +kernel
theorem dX6_isCall_8 : decode cX6_isCall 8 = .ok (.lconst 1, 1) := by decide +kernel
theorem dX6_isCall_9 : decode cX6_isCall 9 = .ok (.lsub, 1) := by decide +kernel
theorem dX6_isCall_10 : decode cX6_isCall 10 = .ok (.invokestatic 91, 3) := by decide +kernel
theorem dX6_isCall_13 : decode cX6_isCall 13 = .ok (.ireturn, 1) := by decide +kernel
theorem dX6_newBlock_0 : decode cX6_newBlock 0 = .ok (.aload_n 0, 1) := by decide +kernel
theorem dX6_newBlock_1 : decode cX6_newBlock 1 = .ok (.iconst 0, 1) := by decide +kernel
theorem dX6_newBlock_2 : decode cX6_newBlock 2 = .ok (.putfield 88, 3) := by decide +kernel
theorem dX6_newBlock_5 : decode cX6_newBlock 5 = .ok (.aload_n 0, 1) := by decide +kernel
theorem dX6_newBlock_6 : decode cX6_newBlock 6 = .ok (.iconst (-1), 1) := by decide +kernel
theorem dX6_newBlock_7 : decode cX6_newBlock 7 = .ok (.putfield 42, 3) := by decide +kernel
theorem dX6_newBlock_10 : decode cX6_newBlock 10 = .ok (.aload_n 0, 1) := by decide +kernel
theorem dX6_newBlock_11 : decode cX6_newBlock 11 = .ok (.iconst 0, 1) := by decide +kernel
theorem dX6_newBlock_12 : decode cX6_newBlock 12 = .ok (.putfield 95, 3) := by decide +kernel
theorem dX6_newBlock_15 : decode cX6_newBlock 15 = .ok (.aload_n 0, 1) := by decide +kernel
theorem dX6_newBlock_16 : decode cX6_newBlock 16 = .ok (.iconst 0, 1) := by decide +kernel
theorem dX6_newBlock_17 : decode cX6_newBlock 17 = .ok (.putfield 99, 3) := by decide +kernel
theorem dX6_newBlock_20 : decode cX6_newBlock 20 = .ok (.return_, 1) := by decide +kernel
theorem dX6_clear_0 : decode cX6_clear 0 = .ok (.aload_n 0, 1) := by decide +kernel
theorem dX6_clear_1 : decode cX6_clear 1 = .ok (.getfield 102, 3) := by decide +kernel
theorem dX6_clear_4 : decode cX6_clear 4 = .ok (.istore_n 1, 1) := by decide +kernel
theorem dX6_clear_5 : decode cX6_clear 5 = .ok (.aload_n 0, 1) := by decide +kernel
theorem dX6_clear_6 : decode cX6_clear 6 = .ok (.iconst 0, 1) := by decide +kernel
theorem dX6_clear_7 : decode cX6_clear 7 = .ok (.putfield 102, 3) := by decide +kernel
theorem dX6_clear_10 : decode cX6_clear 10 = .ok (.aload_n 0, 1) := by decide +kernel
theorem dX6_clear_11 : decode cX6_clear 11 = .ok (.lconst 0, 1) := by decide +kernel
theorem dX6_clear_12 : decode cX6_clear 12 = .ok (.putfield 105, 3) := by decide +kernel
theorem dX6_clear_15 : decode cX6_clear 15 = .ok (.aload_n 0, 1) := by decide +kernel
theorem dX6_clear_16 : decode cX6_clear 16 = .ok (.lconst 0, 1) := by decide +kernel
theorem dX6_clear_17 : decode cX6_clear 17 = .ok (.putfield 109, 3) := by decide +kernel
theorem dX6_clear_20 : decode cX6_clear 20 = .ok (.aload_n 0, 1) := by decide +kernel
theorem dX6_clear_21 : decode cX6_clear 21 = .ok (.lconst 0, 1) := by decide +kernel
theorem dX6_clear_22 : decode cX6_clear 22 = .ok (.putfield 112, 3) := by decide +kernel
theorem dX6_clear_25 : decode cX6_clear 25 = .ok (.aload_n 0, 1) := by decide +kernel
theorem dX6_clear_26 : decode cX6_clear 26 = .ok (.iconst 0, 1) := by decide +kernel
theorem dX6_clear_27 : decode cX6_clear 27 = .ok (.putfield 115, 3) := by decide +kernel
theorem dX6_clear_30 : decode cX6_clear 30 = .ok (.aload_n 0, 1) := by decide +kernel
theorem dX6_clear_31 : decode cX6_clear 31 = .ok (.invokevirtual 118, 3) := by decide +kernel
theorem dX6_clear_34 : decode cX6_clear 34 = .ok (.iload_n 1, 1) := by decide +kernel
theorem dX6_clear_35 : decode cX6_clear 35 = .ok (.ireturn, 1) := by decide +kernel
theorem dX6_account_0 : decode cX6_account 0 = .ok (.lload_n 1, 1) := by decide +kernel
theorem dX6_account_1 : decode cX6_account 1 = .ok (.lconst 0, 1) := by decide +kernel
theorem dX6_account_2 : decode cX6_account 2 = .ok (.ldc2_w 121, 3) := by decide +kernel
theorem dX6_account_5 : decode cX6_account 5 = .ok (.invokestatic 91, 3) := by decide +kernel
theorem dX6_account_8 : decode cX6_account 8 = .ok (.ifCond .eq 14, 3) := by decide +kernel
theorem dX6_account_11 : decode cX6_account 11 = .ok (.lload_n 3, 1) := by decide +kernel
theorem dX6_account_12 : decode cX6_account 12 = .ok (.lconst 0, 1) := by decide +kernel
theorem dX6_account_13 : decode cX6_account 13 = .ok (.ldc2_w 121, 3) := by decide +kernel
theorem dX6_account_16 : decode cX6_account 16 = .ok (.invokestatic 91, 3) := by decide +kernel
theorem dX6_account_19 : decode cX6_account 19 = .ok (.ifCond .ne 6, 3) := by decide +kernel
theorem dX6_account_22 : decode cX6_account 22 = .ok (.bipush (-2), 2) := by decide +kernel
theorem dX6_account_24 : decode cX6_account 24 = .ok (.ireturn, 1) := by decide +kernel
theorem dX6_account_25 : decode cX6_account 25 = .ok (.aload_n 0, 1) := by decide +kernel
theorem dX6_account_26 : decode cX6_account 26 = .ok (.getfield 102, 3) := by decide +kernel
theorem dX6_account_29 : decode cX6_account 29 = .ok (.bipush 8, 2) := by decide +kernel
theorem dX6_account_31 : decode cX6_account 31 = .ok (.if_icmp .ne 6, 3) := by decide +kernel
theorem dX6_account_34 : decode cX6_account 34 = .ok (.bipush (-3), 2) := by decide +kernel
theorem dX6_account_36 : decode cX6_account 36 = .ok (.ireturn, 1) := by decide +kernel
theorem dX6_account_37 : decode cX6_account 37 = .ok (.aload_n 0, 1) := by decide +kernel
theorem dX6_account_38 : decode cX6_account 38 = .ok (.getfield 7, 3) := by decide +kernel
theorem dX6_account_41 : decode cX6_account 41 = .ok (.aload_n 0, 1) := by decide +kernel
theorem dX6_account_42 : decode cX6_account 42 = .ok (.getfield 102, 3) := by decide +kernel
theorem dX6_account_45 : decode cX6_account 45 = .ok (.lload_n 1, 1) := by decide +kernel
theorem dX6_account_46 : decode cX6_account 46 = .ok (.lastore, 1) := by decide +kernel
theorem dX6_account_47 : decode cX6_account 47 = .ok (.aload_n 0, 1) := by decide +kernel
theorem dX6_account_48 : decode cX6_account 48 = .ok (.getfield 13, 3) := by decide +kernel
theorem dX6_account_51 : decode cX6_account 51 = .ok (.aload_n 0, 1) := by decide +kernel
theorem dX6_account_52 : decode cX6_account 52 = .ok (.getfield 102, 3) := by decide +kernel
theorem dX6_account_55 : decode cX6_account 55 = .ok (.lload_n 3, 1) := by decide +kernel
theorem dX6_account_56 : decode cX6_account 56 = .ok (.lastore, 1) := by decide +kernel
theorem dX6_account_57 : decode cX6_account 57 = .ok (.aload_n 0, 1) := by decide +kernel
theorem dX6_account_58 : decode cX6_account 58 = .ok (.dup, 1) := by decide +kernel
theorem dX6_account_59 : decode cX6_account 59 = .ok (.getfield 102, 3) := by decide +kernel
theorem dX6_account_62 : decode cX6_account 62 = .ok (.iconst 1, 1) := by decide +kernel
theorem dX6_account_63 : decode cX6_account 63 = .ok (.iadd, 1) := by decide +kernel
theorem dX6_account_64 : decode cX6_account 64 = .ok (.putfield 102, 3) := by decide +kernel
theorem dX6_account_67 : decode cX6_account 67 = .ok (.aload_n 0, 1) := by decide +kernel
theorem dX6_account_68 : decode cX6_account 68 = .ok (.getfield 102, 3) := by decide +kernel
theorem dX6_account_71 : decode cX6_account 71 = .ok (.iconst 1, 1) := by decide +kernel
theorem dX6_account_72 : decode cX6_account 72 = .ok (.isub, 1) := by decide +kernel
theorem dX6_account_73 : decode cX6_account 73 = .ok (.ireturn, 1) := by decide +kernel
theorem dX6_pool_0 : decode cX6_pool 0 = .ok (.lload_n 1, 1) := by decide +kernel
theorem dX6_pool_1 : decode cX6_pool 1 = .ok (.lconst 0, 1) := by decide +kernel
theorem dX6_pool_2 : decode cX6_pool 2 = .ok (.ldc2_w 121, 3) := by decide +kernel
theorem dX6_pool_5 : decode cX6_pool 5 = .ok (.invokestatic 91, 3) := by decide +kernel
theorem dX6_pool_8 : decode cX6_pool 8 = .ok (.ifCond .eq 14, 3) := by decide +kernel
theorem dX6_pool_11 : decode cX6_pool 11 = .ok (.lload_n 3, 1) := by decide +kernel
theorem dX6_pool_12 : decode cX6_pool 12 = .ok (.lconst 0, 1) := by decide +kernel
theorem dX6_pool_13 : decode cX6_pool 13 = .ok (.ldc2_w 121, 3) := by decide +kernel
theorem dX6_pool_16 : decode cX6_pool 16 = .ok (.invokestatic 91, 3) := by decide +kernel
theorem dX6_pool_19 : decode cX6_pool 19 = .ok (.ifCond .ne 6, 3) := by decide +kernel
theorem dX6_pool_22 : decode cX6_pool 22 = .ok (.bipush (-2), 2) := by decide +kernel
theorem dX6_pool_24 : decode cX6_pool 24 = .ok (.ireturn, 1) := by decide +kernel
theorem dX6_pool_25 : decode cX6_pool 25 = .ok (.aload_n 0, 1) := by decide +kernel
theorem dX6_pool_26 : decode cX6_pool 26 = .ok (.lload_n 1, 1) := by decide +kernel
theorem dX6_pool_27 : decode cX6_pool 27 = .ok (.putfield 105, 3) := by decide +kernel
theorem dX6_pool_30 : decode cX6_pool 30 = .ok (.aload_n 0, 1) := by decide +kernel
theorem dX6_pool_31 : decode cX6_pool 31 = .ok (.lload_n 3, 1) := by decide +kernel
theorem dX6_pool_32 : decode cX6_pool 32 = .ok (.putfield 109, 3) := by decide +kernel
theorem dX6_pool_35 : decode cX6_pool 35 = .ok (.iconst 1, 1) := by decide +kernel
theorem dX6_pool_36 : decode cX6_pool 36 = .ok (.ireturn, 1) := by decide +kernel
theorem dX6_isOffer_0 : decode cX6_isOffer 0 = .ok (.iload_n 0, 1) := by decide +kernel
theorem dX6_isOffer_1 : decode cX6_isOffer 1 = .ok (.i2l, 1) := by decide +kernel
theorem dX6_isOffer_2 : decode cX6_isOffer 2 = .ok (.lconst 0, 1) := by decide +kernel
theorem dX6_isOffer_3 : decode cX6_isOffer 3 = .ok (.lconst 1, 1) := by decide +kernel
theorem dX6_isOffer_4 : decode cX6_isOffer 4 = .ok (.invokestatic 91, 3) := by decide +kernel
theorem dX6_isOffer_7 : decode cX6_isOffer 7 = .ok (.ifCond .eq 31, 3) := by decide +kernel
theorem dX6_isOffer_10 : decode cX6_isOffer 10 = .ok (.iload_n 1, 1) := by decide +kernel
theorem dX6_isOffer_11 : decode cX6_isOffer 11 = .ok (.i2l, 1) := by decide +kernel
theorem dX6_isOffer_12 : decode cX6_isOffer 12 = .ok (.lconst 1, 1) := by decide +kernel
theorem dX6_isOffer_13 : decode cX6_isOffer 13 = .ok (.ldc2_w 123, 3) := by decide +kernel
theorem dX6_isOffer_16 : decode cX6_isOffer 16 = .ok (.invokestatic 91, 3) := by decide +kernel
theorem dX6_isOffer_19 : decode cX6_isOffer 19 = .ok (.ifCond .eq 19, 3) := by decide +kernel
theorem dX6_isOffer_22 : decode cX6_isOffer 22 = .ok (.iload_n 2, 1) := by decide +kernel
theorem dX6_isOffer_23 : decode cX6_isOffer 23 = .ok (.i2l, 1) := by decide +kernel
theorem dX6_isOffer_24 : decode cX6_isOffer 24 = .ok (.lconst 1, 1) := by decide +kernel
theorem dX6_isOffer_25 : decode cX6_isOffer 25 = .ok (.ldc2_w 123, 3) := by decide +kernel
theorem dX6_isOffer_28 : decode cX6_isOffer 28 = .ok (.invokestatic 91, 3) := by decide +kernel
theorem dX6_isOffer_31 : decode cX6_isOffer 31 = .ok (.ifCond .eq 7, 3) := by decide +kernel
theorem dX6_isOffer_34 : decode cX6_isOffer 34 = .ok (.iconst 1, 1) := by decide +kernel
theorem dX6_isOffer_35 : decode cX6_isOffer 35 = .ok (.goto 4, 3) := by decide +kernel
theorem dX6_isOffer_38 : decode cX6_isOffer 38 = .ok (.iconst 0, 1) := by decide +kernel
theorem dX6_isOffer_39 : decode cX6_isOffer 39 = .ok (.ireturn, 1) := by decide +kernel
theorem dX6_seal_0 : decode cX6_seal 0 = .ok (.iload_n 1, 1) := by decide +kernel
theorem dX6_seal_1 : decode cX6_seal 1 = .ok (.iload_n 2, 1) := by decide +kernel
theorem dX6_seal_2 : decode cX6_seal 2 = .ok (.iload_n 3, 1) := by decide +kernel
theorem dX6_seal_3 : decode cX6_seal 3 = .ok (.invokestatic 125, 3) := by decide +kernel
theorem dX6_seal_6 : decode cX6_seal 6 = .ok (.ifCond .ne 5, 3) := by decide +kernel
theorem dX6_seal_9 : decode cX6_seal 9 = .ok (.lconst 0, 1) := by decide +kernel
theorem dX6_seal_10 : decode cX6_seal 10 = .ok (.lreturn, 1) := by decide +kernel
theorem dX6_seal_11 : decode cX6_seal 11 = .ok (.iload 4, 2) := by decide +kernel
theorem dX6_seal_13 : decode cX6_seal 13 = .ok (.i2l, 1) := by decide +kernel
theorem dX6_seal_14 : decode cX6_seal 14 = .ok (.ldc2_w 129, 3) := by decide +kernel
theorem dX6_seal_17 : decode cX6_seal 17 = .ok (.lmul, 1) := by decide +kernel
theorem dX6_seal_18 : decode cX6_seal 18 = .ok (.iload_n 1, 1) := by decide +kernel
theorem dX6_seal_19 : decode cX6_seal 19 = .ok (.i2l, 1) := by decide +kernel
theorem dX6_seal_20 : decode cX6_seal 20 = .ok (.ladd, 1) := by decide +kernel
theorem dX6_seal_21 : decode cX6_seal 21 = .ok (.lstore 5, 2) := by decide +kernel
theorem dX6_seal_23 : decode cX6_seal 23 = .ok (.lload 5, 2) := by decide +kernel
theorem dX6_seal_25 : decode cX6_seal 25 = .ok (.ldc2_w 131, 3) := by decide +kernel
theorem dX6_seal_28 : decode cX6_seal 28 = .ok (.lmul, 1) := by decide +kernel
theorem dX6_seal_29 : decode cX6_seal 29 = .ok (.iload_n 2, 1) := by decide +kernel
theorem dX6_seal_30 : decode cX6_seal 30 = .ok (.i2l, 1) := by decide +kernel
theorem dX6_seal_31 : decode cX6_seal 31 = .ok (.ladd, 1) := by decide +kernel
theorem dX6_seal_32 : decode cX6_seal 32 = .ok (.lstore 5, 2) := by decide +kernel
theorem dX6_seal_34 : decode cX6_seal 34 = .ok (.lload 5, 2) := by decide +kernel
theorem dX6_seal_36 : decode cX6_seal 36 = .ok (.ldc2_w 133, 3) := by decide +kernel
theorem dX6_seal_39 : decode cX6_seal 39 = .ok (.lmul, 1) := by decide +kernel
theorem dX6_seal_40 : decode cX6_seal 40 = .ok (.iload_n 3, 1) := by decide +kernel
theorem dX6_seal_41 : decode cX6_seal 41 = .ok (.i2l, 1) := by decide +kernel
theorem dX6_seal_42 : decode cX6_seal 42 = .ok (.ladd, 1) := by decide +kernel
theorem dX6_seal_43 : decode cX6_seal 43 = .ok (.lstore 5, 2) := by decide +kernel
theorem dX6_seal_45 : decode cX6_seal 45 = .ok (.lload 5, 2) := by decide +kernel
theorem dX6_seal_47 : decode cX6_seal 47 = .ok (.ldc2_w 135, 3) := by decide +kernel
theorem dX6_seal_50 : decode cX6_seal 50 = .ok (.lmul, 1) := by decide +kernel
theorem dX6_seal_51 : decode cX6_seal 51 = .ok (.lstore 5, 2) := by decide +kernel
theorem dX6_seal_53 : decode cX6_seal 53 = .ok (.lload 5, 2) := by decide +kernel
theorem dX6_seal_55 : decode cX6_seal 55 = .ok (.lload 5, 2) := by decide +kernel
theorem dX6_seal_57 : decode cX6_seal 57 = .ok (.bipush 29, 2) := by decide +kernel
theorem dX6_seal_59 : decode cX6_seal 59 = .ok (.lushr, 1) := by decide +kernel
theorem dX6_seal_60 : decode cX6_seal 60 = .ok (.lxor, 1) := by decide +kernel
theorem dX6_seal_61 : decode cX6_seal 61 = .ok (.lreturn, 1) := by decide +kernel
theorem dX6_commit_0 : decode cX6_commit 0 = .ok (.iload_n 1, 1) := by decide +kernel
theorem dX6_commit_1 : decode cX6_commit 1 = .ok (.i2l, 1) := by decide +kernel
theorem dX6_commit_2 : decode cX6_commit 2 = .ok (.lconst 0, 1) := by decide +kernel
theorem dX6_commit_3 : decode cX6_commit 3 = .ok (.aload_n 0, 1) := by decide +kernel
theorem dX6_commit_4 : decode cX6_commit 4 = .ok (.getfield 102, 3) := by decide +kernel
theorem dX6_commit_7 : decode cX6_commit 7 = .ok (.i2l, 1) := by decide +kernel
theorem dX6_commit_8 : decode cX6_commit 8 = .ok (.lconst 1, 1) := by decide +kernel
theorem dX6_commit_9 : decode cX6_commit 9 = .ok (.lsub, 1) := by decide +kernel
theorem dX6_commit_10 : decode cX6_commit 10 = .ok (.invokestatic 91, 3) := by decide +kernel
theorem dX6_commit_13 : decode cX6_commit 13 = .ok (.ifCond .eq 14, 3) := by decide +kernel
theorem dX6_commit_16 : decode cX6_commit 16 = .ok (.lload_n 2, 1) := by decide +kernel
theorem dX6_commit_17 : decode cX6_commit 17 = .ok (.lconst 0, 1) := by decide +kernel
theorem dX6_commit_18 : decode cX6_commit 18 = .ok (.ldc2_w 137, 3) := by decide +kernel
theorem dX6_commit_21 : decode cX6_commit 21 = .ok (.invokestatic 91, 3) := by decide +kernel
theorem dX6_commit_24 : decode cX6_commit 24 = .ok (.ifCond .ne 6, 3) := by decide +kernel
theorem dX6_commit_27 : decode cX6_commit 27 = .ok (.bipush (-2), 2) := by decide +kernel
theorem dX6_commit_29 : decode cX6_commit 29 = .ok (.ireturn, 1) := by decide +kernel
theorem dX6_commit_30 : decode cX6_commit 30 = .ok (.aload_n 0, 1) := by decide +kernel
theorem dX6_commit_31 : decode cX6_commit 31 = .ok (.getfield 99, 3) := by decide +kernel
theorem dX6_commit_34 : decode cX6_commit 34 = .ok (.ifCond .eq 6, 3) := by decide +kernel
theorem dX6_commit_37 : decode cX6_commit 37 = .ok (.bipush (-4), 2) := by decide +kernel
theorem dX6_commit_39 : decode cX6_commit 39 = .ok (.ireturn, 1) := by decide +kernel
theorem dX6_commit_40 : decode cX6_commit 40 = .ok (.aload_n 0, 1) := by decide +kernel
theorem dX6_commit_41 : decode cX6_commit 41 = .ok (.getfield 88, 3) := by decide +kernel
theorem dX6_commit_44 : decode cX6_commit 44 = .ok (.bipush 16, 2) := by decide +kernel
theorem dX6_commit_46 : decode cX6_commit 46 = .ok (.if_icmp .ne 6, 3) := by decide +kernel
theorem dX6_commit_49 : decode cX6_commit 49 = .ok (.bipush (-3), 2) := by decide +kernel
theorem dX6_commit_51 : decode cX6_commit 51 = .ok (.ireturn, 1) := by decide +kernel
theorem dX6_commit_52 : decode cX6_commit 52 = .ok (.aload_n 0, 1) := by decide +kernel
theorem dX6_commit_53 : decode cX6_commit 53 = .ok (.getfield 7, 3) := by decide +kernel
theorem dX6_commit_56 : decode cX6_commit 56 = .ok (.iload_n 1, 1) := by decide +kernel
theorem dX6_commit_57 : decode cX6_commit 57 = .ok (.laload, 1) := by decide +kernel
theorem dX6_commit_58 : decode cX6_commit 58 = .ok (.lload_n 2, 1) := by decide +kernel
theorem dX6_commit_59 : decode cX6_commit 59 = .ok (.lcmp, 1) := by decide +kernel
theorem dX6_commit_60 : decode cX6_commit 60 = .ok (.ifCond .ge 6, 3) := by decide +kernel
theorem dX6_commit_63 : decode cX6_commit 63 = .ok (.bipush (-5), 2) := by decide +kernel
theorem dX6_commit_65 : decode cX6_commit 65 = .ok (.ireturn, 1) := by decide +kernel
theorem dX6_commit_66 : decode cX6_commit 66 = .ok (.aload_n 0, 1) := by decide +kernel
theorem dX6_commit_67 : decode cX6_commit 67 = .ok (.getfield 7, 3) := by decide +kernel
theorem dX6_commit_70 : decode cX6_commit 70 = .ok (.iload_n 1, 1) := by decide +kernel
theorem dX6_commit_71 : decode cX6_commit 71 = .ok (.dup2, 1) := by decide +kernel
theorem dX6_commit_72 : decode cX6_commit 72 = .ok (.laload, 1) := by decide +kernel
theorem dX6_commit_73 : decode cX6_commit 73 = .ok (.lload_n 2, 1) := by decide +kernel
theorem dX6_commit_74 : decode cX6_commit 74 = .ok (.lsub, 1) := by decide +kernel
theorem dX6_commit_75 : decode cX6_commit 75 = .ok (.lastore, 1) := by decide +kernel
theorem dX6_commit_76 : decode cX6_commit 76 = .ok (.aload_n 0, 1) := by decide +kernel
theorem dX6_commit_77 : decode cX6_commit 77 = .ok (.getfield 16, 3) := by decide +kernel
theorem dX6_commit_80 : decode cX6_commit 80 = .ok (.aload_n 0, 1) := by decide +kernel
theorem dX6_commit_81 : decode cX6_commit 81 = .ok (.getfield 88, 3) := by decide +kernel
theorem dX6_commit_84 : decode cX6_commit 84 = .ok (.iload_n 1, 1) := by decide +kernel
theorem dX6_commit_85 : decode cX6_commit 85 = .ok (.iastore, 1) := by decide +kernel
theorem dX6_commit_86 : decode cX6_commit 86 = .ok (.aload_n 0, 1) := by decide +kernel
theorem dX6_commit_87 : decode cX6_commit 87 = .ok (.getfield 20, 3) := by decide +kernel
theorem dX6_commit_90 : decode cX6_commit 90 = .ok (.aload_n 0, 1) := by decide +kernel
theorem dX6_commit_91 : decode cX6_commit 91 = .ok (.getfield 88, 3) := by decide +kernel
theorem dX6_commit_94 : decode cX6_commit 94 = .ok (.lload_n 2, 1) := by decide +kernel
theorem dX6_commit_95 : decode cX6_commit 95 = .ok (.lastore, 1) := by decide +kernel
theorem dX6_commit_96 : decode cX6_commit 96 = .ok (.aload_n 0, 1) := by decide +kernel
theorem dX6_commit_97 : decode cX6_commit 97 = .ok (.getfield 23, 3) := by decide +kernel
theorem dX6_commit_100 : decode cX6_commit 100 = .ok (.aload_n 0, 1) := by decide +kernel
theorem dX6_commit_101 : decode cX6_commit 101 = .ok (.getfield 88, 3) := by decide +kernel
theorem dX6_commit_104 : decode cX6_commit 104 = .ok (.lload 4, 2) := by decide +kernel
theorem dX6_commit_106 : decode cX6_commit 106 = .ok (.lastore, 1) := by decide +kernel
theorem dX6_commit_107 : decode cX6_commit 107 = .ok (.aload_n 0, 1) := by decide +kernel
theorem dX6_commit_108 : decode cX6_commit 108 = .ok (.getfield 26, 3) := by decide +kernel
theorem dX6_commit_111 : decode cX6_commit 111 = .ok (.aload_n 0, 1) := by decide +kernel
theorem dX6_commit_112 : decode cX6_commit 112 = .ok (.getfield 88, 3) := by decide +kernel
theorem dX6_commit_115 : decode cX6_commit 115 = .ok (.iconst 0, 1) := by decide +kernel
theorem dX6_commit_116 : decode cX6_commit 116 = .ok (.bastore, 1) := by decide +kernel
theorem dX6_commit_117 : decode cX6_commit 117 = .ok (.iconst 0, 1) := by decide +kernel
theorem dX6_commit_118 : decode cX6_commit 118 = .ok (.istore 6, 2) := by decide +kernel
theorem dX6_commit_120 : decode cX6_commit 120 = .ok (.iload 6, 2) := by decide +kernel
theorem dX6_commit_122 : decode cX6_commit 122 = .ok (.iconst 5, 1) := by decide +kernel
theorem dX6_commit_123 : decode cX6_commit 123 = .ok (.if_icmp .ge 24, 3) := by decide +kernel
theorem dX6_commit_126 : decode cX6_commit 126 = .ok (.aload_n 0, 1) := by decide +kernel
theorem dX6_commit_127 : decode cX6_commit 127 = .ok (.getfield 39, 3) := by decide +kernel
theorem dX6_commit_130 : decode cX6_commit 130 = .ok (.iconst 5, 1) := by decide +kernel
theorem dX6_commit_131 : decode cX6_commit 131 = .ok (.aload_n 0, 1) := by decide +kernel
theorem dX6_commit_132 : decode cX6_commit 132 = .ok (.getfield 88, 3) := by decide +kernel
theorem dX6_commit_135 : decode cX6_commit 135 = .ok (.imul, 1) := by decide +kernel
theorem dX6_commit_136 : decode cX6_commit 136 = .ok (.iload 6, 2) := by decide +kernel
theorem dX6_commit_138 : decode cX6_commit 138 = .ok (.iadd, 1) := by decide +kernel
theorem dX6_commit_139 : decode cX6_commit 139 = .ok (.iconst (-1), 1) := by decide +kernel
theorem dX6_commit_140 : decode cX6_commit 140 = .ok (.iastore, 1) := by decide +kernel
theorem dX6_commit_141 : decode cX6_commit 141 = .ok (.iinc 6 1, 3) := by decide +kernel
theorem dX6_commit_144 : decode cX6_commit 144 = .ok (.goto (-24), 3) := by decide +kernel
theorem dX6_commit_147 : decode cX6_commit 147 = .ok (.aload_n 0, 1) := by decide +kernel
theorem dX6_commit_148 : decode cX6_commit 148 = .ok (.dup, 1) := by decide +kernel
theorem dX6_commit_149 : decode cX6_commit 149 = .ok (.getfield 88, 3) := by decide +kernel
theorem dX6_commit_152 : decode cX6_commit 152 = .ok (.iconst 1, 1) := by decide +kernel
theorem dX6_commit_153 : decode cX6_commit 153 = .ok (.iadd, 1) := by decide +kernel
theorem dX6_commit_154 : decode cX6_commit 154 = .ok (.putfield 88, 3) := by decide +kernel
theorem dX6_commit_157 : decode cX6_commit 157 = .ok (.aload_n 0, 1) := by decide +kernel
theorem dX6_commit_158 : decode cX6_commit 158 = .ok (.getfield 88, 3) := by decide +kernel
theorem dX6_commit_161 : decode cX6_commit 161 = .ok (.iconst 1, 1) := by decide +kernel
theorem dX6_commit_162 : decode cX6_commit 162 = .ok (.isub, 1) := by decide +kernel
theorem dX6_commit_163 : decode cX6_commit 163 = .ok (.ireturn, 1) := by decide +kernel
theorem dX6_hear_0 : decode cX6_hear 0 = .ok (.iload_n 1, 1) := by decide +kernel
theorem dX6_hear_1 : decode cX6_hear 1 = .ok (.i2l, 1) := by decide +kernel
theorem dX6_hear_2 : decode cX6_hear 2 = .ok (.lconst 0, 1) := by decide +kernel
theorem dX6_hear_3 : decode cX6_hear 3 = .ok (.ldc2_w 139, 3) := by decide +kernel
theorem dX6_hear_6 : decode cX6_hear 6 = .ok (.invokestatic 91, 3) := by decide +kernel
theorem dX6_hear_9 : decode cX6_hear 9 = .ok (.ifCond .eq 23, 3) := by decide +kernel
theorem dX6_hear_12 : decode cX6_hear 12 = .ok (.aload_n 0, 1) := by decide +kernel
theorem dX6_hear_13 : decode cX6_hear 13 = .ok (.iload_n 2, 1) := by decide +kernel
theorem dX6_hear_14 : decode cX6_hear 14 = .ok (.invokevirtual 141, 3) := by decide +kernel
theorem dX6_hear_17 : decode cX6_hear 17 = .ok (.ifCond .eq 15, 3) := by decide +kernel
theorem dX6_hear_20 : decode cX6_hear 20 = .ok (.iload_n 3, 1) := by decide +kernel
theorem dX6_hear_21 : decode cX6_hear 21 = .ok (.i2l, 1) := by decide +kernel
theorem dX6_hear_22 : decode cX6_hear 22 = .ok (.lconst 0, 1) := by decide +kernel
theorem dX6_hear_23 : decode cX6_hear 23 = .ok (.ldc2_w 137, 3) := by decide +kernel
theorem dX6_hear_26 : decode cX6_hear 26 = .ok (.invokestatic 91, 3) := by decide +kernel
theorem dX6_hear_29 : decode cX6_hear 29 = .ok (.ifCond .ne 6, 3) := by decide +kernel
theorem dX6_hear_32 : decode cX6_hear 32 = .ok (.bipush (-2), 2) := by decide +kernel
theorem dX6_hear_34 : decode cX6_hear 34 = .ok (.ireturn, 1) := by decide +kernel
theorem dX6_hear_35 : decode cX6_hear 35 = .ok (.aload_n 0, 1) := by decide +kernel
theorem dX6_hear_36 : decode cX6_hear 36 = .ok (.getfield 99, 3) := by decide +kernel
theorem dX6_hear_39 : decode cX6_hear 39 = .ok (.ifCond .eq 6, 3) := by decide +kernel
theorem dX6_hear_42 : decode cX6_hear 42 = .ok (.bipush (-4), 2) := by decide +kernel
theorem dX6_hear_44 : decode cX6_hear 44 = .ok (.ireturn, 1) := by decide +kernel
theorem dX6_hear_45 : decode cX6_hear 45 = .ok (.aload_n 0, 1) := by decide +kernel
theorem dX6_hear_46 : decode cX6_hear 46 = .ok (.getfield 39, 3) := by decide +kernel
theorem dX6_hear_49 : decode cX6_hear 49 = .ok (.iconst 5, 1) := by decide +kernel
theorem dX6_hear_50 : decode cX6_hear 50 = .ok (.iload_n 2, 1) := by decide +kernel
theorem dX6_hear_51 : decode cX6_hear 51 = .ok (.imul, 1) := by decide +kernel
theorem dX6_hear_52 : decode cX6_hear 52 = .ok (.iload_n 1, 1) := by decide +kernel
theorem dX6_hear_53 : decode cX6_hear 53 = .ok (.iadd, 1) := by decide +kernel
theorem dX6_hear_54 : decode cX6_hear 54 = .ok (.iaload, 1) := by decide +kernel
theorem dX6_hear_55 : decode cX6_hear 55 = .ok (.ifCond .lt 6, 3) := by decide +kernel
theorem dX6_hear_58 : decode cX6_hear 58 = .ok (.bipush (-6), 2) := by decide +kernel
theorem dX6_hear_60 : decode cX6_hear 60 = .ok (.ireturn, 1) := by decide +kernel
theorem dX6_hear_61 : decode cX6_hear 61 = .ok (.aload_n 0, 1) := by decide +kernel
theorem dX6_hear_62 : decode cX6_hear 62 = .ok (.getfield 39, 3) := by decide +kernel
theorem dX6_hear_65 : decode cX6_hear 65 = .ok (.iconst 5, 1) := by decide +kernel
theorem dX6_hear_66 : decode cX6_hear 66 = .ok (.iload_n 2, 1) := by decide +kernel
theorem dX6_hear_67 : decode cX6_hear 67 = .ok (.imul, 1) := by decide +kernel
theorem dX6_hear_68 : decode cX6_hear 68 = .ok (.iload_n 1, 1) := by decide +kernel
theorem dX6_hear_69 : decode cX6_hear 69 = .ok (.iadd, 1) := by decide +kernel
theorem dX6_hear_70 : decode cX6_hear 70 = .ok (.iload_n 3, 1) := by decide +kernel
theorem dX6_hear_71 : decode cX6_hear 71 = .ok (.iastore, 1) := by decide +kernel
theorem dX6_hear_72 : decode cX6_hear 72 = .ok (.iconst 1, 1) := by decide +kernel
theorem dX6_hear_73 : decode cX6_hear 73 = .ok (.ireturn, 1) := by decide +kernel
theorem dX6_open_0 : decode cX6_open 0 = .ok (.iload_n 2, 1) := by decide +kernel
theorem dX6_open_1 : decode cX6_open 1 = .ok (.iload_n 3, 1) := by decide +kernel
theorem dX6_open_2 : decode cX6_open 2 = .ok (.iload 4, 2) := by decide +kernel
theorem dX6_open_4 : decode cX6_open 4 = .ok (.invokestatic 125, 3) := by decide +kernel
theorem dX6_open_7 : decode cX6_open 7 = .ok (.ifCond .eq 11, 3) := by decide +kernel
theorem dX6_open_10 : decode cX6_open 10 = .ok (.aload_n 0, 1) := by decide +kernel
theorem dX6_open_11 : decode cX6_open 11 = .ok (.iload_n 1, 1) := by decide +kernel
theorem dX6_open_12 : decode cX6_open 12 = .ok (.invokevirtual 141, 3) := by decide +kernel
theorem dX6_open_15 : decode cX6_open 15 = .ok (.ifCond .ne 6, 3) := by decide +kernel
theorem dX6_open_18 : decode cX6_open 18 = .ok (.bipush (-2), 2) := by decide +kernel
theorem dX6_open_20 : decode cX6_open 20 = .ok (.ireturn, 1) := by decide +kernel
theorem dX6_open_21 : decode cX6_open 21 = .ok (.aload_n 0, 1) := by decide +kernel
theorem dX6_open_22 : decode cX6_open 22 = .ok (.getfield 99, 3) := by decide +kernel
theorem dX6_open_25 : decode cX6_open 25 = .ok (.iconst 1, 1) := by decide +kernel
theorem dX6_open_26 : decode cX6_open 26 = .ok (.if_icmp .ne 12, 3) := by decide +kernel
theorem dX6_open_29 : decode cX6_open 29 = .ok (.aload_n 0, 1) := by decide +kernel
theorem dX6_open_30 : decode cX6_open 30 = .ok (.getfield 26, 3) := by decide +kernel
theorem dX6_open_33 : decode cX6_open 33 = .ok (.iload_n 1, 1) := by decide +kernel
theorem dX6_open_34 : decode cX6_open 34 = .ok (.baload, 1) := by decide +kernel
theorem dX6_open_35 : decode cX6_open 35 = .ok (.ifCond .eq 6, 3) := by decide +kernel
theorem dX6_open_38 : decode cX6_open 38 = .ok (.bipush (-4), 2) := by decide +kernel
theorem dX6_open_40 : decode cX6_open 40 = .ok (.ireturn, 1) := by decide +kernel
theorem dX6_open_41 : decode cX6_open 41 = .ok (.aload_n 0, 1) := by decide +kernel
theorem dX6_open_42 : decode cX6_open 42 = .ok (.iload_n 2, 1) := by decide +kernel
theorem dX6_open_43 : decode cX6_open 43 = .ok (.iload_n 3, 1) := by decide +kernel
theorem dX6_open_44 : decode cX6_open 44 = .ok (.iload 4, 2) := by decide +kernel
theorem dX6_open_46 : decode cX6_open 46 = .ok (.iload 5, 2) := by decide +kernel
theorem dX6_open_48 : decode cX6_open 48 = .ok (.invokevirtual 145, 3) := by decide +kernel
theorem dX6_open_51 : decode cX6_open 51 = .ok (.aload_n 0, 1) := by decide +kernel
theorem dX6_open_52 : decode cX6_open 52 = .ok (.getfield 23, 3) := by decide +kernel
theorem dX6_open_55 : decode cX6_open 55 = .ok (.iload_n 1, 1) := by decide +kernel
theorem dX6_open_56 : decode cX6_open 56 = .ok (.laload, 1) := by decide +kernel
theorem dX6_open_57 : decode cX6_open 57 = .ok (.lcmp, 1) := by decide +kernel
theorem dX6_open_58 : decode cX6_open 58 = .ok (.ifCond .eq 6, 3) := by decide +kernel
theorem dX6_open_61 : decode cX6_open 61 = .ok (.bipush (-6), 2) := by decide +kernel
theorem dX6_open_63 : decode cX6_open 63 = .ok (.ireturn, 1) := by decide +kernel
theorem dX6_open_64 : decode cX6_open 64 = .ok (.aload_n 0, 1) := by decide +kernel
theorem dX6_open_65 : decode cX6_open 65 = .ok (.getfield 26, 3) := by decide +kernel
theorem dX6_open_68 : decode cX6_open 68 = .ok (.iload_n 1, 1) := by decide +kernel
theorem dX6_open_69 : decode cX6_open 69 = .ok (.iconst 1, 1) := by decide +kernel
theorem dX6_open_70 : decode cX6_open 70 = .ok (.bastore, 1) := by decide +kernel
theorem dX6_open_71 : decode cX6_open 71 = .ok (.aload_n 0, 1) := by decide +kernel
theorem dX6_open_72 : decode cX6_open 72 = .ok (.getfield 30, 3) := by decide +kernel
theorem dX6_open_75 : decode cX6_open 75 = .ok (.iload_n 1, 1) := by decide +kernel
theorem dX6_open_76 : decode cX6_open 76 = .ok (.iload_n 2, 1) := by decide +kernel
theorem dX6_open_77 : decode cX6_open 77 = .ok (.iastore, 1) := by decide +kernel
theorem dX6_open_78 : decode cX6_open 78 = .ok (.aload_n 0, 1) := by decide +kernel
theorem dX6_open_79 : decode cX6_open 79 = .ok (.getfield 33, 3) := by decide +kernel
theorem dX6_open_82 : decode cX6_open 82 = .ok (.iload_n 1, 1) := by decide +kernel
theorem dX6_open_83 : decode cX6_open 83 = .ok (.iload_n 3, 1) := by decide +kernel
theorem dX6_open_84 : decode cX6_open 84 = .ok (.iastore, 1) := by decide +kernel
theorem dX6_open_85 : decode cX6_open 85 = .ok (.aload_n 0, 1) := by decide +kernel
theorem dX6_open_86 : decode cX6_open 86 = .ok (.getfield 36, 3) := by decide +kernel
theorem dX6_open_89 : decode cX6_open 89 = .ok (.iload_n 1, 1) := by decide +kernel
theorem dX6_open_90 : decode cX6_open 90 = .ok (.iload 4, 2) := by decide +kernel
theorem dX6_open_92 : decode cX6_open 92 = .ok (.iastore, 1) := by decide +kernel
theorem dX6_open_93 : decode cX6_open 93 = .ok (.aload_n 0, 1) := by decide +kernel
theorem dX6_open_94 : decode cX6_open 94 = .ok (.getfield 7, 3) := by decide +kernel
theorem dX6_open_97 : decode cX6_open 97 = .ok (.aload_n 0, 1) := by decide +kernel
theorem dX6_open_98 : decode cX6_open 98 = .ok (.getfield 16, 3) := by decide +kernel
theorem dX6_open_101 : decode cX6_open 101 = .ok (.iload_n 1, 1) := by decide +kernel
theorem dX6_open_102 : decode cX6_open 102 = .ok (.iaload, 1) := by decide +kernel
theorem dX6_open_103 : decode cX6_open 103 = .ok (.dup2, 1) := by decide +kernel
theorem dX6_open_104 : decode cX6_open 104 = .ok (.laload, 1) := by decide +kernel
theorem dX6_open_105 : decode cX6_open 105 = .ok (.aload_n 0, 1) := by decide +kernel
theorem dX6_open_106 : decode cX6_open 106 = .ok (.getfield 20, 3) := by decide +kernel
theorem dX6_open_109 : decode cX6_open 109 = .ok (.iload_n 1, 1) := by decide +kernel
theorem dX6_open_110 : decode cX6_open 110 = .ok (.laload, 1) := by decide +kernel
theorem dX6_open_111 : decode cX6_open 111 = .ok (.ladd, 1) := by decide +kernel
theorem dX6_open_112 : decode cX6_open 112 = .ok (.lastore, 1) := by decide +kernel
theorem dX6_open_113 : decode cX6_open 113 = .ok (.iconst 1, 1) := by decide +kernel
theorem dX6_open_114 : decode cX6_open 114 = .ok (.ireturn, 1) := by decide +kernel
theorem dX6_next_0 : decode cX6_next 0 = .ok (.aload_n 0, 1) := by decide +kernel
theorem dX6_next_1 : decode cX6_next 1 = .ok (.getfield 99, 3) := by decide +kernel
theorem dX6_next_4 : decode cX6_next 4 = .ok (.iconst 2, 1) := by decide +kernel
theorem dX6_next_5 : decode cX6_next 5 = .ok (.if_icmp .ne 19, 3) := by decide +kernel
theorem dX6_next_8 : decode cX6_next 8 = .ok (.aload_n 0, 1) := by decide +kernel
theorem dX6_next_9 : decode cX6_next 9 = .ok (.dup, 1) := by decide +kernel
theorem dX6_next_10 : decode cX6_next 10 = .ok (.getfield 115, 3) := by decide +kernel
theorem dX6_next_13 : decode cX6_next 13 = .ok (.iconst 1, 1) := by decide +kernel
theorem dX6_next_14 : decode cX6_next 14 = .ok (.iadd, 1) := by decide +kernel
theorem dX6_next_15 : decode cX6_next 15 = .ok (.putfield 115, 3) := by decide +kernel
theorem dX6_next_18 : decode cX6_next 18 = .ok (.aload_n 0, 1) := by decide +kernel
theorem dX6_next_19 : decode cX6_next 19 = .ok (.invokevirtual 118, 3) := by decide +kernel
theorem dX6_next_22 : decode cX6_next 22 = .ok (.iconst 0, 1) := by decide +kernel
theorem dX6_next_23 : decode cX6_next 23 = .ok (.ireturn, 1) := by decide +kernel
theorem dX6_next_24 : decode cX6_next 24 = .ok (.aload_n 0, 1) := by decide +kernel
theorem dX6_next_25 : decode cX6_next 25 = .ok (.dup, 1) := by decide +kernel
theorem dX6_next_26 : decode cX6_next 26 = .ok (.getfield 99, 3) := by decide +kernel
theorem dX6_next_29 : decode cX6_next 29 = .ok (.iconst 1, 1) := by decide +kernel
theorem dX6_next_30 : decode cX6_next 30 = .ok (.iadd, 1) := by decide +kernel
theorem dX6_next_31 : decode cX6_next 31 = .ok (.putfield 99, 3) := by decide +kernel
theorem dX6_next_34 : decode cX6_next 34 = .ok (.iconst 0, 1) := by decide +kernel
theorem dX6_next_35 : decode cX6_next 35 = .ok (.istore_n 1, 1) := by decide +kernel
theorem dX6_next_36 : decode cX6_next 36 = .ok (.aload_n 0, 1) := by decide +kernel
theorem dX6_next_37 : decode cX6_next 37 = .ok (.getfield 99, 3) := by decide +kernel
theorem dX6_next_40 : decode cX6_next 40 = .ok (.iconst 2, 1) := by decide +kernel
theorem dX6_next_41 : decode cX6_next 41 = .ok (.if_icmp .ne 45, 3) := by decide +kernel
theorem dX6_next_44 : decode cX6_next 44 = .ok (.iload_n 1, 1) := by decide +kernel
theorem dX6_next_45 : decode cX6_next 45 = .ok (.aload_n 0, 1) := by decide +kernel
theorem dX6_next_46 : decode cX6_next 46 = .ok (.getfield 88, 3) := by decide +kernel
theorem dX6_next_49 : decode cX6_next 49 = .ok (.if_icmp .ge 37, 3) := by decide +kernel
theorem dX6_next_52 : decode cX6_next 52 = .ok (.aload_n 0, 1) := by decide +kernel
theorem dX6_next_53 : decode cX6_next 53 = .ok (.dup, 1) := by decide +kernel
theorem dX6_next_54 : decode cX6_next 54 = .ok (.getfield 112, 3) := by decide +kernel
theorem dX6_next_57 : decode cX6_next 57 = .ok (.aload_n 0, 1) := by decide +kernel
theorem dX6_next_58 : decode cX6_next 58 = .ok (.getfield 26, 3) := by decide +kernel
end
section
theorem dX6_next_61 : decode cX6_next 61 = .ok (.iload_n 1, 1) := by decide +kernel
theorem dX6_next_62 : decode cX6_next 62 = .ok (.baload, 1) := by decide +kernel
theorem dX6_next_63 : decode cX6_next 63 = .ok (.ifCond .eq 7, 3) := by decide +kernel
theorem dX6_next_66 : decode cX6_next 66 = .ok (.lconst 0, 1) := by decide +kernel
theorem dX6_next_67 : decode cX6_next 67 = .ok (.goto 9, 3) := by decide +kernel
theorem dX6_next_70 : decode cX6_next 70 = .ok (.aload_n 0, 1) := by decide +kernel
theorem dX6_next_71 : decode cX6_next 71 = .ok (.getfield 20, 3) := by decide +kernel
theorem dX6_next_74 : decode cX6_next 74 = .ok (.iload_n 1, 1) := by decide +kernel
theorem dX6_next_75 : decode cX6_next 75 = .ok (.laload, 1) := by decide +kernel
theorem dX6_next_76 : decode cX6_next 76 = .ok (.ladd, 1) := by decide +kernel
theorem dX6_next_77 : decode cX6_next 77 = .ok (.putfield 112, 3) := by decide +kernel
theorem dX6_next_80 : decode cX6_next 80 = .ok (.iinc 1 1, 3) := by decide +kernel
theorem dX6_next_83 : decode cX6_next 83 = .ok (.goto (-47), 3) := by decide +kernel
theorem dX6_next_86 : decode cX6_next 86 = .ok (.aload_n 0, 1) := by decide +kernel
theorem dX6_next_87 : decode cX6_next 87 = .ok (.getfield 99, 3) := by decide +kernel
theorem dX6_next_90 : decode cX6_next 90 = .ok (.ireturn, 1) := by decide +kernel
theorem dX6_third_0 : decode cX6_third 0 = .ok (.iconst 0, 1) := by decide +kernel
theorem dX6_third_1 : decode cX6_third 1 = .ok (.istore_n 2, 1) := by decide +kernel
theorem dX6_third_2 : decode cX6_third 2 = .ok (.iload_n 2, 1) := by decide +kernel
theorem dX6_third_3 : decode cX6_third 3 = .ok (.iconst 5, 1) := by decide +kernel
theorem dX6_third_4 : decode cX6_third 4 = .ok (.if_icmp .ge 112, 3) := by decide +kernel
theorem dX6_third_7 : decode cX6_third 7 = .ok (.aload_n 0, 1) := by decide +kernel
theorem dX6_third_8 : decode cX6_third 8 = .ok (.getfield 39, 3) := by decide +kernel
theorem dX6_third_11 : decode cX6_third 11 = .ok (.iconst 5, 1) := by decide +kernel
theorem dX6_third_12 : decode cX6_third 12 = .ok (.iload_n 1, 1) := by decide +kernel
theorem dX6_third_13 : decode cX6_third 13 = .ok (.imul, 1) := by decide +kernel
theorem dX6_third_14 : decode cX6_third 14 = .ok (.iload_n 2, 1) := by decide +kernel
theorem dX6_third_15 : decode cX6_third 15 = .ok (.iadd, 1) := by decide +kernel
theorem dX6_third_16 : decode cX6_third 16 = .ok (.iaload, 1) := by decide +kernel
theorem dX6_third_17 : decode cX6_third 17 = .ok (.istore_n 3, 1) := by decide +kernel
theorem dX6_third_18 : decode cX6_third 18 = .ok (.iconst 0, 1) := by decide +kernel
theorem dX6_third_19 : decode cX6_third 19 = .ok (.istore 4, 2) := by decide +kernel
theorem dX6_third_21 : decode cX6_third 21 = .ok (.iconst 0, 1) := by decide +kernel
theorem dX6_third_22 : decode cX6_third 22 = .ok (.istore 5, 2) := by decide +kernel
theorem dX6_third_24 : decode cX6_third 24 = .ok (.iconst 0, 1) := by decide +kernel
theorem dX6_third_25 : decode cX6_third 25 = .ok (.istore 6, 2) := by decide +kernel
theorem dX6_third_27 : decode cX6_third 27 = .ok (.iload 6, 2) := by decide +kernel
theorem dX6_third_29 : decode cX6_third 29 = .ok (.iconst 5, 1) := by decide +kernel
theorem dX6_third_30 : decode cX6_third 30 = .ok (.if_icmp .ge 59, 3) := by decide +kernel
theorem dX6_third_33 : decode cX6_third 33 = .ok (.aload_n 0, 1) := by decide +kernel
theorem dX6_third_34 : decode cX6_third 34 = .ok (.getfield 39, 3) := by decide +kernel
theorem dX6_third_37 : decode cX6_third 37 = .ok (.iconst 5, 1) := by decide +kernel
theorem dX6_third_38 : decode cX6_third 38 = .ok (.iload_n 1, 1) := by decide +kernel
theorem dX6_third_39 : decode cX6_third 39 = .ok (.imul, 1) := by decide +kernel
theorem dX6_third_40 : decode cX6_third 40 = .ok (.iload 6, 2) := by decide +kernel
theorem dX6_third_42 : decode cX6_third 42 = .ok (.iadd, 1) := by decide +kernel
theorem dX6_third_43 : decode cX6_third 43 = .ok (.iaload, 1) := by decide +kernel
theorem dX6_third_44 : decode cX6_third 44 = .ok (.istore 7, 2) := by decide +kernel
theorem dX6_third_46 : decode cX6_third 46 = .ok (.iload 4, 2) := by decide +kernel
theorem dX6_third_48 : decode cX6_third 48 = .ok (.iload 7, 2) := by decide +kernel
theorem dX6_third_50 : decode cX6_third 50 = .ok (.ifCond .lt 13, 3) := by decide +kernel
theorem dX6_third_53 : decode cX6_third 53 = .ok (.iload 7, 2) := by decide +kernel
theorem dX6_third_55 : decode cX6_third 55 = .ok (.iload_n 3, 1) := by decide +kernel
theorem dX6_third_56 : decode cX6_third 56 = .ok (.if_icmp .ge 7, 3) := by decide +kernel
theorem dX6_third_59 : decode cX6_third 59 = .ok (.iconst 1, 1) := by decide +kernel
theorem dX6_third_60 : decode cX6_third 60 = .ok (.goto 4, 3) := by decide +kernel
theorem dX6_third_63 : decode cX6_third 63 = .ok (.iconst 0, 1) := by decide +kernel
theorem dX6_third_64 : decode cX6_third 64 = .ok (.iadd, 1) := by decide +kernel
theorem dX6_third_65 : decode cX6_third 65 = .ok (.istore 4, 2) := by decide +kernel
theorem dX6_third_67 : decode cX6_third 67 = .ok (.iload 5, 2) := by decide +kernel
theorem dX6_third_69 : decode cX6_third 69 = .ok (.iload 7, 2) := by decide +kernel
theorem dX6_third_71 : decode cX6_third 71 = .ok (.iload_n 3, 1) := by decide +kernel
theorem dX6_third_72 : decode cX6_third 72 = .ok (.if_icmp .ne 7, 3) := by decide +kernel
theorem dX6_third_75 : decode cX6_third 75 = .ok (.iconst 1, 1) := by decide +kernel
theorem dX6_third_76 : decode cX6_third 76 = .ok (.goto 4, 3) := by decide +kernel
theorem dX6_third_79 : decode cX6_third 79 = .ok (.iconst 0, 1) := by decide +kernel
theorem dX6_third_80 : decode cX6_third 80 = .ok (.iadd, 1) := by decide +kernel
theorem dX6_third_81 : decode cX6_third 81 = .ok (.istore 5, 2) := by decide +kernel
theorem dX6_third_83 : decode cX6_third 83 = .ok (.iinc 6 1, 3) := by decide +kernel
theorem dX6_third_86 : decode cX6_third 86 = .ok (.goto (-59), 3) := by decide +kernel
theorem dX6_third_89 : decode cX6_third 89 = .ok (.iload_n 3, 1) := by decide +kernel
theorem dX6_third_90 : decode cX6_third 90 = .ok (.ifCond .lt 20, 3) := by decide +kernel
theorem dX6_third_93 : decode cX6_third 93 = .ok (.iload 4, 2) := by decide +kernel
theorem dX6_third_95 : decode cX6_third 95 = .ok (.iconst 2, 1) := by decide +kernel
theorem dX6_third_96 : decode cX6_third 96 = .ok (.if_icmp .gt 14, 3) := by decide +kernel
theorem dX6_third_99 : decode cX6_third 99 = .ok (.iload 4, 2) := by decide +kernel
theorem dX6_third_101 : decode cX6_third 101 = .ok (.iload 5, 2) := by decide +kernel
theorem dX6_third_103 : decode cX6_third 103 = .ok (.iadd, 1) := by decide +kernel
theorem dX6_third_104 : decode cX6_third 104 = .ok (.iconst 2, 1) := by decide +kernel
theorem dX6_third_105 : decode cX6_third 105 = .ok (.if_icmp .le 5, 3) := by decide +kernel
theorem dX6_third_108 : decode cX6_third 108 = .ok (.iload_n 3, 1) := by decide +kernel
theorem dX6_third_109 : decode cX6_third 109 = .ok (.ireturn, 1) := by decide +kernel
theorem dX6_third_110 : decode cX6_third 110 = .ok (.iinc 2 1, 3) := by decide +kernel
theorem dX6_third_113 : decode cX6_third 113 = .ok (.goto (-111), 3) := by decide +kernel
theorem dX6_third_116 : decode cX6_third 116 = .ok (.ldc 149, 2) := by decide +kernel
theorem dX6_third_118 : decode cX6_third 118 = .ok (.ireturn, 1) := by decide +kernel
theorem dX6_isAhead_0 : decode cX6_isAhead 0 = .ok (.iconst 0, 1) := by decide +kernel
theorem dX6_isAhead_1 : decode cX6_isAhead 1 = .ok (.istore_n 3, 1) := by decide +kernel
theorem dX6_isAhead_2 : decode cX6_isAhead 2 = .ok (.iconst 0, 1) := by decide +kernel
theorem dX6_isAhead_3 : decode cX6_isAhead 3 = .ok (.istore 4, 2) := by decide +kernel
theorem dX6_isAhead_5 : decode cX6_isAhead 5 = .ok (.iload 4, 2) := by decide +kernel
theorem dX6_isAhead_7 : decode cX6_isAhead 7 = .ok (.iconst 5, 1) := by decide +kernel
theorem dX6_isAhead_8 : decode cX6_isAhead 8 = .ok (.if_icmp .ge 99, 3) := by decide +kernel
theorem dX6_isAhead_11 : decode cX6_isAhead 11 = .ok (.aload_n 0, 1) := by decide +kernel
theorem dX6_isAhead_12 : decode cX6_isAhead 12 = .ok (.getfield 39, 3) := by decide +kernel
theorem dX6_isAhead_15 : decode cX6_isAhead 15 = .ok (.iconst 5, 1) := by decide +kernel
theorem dX6_isAhead_16 : decode cX6_isAhead 16 = .ok (.iload_n 1, 1) := by decide +kernel
theorem dX6_isAhead_17 : decode cX6_isAhead 17 = .ok (.imul, 1) := by decide +kernel
theorem dX6_isAhead_18 : decode cX6_isAhead 18 = .ok (.iload 4, 2) := by decide +kernel
theorem dX6_isAhead_20 : decode cX6_isAhead 20 = .ok (.iadd, 1) := by decide +kernel
theorem dX6_isAhead_21 : decode cX6_isAhead 21 = .ok (.iaload, 1) := by decide +kernel
theorem dX6_isAhead_22 : decode cX6_isAhead 22 = .ok (.ifCond .ge 8, 3) := by decide +kernel
theorem dX6_isAhead_25 : decode cX6_isAhead 25 = .ok (.ldc 149, 2) := by decide +kernel
theorem dX6_isAhead_27 : decode cX6_isAhead 27 = .ok (.goto 14, 3) := by decide +kernel
theorem dX6_isAhead_30 : decode cX6_isAhead 30 = .ok (.aload_n 0, 1) := by decide +kernel
theorem dX6_isAhead_31 : decode cX6_isAhead 31 = .ok (.getfield 39, 3) := by decide +kernel
theorem dX6_isAhead_34 : decode cX6_isAhead 34 = .ok (.iconst 5, 1) := by decide +kernel
theorem dX6_isAhead_35 : decode cX6_isAhead 35 = .ok (.iload_n 1, 1) := by decide +kernel
theorem dX6_isAhead_36 : decode cX6_isAhead 36 = .ok (.imul, 1) := by decide +kernel
theorem dX6_isAhead_37 : decode cX6_isAhead 37 = .ok (.iload 4, 2) := by decide +kernel
theorem dX6_isAhead_39 : decode cX6_isAhead 39 = .ok (.iadd, 1) := by decide +kernel
theorem dX6_isAhead_40 : decode cX6_isAhead 40 = .ok (.iaload, 1) := by decide +kernel
theorem dX6_isAhead_41 : decode cX6_isAhead 41 = .ok (.istore 5, 2) := by decide +kernel
theorem dX6_isAhead_43 : decode cX6_isAhead 43 = .ok (.aload_n 0, 1) := by decide +kernel
theorem dX6_isAhead_44 : decode cX6_isAhead 44 = .ok (.getfield 39, 3) := by decide +kernel
theorem dX6_isAhead_47 : decode cX6_isAhead 47 = .ok (.iconst 5, 1) := by decide +kernel
theorem dX6_isAhead_48 : decode cX6_isAhead 48 = .ok (.iload_n 2, 1) := by decide +kernel
theorem dX6_isAhead_49 : decode cX6_isAhead 49 = .ok (.imul, 1) := by decide +kernel
theorem dX6_isAhead_50 : decode cX6_isAhead 50 = .ok (.iload 4, 2) := by decide +kernel
theorem dX6_isAhead_52 : decode cX6_isAhead 52 = .ok (.iadd, 1) := by decide +kernel
theorem dX6_isAhead_53 : decode cX6_isAhead 53 = .ok (.iaload, 1) := by decide +kernel
theorem dX6_isAhead_54 : decode cX6_isAhead 54 = .ok (.ifCond .ge 8, 3) := by decide +kernel
theorem dX6_isAhead_57 : decode cX6_isAhead 57 = .ok (.ldc 149, 2) := by decide +kernel
theorem dX6_isAhead_59 : decode cX6_isAhead 59 = .ok (.goto 14, 3) := by decide +kernel
theorem dX6_isAhead_62 : decode cX6_isAhead 62 = .ok (.aload_n 0, 1) := by decide +kernel
theorem dX6_isAhead_63 : decode cX6_isAhead 63 = .ok (.getfield 39, 3) := by decide +kernel
theorem dX6_isAhead_66 : decode cX6_isAhead 66 = .ok (.iconst 5, 1) := by decide +kernel
theorem dX6_isAhead_67 : decode cX6_isAhead 67 = .ok (.iload_n 2, 1) := by decide +kernel
theorem dX6_isAhead_68 : decode cX6_isAhead 68 = .ok (.imul, 1) := by decide +kernel
theorem dX6_isAhead_69 : decode cX6_isAhead 69 = .ok (.iload 4, 2) := by decide +kernel
theorem dX6_isAhead_71 : decode cX6_isAhead 71 = .ok (.iadd, 1) := by decide +kernel
theorem dX6_isAhead_72 : decode cX6_isAhead 72 = .ok (.iaload, 1) := by decide +kernel
theorem dX6_isAhead_73 : decode cX6_isAhead 73 = .ok (.istore 6, 2) := by decide +kernel
theorem dX6_isAhead_75 : decode cX6_isAhead 75 = .ok (.iload_n 3, 1) := by decide +kernel
theorem dX6_isAhead_76 : decode cX6_isAhead 76 = .ok (.iload 5, 2) := by decide +kernel
theorem dX6_isAhead_78 : decode cX6_isAhead 78 = .ok (.iload 6, 2) := by decide +kernel
theorem dX6_isAhead_80 : decode cX6_isAhead 80 = .ok (.if_icmp .ge 7, 3) := by decide +kernel
theorem dX6_isAhead_83 : decode cX6_isAhead 83 = .ok (.iconst 1, 1) := by decide +kernel
theorem dX6_isAhead_84 : decode cX6_isAhead 84 = .ok (.goto 15, 3) := by decide +kernel
theorem dX6_isAhead_87 : decode cX6_isAhead 87 = .ok (.iload 6, 2) := by decide +kernel
theorem dX6_isAhead_89 : decode cX6_isAhead 89 = .ok (.iload 5, 2) := by decide +kernel
theorem dX6_isAhead_91 : decode cX6_isAhead 91 = .ok (.if_icmp .ge 7, 3) := by decide +kernel
theorem dX6_isAhead_94 : decode cX6_isAhead 94 = .ok (.iconst (-1), 1) := by decide +kernel
theorem dX6_isAhead_95 : decode cX6_isAhead 95 = .ok (.goto 4, 3) := by decide +kernel
theorem dX6_isAhead_98 : decode cX6_isAhead 98 = .ok (.iconst 0, 1) := by decide +kernel
theorem dX6_isAhead_99 : decode cX6_isAhead 99 = .ok (.iadd, 1) := by decide +kernel
theorem dX6_isAhead_100 : decode cX6_isAhead 100 = .ok (.istore_n 3, 1) := by decide +kernel
theorem dX6_isAhead_101 : decode cX6_isAhead 101 = .ok (.iinc 4 1, 3) := by decide +kernel
theorem dX6_isAhead_104 : decode cX6_isAhead 104 = .ok (.goto (-99), 3) := by decide +kernel
theorem dX6_isAhead_107 : decode cX6_isAhead 107 = .ok (.iload_n 3, 1) := by decide +kernel
theorem dX6_isAhead_108 : decode cX6_isAhead 108 = .ok (.ifCond .le 7, 3) := by decide +kernel
theorem dX6_isAhead_111 : decode cX6_isAhead 111 = .ok (.iconst 1, 1) := by decide +kernel
theorem dX6_isAhead_112 : decode cX6_isAhead 112 = .ok (.goto 4, 3) := by decide +kernel
theorem dX6_isAhead_115 : decode cX6_isAhead 115 = .ok (.iconst 0, 1) := by decide +kernel
theorem dX6_isAhead_116 : decode cX6_isAhead 116 = .ok (.ireturn, 1) := by decide +kernel
theorem dX6_leads_0 : decode cX6_leads 0 = .ok (.iconst 0, 1) := by decide +kernel
theorem dX6_leads_1 : decode cX6_leads 1 = .ok (.istore_n 3, 1) := by decide +kernel
theorem dX6_leads_2 : decode cX6_leads 2 = .ok (.iload_n 3, 1) := by decide +kernel
theorem dX6_leads_3 : decode cX6_leads 3 = .ok (.aload_n 0, 1) := by decide +kernel
theorem dX6_leads_4 : decode cX6_leads 4 = .ok (.getfield 88, 3) := by decide +kernel
theorem dX6_leads_7 : decode cX6_leads 7 = .ok (.if_icmp .ge 38, 3) := by decide +kernel
theorem dX6_leads_10 : decode cX6_leads 10 = .ok (.aload_n 0, 1) := by decide +kernel
theorem dX6_leads_11 : decode cX6_leads 11 = .ok (.getfield 70, 3) := by decide +kernel
theorem dX6_leads_14 : decode cX6_leads 14 = .ok (.iload_n 3, 1) := by decide +kernel
theorem dX6_leads_15 : decode cX6_leads 15 = .ok (.aload_n 0, 1) := by decide +kernel
theorem dX6_leads_16 : decode cX6_leads 16 = .ok (.getfield 26, 3) := by decide +kernel
theorem dX6_leads_19 : decode cX6_leads 19 = .ok (.iload_n 3, 1) := by decide +kernel
theorem dX6_leads_20 : decode cX6_leads 20 = .ok (.baload, 1) := by decide +kernel
theorem dX6_leads_21 : decode cX6_leads 21 = .ok (.ifCond .eq 16, 3) := by decide +kernel
theorem dX6_leads_24 : decode cX6_leads 24 = .ok (.aload_n 0, 1) := by decide +kernel
theorem dX6_leads_25 : decode cX6_leads 25 = .ok (.iload_n 1, 1) := by decide +kernel
theorem dX6_leads_26 : decode cX6_leads 26 = .ok (.iload_n 3, 1) := by decide +kernel
theorem dX6_leads_27 : decode cX6_leads 27 = .ok (.invokevirtual 150, 3) := by decide +kernel
theorem dX6_leads_30 : decode cX6_leads 30 = .ok (.ifCond .eq 7, 3) := by decide +kernel
theorem dX6_leads_33 : decode cX6_leads 33 = .ok (.iconst 1, 1) := by decide +kernel
theorem dX6_leads_34 : decode cX6_leads 34 = .ok (.goto 4, 3) := by decide +kernel
theorem dX6_leads_37 : decode cX6_leads 37 = .ok (.iconst 0, 1) := by decide +kernel
theorem dX6_leads_38 : decode cX6_leads 38 = .ok (.bastore, 1) := by decide +kernel
theorem dX6_leads_39 : decode cX6_leads 39 = .ok (.iinc 3 1, 3) := by decide +kernel
theorem dX6_leads_42 : decode cX6_leads 42 = .ok (.goto (-40), 3) := by decide +kernel
theorem dX6_leads_45 : decode cX6_leads 45 = .ok (.iconst 1, 1) := by decide +kernel
theorem dX6_leads_46 : decode cX6_leads 46 = .ok (.istore_n 3, 1) := by decide +kernel
theorem dX6_leads_47 : decode cX6_leads 47 = .ok (.iload_n 3, 1) := by decide +kernel
theorem dX6_leads_48 : decode cX6_leads 48 = .ok (.ifCond .eq 95, 3) := by decide +kernel
theorem dX6_leads_51 : decode cX6_leads 51 = .ok (.iconst 0, 1) := by decide +kernel
theorem dX6_leads_52 : decode cX6_leads 52 = .ok (.istore_n 3, 1) := by decide +kernel
theorem dX6_leads_53 : decode cX6_leads 53 = .ok (.iconst 0, 1) := by decide +kernel
theorem dX6_leads_54 : decode cX6_leads 54 = .ok (.istore 4, 2) := by decide +kernel
theorem dX6_leads_56 : decode cX6_leads 56 = .ok (.iload 4, 2) := by decide +kernel
theorem dX6_leads_58 : decode cX6_leads 58 = .ok (.aload_n 0, 1) := by decide +kernel
theorem dX6_leads_59 : decode cX6_leads 59 = .ok (.getfield 88, 3) := by decide +kernel
theorem dX6_leads_62 : decode cX6_leads 62 = .ok (.if_icmp .ge 78, 3) := by decide +kernel
theorem dX6_leads_65 : decode cX6_leads 65 = .ok (.iconst 0, 1) := by decide +kernel
theorem dX6_leads_66 : decode cX6_leads 66 = .ok (.istore 5, 2) := by decide +kernel
theorem dX6_leads_68 : decode cX6_leads 68 = .ok (.iload 5, 2) := by decide +kernel
theorem dX6_leads_70 : decode cX6_leads 70 = .ok (.aload_n 0, 1) := by decide +kernel
theorem dX6_leads_71 : decode cX6_leads 71 = .ok (.getfield 88, 3) := by decide +kernel
theorem dX6_leads_74 : decode cX6_leads 74 = .ok (.if_icmp .ge 60, 3) := by decide +kernel
theorem dX6_leads_77 : decode cX6_leads 77 = .ok (.aload_n 0, 1) := by decide +kernel
theorem dX6_leads_78 : decode cX6_leads 78 = .ok (.getfield 70, 3) := by decide +kernel
theorem dX6_leads_81 : decode cX6_leads 81 = .ok (.iload 4, 2) := by decide +kernel
theorem dX6_leads_83 : decode cX6_leads 83 = .ok (.baload, 1) := by decide +kernel
theorem dX6_leads_84 : decode cX6_leads 84 = .ok (.ifCond .eq 50, 3) := by decide +kernel
theorem dX6_leads_87 : decode cX6_leads 87 = .ok (.aload_n 0, 1) := by decide +kernel
theorem dX6_leads_88 : decode cX6_leads 88 = .ok (.getfield 26, 3) := by decide +kernel
theorem dX6_leads_91 : decode cX6_leads 91 = .ok (.iload 5, 2) := by decide +kernel
theorem dX6_leads_93 : decode cX6_leads 93 = .ok (.baload, 1) := by decide +kernel
theorem dX6_leads_94 : decode cX6_leads 94 = .ok (.ifCond .eq 34, 3) := by decide +kernel
theorem dX6_leads_97 : decode cX6_leads 97 = .ok (.aload_n 0, 1) := by decide +kernel
theorem dX6_leads_98 : decode cX6_leads 98 = .ok (.getfield 70, 3) := by decide +kernel
theorem dX6_leads_101 : decode cX6_leads 101 = .ok (.iload 5, 2) := by decide +kernel
theorem dX6_leads_103 : decode cX6_leads 103 = .ok (.baload, 1) := by decide +kernel
theorem dX6_leads_104 : decode cX6_leads 104 = .ok (.ifCond .ne 24, 3) := by decide +kernel
theorem dX6_leads_107 : decode cX6_leads 107 = .ok (.aload_n 0, 1) := by decide +kernel
theorem dX6_leads_108 : decode cX6_leads 108 = .ok (.iload 4, 2) := by decide +kernel
theorem dX6_leads_110 : decode cX6_leads 110 = .ok (.iload 5, 2) := by decide +kernel
theorem dX6_leads_112 : decode cX6_leads 112 = .ok (.invokevirtual 150, 3) := by decide +kernel
theorem dX6_leads_115 : decode cX6_leads 115 = .ok (.ifCond .eq 13, 3) := by decide +kernel
theorem dX6_leads_118 : decode cX6_leads 118 = .ok (.aload_n 0, 1) := by decide +kernel
theorem dX6_leads_119 : decode cX6_leads 119 = .ok (.getfield 70, 3) := by decide +kernel
theorem dX6_leads_122 : decode cX6_leads 122 = .ok (.iload 5, 2) := by decide +kernel
theorem dX6_leads_124 : decode cX6_leads 124 = .ok (.iconst 1, 1) := by decide +kernel
theorem dX6_leads_125 : decode cX6_leads 125 = .ok (.bastore, 1) := by decide +kernel
theorem dX6_leads_126 : decode cX6_leads 126 = .ok (.iconst 1, 1) := by decide +kernel
theorem dX6_leads_127 : decode cX6_leads 127 = .ok (.istore_n 3, 1) := by decide +kernel
theorem dX6_leads_128 : decode cX6_leads 128 = .ok (.iinc 5 1, 3) := by decide +kernel
theorem dX6_leads_131 : decode cX6_leads 131 = .ok (.goto (-63), 3) := by decide +kernel
theorem dX6_leads_134 : decode cX6_leads 134 = .ok (.iinc 4 1, 3) := by decide +kernel
theorem dX6_leads_137 : decode cX6_leads 137 = .ok (.goto (-81), 3) := by decide +kernel
theorem dX6_leads_140 : decode cX6_leads 140 = .ok (.goto (-93), 3) := by decide +kernel
theorem dX6_leads_143 : decode cX6_leads 143 = .ok (.aload_n 0, 1) := by decide +kernel
theorem dX6_leads_144 : decode cX6_leads 144 = .ok (.getfield 70, 3) := by decide +kernel
theorem dX6_leads_147 : decode cX6_leads 147 = .ok (.iload_n 2, 1) := by decide +kernel
theorem dX6_leads_148 : decode cX6_leads 148 = .ok (.baload, 1) := by decide +kernel
theorem dX6_leads_149 : decode cX6_leads 149 = .ok (.ireturn, 1) := by decide +kernel
theorem dX6_tie_0 : decode cX6_tie 0 = .ok (.iconst 0, 1) := by decide +kernel
theorem dX6_tie_1 : decode cX6_tie 1 = .ok (.istore_n 2, 1) := by decide +kernel
theorem dX6_tie_2 : decode cX6_tie 2 = .ok (.iload_n 2, 1) := by decide +kernel
theorem dX6_tie_3 : decode cX6_tie 3 = .ok (.aload_n 0, 1) := by decide +kernel
theorem dX6_tie_4 : decode cX6_tie 4 = .ok (.getfield 88, 3) := by decide +kernel
theorem dX6_tie_7 : decode cX6_tie 7 = .ok (.if_icmp .ge 52, 3) := by decide +kernel
theorem dX6_tie_10 : decode cX6_tie 10 = .ok (.aload_n 0, 1) := by decide +kernel
theorem dX6_tie_11 : decode cX6_tie 11 = .ok (.getfield 76, 3) := by decide +kernel
theorem dX6_tie_14 : decode cX6_tie 14 = .ok (.iload_n 2, 1) := by decide +kernel
theorem dX6_tie_15 : decode cX6_tie 15 = .ok (.aload_n 0, 1) := by decide +kernel
theorem dX6_tie_16 : decode cX6_tie 16 = .ok (.getfield 73, 3) := by decide +kernel
theorem dX6_tie_19 : decode cX6_tie 19 = .ok (.iload_n 2, 1) := by decide +kernel
theorem dX6_tie_20 : decode cX6_tie 20 = .ok (.baload, 1) := by decide +kernel
theorem dX6_tie_21 : decode cX6_tie 21 = .ok (.ifCond .eq 30, 3) := by decide +kernel
theorem dX6_tie_24 : decode cX6_tie 24 = .ok (.iload_n 2, 1) := by decide +kernel
theorem dX6_tie_25 : decode cX6_tie 25 = .ok (.iload_n 1, 1) := by decide +kernel
theorem dX6_tie_26 : decode cX6_tie 26 = .ok (.if_icmp .eq 21, 3) := by decide +kernel
theorem dX6_tie_29 : decode cX6_tie 29 = .ok (.aload_n 0, 1) := by decide +kernel
theorem dX6_tie_30 : decode cX6_tie 30 = .ok (.iload_n 1, 1) := by decide +kernel
theorem dX6_tie_31 : decode cX6_tie 31 = .ok (.iload_n 2, 1) := by decide +kernel
theorem dX6_tie_32 : decode cX6_tie 32 = .ok (.invokevirtual 154, 3) := by decide +kernel
theorem dX6_tie_35 : decode cX6_tie 35 = .ok (.ifCond .eq 16, 3) := by decide +kernel
theorem dX6_tie_38 : decode cX6_tie 38 = .ok (.aload_n 0, 1) := by decide +kernel
theorem dX6_tie_39 : decode cX6_tie 39 = .ok (.iload_n 2, 1) := by decide +kernel
theorem dX6_tie_40 : decode cX6_tie 40 = .ok (.iload_n 1, 1) := by decide +kernel
theorem dX6_tie_41 : decode cX6_tie 41 = .ok (.invokevirtual 154, 3) := by decide +kernel
theorem dX6_tie_44 : decode cX6_tie 44 = .ok (.ifCond .eq 7, 3) := by decide +kernel
theorem dX6_tie_47 : decode cX6_tie 47 = .ok (.iconst 1, 1) := by decide +kernel
theorem dX6_tie_48 : decode cX6_tie 48 = .ok (.goto 4, 3) := by decide +kernel
theorem dX6_tie_51 : decode cX6_tie 51 = .ok (.iconst 0, 1) := by decide +kernel
theorem dX6_tie_52 : decode cX6_tie 52 = .ok (.bastore, 1) := by decide +kernel
theorem dX6_tie_53 : decode cX6_tie 53 = .ok (.iinc 2 1, 3) := by decide +kernel
theorem dX6_tie_56 : decode cX6_tie 56 = .ok (.goto (-54), 3) := by decide +kernel
theorem dX6_tie_59 : decode cX6_tie 59 = .ok (.return_, 1) := by decide +kernel
theorem dX6_isHeld_0 : decode cX6_isHeld 0 = .ok (.iconst 0, 1) := by decide +kernel
theorem dX6_isHeld_1 : decode cX6_isHeld 1 = .ok (.istore_n 1, 1) := by decide +kernel
theorem dX6_isHeld_2 : decode cX6_isHeld 2 = .ok (.iload_n 1, 1) := by decide +kernel
theorem dX6_isHeld_3 : decode cX6_isHeld 3 = .ok (.aload_n 0, 1) := by decide +kernel
theorem dX6_isHeld_4 : decode cX6_isHeld 4 = .ok (.getfield 88, 3) := by decide +kernel
theorem dX6_isHeld_7 : decode cX6_isHeld 7 = .ok (.if_icmp .ge 63, 3) := by decide +kernel
theorem dX6_isHeld_10 : decode cX6_isHeld 10 = .ok (.iconst 0, 1) := by decide +kernel
theorem dX6_isHeld_11 : decode cX6_isHeld 11 = .ok (.istore_n 2, 1) := by decide +kernel
theorem dX6_isHeld_12 : decode cX6_isHeld 12 = .ok (.iload_n 2, 1) := by decide +kernel
theorem dX6_isHeld_13 : decode cX6_isHeld 13 = .ok (.aload_n 0, 1) := by decide +kernel
theorem dX6_isHeld_14 : decode cX6_isHeld 14 = .ok (.getfield 88, 3) := by decide +kernel
theorem dX6_isHeld_17 : decode cX6_isHeld 17 = .ok (.if_icmp .ge 47, 3) := by decide +kernel
theorem dX6_isHeld_20 : decode cX6_isHeld 20 = .ok (.aload_n 0, 1) := by decide +kernel
theorem dX6_isHeld_21 : decode cX6_isHeld 21 = .ok (.getfield 76, 3) := by decide +kernel
theorem dX6_isHeld_24 : decode cX6_isHeld 24 = .ok (.iload_n 1, 1) := by decide +kernel
theorem dX6_isHeld_25 : decode cX6_isHeld 25 = .ok (.baload, 1) := by decide +kernel
theorem dX6_isHeld_26 : decode cX6_isHeld 26 = .ok (.ifCond .eq 32, 3) := by decide +kernel
theorem dX6_isHeld_29 : decode cX6_isHeld 29 = .ok (.aload_n 0, 1) := by decide +kernel
theorem dX6_isHeld_30 : decode cX6_isHeld 30 = .ok (.getfield 73, 3) := by decide +kernel
theorem dX6_isHeld_33 : decode cX6_isHeld 33 = .ok (.iload_n 2, 1) := by decide +kernel
theorem dX6_isHeld_34 : decode cX6_isHeld 34 = .ok (.baload, 1) := by decide +kernel
theorem dX6_isHeld_35 : decode cX6_isHeld 35 = .ok (.ifCond .eq 23, 3) := by decide +kernel
theorem dX6_isHeld_38 : decode cX6_isHeld 38 = .ok (.aload_n 0, 1) := by decide +kernel
theorem dX6_isHeld_39 : decode cX6_isHeld 39 = .ok (.getfield 76, 3) := by decide +kernel
theorem dX6_isHeld_42 : decode cX6_isHeld 42 = .ok (.iload_n 2, 1) := by decide +kernel
theorem dX6_isHeld_43 : decode cX6_isHeld 43 = .ok (.baload, 1) := by decide +kernel
theorem dX6_isHeld_44 : decode cX6_isHeld 44 = .ok (.ifCond .ne 14, 3) := by decide +kernel
theorem dX6_isHeld_47 : decode cX6_isHeld 47 = .ok (.aload_n 0, 1) := by decide +kernel
theorem dX6_isHeld_48 : decode cX6_isHeld 48 = .ok (.iload_n 2, 1) := by decide +kernel
theorem dX6_isHeld_49 : decode cX6_isHeld 49 = .ok (.iload_n 1, 1) := by decide +kernel
theorem dX6_isHeld_50 : decode cX6_isHeld 50 = .ok (.invokevirtual 154, 3) := by decide +kernel
theorem dX6_isHeld_53 : decode cX6_isHeld 53 = .ok (.ifCond .eq 5, 3) := by decide +kernel
theorem dX6_isHeld_56 : decode cX6_isHeld 56 = .ok (.iconst 1, 1) := by decide +kernel
theorem dX6_isHeld_57 : decode cX6_isHeld 57 = .ok (.ireturn, 1) := by decide +kernel
theorem dX6_isHeld_58 : decode cX6_isHeld 58 = .ok (.iinc 2 1, 3) := by decide +kernel
theorem dX6_isHeld_61 : decode cX6_isHeld 61 = .ok (.goto (-49), 3) := by decide +kernel
theorem dX6_isHeld_64 : decode cX6_isHeld 64 = .ok (.iinc 1 1, 3) := by decide +kernel
theorem dX6_isHeld_67 : decode cX6_isHeld 67 = .ok (.goto (-65), 3) := by decide +kernel
theorem dX6_isHeld_70 : decode cX6_isHeld 70 = .ok (.iconst 0, 1) := by decide +kernel
theorem dX6_isHeld_71 : decode cX6_isHeld 71 = .ok (.ireturn, 1) := by decide +kernel
theorem dX6_fair_0 : decode cX6_fair 0 = .ok (.iconst 0, 1) := by decide +kernel
theorem dX6_fair_1 : decode cX6_fair 1 = .ok (.istore_n 1, 1) := by decide +kernel
theorem dX6_fair_2 : decode cX6_fair 2 = .ok (.iload_n 1, 1) := by decide +kernel
theorem dX6_fair_3 : decode cX6_fair 3 = .ok (.aload_n 0, 1) := by decide +kernel
theorem dX6_fair_4 : decode cX6_fair 4 = .ok (.getfield 88, 3) := by decide +kernel
theorem dX6_fair_7 : decode cX6_fair 7 = .ok (.if_icmp .ge 21, 3) := by decide +kernel
theorem dX6_fair_10 : decode cX6_fair 10 = .ok (.aload_n 0, 1) := by decide +kernel
theorem dX6_fair_11 : decode cX6_fair 11 = .ok (.getfield 73, 3) := by decide +kernel
theorem dX6_fair_14 : decode cX6_fair 14 = .ok (.iload_n 1, 1) := by decide +kernel
theorem dX6_fair_15 : decode cX6_fair 15 = .ok (.aload_n 0, 1) := by decide +kernel
theorem dX6_fair_16 : decode cX6_fair 16 = .ok (.getfield 26, 3) := by decide +kernel
theorem dX6_fair_19 : decode cX6_fair 19 = .ok (.iload_n 1, 1) := by decide +kernel
theorem dX6_fair_20 : decode cX6_fair 20 = .ok (.baload, 1) := by decide +kernel
theorem dX6_fair_21 : decode cX6_fair 21 = .ok (.bastore, 1) := by decide +kernel
theorem dX6_fair_22 : decode cX6_fair 22 = .ok (.iinc 1 1, 3) := by decide +kernel
theorem dX6_fair_25 : decode cX6_fair 25 = .ok (.goto (-23), 3) := by decide +kernel
theorem dX6_fair_28 : decode cX6_fair 28 = .ok (.iconst 0, 1) := by decide +kernel
theorem dX6_fair_29 : decode cX6_fair 29 = .ok (.istore_n 1, 1) := by decide +kernel
theorem dX6_fair_30 : decode cX6_fair 30 = .ok (.iload_n 1, 1) := by decide +kernel
theorem dX6_fair_31 : decode cX6_fair 31 = .ok (.aload_n 0, 1) := by decide +kernel
theorem dX6_fair_32 : decode cX6_fair 32 = .ok (.getfield 42, 3) := by decide +kernel
theorem dX6_fair_35 : decode cX6_fair 35 = .ok (.if_icmp .ge 94, 3) := by decide +kernel
theorem dX6_fair_38 : decode cX6_fair 38 = .ok (.iconst 0, 1) := by decide +kernel
theorem dX6_fair_39 : decode cX6_fair 39 = .ok (.istore_n 2, 1) := by decide +kernel
theorem dX6_fair_40 : decode cX6_fair 40 = .ok (.iconst 0, 1) := by decide +kernel
theorem dX6_fair_41 : decode cX6_fair 41 = .ok (.istore_n 3, 1) := by decide +kernel
theorem dX6_fair_42 : decode cX6_fair 42 = .ok (.iload_n 3, 1) := by decide +kernel
theorem dX6_fair_43 : decode cX6_fair 43 = .ok (.ifCond .ne 36, 3) := by decide +kernel
theorem dX6_fair_46 : decode cX6_fair 46 = .ok (.aload_n 0, 1) := by decide +kernel
theorem dX6_fair_47 : decode cX6_fair 47 = .ok (.getfield 73, 3) := by decide +kernel
theorem dX6_fair_50 : decode cX6_fair 50 = .ok (.iload_n 2, 1) := by decide +kernel
theorem dX6_fair_51 : decode cX6_fair 51 = .ok (.baload, 1) := by decide +kernel
theorem dX6_fair_52 : decode cX6_fair 52 = .ok (.ifCond .eq 21, 3) := by decide +kernel
theorem dX6_fair_55 : decode cX6_fair 55 = .ok (.aload_n 0, 1) := by decide +kernel
theorem dX6_fair_56 : decode cX6_fair 56 = .ok (.iload_n 2, 1) := by decide +kernel
theorem dX6_fair_57 : decode cX6_fair 57 = .ok (.invokevirtual 157, 3) := by decide +kernel
theorem dX6_fair_60 : decode cX6_fair 60 = .ok (.aload_n 0, 1) := by decide +kernel
theorem dX6_fair_61 : decode cX6_fair 61 = .ok (.invokevirtual 161, 3) := by decide +kernel
theorem dX6_fair_64 : decode cX6_fair 64 = .ok (.ifCond .ne 7, 3) := by decide +kernel
theorem dX6_fair_67 : decode cX6_fair 67 = .ok (.iconst 1, 1) := by decide +kernel
theorem dX6_fair_68 : decode cX6_fair 68 = .ok (.goto 4, 3) := by decide +kernel
theorem dX6_fair_71 : decode cX6_fair 71 = .ok (.iconst 0, 1) := by decide +kernel
theorem dX6_fair_72 : decode cX6_fair 72 = .ok (.istore_n 3, 1) := by decide +kernel
theorem dX6_fair_73 : decode cX6_fair 73 = .ok (.iinc 2 1, 3) := by decide +kernel
theorem dX6_fair_76 : decode cX6_fair 76 = .ok (.goto (-34), 3) := by decide +kernel
theorem dX6_fair_79 : decode cX6_fair 79 = .ok (.iconst 0, 1) := by decide +kernel
theorem dX6_fair_80 : decode cX6_fair 80 = .ok (.istore 4, 2) := by decide +kernel
theorem dX6_fair_82 : decode cX6_fair 82 = .ok (.iload 4, 2) := by decide +kernel
theorem dX6_fair_84 : decode cX6_fair 84 = .ok (.aload_n 0, 1) := by decide +kernel
theorem dX6_fair_85 : decode cX6_fair 85 = .ok (.getfield 88, 3) := by decide +kernel
theorem dX6_fair_88 : decode cX6_fair 88 = .ok (.if_icmp .ge 38, 3) := by decide +kernel
theorem dX6_fair_91 : decode cX6_fair 91 = .ok (.aload_n 0, 1) := by decide +kernel
theorem dX6_fair_92 : decode cX6_fair 92 = .ok (.getfield 76, 3) := by decide +kernel
theorem dX6_fair_95 : decode cX6_fair 95 = .ok (.iload 4, 2) := by decide +kernel
theorem dX6_fair_97 : decode cX6_fair 97 = .ok (.baload, 1) := by decide +kernel
theorem dX6_fair_98 : decode cX6_fair 98 = .ok (.ifCond .eq 22, 3) := by decide +kernel
theorem dX6_fair_101 : decode cX6_fair 101 = .ok (.aload_n 0, 1) := by decide +kernel
theorem dX6_fair_102 : decode cX6_fair 102 = .ok (.getfield 46, 3) := by decide +kernel
theorem dX6_fair_105 : decode cX6_fair 105 = .ok (.iload_n 1, 1) := by decide +kernel
theorem dX6_fair_106 : decode cX6_fair 106 = .ok (.iload 4, 2) := by decide +kernel
theorem dX6_fair_108 : decode cX6_fair 108 = .ok (.iastore, 1) := by decide +kernel
theorem dX6_fair_109 : decode cX6_fair 109 = .ok (.iinc 1 1, 3) := by decide +kernel
theorem dX6_fair_112 : decode cX6_fair 112 = .ok (.aload_n 0, 1) := by decide +kernel
theorem dX6_fair_113 : decode cX6_fair 113 = .ok (.getfield 73, 3) := by decide +kernel
theorem dX6_fair_116 : decode cX6_fair 116 = .ok (.iload 4, 2) := by decide +kernel
theorem dX6_fair_118 : decode cX6_fair 118 = .ok (.iconst 0, 1) := by decide +kernel
theorem dX6_fair_119 : decode cX6_fair 119 = .ok (.bastore, 1) := by decide +kernel
theorem dX6_fair_120 : decode cX6_fair 120 = .ok (.iinc 4 1, 3) := by decide +kernel
theorem dX6_fair_123 : decode cX6_fair 123 = .ok (.goto (-41), 3) := by decide +kernel
theorem dX6_fair_126 : decode cX6_fair 126 = .ok (.goto (-96), 3) := by decide +kernel
theorem dX6_fair_129 : decode cX6_fair 129 = .ok (.return_, 1) := by decide +kernel
theorem dX6_byLot_0 : decode cX6_byLot 0 = .ok (.lload_n 1, 1) := by decide +kernel
theorem dX6_byLot_1 : decode cX6_byLot 1 = .ok (.lstore_n 3, 1) := by decide +kernel
theorem dX6_byLot_2 : decode cX6_byLot 2 = .ok (.aload_n 0, 1) := by decide +kernel
theorem dX6_byLot_3 : decode cX6_byLot 3 = .ok (.getfield 42, 3) := by decide +kernel
theorem dX6_byLot_6 : decode cX6_byLot 6 = .ok (.iconst 1, 1) := by decide +kernel
theorem dX6_byLot_7 : decode cX6_byLot 7 = .ok (.isub, 1) := by decide +kernel
theorem dX6_byLot_8 : decode cX6_byLot 8 = .ok (.istore 5, 2) := by decide +kernel
theorem dX6_byLot_10 : decode cX6_byLot 10 = .ok (.iload 5, 2) := by decide +kernel
theorem dX6_byLot_12 : decode cX6_byLot 12 = .ok (.ifCond .le 64, 3) := by decide +kernel
theorem dX6_byLot_15 : decode cX6_byLot 15 = .ok (.lload_n 3, 1) := by decide +kernel
theorem dX6_byLot_16 : decode cX6_byLot 16 = .ok (.ldc2_w 135, 3) := by decide +kernel
theorem dX6_byLot_19 : decode cX6_byLot 19 = .ok (.lmul, 1) := by decide +kernel
theorem dX6_byLot_20 : decode cX6_byLot 20 = .ok (.ldc2_w 165, 3) := by decide +kernel
theorem dX6_byLot_23 : decode cX6_byLot 23 = .ok (.ladd, 1) := by decide +kernel
theorem dX6_byLot_24 : decode cX6_byLot 24 = .ok (.lstore_n 3, 1) := by decide +kernel
theorem dX6_byLot_25 : decode cX6_byLot 25 = .ok (.lload_n 3, 1) := by decide +kernel
theorem dX6_byLot_26 : decode cX6_byLot 26 = .ok (.bipush 33, 2) := by decide +kernel
theorem dX6_byLot_28 : decode cX6_byLot 28 = .ok (.lushr, 1) := by decide +kernel
theorem dX6_byLot_29 : decode cX6_byLot 29 = .ok (.iload 5, 2) := by decide +kernel
theorem dX6_byLot_31 : decode cX6_byLot 31 = .ok (.i2l, 1) := by decide +kernel
theorem dX6_byLot_32 : decode cX6_byLot 32 = .ok (.lconst 1, 1) := by decide +kernel
theorem dX6_byLot_33 : decode cX6_byLot 33 = .ok (.ladd, 1) := by decide +kernel
theorem dX6_byLot_34 : decode cX6_byLot 34 = .ok (.lrem, 1) := by decide +kernel
theorem dX6_byLot_35 : decode cX6_byLot 35 = .ok (.l2i, 1) := by decide +kernel
theorem dX6_byLot_36 : decode cX6_byLot 36 = .ok (.istore 6, 2) := by decide +kernel
theorem dX6_byLot_38 : decode cX6_byLot 38 = .ok (.aload_n 0, 1) := by decide +kernel
theorem dX6_byLot_39 : decode cX6_byLot 39 = .ok (.getfield 46, 3) := by decide +kernel
theorem dX6_byLot_42 : decode cX6_byLot 42 = .ok (.iload 5, 2) := by decide +kernel
theorem dX6_byLot_44 : decode cX6_byLot 44 = .ok (.iaload, 1) := by decide +kernel
theorem dX6_byLot_45 : decode cX6_byLot 45 = .ok (.istore 7, 2) := by decide +kernel
theorem dX6_byLot_47 : decode cX6_byLot 47 = .ok (.aload_n 0, 1) := by decide +kernel
theorem dX6_byLot_48 : decode cX6_byLot 48 = .ok (.getfield 46, 3) := by decide +kernel
theorem dX6_byLot_51 : decode cX6_byLot 51 = .ok (.iload 5, 2) := by decide +kernel
theorem dX6_byLot_53 : decode cX6_byLot 53 = .ok (.aload_n 0, 1) := by decide +kernel
theorem dX6_byLot_54 : decode cX6_byLot 54 = .ok (.getfield 46, 3) := by decide +kernel
theorem dX6_byLot_57 : decode cX6_byLot 57 = .ok (.iload 6, 2) := by decide +kernel
theorem dX6_byLot_59 : decode cX6_byLot 59 = .ok (.iaload, 1) := by decide +kernel
theorem dX6_byLot_60 : decode cX6_byLot 60 = .ok (.iastore, 1) := by decide +kernel
theorem dX6_byLot_61 : decode cX6_byLot 61 = .ok (.aload_n 0, 1) := by decide +kernel
theorem dX6_byLot_62 : decode cX6_byLot 62 = .ok (.getfield 46, 3) := by decide +kernel
theorem dX6_byLot_65 : decode cX6_byLot 65 = .ok (.iload 6, 2) := by decide +kernel
theorem dX6_byLot_67 : decode cX6_byLot 67 = .ok (.iload 7, 2) := by decide +kernel
theorem dX6_byLot_69 : decode cX6_byLot 69 = .ok (.iastore, 1) := by decide +kernel
theorem dX6_byLot_70 : decode cX6_byLot 70 = .ok (.iinc 5 (-1), 3) := by decide +kernel
theorem dX6_byLot_73 : decode cX6_byLot 73 = .ok (.goto (-63), 3) := by decide +kernel
theorem dX6_byLot_76 : decode cX6_byLot 76 = .ok (.return_, 1) := by decide +kernel
theorem dX6_rankOf_0 : decode cX6_rankOf 0 = .ok (.iload_n 1, 1) := by decide +kernel
theorem dX6_rankOf_1 : decode cX6_rankOf 1 = .ok (.iconst 1, 1) := by decide +kernel
theorem dX6_rankOf_2 : decode cX6_rankOf 2 = .ok (.if_icmp .ne 16, 3) := by decide +kernel
theorem dX6_rankOf_5 : decode cX6_rankOf 5 = .ok (.sipush 1000, 3) := by decide +kernel
theorem dX6_rankOf_8 : decode cX6_rankOf 8 = .ok (.aload_n 0, 1) := by decide +kernel
theorem dX6_rankOf_9 : decode cX6_rankOf 9 = .ok (.getfield 33, 3) := by decide +kernel
theorem dX6_rankOf_12 : decode cX6_rankOf 12 = .ok (.iload_n 2, 1) := by decide +kernel
theorem dX6_rankOf_13 : decode cX6_rankOf 13 = .ok (.iaload, 1) := by decide +kernel
theorem dX6_rankOf_14 : decode cX6_rankOf 14 = .ok (.isub, 1) := by decide +kernel
theorem dX6_rankOf_15 : decode cX6_rankOf 15 = .ok (.goto 17, 3) := by decide +kernel
theorem dX6_rankOf_18 : decode cX6_rankOf 18 = .ok (.iload_n 1, 1) := by decide +kernel
theorem dX6_rankOf_19 : decode cX6_rankOf 19 = .ok (.iconst 2, 1) := by decide +kernel
theorem dX6_rankOf_20 : decode cX6_rankOf 20 = .ok (.if_icmp .ne 11, 3) := by decide +kernel
theorem dX6_rankOf_23 : decode cX6_rankOf 23 = .ok (.aload_n 0, 1) := by decide +kernel
theorem dX6_rankOf_24 : decode cX6_rankOf 24 = .ok (.iload_n 2, 1) := by decide +kernel
theorem dX6_rankOf_25 : decode cX6_rankOf 25 = .ok (.invokevirtual 167, 3) := by decide +kernel
theorem dX6_rankOf_28 : decode cX6_rankOf 28 = .ok (.goto 4, 3) := by decide +kernel
theorem dX6_rankOf_31 : decode cX6_rankOf 31 = .ok (.iconst 0, 1) := by decide +kernel
theorem dX6_rankOf_32 : decode cX6_rankOf 32 = .ok (.ireturn, 1) := by decide +kernel
theorem dX6_order_0 : decode cX6_order 0 = .ok (.iload_n 1, 1) := by decide +kernel
theorem dX6_order_1 : decode cX6_order 1 = .ok (.i2l, 1) := by decide +kernel
theorem dX6_order_2 : decode cX6_order 2 = .ok (.lconst 0, 1) := by decide +kernel
theorem dX6_order_3 : decode cX6_order 3 = .ok (.ldc2_w 139, 3) := by decide +kernel
theorem dX6_order_6 : decode cX6_order 6 = .ok (.invokestatic 91, 3) := by decide +kernel
theorem dX6_order_9 : decode cX6_order 9 = .ok (.ifCond .ne 6, 3) := by decide +kernel
theorem dX6_order_12 : decode cX6_order 12 = .ok (.bipush (-2), 2) := by decide +kernel
theorem dX6_order_14 : decode cX6_order 14 = .ok (.ireturn, 1) := by decide +kernel
theorem dX6_order_15 : decode cX6_order 15 = .ok (.aload_n 0, 1) := by decide +kernel
theorem dX6_order_16 : decode cX6_order 16 = .ok (.getfield 99, 3) := by decide +kernel
theorem dX6_order_19 : decode cX6_order 19 = .ok (.iconst 2, 1) := by decide +kernel
theorem dX6_order_20 : decode cX6_order 20 = .ok (.if_icmp .eq 6, 3) := by decide +kernel
theorem dX6_order_23 : decode cX6_order 23 = .ok (.bipush (-4), 2) := by decide +kernel
theorem dX6_order_25 : decode cX6_order 25 = .ok (.ireturn, 1) := by decide +kernel
theorem dX6_order_26 : decode cX6_order 26 = .ok (.aload_n 0, 1) := by decide +kernel
theorem dX6_order_27 : decode cX6_order 27 = .ok (.iconst 0, 1) := by decide +kernel
theorem dX6_order_28 : decode cX6_order 28 = .ok (.putfield 42, 3) := by decide +kernel
theorem dX6_order_31 : decode cX6_order 31 = .ok (.iconst 0, 1) := by decide +kernel
theorem dX6_order_32 : decode cX6_order 32 = .ok (.istore 4, 2) := by decide +kernel
theorem dX6_order_34 : decode cX6_order 34 = .ok (.iload 4, 2) := by decide +kernel
theorem dX6_order_36 : decode cX6_order 36 = .ok (.aload_n 0, 1) := by decide +kernel
theorem dX6_order_37 : decode cX6_order 37 = .ok (.getfield 88, 3) := by decide +kernel
theorem dX6_order_40 : decode cX6_order 40 = .ok (.if_icmp .ge 95, 3) := by decide +kernel
theorem dX6_order_43 : decode cX6_order 43 = .ok (.aload_n 0, 1) := by decide +kernel
theorem dX6_order_44 : decode cX6_order 44 = .ok (.getfield 26, 3) := by decide +kernel
theorem dX6_order_47 : decode cX6_order 47 = .ok (.iload 4, 2) := by decide +kernel
theorem dX6_order_49 : decode cX6_order 49 = .ok (.baload, 1) := by decide +kernel
theorem dX6_order_50 : decode cX6_order 50 = .ok (.ifCond .eq 79, 3) := by decide +kernel
theorem dX6_order_53 : decode cX6_order 53 = .ok (.aload_n 0, 1) := by decide +kernel
theorem dX6_order_54 : decode cX6_order 54 = .ok (.getfield 42, 3) := by decide +kernel
theorem dX6_order_57 : decode cX6_order 57 = .ok (.istore 5, 2) := by decide +kernel
theorem dX6_order_59 : decode cX6_order 59 = .ok (.iload 5, 2) := by decide +kernel
theorem dX6_order_61 : decode cX6_order 61 = .ok (.ifCond .le 49, 3) := by decide +kernel
theorem dX6_order_64 : decode cX6_order 64 = .ok (.aload_n 0, 1) := by decide +kernel
theorem dX6_order_65 : decode cX6_order 65 = .ok (.iload_n 1, 1) := by decide +kernel
theorem dX6_order_66 : decode cX6_order 66 = .ok (.aload_n 0, 1) := by decide +kernel
theorem dX6_order_67 : decode cX6_order 67 = .ok (.getfield 46, 3) := by decide +kernel
theorem dX6_order_70 : decode cX6_order 70 = .ok (.iload 5, 2) := by decide +kernel
theorem dX6_order_72 : decode cX6_order 72 = .ok (.iconst 1, 1) := by decide +kernel
theorem dX6_order_73 : decode cX6_order 73 = .ok (.isub, 1) := by decide +kernel
theorem dX6_order_74 : decode cX6_order 74 = .ok (.iaload, 1) := by decide +kernel
theorem dX6_order_75 : decode cX6_order 75 = .ok (.invokevirtual 171, 3) := by decide +kernel
theorem dX6_order_78 : decode cX6_order 78 = .ok (.aload_n 0, 1) := by decide +kernel
theorem dX6_order_79 : decode cX6_order 79 = .ok (.iload_n 1, 1) := by decide +kernel
theorem dX6_order_80 : decode cX6_order 80 = .ok (.iload 4, 2) := by decide +kernel
theorem dX6_order_82 : decode cX6_order 82 = .ok (.invokevirtual 171, 3) := by decide +kernel
theorem dX6_order_85 : decode cX6_order 85 = .ok (.if_icmp .le 25, 3) := by decide +kernel
theorem dX6_order_88 : decode cX6_order 88 = .ok (.aload_n 0, 1) := by decide +kernel
theorem dX6_order_89 : decode cX6_order 89 = .ok (.getfield 46, 3) := by decide +kernel
theorem dX6_order_92 : decode cX6_order 92 = .ok (.iload 5, 2) := by decide +kernel
theorem dX6_order_94 : decode cX6_order 94 = .ok (.aload_n 0, 1) := by decide +kernel
theorem dX6_order_95 : decode cX6_order 95 = .ok (.getfield 46, 3) := by decide +kernel
theorem dX6_order_98 : decode cX6_order 98 = .ok (.iload 5, 2) := by decide +kernel
theorem dX6_order_100 : decode cX6_order 100 = .ok (.iconst 1, 1) := by decide +kernel
theorem dX6_order_101 : decode cX6_order 101 = .ok (.isub, 1) := by decide +kernel
theorem dX6_order_102 : decode cX6_order 102 = .ok (.iaload, 1) := by decide +kernel
theorem dX6_order_103 : decode cX6_order 103 = .ok (.iastore, 1) := by decide +kernel
theorem dX6_order_104 : decode cX6_order 104 = .ok (.iinc 5 (-1), 3) := by decide +kernel
theorem dX6_order_107 : decode cX6_order 107 = .ok (.goto (-48), 3) := by decide +kernel
theorem dX6_order_110 : decode cX6_order 110 = .ok (.aload_n 0, 1) := by decide +kernel
theorem dX6_order_111 : decode cX6_order 111 = .ok (.getfield 46, 3) := by decide +kernel
theorem dX6_order_114 : decode cX6_order 114 = .ok (.iload 5, 2) := by decide +kernel
theorem dX6_order_116 : decode cX6_order 116 = .ok (.iload 4, 2) := by decide +kernel
theorem dX6_order_118 : decode cX6_order 118 = .ok (.iastore, 1) := by decide +kernel
theorem dX6_order_119 : decode cX6_order 119 = .ok (.aload_n 0, 1) := by decide +kernel
theorem dX6_order_120 : decode cX6_order 120 = .ok (.dup, 1) := by decide +kernel
theorem dX6_order_121 : decode cX6_order 121 = .ok (.getfield 42, 3) := by decide +kernel
theorem dX6_order_124 : decode cX6_order 124 = .ok (.iconst 1, 1) := by decide +kernel
theorem dX6_order_125 : decode cX6_order 125 = .ok (.iadd, 1) := by decide +kernel
theorem dX6_order_126 : decode cX6_order 126 = .ok (.putfield 42, 3) := by decide +kernel
theorem dX6_order_129 : decode cX6_order 129 = .ok (.iinc 4 1, 3) := by decide +kernel
theorem dX6_order_132 : decode cX6_order 132 = .ok (.goto (-98), 3) := by decide +kernel
theorem dX6_order_135 : decode cX6_order 135 = .ok (.iload_n 1, 1) := by decide +kernel
theorem dX6_order_136 : decode cX6_order 136 = .ok (.iconst 3, 1) := by decide +kernel
theorem dX6_order_137 : decode cX6_order 137 = .ok (.if_icmp .ne 7, 3) := by decide +kernel
theorem dX6_order_140 : decode cX6_order 140 = .ok (.aload_n 0, 1) := by decide +kernel
theorem dX6_order_141 : decode cX6_order 141 = .ok (.invokevirtual 175, 3) := by decide +kernel
theorem dX6_order_144 : decode cX6_order 144 = .ok (.iload_n 1, 1) := by decide +kernel
theorem dX6_order_145 : decode cX6_order 145 = .ok (.iconst 4, 1) := by decide +kernel
theorem dX6_order_146 : decode cX6_order 146 = .ok (.if_icmp .ne 8, 3) := by decide +kernel
theorem dX6_order_149 : decode cX6_order 149 = .ok (.aload_n 0, 1) := by decide +kernel
theorem dX6_order_150 : decode cX6_order 150 = .ok (.lload_n 2, 1) := by decide +kernel
theorem dX6_order_151 : decode cX6_order 151 = .ok (.invokevirtual 178, 3) := by decide +kernel
theorem dX6_order_154 : decode cX6_order 154 = .ok (.aload_n 0, 1) := by decide +kernel
theorem dX6_order_155 : decode cX6_order 155 = .ok (.getfield 42, 3) := by decide +kernel
theorem dX6_order_158 : decode cX6_order 158 = .ok (.ireturn, 1) := by decide +kernel
theorem dX6_at_0 : decode cX6_at 0 = .ok (.iload_n 1, 1) := by decide +kernel
theorem dX6_at_1 : decode cX6_at 1 = .ok (.ifCond .lt 20, 3) := by decide +kernel
theorem dX6_at_4 : decode cX6_at 4 = .ok (.iload_n 1, 1) := by decide +kernel
theorem dX6_at_5 : decode cX6_at 5 = .ok (.aload_n 0, 1) := by decide +kernel
theorem dX6_at_6 : decode cX6_at 6 = .ok (.getfield 42, 3) := by decide +kernel
theorem dX6_at_9 : decode cX6_at 9 = .ok (.if_icmp .ge 12, 3) := by decide +kernel
theorem dX6_at_12 : decode cX6_at 12 = .ok (.aload_n 0, 1) := by decide +kernel
theorem dX6_at_13 : decode cX6_at 13 = .ok (.getfield 46, 3) := by decide +kernel
theorem dX6_at_16 : decode cX6_at 16 = .ok (.iload_n 1, 1) := by decide +kernel
theorem dX6_at_17 : decode cX6_at 17 = .ok (.iaload, 1) := by decide +kernel
theorem dX6_at_18 : decode cX6_at 18 = .ok (.goto 4, 3) := by decide +kernel
theorem dX6_at_21 : decode cX6_at 21 = .ok (.iconst (-1), 1) := by decide +kernel
theorem dX6_at_22 : decode cX6_at 22 = .ok (.ireturn, 1) := by decide +kernel
theorem dX6_linked_0 : decode cX6_linked 0 = .ok (.aload_n 0, 1) := by decide +kernel
theorem dX6_linked_1 : decode cX6_linked 1 = .ok (.iload_n 1, 1) := by decide +kernel
theorem dX6_linked_2 : decode cX6_linked 2 = .ok (.invokevirtual 141, 3) := by decide +kernel
theorem dX6_linked_5 : decode cX6_linked 5 = .ok (.ifCond .eq 29, 3) := by decide +kernel
theorem dX6_linked_8 : decode cX6_linked 8 = .ok (.aload_n 0, 1) := by decide +kernel
theorem dX6_linked_9 : decode cX6_linked 9 = .ok (.iload_n 2, 1) := by decide +kernel
theorem dX6_linked_10 : decode cX6_linked 10 = .ok (.invokevirtual 141, 3) := by decide +kernel
theorem dX6_linked_13 : decode cX6_linked 13 = .ok (.ifCond .eq 21, 3) := by decide +kernel
theorem dX6_linked_16 : decode cX6_linked 16 = .ok (.aload_n 0, 1) := by decide +kernel
theorem dX6_linked_17 : decode cX6_linked 17 = .ok (.getfield 26, 3) := by decide +kernel
theorem dX6_linked_20 : decode cX6_linked 20 = .ok (.iload_n 1, 1) := by decide +kernel
theorem dX6_linked_21 : decode cX6_linked 21 = .ok (.baload, 1) := by decide +kernel
theorem dX6_linked_22 : decode cX6_linked 22 = .ok (.ifCond .eq 12, 3) := by decide +kernel
theorem dX6_linked_25 : decode cX6_linked 25 = .ok (.aload_n 0, 1) := by decide +kernel
theorem dX6_linked_26 : decode cX6_linked 26 = .ok (.getfield 26, 3) := by decide +kernel
theorem dX6_linked_29 : decode cX6_linked 29 = .ok (.iload_n 2, 1) := by decide +kernel
theorem dX6_linked_30 : decode cX6_linked 30 = .ok (.baload, 1) := by decide +kernel
theorem dX6_linked_31 : decode cX6_linked 31 = .ok (.ifCond .ne 6, 3) := by decide +kernel
theorem dX6_linked_34 : decode cX6_linked 34 = .ok (.bipush (-2), 2) := by decide +kernel
theorem dX6_linked_36 : decode cX6_linked 36 = .ok (.ireturn, 1) := by decide +kernel
theorem dX6_linked_37 : decode cX6_linked 37 = .ok (.aload_n 0, 1) := by decide +kernel
theorem dX6_linked_38 : decode cX6_linked 38 = .ok (.iload_n 1, 1) := by decide +kernel
theorem dX6_linked_39 : decode cX6_linked 39 = .ok (.iload_n 2, 1) := by decide +kernel
theorem dX6_linked_40 : decode cX6_linked 40 = .ok (.invokevirtual 154, 3) := by decide +kernel
theorem dX6_linked_43 : decode cX6_linked 43 = .ok (.ifCond .eq 7, 3) := by decide +kernel
theorem dX6_linked_46 : decode cX6_linked 46 = .ok (.iconst 1, 1) := by decide +kernel
theorem dX6_linked_47 : decode cX6_linked 47 = .ok (.goto 4, 3) := by decide +kernel
theorem dX6_linked_50 : decode cX6_linked 50 = .ok (.iconst 0, 1) := by decide +kernel
theorem dX6_linked_51 : decode cX6_linked 51 = .ok (.ireturn, 1) := by decide +kernel
theorem dX6_heard_0 : decode cX6_heard 0 = .ok (.aload_n 0, 1) := by decide +kernel
theorem dX6_heard_1 : decode cX6_heard 1 = .ok (.iload_n 1, 1) := by decide +kernel
theorem dX6_heard_2 : decode cX6_heard 2 = .ok (.invokevirtual 141, 3) := by decide +kernel
theorem dX6_heard_5 : decode cX6_heard 5 = .ok (.ifCond .ne 6, 3) := by decide +kernel
theorem dX6_heard_8 : decode cX6_heard 8 = .ok (.bipush (-2), 2) := by decide +kernel
theorem dX6_heard_10 : decode cX6_heard 10 = .ok (.ireturn, 1) := by decide +kernel
theorem dX6_heard_11 : decode cX6_heard 11 = .ok (.aload_n 0, 1) := by decide +kernel
theorem dX6_heard_12 : decode cX6_heard 12 = .ok (.iload_n 1, 1) := by decide +kernel
theorem dX6_heard_13 : decode cX6_heard 13 = .ok (.invokevirtual 167, 3) := by decide +kernel
theorem dX6_heard_16 : decode cX6_heard 16 = .ok (.ldc 149, 2) := by decide +kernel
theorem dX6_heard_18 : decode cX6_heard 18 = .ok (.if_icmp .ne 7, 3) := by decide +kernel
theorem dX6_heard_21 : decode cX6_heard 21 = .ok (.iconst (-1), 1) := by decide +kernel
theorem dX6_heard_22 : decode cX6_heard 22 = .ok (.goto 8, 3) := by decide +kernel
theorem dX6_heard_25 : decode cX6_heard 25 = .ok (.aload_n 0, 1) := by decide +kernel
theorem dX6_heard_26 : decode cX6_heard 26 = .ok (.iload_n 1, 1) := by decide +kernel
theorem dX6_heard_27 : decode cX6_heard 27 = .ok (.invokevirtual 167, 3) := by decide +kernel
theorem dX6_heard_30 : decode cX6_heard 30 = .ok (.ireturn, 1) := by decide +kernel
theorem dX6_mayPlay_0 : decode cX6_mayPlay 0 = .ok (.aload_n 0, 1) := by decide +kernel
theorem dX6_mayPlay_1 : decode cX6_mayPlay 1 = .ok (.getfield 42, 3) := by decide +kernel
theorem dX6_mayPlay_4 : decode cX6_mayPlay 4 = .ok (.ifCond .lt 14, 3) := by decide +kernel
theorem dX6_mayPlay_7 : decode cX6_mayPlay 7 = .ok (.aload_n 0, 1) := by decide +kernel
theorem dX6_mayPlay_8 : decode cX6_mayPlay 8 = .ok (.getfield 95, 3) := by decide +kernel
theorem dX6_mayPlay_11 : decode cX6_mayPlay 11 = .ok (.ifCond .ne 7, 3) := by decide +kernel
theorem dX6_mayPlay_14 : decode cX6_mayPlay 14 = .ok (.iconst 1, 1) := by decide +kernel
theorem dX6_mayPlay_15 : decode cX6_mayPlay 15 = .ok (.goto 4, 3) := by decide +kernel
theorem dX6_mayPlay_18 : decode cX6_mayPlay 18 = .ok (.iconst 0, 1) := by decide +kernel
theorem dX6_mayPlay_19 : decode cX6_mayPlay 19 = .ok (.ireturn, 1) := by decide +kernel
theorem dX6_tryOne_0 : decode cX6_tryOne 0 = .ok (.aload_n 0, 1) := by decide +kernel
theorem dX6_tryOne_1 : decode cX6_tryOne 1 = .ok (.getfield 16, 3) := by decide +kernel
theorem dX6_tryOne_4 : decode cX6_tryOne 4 = .ok (.iload_n 1, 1) := by decide +kernel
theorem dX6_tryOne_5 : decode cX6_tryOne 5 = .ok (.iaload, 1) := by decide +kernel
theorem dX6_tryOne_6 : decode cX6_tryOne 6 = .ok (.istore_n 2, 1) := by decide +kernel
theorem dX6_tryOne_7 : decode cX6_tryOne 7 = .ok (.aload_n 0, 1) := by decide +kernel
theorem dX6_tryOne_8 : decode cX6_tryOne 8 = .ok (.getfield 36, 3) := by decide +kernel
theorem dX6_tryOne_11 : decode cX6_tryOne 11 = .ok (.iload_n 1, 1) := by decide +kernel
theorem dX6_tryOne_12 : decode cX6_tryOne 12 = .ok (.iaload, 1) := by decide +kernel
theorem dX6_tryOne_13 : decode cX6_tryOne 13 = .ok (.i2l, 1) := by decide +kernel
theorem dX6_tryOne_14 : decode cX6_tryOne 14 = .ok (.lstore_n 3, 1) := by decide +kernel
theorem dX6_tryOne_15 : decode cX6_tryOne 15 = .ok (.aload_n 0, 1) := by decide +kernel
theorem dX6_tryOne_16 : decode cX6_tryOne 16 = .ok (.getfield 33, 3) := by decide +kernel
theorem dX6_tryOne_19 : decode cX6_tryOne 19 = .ok (.iload_n 1, 1) := by decide +kernel
theorem dX6_tryOne_20 : decode cX6_tryOne 20 = .ok (.iaload, 1) := by decide +kernel
theorem dX6_tryOne_21 : decode cX6_tryOne 21 = .ok (.i2l, 1) := by decide +kernel
theorem dX6_tryOne_22 : decode cX6_tryOne 22 = .ok (.lload_n 3, 1) := by decide +kernel
theorem dX6_tryOne_23 : decode cX6_tryOne 23 = .ok (.lmul, 1) := by decide +kernel
theorem dX6_tryOne_24 : decode cX6_tryOne 24 = .ok (.lstore 5, 2) := by decide +kernel
theorem dX6_tryOne_26 : decode cX6_tryOne 26 = .ok (.aload_n 0, 1) := by decide +kernel
theorem dX6_tryOne_27 : decode cX6_tryOne 27 = .ok (.getfield 182, 3) := by decide +kernel
theorem dX6_tryOne_30 : decode cX6_tryOne 30 = .ok (.lload_n 3, 1) := by decide +kernel
theorem dX6_tryOne_31 : decode cX6_tryOne 31 = .ok (.lmul, 1) := by decide +kernel
theorem dX6_tryOne_32 : decode cX6_tryOne 32 = .ok (.lstore 7, 2) := by decide +kernel
theorem dX6_tryOne_34 : decode cX6_tryOne 34 = .ok (.aload_n 0, 1) := by decide +kernel
theorem dX6_tryOne_35 : decode cX6_tryOne 35 = .ok (.getfield 64, 3) := by decide +kernel
theorem dX6_tryOne_38 : decode cX6_tryOne 38 = .ok (.iload_n 1, 1) := by decide +kernel
theorem dX6_tryOne_39 : decode cX6_tryOne 39 = .ok (.iconst 0, 1) := by decide +kernel
theorem dX6_tryOne_40 : decode cX6_tryOne 40 = .ok (.iastore, 1) := by decide +kernel
theorem dX6_tryOne_41 : decode cX6_tryOne 41 = .ok (.aload_n 0, 1) := by decide +kernel
theorem dX6_tryOne_42 : decode cX6_tryOne 42 = .ok (.getfield 67, 3) := by decide +kernel
theorem dX6_tryOne_45 : decode cX6_tryOne 45 = .ok (.iload_n 1, 1) := by decide +kernel
theorem dX6_tryOne_46 : decode cX6_tryOne 46 = .ok (.lconst 0, 1) := by decide +kernel
theorem dX6_tryOne_47 : decode cX6_tryOne 47 = .ok (.lastore, 1) := by decide +kernel
theorem dX6_tryOne_48 : decode cX6_tryOne 48 = .ok (.aload_n 0, 1) := by decide +kernel
theorem dX6_tryOne_49 : decode cX6_tryOne 49 = .ok (.getfield 30, 3) := by decide +kernel
theorem dX6_tryOne_52 : decode cX6_tryOne 52 = .ok (.iload_n 1, 1) := by decide +kernel
theorem dX6_tryOne_53 : decode cX6_tryOne 53 = .ok (.iaload, 1) := by decide +kernel
theorem dX6_tryOne_54 : decode cX6_tryOne 54 = .ok (.ifCond .ne 121, 3) := by decide +kernel
theorem dX6_tryOne_57 : decode cX6_tryOne 57 = .ok (.lload_n 3, 1) := by decide +kernel
theorem dX6_tryOne_58 : decode cX6_tryOne 58 = .ok (.aload_n 0, 1) := by decide +kernel
theorem dX6_tryOne_59 : decode cX6_tryOne 59 = .ok (.getfield 185, 3) := by decide +kernel
theorem dX6_tryOne_62 : decode cX6_tryOne 62 = .ok (.lcmp, 1) := by decide +kernel
theorem dX6_tryOne_63 : decode cX6_tryOne 63 = .ok (.ifCond .ge 112, 3) := by decide +kernel
theorem dX6_tryOne_66 : decode cX6_tryOne 66 = .ok (.aload_n 0, 1) := by decide +kernel
theorem dX6_tryOne_67 : decode cX6_tryOne 67 = .ok (.getfield 185, 3) := by decide +kernel
theorem dX6_tryOne_70 : decode cX6_tryOne 70 = .ok (.lload_n 3, 1) := by decide +kernel
theorem dX6_tryOne_71 : decode cX6_tryOne 71 = .ok (.lsub, 1) := by decide +kernel
theorem dX6_tryOne_72 : decode cX6_tryOne 72 = .ok (.lstore 9, 2) := by decide +kernel
theorem dX6_tryOne_74 : decode cX6_tryOne 74 = .ok (.lload 7, 2) := by decide +kernel
theorem dX6_tryOne_76 : decode cX6_tryOne 76 = .ok (.lload 9, 2) := by decide +kernel
theorem dX6_tryOne_78 : decode cX6_tryOne 78 = .ok (.ldiv, 1) := by decide +kernel
theorem dX6_tryOne_79 : decode cX6_tryOne 79 = .ok (.lload 7, 2) := by decide +kernel
theorem dX6_tryOne_81 : decode cX6_tryOne 81 = .ok (.lload 9, 2) := by decide +kernel
theorem dX6_tryOne_83 : decode cX6_tryOne 83 = .ok (.lrem, 1) := by decide +kernel
theorem dX6_tryOne_84 : decode cX6_tryOne 84 = .ok (.lconst 0, 1) := by decide +kernel
theorem dX6_tryOne_85 : decode cX6_tryOne 85 = .ok (.lcmp, 1) := by decide +kernel
theorem dX6_tryOne_86 : decode cX6_tryOne 86 = .ok (.ifCond .le 7, 3) := by decide +kernel
theorem dX6_tryOne_89 : decode cX6_tryOne 89 = .ok (.lconst 1, 1) := by decide +kernel
theorem dX6_tryOne_90 : decode cX6_tryOne 90 = .ok (.goto 4, 3) := by decide +kernel
theorem dX6_tryOne_93 : decode cX6_tryOne 93 = .ok (.lconst 0, 1) := by decide +kernel
theorem dX6_tryOne_94 : decode cX6_tryOne 94 = .ok (.ladd, 1) := by decide +kernel
theorem dX6_tryOne_95 : decode cX6_tryOne 95 = .ok (.lstore 11, 2) := by decide +kernel
theorem dX6_tryOne_97 : decode cX6_tryOne 97 = .ok (.lload 11, 2) := by decide +kernel
theorem dX6_tryOne_99 : decode cX6_tryOne 99 = .ok (.lload 5, 2) := by decide +kernel
theorem dX6_tryOne_101 : decode cX6_tryOne 101 = .ok (.lcmp, 1) := by decide +kernel
theorem dX6_tryOne_102 : decode cX6_tryOne 102 = .ok (.ifCond .gt 73, 3) := by decide +kernel
theorem dX6_tryOne_105 : decode cX6_tryOne 105 = .ok (.lload 11, 2) := by decide +kernel
theorem dX6_tryOne_107 : decode cX6_tryOne 107 = .ok (.aload_n 0, 1) := by decide +kernel
theorem dX6_tryOne_108 : decode cX6_tryOne 108 = .ok (.getfield 58, 3) := by decide +kernel
theorem dX6_tryOne_111 : decode cX6_tryOne 111 = .ok (.iload_n 2, 1) := by decide +kernel
theorem dX6_tryOne_112 : decode cX6_tryOne 112 = .ok (.laload, 1) := by decide +kernel
theorem dX6_tryOne_113 : decode cX6_tryOne 113 = .ok (.lcmp, 1) := by decide +kernel
theorem dX6_tryOne_114 : decode cX6_tryOne 114 = .ok (.ifCond .gt 61, 3) := by decide +kernel
theorem dX6_tryOne_117 : decode cX6_tryOne 117 = .ok (.aload_n 0, 1) := by decide +kernel
theorem dX6_tryOne_118 : decode cX6_tryOne 118 = .ok (.getfield 64, 3) := by decide +kernel
theorem dX6_tryOne_121 : decode cX6_tryOne 121 = .ok (.iload_n 1, 1) := by decide +kernel
theorem dX6_tryOne_122 : decode cX6_tryOne 122 = .ok (.lload_n 3, 1) := by decide +kernel
theorem dX6_tryOne_123 : decode cX6_tryOne 123 = .ok (.l2i, 1) := by decide +kernel
theorem dX6_tryOne_124 : decode cX6_tryOne 124 = .ok (.iastore, 1) := by decide +kernel
theorem dX6_tryOne_125 : decode cX6_tryOne 125 = .ok (.aload_n 0, 1) := by decide +kernel
theorem dX6_tryOne_126 : decode cX6_tryOne 126 = .ok (.getfield 67, 3) := by decide +kernel
theorem dX6_tryOne_129 : decode cX6_tryOne 129 = .ok (.iload_n 1, 1) := by decide +kernel
theorem dX6_tryOne_130 : decode cX6_tryOne 130 = .ok (.lload 11, 2) := by decide +kernel
theorem dX6_tryOne_132 : decode cX6_tryOne 132 = .ok (.lastore, 1) := by decide +kernel
theorem dX6_tryOne_133 : decode cX6_tryOne 133 = .ok (.aload_n 0, 1) := by decide +kernel
theorem dX6_tryOne_134 : decode cX6_tryOne 134 = .ok (.getfield 58, 3) := by decide +kernel
theorem dX6_tryOne_137 : decode cX6_tryOne 137 = .ok (.iload_n 2, 1) := by decide +kernel
theorem dX6_tryOne_138 : decode cX6_tryOne 138 = .ok (.dup2, 1) := by decide +kernel
theorem dX6_tryOne_139 : decode cX6_tryOne 139 = .ok (.laload, 1) := by decide +kernel
theorem dX6_tryOne_140 : decode cX6_tryOne 140 = .ok (.lload 11, 2) := by decide +kernel
theorem dX6_tryOne_142 : decode cX6_tryOne 142 = .ok (.lsub, 1) := by decide +kernel
theorem dX6_tryOne_143 : decode cX6_tryOne 143 = .ok (.lastore, 1) := by decide +kernel
theorem dX6_tryOne_144 : decode cX6_tryOne 144 = .ok (.aload_n 0, 1) := by decide +kernel
theorem dX6_tryOne_145 : decode cX6_tryOne 145 = .ok (.getfield 61, 3) := by decide +kernel
theorem dX6_tryOne_148 : decode cX6_tryOne 148 = .ok (.iload_n 2, 1) := by decide +kernel
theorem dX6_tryOne_149 : decode cX6_tryOne 149 = .ok (.dup2, 1) := by decide +kernel
theorem dX6_tryOne_150 : decode cX6_tryOne 150 = .ok (.laload, 1) := by decide +kernel
theorem dX6_tryOne_151 : decode cX6_tryOne 151 = .ok (.lload_n 3, 1) := by decide +kernel
theorem dX6_tryOne_152 : decode cX6_tryOne 152 = .ok (.ladd, 1) := by decide +kernel
theorem dX6_tryOne_153 : decode cX6_tryOne 153 = .ok (.lastore, 1) := by decide +kernel
theorem dX6_tryOne_154 : decode cX6_tryOne 154 = .ok (.aload_n 0, 1) := by decide +kernel
theorem dX6_tryOne_155 : decode cX6_tryOne 155 = .ok (.dup, 1) := by decide +kernel
theorem dX6_tryOne_156 : decode cX6_tryOne 156 = .ok (.getfield 182, 3) := by decide +kernel
theorem dX6_tryOne_159 : decode cX6_tryOne 159 = .ok (.lload 11, 2) := by decide +kernel
theorem dX6_tryOne_161 : decode cX6_tryOne 161 = .ok (.ladd, 1) := by decide +kernel
theorem dX6_tryOne_162 : decode cX6_tryOne 162 = .ok (.putfield 182, 3) := by decide +kernel
theorem dX6_tryOne_165 : decode cX6_tryOne 165 = .ok (.aload_n 0, 1) := by decide +kernel
theorem dX6_tryOne_166 : decode cX6_tryOne 166 = .ok (.dup, 1) := by decide +kernel
theorem dX6_tryOne_167 : decode cX6_tryOne 167 = .ok (.getfield 185, 3) := by decide +kernel
theorem dX6_tryOne_170 : decode cX6_tryOne 170 = .ok (.lload_n 3, 1) := by decide +kernel
theorem dX6_tryOne_171 : decode cX6_tryOne 171 = .ok (.lsub, 1) := by decide +kernel
theorem dX6_tryOne_172 : decode cX6_tryOne 172 = .ok (.putfield 185, 3) := by decide +kernel
theorem dX6_tryOne_175 : decode cX6_tryOne 175 = .ok (.aload_n 0, 1) := by decide +kernel
theorem dX6_tryOne_176 : decode cX6_tryOne 176 = .ok (.getfield 30, 3) := by decide +kernel
theorem dX6_tryOne_179 : decode cX6_tryOne 179 = .ok (.iload_n 1, 1) := by decide +kernel
theorem dX6_tryOne_180 : decode cX6_tryOne 180 = .ok (.iaload, 1) := by decide +kernel
theorem dX6_tryOne_181 : decode cX6_tryOne 181 = .ok (.iconst 1, 1) := by decide +kernel
theorem dX6_tryOne_182 : decode cX6_tryOne 182 = .ok (.if_icmp .ne 91, 3) := by decide +kernel
theorem dX6_tryOne_185 : decode cX6_tryOne 185 = .ok (.aload_n 0, 1) := by decide +kernel
theorem dX6_tryOne_186 : decode cX6_tryOne 186 = .ok (.getfield 61, 3) := by decide +kernel
theorem dX6_tryOne_189 : decode cX6_tryOne 189 = .ok (.iload_n 2, 1) := by decide +kernel
theorem dX6_tryOne_190 : decode cX6_tryOne 190 = .ok (.laload, 1) := by decide +kernel
theorem dX6_tryOne_191 : decode cX6_tryOne 191 = .ok (.lload_n 3, 1) := by decide +kernel
theorem dX6_tryOne_192 : decode cX6_tryOne 192 = .ok (.lcmp, 1) := by decide +kernel
theorem dX6_tryOne_193 : decode cX6_tryOne 193 = .ok (.ifCond .lt 80, 3) := by decide +kernel
theorem dX6_tryOne_196 : decode cX6_tryOne 196 = .ok (.lload 7, 2) := by decide +kernel
theorem dX6_tryOne_198 : decode cX6_tryOne 198 = .ok (.aload_n 0, 1) := by decide +kernel
theorem dX6_tryOne_199 : decode cX6_tryOne 199 = .ok (.getfield 185, 3) := by decide +kernel
theorem dX6_tryOne_202 : decode cX6_tryOne 202 = .ok (.lload_n 3, 1) := by decide +kernel
theorem dX6_tryOne_203 : decode cX6_tryOne 203 = .ok (.ladd, 1) := by decide +kernel
theorem dX6_tryOne_204 : decode cX6_tryOne 204 = .ok (.ldiv, 1) := by decide +kernel
theorem dX6_tryOne_205 : decode cX6_tryOne 205 = .ok (.lstore 9, 2) := by decide +kernel
theorem dX6_tryOne_207 : decode cX6_tryOne 207 = .ok (.lload 9, 2) := by decide +kernel
theorem dX6_tryOne_209 : decode cX6_tryOne 209 = .ok (.lload 5, 2) := by decide +kernel
theorem dX6_tryOne_211 : decode cX6_tryOne 211 = .ok (.lcmp, 1) := by decide +kernel
theorem dX6_tryOne_212 : decode cX6_tryOne 212 = .ok (.ifCond .lt 61, 3) := by decide +kernel
theorem dX6_tryOne_215 : decode cX6_tryOne 215 = .ok (.aload_n 0, 1) := by decide +kernel
theorem dX6_tryOne_216 : decode cX6_tryOne 216 = .ok (.getfield 64, 3) := by decide +kernel
theorem dX6_tryOne_219 : decode cX6_tryOne 219 = .ok (.iload_n 1, 1) := by decide +kernel
theorem dX6_tryOne_220 : decode cX6_tryOne 220 = .ok (.lload_n 3, 1) := by decide +kernel
theorem dX6_tryOne_221 : decode cX6_tryOne 221 = .ok (.l2i, 1) := by decide +kernel
theorem dX6_tryOne_222 : decode cX6_tryOne 222 = .ok (.iastore, 1) := by decide +kernel
theorem dX6_tryOne_223 : decode cX6_tryOne 223 = .ok (.aload_n 0, 1) := by decide +kernel
theorem dX6_tryOne_224 : decode cX6_tryOne 224 = .ok (.getfield 67, 3) := by decide +kernel
theorem dX6_tryOne_227 : decode cX6_tryOne 227 = .ok (.iload_n 1, 1) := by decide +kernel
theorem dX6_tryOne_228 : decode cX6_tryOne 228 = .ok (.lload 9, 2) := by decide +kernel
theorem dX6_tryOne_230 : decode cX6_tryOne 230 = .ok (.lastore, 1) := by decide +kernel
theorem dX6_tryOne_231 : decode cX6_tryOne 231 = .ok (.aload_n 0, 1) := by decide +kernel
theorem dX6_tryOne_232 : decode cX6_tryOne 232 = .ok (.getfield 58, 3) := by decide +kernel
theorem dX6_tryOne_235 : decode cX6_tryOne 235 = .ok (.iload_n 2, 1) := by decide +kernel
theorem dX6_tryOne_236 : decode cX6_tryOne 236 = .ok (.dup2, 1) := by decide +kernel
theorem dX6_tryOne_237 : decode cX6_tryOne 237 = .ok (.laload, 1) := by decide +kernel
theorem dX6_tryOne_238 : decode cX6_tryOne 238 = .ok (.lload 9, 2) := by decide +kernel
theorem dX6_tryOne_240 : decode cX6_tryOne 240 = .ok (.ladd, 1) := by decide +kernel
theorem dX6_tryOne_241 : decode cX6_tryOne 241 = .ok (.lastore, 1) := by decide +kernel
theorem dX6_tryOne_242 : decode cX6_tryOne 242 = .ok (.aload_n 0, 1) := by decide +kernel
theorem dX6_tryOne_243 : decode cX6_tryOne 243 = .ok (.getfield 61, 3) := by decide +kernel
theorem dX6_tryOne_246 : decode cX6_tryOne 246 = .ok (.iload_n 2, 1) := by decide +kernel
theorem dX6_tryOne_247 : decode cX6_tryOne 247 = .ok (.dup2, 1) := by decide +kernel
theorem dX6_tryOne_248 : decode cX6_tryOne 248 = .ok (.laload, 1) := by decide +kernel
theorem dX6_tryOne_249 : decode cX6_tryOne 249 = .ok (.lload_n 3, 1) := by decide +kernel
theorem dX6_tryOne_250 : decode cX6_tryOne 250 = .ok (.lsub, 1) := by decide +kernel
theorem dX6_tryOne_251 : decode cX6_tryOne 251 = .ok (.lastore, 1) := by decide +kernel
theorem dX6_tryOne_252 : decode cX6_tryOne 252 = .ok (.aload_n 0, 1) := by decide +kernel
theorem dX6_tryOne_253 : decode cX6_tryOne 253 = .ok (.dup, 1) := by decide +kernel
theorem dX6_tryOne_254 : decode cX6_tryOne 254 = .ok (.getfield 182, 3) := by decide +kernel
theorem dX6_tryOne_257 : decode cX6_tryOne 257 = .ok (.lload 9, 2) := by decide +kernel
theorem dX6_tryOne_259 : decode cX6_tryOne 259 = .ok (.lsub, 1) := by decide +kernel
theorem dX6_tryOne_260 : decode cX6_tryOne 260 = .ok (.putfield 182, 3) := by decide +kernel
theorem dX6_tryOne_263 : decode cX6_tryOne 263 = .ok (.aload_n 0, 1) := by decide +kernel
theorem dX6_tryOne_264 : decode cX6_tryOne 264 = .ok (.dup, 1) := by decide +kernel
theorem dX6_tryOne_265 : decode cX6_tryOne 265 = .ok (.getfield 185, 3) := by decide +kernel
theorem dX6_tryOne_268 : decode cX6_tryOne 268 = .ok (.lload_n 3, 1) := by decide +kernel
theorem dX6_tryOne_269 : decode cX6_tryOne 269 = .ok (.ladd, 1) := by decide +kernel
theorem dX6_tryOne_270 : decode cX6_tryOne 270 = .ok (.putfield 185, 3) := by decide +kernel
theorem dX6_tryOne_273 : decode cX6_tryOne 273 = .ok (.return_, 1) := by decide +kernel
theorem dX6_tryAll_0 : decode cX6_tryAll 0 = .ok (.iconst 0, 1) := by decide +kernel
theorem dX6_tryAll_1 : decode cX6_tryAll 1 = .ok (.istore_n 1, 1) := by decide +kernel
theorem dX6_tryAll_2 : decode cX6_tryAll 2 = .ok (.iload_n 1, 1) := by decide +kernel
theorem dX6_tryAll_3 : decode cX6_tryAll 3 = .ok (.aload_n 0, 1) := by decide +kernel
theorem dX6_tryAll_4 : decode cX6_tryAll 4 = .ok (.getfield 102, 3) := by decide +kernel
theorem dX6_tryAll_7 : decode cX6_tryAll 7 = .ok (.if_icmp .ge 33, 3) := by decide +kernel
theorem dX6_tryAll_10 : decode cX6_tryAll 10 = .ok (.aload_n 0, 1) := by decide +kernel
theorem dX6_tryAll_11 : decode cX6_tryAll 11 = .ok (.getfield 58, 3) := by decide +kernel
theorem dX6_tryAll_14 : decode cX6_tryAll 14 = .ok (.iload_n 1, 1) := by decide +kernel
theorem dX6_tryAll_15 : decode cX6_tryAll 15 = .ok (.aload_n 0, 1) := by decide +kernel
theorem dX6_tryAll_16 : decode cX6_tryAll 16 = .ok (.getfield 7, 3) := by decide +kernel
theorem dX6_tryAll_19 : decode cX6_tryAll 19 = .ok (.iload_n 1, 1) := by decide +kernel
theorem dX6_tryAll_20 : decode cX6_tryAll 20 = .ok (.laload, 1) := by decide +kernel
theorem dX6_tryAll_21 : decode cX6_tryAll 21 = .ok (.lastore, 1) := by decide +kernel
theorem dX6_tryAll_22 : decode cX6_tryAll 22 = .ok (.aload_n 0, 1) := by decide +kernel
theorem dX6_tryAll_23 : decode cX6_tryAll 23 = .ok (.getfield 61, 3) := by decide +kernel
theorem dX6_tryAll_26 : decode cX6_tryAll 26 = .ok (.iload_n 1, 1) := by decide +kernel
theorem dX6_tryAll_27 : decode cX6_tryAll 27 = .ok (.aload_n 0, 1) := by decide +kernel
theorem dX6_tryAll_28 : decode cX6_tryAll 28 = .ok (.getfield 13, 3) := by decide +kernel
theorem dX6_tryAll_31 : decode cX6_tryAll 31 = .ok (.iload_n 1, 1) := by decide +kernel
theorem dX6_tryAll_32 : decode cX6_tryAll 32 = .ok (.laload, 1) := by decide +kernel
theorem dX6_tryAll_33 : decode cX6_tryAll 33 = .ok (.lastore, 1) := by decide +kernel
theorem dX6_tryAll_34 : decode cX6_tryAll 34 = .ok (.iinc 1 1, 3) := by decide +kernel
theorem dX6_tryAll_37 : decode cX6_tryAll 37 = .ok (.goto (-35), 3) := by decide +kernel
theorem dX6_tryAll_40 : decode cX6_tryAll 40 = .ok (.aload_n 0, 1) := by decide +kernel
theorem dX6_tryAll_41 : decode cX6_tryAll 41 = .ok (.aload_n 0, 1) := by decide +kernel
theorem dX6_tryAll_42 : decode cX6_tryAll 42 = .ok (.getfield 105, 3) := by decide +kernel
theorem dX6_tryAll_45 : decode cX6_tryAll 45 = .ok (.putfield 182, 3) := by decide +kernel
theorem dX6_tryAll_48 : decode cX6_tryAll 48 = .ok (.aload_n 0, 1) := by decide +kernel
theorem dX6_tryAll_49 : decode cX6_tryAll 49 = .ok (.aload_n 0, 1) := by decide +kernel
theorem dX6_tryAll_50 : decode cX6_tryAll 50 = .ok (.getfield 109, 3) := by decide +kernel
theorem dX6_tryAll_53 : decode cX6_tryAll 53 = .ok (.putfield 185, 3) := by decide +kernel
theorem dX6_tryAll_56 : decode cX6_tryAll 56 = .ok (.iconst 0, 1) := by decide +kernel
theorem dX6_tryAll_57 : decode cX6_tryAll 57 = .ok (.istore_n 1, 1) := by decide +kernel
theorem dX6_tryAll_58 : decode cX6_tryAll 58 = .ok (.iload_n 1, 1) := by decide +kernel
theorem dX6_tryAll_59 : decode cX6_tryAll 59 = .ok (.aload_n 0, 1) := by decide +kernel
theorem dX6_tryAll_60 : decode cX6_tryAll 60 = .ok (.getfield 42, 3) := by decide +kernel
theorem dX6_tryAll_63 : decode cX6_tryAll 63 = .ok (.if_icmp .ge 19, 3) := by decide +kernel
theorem dX6_tryAll_66 : decode cX6_tryAll 66 = .ok (.aload_n 0, 1) := by decide +kernel
theorem dX6_tryAll_67 : decode cX6_tryAll 67 = .ok (.aload_n 0, 1) := by decide +kernel
theorem dX6_tryAll_68 : decode cX6_tryAll 68 = .ok (.getfield 55, 3) := by decide +kernel
theorem dX6_tryAll_71 : decode cX6_tryAll 71 = .ok (.iload_n 1, 1) := by decide +kernel
theorem dX6_tryAll_72 : decode cX6_tryAll 72 = .ok (.iaload, 1) := by decide +kernel
theorem dX6_tryAll_73 : decode cX6_tryAll 73 = .ok (.invokevirtual 188, 3) := by decide +kernel
theorem dX6_tryAll_76 : decode cX6_tryAll 76 = .ok (.iinc 1 1, 3) := by decide +kernel
theorem dX6_tryAll_79 : decode cX6_tryAll 79 = .ok (.goto (-21), 3) := by decide +kernel
theorem dX6_tryAll_82 : decode cX6_tryAll 82 = .ok (.return_, 1) := by decide +kernel
theorem dX6_begin_0 : decode cX6_begin 0 = .ok (.aload_n 0, 1) := by decide +kernel
theorem dX6_begin_1 : decode cX6_begin 1 = .ok (.iconst 1, 1) := by decide +kernel
theorem dX6_begin_2 : decode cX6_begin 2 = .ok (.putfield 95, 3) := by decide +kernel
theorem dX6_begin_5 : decode cX6_begin 5 = .ok (.iconst 0, 1) := by decide +kernel
theorem dX6_begin_6 : decode cX6_begin 6 = .ok (.istore_n 1, 1) := by decide +kernel
theorem dX6_begin_7 : decode cX6_begin 7 = .ok (.iload_n 1, 1) := by decide +kernel
theorem dX6_begin_8 : decode cX6_begin 8 = .ok (.aload_n 0, 1) := by decide +kernel
theorem dX6_begin_9 : decode cX6_begin 9 = .ok (.getfield 88, 3) := by decide +kernel
theorem dX6_begin_12 : decode cX6_begin 12 = .ok (.if_icmp .ge 23, 3) := by decide +kernel
theorem dX6_begin_15 : decode cX6_begin 15 = .ok (.aload_n 0, 1) := by decide +kernel
theorem dX6_begin_16 : decode cX6_begin 16 = .ok (.getfield 49, 3) := by decide +kernel
theorem dX6_begin_19 : decode cX6_begin 19 = .ok (.iload_n 1, 1) := by decide +kernel
theorem dX6_begin_20 : decode cX6_begin 20 = .ok (.iconst 0, 1) := by decide +kernel
theorem dX6_begin_21 : decode cX6_begin 21 = .ok (.iastore, 1) := by decide +kernel
theorem dX6_begin_22 : decode cX6_begin 22 = .ok (.aload_n 0, 1) := by decide +kernel
theorem dX6_begin_23 : decode cX6_begin 23 = .ok (.getfield 52, 3) := by decide +kernel
theorem dX6_begin_26 : decode cX6_begin 26 = .ok (.iload_n 1, 1) := by decide +kernel
theorem dX6_begin_27 : decode cX6_begin 27 = .ok (.lconst 0, 1) := by decide +kernel
theorem dX6_begin_28 : decode cX6_begin 28 = .ok (.lastore, 1) := by decide +kernel
theorem dX6_begin_29 : decode cX6_begin 29 = .ok (.iinc 1 1, 3) := by decide +kernel
theorem dX6_begin_32 : decode cX6_begin 32 = .ok (.goto (-25), 3) := by decide +kernel
theorem dX6_begin_35 : decode cX6_begin 35 = .ok (.return_, 1) := by decide +kernel
theorem dX6_play_0 : decode cX6_play 0 = .ok (.aload_n 0, 1) := by decide +kernel
theorem dX6_play_1 : decode cX6_play 1 = .ok (.invokevirtual 191, 3) := by decide +kernel
theorem dX6_play_4 : decode cX6_play 4 = .ok (.ifCond .ne 6, 3) := by decide +kernel
theorem dX6_play_7 : decode cX6_play 7 = .ok (.bipush (-4), 2) := by decide +kernel
theorem dX6_play_9 : decode cX6_play 9 = .ok (.ireturn, 1) := by decide +kernel
theorem dX6_play_10 : decode cX6_play 10 = .ok (.iconst 0, 1) := by decide +kernel
theorem dX6_play_11 : decode cX6_play 11 = .ok (.istore_n 1, 1) := by decide +kernel
theorem dX6_play_12 : decode cX6_play 12 = .ok (.iload_n 1, 1) := by decide +kernel
theorem dX6_play_13 : decode cX6_play 13 = .ok (.aload_n 0, 1) := by decide +kernel
theorem dX6_play_14 : decode cX6_play 14 = .ok (.getfield 42, 3) := by decide +kernel
theorem dX6_play_17 : decode cX6_play 17 = .ok (.if_icmp .ge 21, 3) := by decide +kernel
theorem dX6_play_20 : decode cX6_play 20 = .ok (.aload_n 0, 1) := by decide +kernel
theorem dX6_play_21 : decode cX6_play 21 = .ok (.getfield 55, 3) := by decide +kernel
theorem dX6_play_24 : decode cX6_play 24 = .ok (.iload_n 1, 1) := by decide +kernel
theorem dX6_play_25 : decode cX6_play 25 = .ok (.aload_n 0, 1) := by decide +kernel
theorem dX6_play_26 : decode cX6_play 26 = .ok (.getfield 46, 3) := by decide +kernel
theorem dX6_play_29 : decode cX6_play 29 = .ok (.iload_n 1, 1) := by decide +kernel
theorem dX6_play_30 : decode cX6_play 30 = .ok (.iaload, 1) := by decide +kernel
theorem dX6_play_31 : decode cX6_play 31 = .ok (.iastore, 1) := by decide +kernel
theorem dX6_play_32 : decode cX6_play 32 = .ok (.iinc 1 1, 3) := by decide +kernel
theorem dX6_play_35 : decode cX6_play 35 = .ok (.goto (-23), 3) := by decide +kernel
theorem dX6_play_38 : decode cX6_play 38 = .ok (.aload_n 0, 1) := by decide +kernel
theorem dX6_play_39 : decode cX6_play 39 = .ok (.invokevirtual 194, 3) := by decide +kernel
theorem dX6_play_42 : decode cX6_play 42 = .ok (.aload_n 0, 1) := by decide +kernel
theorem dX6_play_43 : decode cX6_play 43 = .ok (.invokevirtual 197, 3) := by decide +kernel
theorem dX6_play_46 : decode cX6_play 46 = .ok (.iconst 0, 1) := by decide +kernel
theorem dX6_play_47 : decode cX6_play 47 = .ok (.istore_n 1, 1) := by decide +kernel
theorem dX6_play_48 : decode cX6_play 48 = .ok (.iconst 0, 1) := by decide +kernel
theorem dX6_play_49 : decode cX6_play 49 = .ok (.istore_n 2, 1) := by decide +kernel
theorem dX6_play_50 : decode cX6_play 50 = .ok (.iload_n 2, 1) := by decide +kernel
theorem dX6_play_51 : decode cX6_play 51 = .ok (.aload_n 0, 1) := by decide +kernel
theorem dX6_play_52 : decode cX6_play 52 = .ok (.getfield 42, 3) := by decide +kernel
theorem dX6_play_55 : decode cX6_play 55 = .ok (.if_icmp .ge 57, 3) := by decide +kernel
theorem dX6_play_58 : decode cX6_play 58 = .ok (.aload_n 0, 1) := by decide +kernel
theorem dX6_play_59 : decode cX6_play 59 = .ok (.getfield 46, 3) := by decide +kernel
theorem dX6_play_62 : decode cX6_play 62 = .ok (.iload_n 2, 1) := by decide +kernel
theorem dX6_play_63 : decode cX6_play 63 = .ok (.iaload, 1) := by decide +kernel
theorem dX6_play_64 : decode cX6_play 64 = .ok (.istore_n 3, 1) := by decide +kernel
theorem dX6_play_65 : decode cX6_play 65 = .ok (.aload_n 0, 1) := by decide +kernel
theorem dX6_play_66 : decode cX6_play 66 = .ok (.getfield 49, 3) := by decide +kernel
theorem dX6_play_69 : decode cX6_play 69 = .ok (.iload_n 3, 1) := by decide +kernel
theorem dX6_play_70 : decode cX6_play 70 = .ok (.aload_n 0, 1) := by decide +kernel
theorem dX6_play_71 : decode cX6_play 71 = .ok (.getfield 64, 3) := by decide +kernel
theorem dX6_play_74 : decode cX6_play 74 = .ok (.iload_n 3, 1) := by decide +kernel
theorem dX6_play_75 : decode cX6_play 75 = .ok (.iaload, 1) := by decide +kernel
theorem dX6_play_76 : decode cX6_play 76 = .ok (.iastore, 1) := by decide +kernel
theorem dX6_play_77 : decode cX6_play 77 = .ok (.aload_n 0, 1) := by decide +kernel
theorem dX6_play_78 : decode cX6_play 78 = .ok (.getfield 52, 3) := by decide +kernel
theorem dX6_play_81 : decode cX6_play 81 = .ok (.iload_n 3, 1) := by decide +kernel
theorem dX6_play_82 : decode cX6_play 82 = .ok (.aload_n 0, 1) := by decide +kernel
theorem dX6_play_83 : decode cX6_play 83 = .ok (.getfield 67, 3) := by decide +kernel
theorem dX6_play_86 : decode cX6_play 86 = .ok (.iload_n 3, 1) := by decide +kernel
theorem dX6_play_87 : decode cX6_play 87 = .ok (.laload, 1) := by decide +kernel
theorem dX6_play_88 : decode cX6_play 88 = .ok (.lastore, 1) := by decide +kernel
theorem dX6_play_89 : decode cX6_play 89 = .ok (.iload_n 1, 1) := by decide +kernel
theorem dX6_play_90 : decode cX6_play 90 = .ok (.aload_n 0, 1) := by decide +kernel
theorem dX6_play_91 : decode cX6_play 91 = .ok (.getfield 49, 3) := by decide +kernel
theorem dX6_play_94 : decode cX6_play 94 = .ok (.iload_n 3, 1) := by decide +kernel
theorem dX6_play_95 : decode cX6_play 95 = .ok (.iaload, 1) := by decide +kernel
theorem dX6_play_96 : decode cX6_play 96 = .ok (.ifCond .le 7, 3) := by decide +kernel
theorem dX6_play_99 : decode cX6_play 99 = .ok (.iconst 1, 1) := by decide +kernel
theorem dX6_play_100 : decode cX6_play 100 = .ok (.goto 4, 3) := by decide +kernel
theorem dX6_play_103 : decode cX6_play 103 = .ok (.iconst 0, 1) := by decide +kernel
theorem dX6_play_104 : decode cX6_play 104 = .ok (.iadd, 1) := by decide +kernel
theorem dX6_play_105 : decode cX6_play 105 = .ok (.istore_n 1, 1) := by decide +kernel
theorem dX6_play_106 : decode cX6_play 106 = .ok (.iinc 2 1, 3) := by decide +kernel
theorem dX6_play_109 : decode cX6_play 109 = .ok (.goto (-59), 3) := by decide +kernel
theorem dX6_play_112 : decode cX6_play 112 = .ok (.iconst 0, 1) := by decide +kernel
theorem dX6_play_113 : decode cX6_play 113 = .ok (.istore_n 2, 1) := by decide +kernel
theorem dX6_play_114 : decode cX6_play 114 = .ok (.iload_n 2, 1) := by decide +kernel
theorem dX6_play_115 : decode cX6_play 115 = .ok (.aload_n 0, 1) := by decide +kernel
theorem dX6_play_116 : decode cX6_play 116 = .ok (.getfield 102, 3) := by decide +kernel
theorem dX6_play_119 : decode cX6_play 119 = .ok (.if_icmp .ge 33, 3) := by decide +kernel
theorem dX6_play_122 : decode cX6_play 122 = .ok (.aload_n 0, 1) := by decide +kernel
theorem dX6_play_123 : decode cX6_play 123 = .ok (.getfield 7, 3) := by decide +kernel
theorem dX6_play_126 : decode cX6_play 126 = .ok (.iload_n 2, 1) := by decide +kernel
theorem dX6_play_127 : decode cX6_play 127 = .ok (.aload_n 0, 1) := by decide +kernel
theorem dX6_play_128 : decode cX6_play 128 = .ok (.getfield 58, 3) := by decide +kernel
theorem dX6_play_131 : decode cX6_play 131 = .ok (.iload_n 2, 1) := by decide +kernel
theorem dX6_play_132 : decode cX6_play 132 = .ok (.laload, 1) := by decide +kernel
theorem dX6_play_133 : decode cX6_play 133 = .ok (.lastore, 1) := by decide +kernel
theorem dX6_play_134 : decode cX6_play 134 = .ok (.aload_n 0, 1) := by decide +kernel
theorem dX6_play_135 : decode cX6_play 135 = .ok (.getfield 13, 3) := by decide +kernel
theorem dX6_play_138 : decode cX6_play 138 = .ok (.iload_n 2, 1) := by decide +kernel
theorem dX6_play_139 : decode cX6_play 139 = .ok (.aload_n 0, 1) := by decide +kernel
theorem dX6_play_140 : decode cX6_play 140 = .ok (.getfield 61, 3) := by decide +kernel
theorem dX6_play_143 : decode cX6_play 143 = .ok (.iload_n 2, 1) := by decide +kernel
theorem dX6_play_144 : decode cX6_play 144 = .ok (.laload, 1) := by decide +kernel
theorem dX6_play_145 : decode cX6_play 145 = .ok (.lastore, 1) := by decide +kernel
theorem dX6_play_146 : decode cX6_play 146 = .ok (.iinc 2 1, 3) := by decide +kernel
theorem dX6_play_149 : decode cX6_play 149 = .ok (.goto (-35), 3) := by decide +kernel
theorem dX6_play_152 : decode cX6_play 152 = .ok (.aload_n 0, 1) := by decide +kernel
theorem dX6_play_153 : decode cX6_play 153 = .ok (.aload_n 0, 1) := by decide +kernel
theorem dX6_play_154 : decode cX6_play 154 = .ok (.getfield 182, 3) := by decide +kernel
theorem dX6_play_157 : decode cX6_play 157 = .ok (.putfield 105, 3) := by decide +kernel
theorem dX6_play_160 : decode cX6_play 160 = .ok (.aload_n 0, 1) := by decide +kernel
theorem dX6_play_161 : decode cX6_play 161 = .ok (.aload_n 0, 1) := by decide +kernel
theorem dX6_play_162 : decode cX6_play 162 = .ok (.getfield 185, 3) := by decide +kernel
theorem dX6_play_165 : decode cX6_play 165 = .ok (.putfield 109, 3) := by decide +kernel
theorem dX6_play_168 : decode cX6_play 168 = .ok (.iload_n 1, 1) := by decide +kernel
theorem dX6_play_169 : decode cX6_play 169 = .ok (.ireturn, 1) := by decide +kernel
theorem dX6_market_0 : decode cX6_market 0 = .ok (.iconst 0, 1) := by decide +kernel
theorem dX6_market_1 : decode cX6_market 1 = .ok (.istore_n 2, 1) := by decide +kernel
theorem dX6_market_2 : decode cX6_market 2 = .ok (.iload_n 2, 1) := by decide +kernel
theorem dX6_market_3 : decode cX6_market 3 = .ok (.bipush 8, 2) := by decide +kernel
theorem dX6_market_5 : decode cX6_market 5 = .ok (.if_icmp .ge 23, 3) := by decide +kernel
theorem dX6_market_8 : decode cX6_market 8 = .ok (.aload_n 0, 1) := by decide +kernel
theorem dX6_market_9 : decode cX6_market 9 = .ok (.getfield 82, 3) := by decide +kernel
theorem dX6_market_12 : decode cX6_market 12 = .ok (.iload_n 2, 1) := by decide +kernel
theorem dX6_market_13 : decode cX6_market 13 = .ok (.lconst 0, 1) := by decide +kernel
theorem dX6_market_14 : decode cX6_market 14 = .ok (.lastore, 1) := by decide +kernel
theorem dX6_market_15 : decode cX6_market 15 = .ok (.aload_n 0, 1) := by decide +kernel
theorem dX6_market_16 : decode cX6_market 16 = .ok (.getfield 85, 3) := by decide +kernel
theorem dX6_market_19 : decode cX6_market 19 = .ok (.iload_n 2, 1) := by decide +kernel
theorem dX6_market_20 : decode cX6_market 20 = .ok (.lconst 0, 1) := by decide +kernel
theorem dX6_market_21 : decode cX6_market 21 = .ok (.lastore, 1) := by decide +kernel
theorem dX6_market_22 : decode cX6_market 22 = .ok (.iinc 2 1, 3) := by decide +kernel
theorem dX6_market_25 : decode cX6_market 25 = .ok (.goto (-23), 3) := by decide +kernel
theorem dX6_market_28 : decode cX6_market 28 = .ok (.aload_n 0, 1) := by decide +kernel
theorem dX6_market_29 : decode cX6_market 29 = .ok (.lconst 0, 1) := by decide +kernel
theorem dX6_market_30 : decode cX6_market 30 = .ok (.putfield 200, 3) := by decide +kernel
theorem dX6_market_33 : decode cX6_market 33 = .ok (.aload_n 0, 1) := by decide +kernel
theorem dX6_market_34 : decode cX6_market 34 = .ok (.lconst 0, 1) := by decide +kernel
theorem dX6_market_35 : decode cX6_market 35 = .ok (.putfield 203, 3) := by decide +kernel
theorem dX6_market_38 : decode cX6_market 38 = .ok (.iconst 0, 1) := by decide +kernel
theorem dX6_market_39 : decode cX6_market 39 = .ok (.istore_n 2, 1) := by decide +kernel
theorem dX6_market_40 : decode cX6_market 40 = .ok (.iload_n 2, 1) := by decide +kernel
theorem dX6_market_41 : decode cX6_market 41 = .ok (.aload_n 0, 1) := by decide +kernel
theorem dX6_market_42 : decode cX6_market 42 = .ok (.getfield 42, 3) := by decide +kernel
theorem dX6_market_45 : decode cX6_market 45 = .ok (.if_icmp .ge 251, 3) := by decide +kernel
theorem dX6_market_48 : decode cX6_market 48 = .ok (.aload_n 0, 1) := by decide +kernel
theorem dX6_market_49 : decode cX6_market 49 = .ok (.getfield 46, 3) := by decide +kernel
theorem dX6_market_52 : decode cX6_market 52 = .ok (.iload_n 2, 1) := by decide +kernel
theorem dX6_market_53 : decode cX6_market 53 = .ok (.iaload, 1) := by decide +kernel
theorem dX6_market_54 : decode cX6_market 54 = .ok (.istore_n 3, 1) := by decide +kernel
theorem dX6_market_55 : decode cX6_market 55 = .ok (.aload_n 0, 1) := by decide +kernel
theorem dX6_market_56 : decode cX6_market 56 = .ok (.getfield 16, 3) := by decide +kernel
theorem dX6_market_59 : decode cX6_market 59 = .ok (.iload_n 3, 1) := by decide +kernel
theorem dX6_market_60 : decode cX6_market 60 = .ok (.iaload, 1) := by decide +kernel
theorem dX6_market_61 : decode cX6_market 61 = .ok (.istore 4, 2) := by decide +kernel
theorem dX6_market_63 : decode cX6_market 63 = .ok (.aload_n 0, 1) := by decide +kernel
theorem dX6_market_64 : decode cX6_market 64 = .ok (.getfield 30, 3) := by decide +kernel
theorem dX6_market_67 : decode cX6_market 67 = .ok (.iload_n 3, 1) := by decide +kernel
theorem dX6_market_68 : decode cX6_market 68 = .ok (.iaload, 1) := by decide +kernel
theorem dX6_market_69 : decode cX6_market 69 = .ok (.ifCond .ne 115, 3) := by decide +kernel
theorem dX6_market_72 : decode cX6_market 72 = .ok (.aload_n 0, 1) := by decide +kernel
theorem dX6_market_73 : decode cX6_market 73 = .ok (.getfield 79, 3) := by decide +kernel
theorem dX6_market_76 : decode cX6_market 76 = .ok (.iload_n 3, 1) := by decide +kernel
theorem dX6_market_77 : decode cX6_market 77 = .ok (.aload_n 0, 1) := by decide +kernel
theorem dX6_market_78 : decode cX6_market 78 = .ok (.getfield 33, 3) := by decide +kernel
theorem dX6_market_81 : decode cX6_market 81 = .ok (.iload_n 3, 1) := by decide +kernel
theorem dX6_market_82 : decode cX6_market 82 = .ok (.iaload, 1) := by decide +kernel
theorem dX6_market_83 : decode cX6_market 83 = .ok (.iload_n 1, 1) := by decide +kernel
theorem dX6_market_84 : decode cX6_market 84 = .ok (.if_icmp .lt 36, 3) := by decide +kernel
theorem dX6_market_87 : decode cX6_market 87 = .ok (.aload_n 0, 1) := by decide +kernel
theorem dX6_market_88 : decode cX6_market 88 = .ok (.getfield 82, 3) := by decide +kernel
theorem dX6_market_91 : decode cX6_market 91 = .ok (.iload 4, 2) := by decide +kernel
theorem dX6_market_93 : decode cX6_market 93 = .ok (.laload, 1) := by decide +kernel
theorem dX6_market_94 : decode cX6_market 94 = .ok (.aload_n 0, 1) := by decide +kernel
theorem dX6_market_95 : decode cX6_market 95 = .ok (.getfield 36, 3) := by decide +kernel
theorem dX6_market_98 : decode cX6_market 98 = .ok (.iload_n 3, 1) := by decide +kernel
theorem dX6_market_99 : decode cX6_market 99 = .ok (.iaload, 1) := by decide +kernel
theorem dX6_market_100 : decode cX6_market 100 = .ok (.i2l, 1) := by decide +kernel
theorem dX6_market_101 : decode cX6_market 101 = .ok (.ladd, 1) := by decide +kernel
theorem dX6_market_102 : decode cX6_market 102 = .ok (.iload_n 1, 1) := by decide +kernel
theorem dX6_market_103 : decode cX6_market 103 = .ok (.i2l, 1) := by decide +kernel
theorem dX6_market_104 : decode cX6_market 104 = .ok (.lmul, 1) := by decide +kernel
theorem dX6_market_105 : decode cX6_market 105 = .ok (.aload_n 0, 1) := by decide +kernel
theorem dX6_market_106 : decode cX6_market 106 = .ok (.getfield 7, 3) := by decide +kernel
theorem dX6_market_109 : decode cX6_market 109 = .ok (.iload 4, 2) := by decide +kernel
theorem dX6_market_111 : decode cX6_market 111 = .ok (.laload, 1) := by decide +kernel
theorem dX6_market_112 : decode cX6_market 112 = .ok (.lcmp, 1) := by decide +kernel
theorem dX6_market_113 : decode cX6_market 113 = .ok (.ifCond .gt 7, 3) := by decide +kernel
theorem dX6_market_116 : decode cX6_market 116 = .ok (.iconst 1, 1) := by decide +kernel
theorem dX6_market_117 : decode cX6_market 117 = .ok (.goto 4, 3) := by decide +kernel
theorem dX6_market_120 : decode cX6_market 120 = .ok (.iconst 0, 1) := by decide +kernel
theorem dX6_market_121 : decode cX6_market 121 = .ok (.bastore, 1) := by decide +kernel
theorem dX6_market_122 : decode cX6_market 122 = .ok (.aload_n 0, 1) := by decide +kernel
theorem dX6_market_123 : decode cX6_market 123 = .ok (.getfield 82, 3) := by decide +kernel
theorem dX6_market_126 : decode cX6_market 126 = .ok (.iload 4, 2) := by decide +kernel
theorem dX6_market_128 : decode cX6_market 128 = .ok (.dup2, 1) := by decide +kernel
theorem dX6_market_129 : decode cX6_market 129 = .ok (.laload, 1) := by decide +kernel
theorem dX6_market_130 : decode cX6_market 130 = .ok (.aload_n 0, 1) := by decide +kernel
theorem dX6_market_131 : decode cX6_market 131 = .ok (.getfield 79, 3) := by decide +kernel
theorem dX6_market_134 : decode cX6_market 134 = .ok (.iload_n 3, 1) := by decide +kernel
theorem dX6_market_135 : decode cX6_market 135 = .ok (.baload, 1) := by decide +kernel
theorem dX6_market_136 : decode cX6_market 136 = .ok (.ifCond .eq 13, 3) := by decide +kernel
theorem dX6_market_139 : decode cX6_market 139 = .ok (.aload_n 0, 1) := by decide +kernel
theorem dX6_market_140 : decode cX6_market 140 = .ok (.getfield 36, 3) := by decide +kernel
theorem dX6_market_143 : decode cX6_market 143 = .ok (.iload_n 3, 1) := by decide +kernel
theorem dX6_market_144 : decode cX6_market 144 = .ok (.iaload, 1) := by decide +kernel
theorem dX6_market_145 : decode cX6_market 145 = .ok (.i2l, 1) := by decide +kernel
theorem dX6_market_146 : decode cX6_market 146 = .ok (.goto 4, 3) := by decide +kernel
theorem dX6_market_149 : decode cX6_market 149 = .ok (.lconst 0, 1) := by decide +kernel
theorem dX6_market_150 : decode cX6_market 150 = .ok (.ladd, 1) := by decide +kernel
theorem dX6_market_151 : decode cX6_market 151 = .ok (.lastore, 1) := by decide +kernel
theorem dX6_market_152 : decode cX6_market 152 = .ok (.aload_n 0, 1) := by decide +kernel
theorem dX6_market_153 : decode cX6_market 153 = .ok (.dup, 1) := by decide +kernel
theorem dX6_market_154 : decode cX6_market 154 = .ok (.getfield 200, 3) := by decide +kernel
theorem dX6_market_157 : decode cX6_market 157 = .ok (.aload_n 0, 1) := by decide +kernel
theorem dX6_market_158 : decode cX6_market 158 = .ok (.getfield 79, 3) := by decide +kernel
theorem dX6_market_161 : decode cX6_market 161 = .ok (.iload_n 3, 1) := by decide +kernel
theorem dX6_market_162 : decode cX6_market 162 = .ok (.baload, 1) := by decide +kernel
theorem dX6_market_163 : decode cX6_market 163 = .ok (.ifCond .eq 13, 3) := by decide +kernel
theorem dX6_market_166 : decode cX6_market 166 = .ok (.aload_n 0, 1) := by decide +kernel
theorem dX6_market_167 : decode cX6_market 167 = .ok (.getfield 36, 3) := by decide +kernel
theorem dX6_market_170 : decode cX6_market 170 = .ok (.iload_n 3, 1) := by decide +kernel
theorem dX6_market_171 : decode cX6_market 171 = .ok (.iaload, 1) := by decide +kernel
theorem dX6_market_172 : decode cX6_market 172 = .ok (.i2l, 1) := by decide +kernel
theorem dX6_market_173 : decode cX6_market 173 = .ok (.goto 4, 3) := by decide +kernel
theorem dX6_market_176 : decode cX6_market 176 = .ok (.lconst 0, 1) := by decide +kernel
theorem dX6_market_177 : decode cX6_market 177 = .ok (.ladd, 1) := by decide +kernel
theorem dX6_market_178 : decode cX6_market 178 = .ok (.putfield 200, 3) := by decide +kernel
theorem dX6_market_181 : decode cX6_market 181 = .ok (.goto 109, 3) := by decide +kernel
theorem dX6_market_184 : decode cX6_market 184 = .ok (.aload_n 0, 1) := by decide +kernel
theorem dX6_market_185 : decode cX6_market 185 = .ok (.getfield 79, 3) := by decide +kernel
theorem dX6_market_188 : decode cX6_market 188 = .ok (.iload_n 3, 1) := by decide +kernel
theorem dX6_market_189 : decode cX6_market 189 = .ok (.aload_n 0, 1) := by decide +kernel
theorem dX6_market_190 : decode cX6_market 190 = .ok (.getfield 33, 3) := by decide +kernel
theorem dX6_market_193 : decode cX6_market 193 = .ok (.iload_n 3, 1) := by decide +kernel
theorem dX6_market_194 : decode cX6_market 194 = .ok (.iaload, 1) := by decide +kernel
theorem dX6_market_195 : decode cX6_market 195 = .ok (.iload_n 1, 1) := by decide +kernel
theorem dX6_market_196 : decode cX6_market 196 = .ok (.if_icmp .gt 33, 3) := by decide +kernel
theorem dX6_market_199 : decode cX6_market 199 = .ok (.aload_n 0, 1) := by decide +kernel
theorem dX6_market_200 : decode cX6_market 200 = .ok (.getfield 85, 3) := by decide +kernel
theorem dX6_market_203 : decode cX6_market 203 = .ok (.iload 4, 2) := by decide +kernel
theorem dX6_market_205 : decode cX6_market 205 = .ok (.laload, 1) := by decide +kernel
theorem dX6_market_206 : decode cX6_market 206 = .ok (.aload_n 0, 1) := by decide +kernel
theorem dX6_market_207 : decode cX6_market 207 = .ok (.getfield 36, 3) := by decide +kernel
theorem dX6_market_210 : decode cX6_market 210 = .ok (.iload_n 3, 1) := by decide +kernel
theorem dX6_market_211 : decode cX6_market 211 = .ok (.iaload, 1) := by decide +kernel
theorem dX6_market_212 : decode cX6_market 212 = .ok (.i2l, 1) := by decide +kernel
theorem dX6_market_213 : decode cX6_market 213 = .ok (.ladd, 1) := by decide +kernel
theorem dX6_market_214 : decode cX6_market 214 = .ok (.aload_n 0, 1) := by decide +kernel
theorem dX6_market_215 : decode cX6_market 215 = .ok (.getfield 13, 3) := by decide +kernel
theorem dX6_market_218 : decode cX6_market 218 = .ok (.iload 4, 2) := by decide +kernel
theorem dX6_market_220 : decode cX6_market 220 = .ok (.laload, 1) := by decide +kernel
theorem dX6_market_221 : decode cX6_market 221 = .ok (.lcmp, 1) := by decide +kernel
theorem dX6_market_222 : decode cX6_market 222 = .ok (.ifCond .gt 7, 3) := by decide +kernel
theorem dX6_market_225 : decode cX6_market 225 = .ok (.iconst 1, 1) := by decide +kernel
theorem dX6_market_226 : decode cX6_market 226 = .ok (.goto 4, 3) := by decide +kernel
theorem dX6_market_229 : decode cX6_market 229 = .ok (.iconst 0, 1) := by decide +kernel
theorem dX6_market_230 : decode cX6_market 230 = .ok (.bastore, 1) := by decide +kernel
theorem dX6_market_231 : decode cX6_market 231 = .ok (.aload_n 0, 1) := by decide +kernel
theorem dX6_market_232 : decode cX6_market 232 = .ok (.getfield 85, 3) := by decide +kernel
theorem dX6_market_235 : decode cX6_market 235 = .ok (.iload 4, 2) := by decide +kernel
theorem dX6_market_237 : decode cX6_market 237 = .ok (.dup2, 1) := by decide +kernel
theorem dX6_market_238 : decode cX6_market 238 = .ok (.laload, 1) := by decide +kernel
theorem dX6_market_239 : decode cX6_market 239 = .ok (.aload_n 0, 1) := by decide +kernel
theorem dX6_market_240 : decode cX6_market 240 = .ok (.getfield 79, 3) := by decide +kernel
theorem dX6_market_243 : decode cX6_market 243 = .ok (.iload_n 3, 1) := by decide +kernel
theorem dX6_market_244 : decode cX6_market 244 = .ok (.baload, 1) := by decide +kernel
theorem dX6_market_245 : decode cX6_market 245 = .ok (.ifCond .eq 13, 3) := by decide +kernel
theorem dX6_market_248 : decode cX6_market 248 = .ok (.aload_n 0, 1) := by decide +kernel
theorem dX6_market_249 : decode cX6_market 249 = .ok (.getfield 36, 3) := by decide +kernel
theorem dX6_market_252 : decode cX6_market 252 = .ok (.iload_n 3, 1) := by decide +kernel
theorem dX6_market_253 : decode cX6_market 253 = .ok (.iaload, 1) := by decide +kernel
theorem dX6_market_254 : decode cX6_market 254 = .ok (.i2l, 1) := by decide +kernel
theorem dX6_market_255 : decode cX6_market 255 = .ok (.goto 4, 3) := by decide +kernel
theorem dX6_market_258 : decode cX6_market 258 = .ok (.lconst 0, 1) := by decide +kernel
theorem dX6_market_259 : decode cX6_market 259 = .ok (.ladd, 1) := by decide +kernel
theorem dX6_market_260 : decode cX6_market 260 = .ok (.lastore, 1) := by decide +kernel
theorem dX6_market_261 : decode cX6_market 261 = .ok (.aload_n 0, 1) := by decide +kernel
theorem dX6_market_262 : decode cX6_market 262 = .ok (.dup, 1) := by decide +kernel
theorem dX6_market_263 : decode cX6_market 263 = .ok (.getfield 203, 3) := by decide +kernel
theorem dX6_market_266 : decode cX6_market 266 = .ok (.aload_n 0, 1) := by decide +kernel
theorem dX6_market_267 : decode cX6_market 267 = .ok (.getfield 79, 3) := by decide +kernel
theorem dX6_market_270 : decode cX6_market 270 = .ok (.iload_n 3, 1) := by decide +kernel
theorem dX6_market_271 : decode cX6_market 271 = .ok (.baload, 1) := by decide +kernel
theorem dX6_market_272 : decode cX6_market 272 = .ok (.ifCond .eq 13, 3) := by decide +kernel
theorem dX6_market_275 : decode cX6_market 275 = .ok (.aload_n 0, 1) := by decide +kernel
theorem dX6_market_276 : decode cX6_market 276 = .ok (.getfield 36, 3) := by decide +kernel
theorem dX6_market_279 : decode cX6_market 279 = .ok (.iload_n 3, 1) := by decide +kernel
theorem dX6_market_280 : decode cX6_market 280 = .ok (.iaload, 1) := by decide +kernel
theorem dX6_market_281 : decode cX6_market 281 = .ok (.i2l, 1) := by decide +kernel
theorem dX6_market_282 : decode cX6_market 282 = .ok (.goto 4, 3) := by decide +kernel
theorem dX6_market_285 : decode cX6_market 285 = .ok (.lconst 0, 1) := by decide +kernel
theorem dX6_market_286 : decode cX6_market 286 = .ok (.ladd, 1) := by decide +kernel
theorem dX6_market_287 : decode cX6_market 287 = .ok (.putfield 203, 3) := by decide +kernel
theorem dX6_market_290 : decode cX6_market 290 = .ok (.iinc 2 1, 3) := by decide +kernel
theorem dX6_market_293 : decode cX6_market 293 = .ok (.goto (-253), 3) := by decide +kernel
theorem dX6_market_296 : decode cX6_market 296 = .ok (.aload_n 0, 1) := by decide +kernel
theorem dX6_market_297 : decode cX6_market 297 = .ok (.getfield 200, 3) := by decide +kernel
theorem dX6_market_300 : decode cX6_market 300 = .ok (.aload_n 0, 1) := by decide +kernel
theorem dX6_market_301 : decode cX6_market 301 = .ok (.getfield 203, 3) := by decide +kernel
theorem dX6_market_304 : decode cX6_market 304 = .ok (.lcmp, 1) := by decide +kernel
theorem dX6_market_305 : decode cX6_market 305 = .ok (.ifCond .ge 10, 3) := by decide +kernel
theorem dX6_market_308 : decode cX6_market 308 = .ok (.aload_n 0, 1) := by decide +kernel
theorem dX6_market_309 : decode cX6_market 309 = .ok (.getfield 200, 3) := by decide +kernel
theorem dX6_market_312 : decode cX6_market 312 = .ok (.goto 7, 3) := by decide +kernel
theorem dX6_market_315 : decode cX6_market 315 = .ok (.aload_n 0, 1) := by decide +kernel
theorem dX6_market_316 : decode cX6_market 316 = .ok (.getfield 203, 3) := by decide +kernel
theorem dX6_market_319 : decode cX6_market 319 = .ok (.lreturn, 1) := by decide +kernel
theorem dX6_batch_0 : decode cX6_batch 0 = .ok (.aload_n 0, 1) := by decide +kernel
theorem dX6_batch_1 : decode cX6_batch 1 = .ok (.invokevirtual 191, 3) := by decide +kernel
theorem dX6_batch_4 : decode cX6_batch 4 = .ok (.ifCond .ne 6, 3) := by decide +kernel
theorem dX6_batch_7 : decode cX6_batch 7 = .ok (.bipush (-4), 2) := by decide +kernel
theorem dX6_batch_9 : decode cX6_batch 9 = .ok (.ireturn, 1) := by decide +kernel
theorem dX6_batch_10 : decode cX6_batch 10 = .ok (.iconst (-1), 1) := by decide +kernel
theorem dX6_batch_11 : decode cX6_batch 11 = .ok (.istore_n 1, 1) := by decide +kernel
theorem dX6_batch_12 : decode cX6_batch 12 = .ok (.lconst 0, 1) := by decide +kernel
theorem dX6_batch_13 : decode cX6_batch 13 = .ok (.lstore_n 2, 1) := by decide +kernel
theorem dX6_batch_14 : decode cX6_batch 14 = .ok (.iconst 1, 1) := by decide +kernel
theorem dX6_batch_15 : decode cX6_batch 15 = .ok (.istore 4, 2) := by decide +kernel
theorem dX6_batch_17 : decode cX6_batch 17 = .ok (.iload 4, 2) := by decide +kernel
theorem dX6_batch_19 : decode cX6_batch 19 = .ok (.sipush 1000, 3) := by decide +kernel
theorem dX6_batch_22 : decode cX6_batch 22 = .ok (.if_icmp .gt 45, 3) := by decide +kernel
theorem dX6_batch_25 : decode cX6_batch 25 = .ok (.aload_n 0, 1) := by decide +kernel
theorem dX6_batch_26 : decode cX6_batch 26 = .ok (.iload 4, 2) := by decide +kernel
theorem dX6_batch_28 : decode cX6_batch 28 = .ok (.invokevirtual 206, 3) := by decide +kernel
theorem dX6_batch_31 : decode cX6_batch 31 = .ok (.lstore 5, 2) := by decide +kernel
theorem dX6_batch_33 : decode cX6_batch 33 = .ok (.lload 5, 2) := by decide +kernel
theorem dX6_batch_35 : decode cX6_batch 35 = .ok (.lload_n 2, 1) := by decide +kernel
theorem dX6_batch_36 : decode cX6_batch 36 = .ok (.lcmp, 1) := by decide +kernel
theorem dX6_batch_37 : decode cX6_batch 37 = .ok (.ifCond .le 8, 3) := by decide +kernel
theorem dX6_batch_40 : decode cX6_batch 40 = .ok (.iload 4, 2) := by decide +kernel
theorem dX6_batch_42 : decode cX6_batch 42 = .ok (.goto 4, 3) := by decide +kernel
theorem dX6_batch_45 : decode cX6_batch 45 = .ok (.iload_n 1, 1) := by decide +kernel
theorem dX6_batch_46 : decode cX6_batch 46 = .ok (.istore_n 1, 1) := by decide +kernel
theorem dX6_batch_47 : decode cX6_batch 47 = .ok (.lload 5, 2) := by decide +kernel
theorem dX6_batch_49 : decode cX6_batch 49 = .ok (.lload_n 2, 1) := by decide +kernel
theorem dX6_batch_50 : decode cX6_batch 50 = .ok (.lcmp, 1) := by decide +kernel
theorem dX6_batch_51 : decode cX6_batch 51 = .ok (.ifCond .le 8, 3) := by decide +kernel
theorem dX6_batch_54 : decode cX6_batch 54 = .ok (.lload 5, 2) := by decide +kernel
theorem dX6_batch_56 : decode cX6_batch 56 = .ok (.goto 4, 3) := by decide +kernel
theorem dX6_batch_59 : decode cX6_batch 59 = .ok (.lload_n 2, 1) := by decide +kernel
theorem dX6_batch_60 : decode cX6_batch 60 = .ok (.lstore_n 2, 1) := by decide +kernel
theorem dX6_batch_61 : decode cX6_batch 61 = .ok (.iinc 4 1, 3) := by decide +kernel
theorem dX6_batch_64 : decode cX6_batch 64 = .ok (.goto (-47), 3) := by decide +kernel
theorem dX6_batch_67 : decode cX6_batch 67 = .ok (.aload_n 0, 1) := by decide +kernel
theorem dX6_batch_68 : decode cX6_batch 68 = .ok (.invokevirtual 197, 3) := by decide +kernel
theorem dX6_batch_71 : decode cX6_batch 71 = .ok (.iload_n 1, 1) := by decide +kernel
theorem dX6_batch_72 : decode cX6_batch 72 = .ok (.iconst (-1), 1) := by decide +kernel
theorem dX6_batch_73 : decode cX6_batch 73 = .ok (.if_icmp .ne 5, 3) := by decide +kernel
theorem dX6_batch_76 : decode cX6_batch 76 = .ok (.iconst (-1), 1) := by decide +kernel
theorem dX6_batch_77 : decode cX6_batch 77 = .ok (.ireturn, 1) := by decide +kernel
theorem dX6_batch_78 : decode cX6_batch 78 = .ok (.aload_n 0, 1) := by decide +kernel
theorem dX6_batch_79 : decode cX6_batch 79 = .ok (.iload_n 1, 1) := by decide +kernel
theorem dX6_batch_80 : decode cX6_batch 80 = .ok (.invokevirtual 206, 3) := by decide +kernel
theorem dX6_batch_83 : decode cX6_batch 83 = .ok (.lstore 4, 2) := by decide +kernel
theorem dX6_batch_85 : decode cX6_batch 85 = .ok (.lload 4, 2) := by decide +kernel
theorem dX6_batch_87 : decode cX6_batch 87 = .ok (.lstore 6, 2) := by decide +kernel
theorem dX6_batch_89 : decode cX6_batch 89 = .ok (.lload 4, 2) := by decide +kernel
theorem dX6_batch_91 : decode cX6_batch 91 = .ok (.lstore 8, 2) := by decide +kernel
theorem dX6_batch_93 : decode cX6_batch 93 = .ok (.iconst 0, 1) := by decide +kernel
theorem dX6_batch_94 : decode cX6_batch 94 = .ok (.istore 10, 2) := by decide +kernel
theorem dX6_batch_96 : decode cX6_batch 96 = .ok (.iload 10, 2) := by decide +kernel
theorem dX6_batch_98 : decode cX6_batch 98 = .ok (.aload_n 0, 1) := by decide +kernel
theorem dX6_batch_99 : decode cX6_batch 99 = .ok (.getfield 42, 3) := by decide +kernel
theorem dX6_batch_102 : decode cX6_batch 102 = .ok (.if_icmp .ge 233, 3) := by decide +kernel
theorem dX6_batch_105 : decode cX6_batch 105 = .ok (.aload_n 0, 1) := by decide +kernel
theorem dX6_batch_106 : decode cX6_batch 106 = .ok (.getfield 46, 3) := by decide +kernel
theorem dX6_batch_109 : decode cX6_batch 109 = .ok (.iload 10, 2) := by decide +kernel
theorem dX6_batch_111 : decode cX6_batch 111 = .ok (.iaload, 1) := by decide +kernel
theorem dX6_batch_112 : decode cX6_batch 112 = .ok (.istore 11, 2) := by decide +kernel
theorem dX6_batch_114 : decode cX6_batch 114 = .ok (.aload_n 0, 1) := by decide +kernel
theorem dX6_batch_115 : decode cX6_batch 115 = .ok (.getfield 79, 3) := by decide +kernel
theorem dX6_batch_118 : decode cX6_batch 118 = .ok (.iload 11, 2) := by decide +kernel
theorem dX6_batch_120 : decode cX6_batch 120 = .ok (.baload, 1) := by decide +kernel
theorem dX6_batch_121 : decode cX6_batch 121 = .ok (.ifCond .ne 7, 3) := by decide +kernel
theorem dX6_batch_124 : decode cX6_batch 124 = .ok (.lconst 0, 1) := by decide +kernel
theorem dX6_batch_125 : decode cX6_batch 125 = .ok (.goto 20, 3) := by decide +kernel
theorem dX6_batch_128 : decode cX6_batch 128 = .ok (.aload_n 0, 1) := by decide +kernel
theorem dX6_batch_129 : decode cX6_batch 129 = .ok (.getfield 30, 3) := by decide +kernel
theorem dX6_batch_132 : decode cX6_batch 132 = .ok (.iload 11, 2) := by decide +kernel
theorem dX6_batch_134 : decode cX6_batch 134 = .ok (.iaload, 1) := by decide +kernel
theorem dX6_batch_135 : decode cX6_batch 135 = .ok (.ifCond .ne 8, 3) := by decide +kernel
theorem dX6_batch_138 : decode cX6_batch 138 = .ok (.lload 6, 2) := by decide +kernel
theorem dX6_batch_140 : decode cX6_batch 140 = .ok (.goto 5, 3) := by decide +kernel
theorem dX6_batch_143 : decode cX6_batch 143 = .ok (.lload 8, 2) := by decide +kernel
theorem dX6_batch_145 : decode cX6_batch 145 = .ok (.lstore 12, 2) := by decide +kernel
theorem dX6_batch_147 : decode cX6_batch 147 = .ok (.aload_n 0, 1) := by decide +kernel
theorem dX6_batch_148 : decode cX6_batch 148 = .ok (.getfield 49, 3) := by decide +kernel
theorem dX6_batch_151 : decode cX6_batch 151 = .ok (.iload 11, 2) := by decide +kernel
theorem dX6_batch_153 : decode cX6_batch 153 = .ok (.lload 12, 2) := by decide +kernel
theorem dX6_batch_155 : decode cX6_batch 155 = .ok (.aload_n 0, 1) := by decide +kernel
theorem dX6_batch_156 : decode cX6_batch 156 = .ok (.getfield 36, 3) := by decide +kernel
theorem dX6_batch_159 : decode cX6_batch 159 = .ok (.iload 11, 2) := by decide +kernel
theorem dX6_batch_161 : decode cX6_batch 161 = .ok (.iaload, 1) := by decide +kernel
theorem dX6_batch_162 : decode cX6_batch 162 = .ok (.i2l, 1) := by decide +kernel
theorem dX6_batch_163 : decode cX6_batch 163 = .ok (.lcmp, 1) := by decide +kernel
theorem dX6_batch_164 : decode cX6_batch 164 = .ok (.ifCond .ge 8, 3) := by decide +kernel
theorem dX6_batch_167 : decode cX6_batch 167 = .ok (.lload 12, 2) := by decide +kernel
theorem dX6_batch_169 : decode cX6_batch 169 = .ok (.goto 11, 3) := by decide +kernel
theorem dX6_batch_172 : decode cX6_batch 172 = .ok (.aload_n 0, 1) := by decide +kernel
theorem dX6_batch_173 : decode cX6_batch 173 = .ok (.getfield 36, 3) := by decide +kernel
theorem dX6_batch_176 : decode cX6_batch 176 = .ok (.iload 11, 2) := by decide +kernel
theorem dX6_batch_178 : decode cX6_batch 178 = .ok (.iaload, 1) := by decide +kernel
theorem dX6_batch_179 : decode cX6_batch 179 = .ok (.i2l, 1) := by decide +kernel
theorem dX6_batch_180 : decode cX6_batch 180 = .ok (.l2i, 1) := by decide +kernel
theorem dX6_batch_181 : decode cX6_batch 181 = .ok (.iastore, 1) := by decide +kernel
theorem dX6_batch_182 : decode cX6_batch 182 = .ok (.aload_n 0, 1) := by decide +kernel
theorem dX6_batch_183 : decode cX6_batch 183 = .ok (.getfield 52, 3) := by decide +kernel
theorem dX6_batch_186 : decode cX6_batch 186 = .ok (.iload 11, 2) := by decide +kernel
theorem dX6_batch_188 : decode cX6_batch 188 = .ok (.aload_n 0, 1) := by decide +kernel
theorem dX6_batch_189 : decode cX6_batch 189 = .ok (.getfield 49, 3) := by decide +kernel
theorem dX6_batch_192 : decode cX6_batch 192 = .ok (.iload 11, 2) := by decide +kernel
theorem dX6_batch_194 : decode cX6_batch 194 = .ok (.iaload, 1) := by decide +kernel
theorem dX6_batch_195 : decode cX6_batch 195 = .ok (.i2l, 1) := by decide +kernel
theorem dX6_batch_196 : decode cX6_batch 196 = .ok (.iload_n 1, 1) := by decide +kernel
theorem dX6_batch_197 : decode cX6_batch 197 = .ok (.i2l, 1) := by decide +kernel
theorem dX6_batch_198 : decode cX6_batch 198 = .ok (.lmul, 1) := by decide +kernel
theorem dX6_batch_199 : decode cX6_batch 199 = .ok (.lastore, 1) := by decide +kernel
theorem dX6_batch_200 : decode cX6_batch 200 = .ok (.aload_n 0, 1) := by decide +kernel
theorem dX6_batch_201 : decode cX6_batch 201 = .ok (.getfield 30, 3) := by decide +kernel
theorem dX6_batch_204 : decode cX6_batch 204 = .ok (.iload 11, 2) := by decide +kernel
theorem dX6_batch_206 : decode cX6_batch 206 = .ok (.iaload, 1) := by decide +kernel
theorem dX6_batch_207 : decode cX6_batch 207 = .ok (.ifCond .ne 64, 3) := by decide +kernel
theorem dX6_batch_210 : decode cX6_batch 210 = .ok (.lload 6, 2) := by decide +kernel
theorem dX6_batch_212 : decode cX6_batch 212 = .ok (.aload_n 0, 1) := by decide +kernel
theorem dX6_batch_213 : decode cX6_batch 213 = .ok (.getfield 49, 3) := by decide +kernel
theorem dX6_batch_216 : decode cX6_batch 216 = .ok (.iload 11, 2) := by decide +kernel
theorem dX6_batch_218 : decode cX6_batch 218 = .ok (.iaload, 1) := by decide +kernel
theorem dX6_batch_219 : decode cX6_batch 219 = .ok (.i2l, 1) := by decide +kernel
theorem dX6_batch_220 : decode cX6_batch 220 = .ok (.lsub, 1) := by decide +kernel
theorem dX6_batch_221 : decode cX6_batch 221 = .ok (.lstore 6, 2) := by decide +kernel
theorem dX6_batch_223 : decode cX6_batch 223 = .ok (.aload_n 0, 1) := by decide +kernel
theorem dX6_batch_224 : decode cX6_batch 224 = .ok (.getfield 7, 3) := by decide +kernel
theorem dX6_batch_227 : decode cX6_batch 227 = .ok (.aload_n 0, 1) := by decide +kernel
theorem dX6_batch_228 : decode cX6_batch 228 = .ok (.getfield 16, 3) := by decide +kernel
theorem dX6_batch_231 : decode cX6_batch 231 = .ok (.iload 11, 2) := by decide +kernel
theorem dX6_batch_233 : decode cX6_batch 233 = .ok (.iaload, 1) := by decide +kernel
theorem dX6_batch_234 : decode cX6_batch 234 = .ok (.dup2, 1) := by decide +kernel
theorem dX6_batch_235 : decode cX6_batch 235 = .ok (.laload, 1) := by decide +kernel
theorem dX6_batch_236 : decode cX6_batch 236 = .ok (.aload_n 0, 1) := by decide +kernel
theorem dX6_batch_237 : decode cX6_batch 237 = .ok (.getfield 52, 3) := by decide +kernel
theorem dX6_batch_240 : decode cX6_batch 240 = .ok (.iload 11, 2) := by decide +kernel
theorem dX6_batch_242 : decode cX6_batch 242 = .ok (.laload, 1) := by decide +kernel
theorem dX6_batch_243 : decode cX6_batch 243 = .ok (.lsub, 1) := by decide +kernel
theorem dX6_batch_244 : decode cX6_batch 244 = .ok (.lastore, 1) := by decide +kernel
theorem dX6_batch_245 : decode cX6_batch 245 = .ok (.aload_n 0, 1) := by decide +kernel
theorem dX6_batch_246 : decode cX6_batch 246 = .ok (.getfield 13, 3) := by decide +kernel
theorem dX6_batch_249 : decode cX6_batch 249 = .ok (.aload_n 0, 1) := by decide +kernel
theorem dX6_batch_250 : decode cX6_batch 250 = .ok (.getfield 16, 3) := by decide +kernel
theorem dX6_batch_253 : decode cX6_batch 253 = .ok (.iload 11, 2) := by decide +kernel
theorem dX6_batch_255 : decode cX6_batch 255 = .ok (.iaload, 1) := by decide +kernel
theorem dX6_batch_256 : decode cX6_batch 256 = .ok (.dup2, 1) := by decide +kernel
theorem dX6_batch_257 : decode cX6_batch 257 = .ok (.laload, 1) := by decide +kernel
theorem dX6_batch_258 : decode cX6_batch 258 = .ok (.aload_n 0, 1) := by decide +kernel
theorem dX6_batch_259 : decode cX6_batch 259 = .ok (.getfield 49, 3) := by decide +kernel
theorem dX6_batch_262 : decode cX6_batch 262 = .ok (.iload 11, 2) := by decide +kernel
theorem dX6_batch_264 : decode cX6_batch 264 = .ok (.iaload, 1) := by decide +kernel
theorem dX6_batch_265 : decode cX6_batch 265 = .ok (.i2l, 1) := by decide +kernel
theorem dX6_batch_266 : decode cX6_batch 266 = .ok (.ladd, 1) := by decide +kernel
theorem dX6_batch_267 : decode cX6_batch 267 = .ok (.lastore, 1) := by decide +kernel
theorem dX6_batch_268 : decode cX6_batch 268 = .ok (.goto 61, 3) := by decide +kernel
theorem dX6_batch_271 : decode cX6_batch 271 = .ok (.lload 8, 2) := by decide +kernel
theorem dX6_batch_273 : decode cX6_batch 273 = .ok (.aload_n 0, 1) := by decide +kernel
theorem dX6_batch_274 : decode cX6_batch 274 = .ok (.getfield 49, 3) := by decide +kernel
theorem dX6_batch_277 : decode cX6_batch 277 = .ok (.iload 11, 2) := by decide +kernel
theorem dX6_batch_279 : decode cX6_batch 279 = .ok (.iaload, 1) := by decide +kernel
theorem dX6_batch_280 : decode cX6_batch 280 = .ok (.i2l, 1) := by decide +kernel
theorem dX6_batch_281 : decode cX6_batch 281 = .ok (.lsub, 1) := by decide +kernel
theorem dX6_batch_282 : decode cX6_batch 282 = .ok (.lstore 8, 2) := by decide +kernel
theorem dX6_batch_284 : decode cX6_batch 284 = .ok (.aload_n 0, 1) := by decide +kernel
theorem dX6_batch_285 : decode cX6_batch 285 = .ok (.getfield 7, 3) := by decide +kernel
theorem dX6_batch_288 : decode cX6_batch 288 = .ok (.aload_n 0, 1) := by decide +kernel
theorem dX6_batch_289 : decode cX6_batch 289 = .ok (.getfield 16, 3) := by decide +kernel
theorem dX6_batch_292 : decode cX6_batch 292 = .ok (.iload 11, 2) := by decide +kernel
theorem dX6_batch_294 : decode cX6_batch 294 = .ok (.iaload, 1) := by decide +kernel
theorem dX6_batch_295 : decode cX6_batch 295 = .ok (.dup2, 1) := by decide +kernel
theorem dX6_batch_296 : decode cX6_batch 296 = .ok (.laload, 1) := by decide +kernel
theorem dX6_batch_297 : decode cX6_batch 297 = .ok (.aload_n 0, 1) := by decide +kernel
theorem dX6_batch_298 : decode cX6_batch 298 = .ok (.getfield 52, 3) := by decide +kernel
theorem dX6_batch_301 : decode cX6_batch 301 = .ok (.iload 11, 2) := by decide +kernel
theorem dX6_batch_303 : decode cX6_batch 303 = .ok (.laload, 1) := by decide +kernel
theorem dX6_batch_304 : decode cX6_batch 304 = .ok (.ladd, 1) := by decide +kernel
theorem dX6_batch_305 : decode cX6_batch 305 = .ok (.lastore, 1) := by decide +kernel
theorem dX6_batch_306 : decode cX6_batch 306 = .ok (.aload_n 0, 1) := by decide +kernel
theorem dX6_batch_307 : decode cX6_batch 307 = .ok (.getfield 13, 3) := by decide +kernel
theorem dX6_batch_310 : decode cX6_batch 310 = .ok (.aload_n 0, 1) := by decide +kernel
theorem dX6_batch_311 : decode cX6_batch 311 = .ok (.getfield 16, 3) := by decide +kernel
theorem dX6_batch_314 : decode cX6_batch 314 = .ok (.iload 11, 2) := by decide +kernel
theorem dX6_batch_316 : decode cX6_batch 316 = .ok (.iaload, 1) := by decide +kernel
theorem dX6_batch_317 : decode cX6_batch 317 = .ok (.dup2, 1) := by decide +kernel
theorem dX6_batch_318 : decode cX6_batch 318 = .ok (.laload, 1) := by decide +kernel
theorem dX6_batch_319 : decode cX6_batch 319 = .ok (.aload_n 0, 1) := by decide +kernel
theorem dX6_batch_320 : decode cX6_batch 320 = .ok (.getfield 49, 3) := by decide +kernel
theorem dX6_batch_323 : decode cX6_batch 323 = .ok (.iload 11, 2) := by decide +kernel
theorem dX6_batch_325 : decode cX6_batch 325 = .ok (.iaload, 1) := by decide +kernel
theorem dX6_batch_326 : decode cX6_batch 326 = .ok (.i2l, 1) := by decide +kernel
theorem dX6_batch_327 : decode cX6_batch 327 = .ok (.lsub, 1) := by decide +kernel
theorem dX6_batch_328 : decode cX6_batch 328 = .ok (.lastore, 1) := by decide +kernel
theorem dX6_batch_329 : decode cX6_batch 329 = .ok (.iinc 10 1, 3) := by decide +kernel
theorem dX6_batch_332 : decode cX6_batch 332 = .ok (.goto (-236), 3) := by decide +kernel
theorem dX6_batch_335 : decode cX6_batch 335 = .ok (.iload_n 1, 1) := by decide +kernel
theorem dX6_batch_336 : decode cX6_batch 336 = .ok (.ireturn, 1) := by decide +kernel
theorem dX6_done_0 : decode cX6_done 0 = .ok (.aload_n 0, 1) := by decide +kernel
theorem dX6_done_1 : decode cX6_done 1 = .ok (.iload_n 1, 1) := by decide +kernel
theorem dX6_done_2 : decode cX6_done 2 = .ok (.invokevirtual 141, 3) := by decide +kernel
theorem dX6_done_5 : decode cX6_done 5 = .ok (.ifCond .ne 8, 3) := by decide +kernel
theorem dX6_done_8 : decode cX6_done 8 = .ok (.bipush (-2), 2) := by decide +kernel
theorem dX6_done_10 : decode cX6_done 10 = .ok (.goto 20, 3) := by decide +kernel
theorem dX6_done_13 : decode cX6_done 13 = .ok (.aload_n 0, 1) := by decide +kernel
theorem dX6_done_14 : decode cX6_done 14 = .ok (.getfield 95, 3) := by decide +kernel
theorem dX6_done_17 : decode cX6_done 17 = .ok (.ifCond .ne 7, 3) := by decide +kernel
theorem dX6_done_20 : decode cX6_done 20 = .ok (.iconst (-1), 1) := by decide +kernel
theorem dX6_done_21 : decode cX6_done 21 = .ok (.goto 9, 3) := by decide +kernel
theorem dX6_done_24 : decode cX6_done 24 = .ok (.aload_n 0, 1) := by decide +kernel
theorem dX6_done_25 : decode cX6_done 25 = .ok (.getfield 49, 3) := by decide +kernel
theorem dX6_done_28 : decode cX6_done 28 = .ok (.iload_n 1, 1) := by decide +kernel
theorem dX6_done_29 : decode cX6_done 29 = .ok (.iaload, 1) := by decide +kernel
theorem dX6_done_30 : decode cX6_done 30 = .ok (.ireturn, 1) := by decide +kernel
theorem dX6_passed_0 : decode cX6_passed 0 = .ok (.aload_n 0, 1) := by decide +kernel
theorem dX6_passed_1 : decode cX6_passed 1 = .ok (.iload_n 1, 1) := by decide +kernel
theorem dX6_passed_2 : decode cX6_passed 2 = .ok (.invokevirtual 141, 3) := by decide +kernel
theorem dX6_passed_5 : decode cX6_passed 5 = .ok (.ifCond .ne 9, 3) := by decide +kernel
theorem dX6_passed_8 : decode cX6_passed 8 = .ok (.ldc2_w 210, 3) := by decide +kernel
theorem dX6_passed_11 : decode cX6_passed 11 = .ok (.goto 22, 3) := by decide +kernel
theorem dX6_passed_14 : decode cX6_passed 14 = .ok (.aload_n 0, 1) := by decide +kernel
theorem dX6_passed_15 : decode cX6_passed 15 = .ok (.getfield 95, 3) := by decide +kernel
theorem dX6_passed_18 : decode cX6_passed 18 = .ok (.ifCond .ne 9, 3) := by decide +kernel
theorem dX6_passed_21 : decode cX6_passed 21 = .ok (.ldc2_w 212, 3) := by decide +kernel
theorem dX6_passed_24 : decode cX6_passed 24 = .ok (.goto 9, 3) := by decide +kernel
theorem dX6_passed_27 : decode cX6_passed 27 = .ok (.aload_n 0, 1) := by decide +kernel
theorem dX6_passed_28 : decode cX6_passed 28 = .ok (.getfield 52, 3) := by decide +kernel
theorem dX6_passed_31 : decode cX6_passed 31 = .ok (.iload_n 1, 1) := by decide +kernel
theorem dX6_passed_32 : decode cX6_passed 32 = .ok (.laload, 1) := by decide +kernel
theorem dX6_passed_33 : decode cX6_passed 33 = .ok (.lreturn, 1) := by decide +kernel
theorem dX6_gain_0 : decode cX6_gain 0 = .ok (.aload_n 0, 1) := by decide +kernel
theorem dX6_gain_1 : decode cX6_gain 1 = .ok (.invokevirtual 191, 3) := by decide +kernel
theorem dX6_gain_4 : decode cX6_gain 4 = .ok (.ifCond .eq 36, 3) := by decide +kernel
theorem dX6_gain_7 : decode cX6_gain 7 = .ok (.iload_n 1, 1) := by decide +kernel
theorem dX6_gain_8 : decode cX6_gain 8 = .ok (.ifCond .lt 32, 3) := by decide +kernel
theorem dX6_gain_11 : decode cX6_gain 11 = .ok (.iload_n 1, 1) := by decide +kernel
theorem dX6_gain_12 : decode cX6_gain 12 = .ok (.aload_n 0, 1) := by decide +kernel
theorem dX6_gain_13 : decode cX6_gain 13 = .ok (.getfield 42, 3) := by decide +kernel
theorem dX6_gain_16 : decode cX6_gain 16 = .ok (.if_icmp .ge 24, 3) := by decide +kernel
theorem dX6_gain_19 : decode cX6_gain 19 = .ok (.iload_n 2, 1) := by decide +kernel
theorem dX6_gain_20 : decode cX6_gain 20 = .ok (.ifCond .lt 20, 3) := by decide +kernel
theorem dX6_gain_23 : decode cX6_gain 23 = .ok (.iload_n 2, 1) := by decide +kernel
theorem dX6_gain_24 : decode cX6_gain 24 = .ok (.aload_n 0, 1) := by decide +kernel
theorem dX6_gain_25 : decode cX6_gain 25 = .ok (.getfield 42, 3) := by decide +kernel
theorem dX6_gain_28 : decode cX6_gain 28 = .ok (.if_icmp .ge 12, 3) := by decide +kernel
theorem dX6_gain_31 : decode cX6_gain 31 = .ok (.iload_n 3, 1) := by decide +kernel
theorem dX6_gain_32 : decode cX6_gain 32 = .ok (.ifCond .eq 10, 3) := by decide +kernel
theorem dX6_gain_35 : decode cX6_gain 35 = .ok (.iload_n 3, 1) := by decide +kernel
theorem dX6_gain_36 : decode cX6_gain 36 = .ok (.iconst 1, 1) := by decide +kernel
theorem dX6_gain_37 : decode cX6_gain 37 = .ok (.if_icmp .eq 5, 3) := by decide +kernel
theorem dX6_gain_40 : decode cX6_gain 40 = .ok (.lconst 0, 1) := by decide +kernel
theorem dX6_gain_41 : decode cX6_gain 41 = .ok (.lreturn, 1) := by decide +kernel
theorem dX6_gain_42 : decode cX6_gain 42 = .ok (.aload_n 0, 1) := by decide +kernel
theorem dX6_gain_43 : decode cX6_gain 43 = .ok (.getfield 16, 3) := by decide +kernel
theorem dX6_gain_46 : decode cX6_gain 46 = .ok (.aload_n 0, 1) := by decide +kernel
theorem dX6_gain_47 : decode cX6_gain 47 = .ok (.getfield 46, 3) := by decide +kernel
theorem dX6_gain_50 : decode cX6_gain 50 = .ok (.iload_n 1, 1) := by decide +kernel
theorem dX6_gain_51 : decode cX6_gain 51 = .ok (.iaload, 1) := by decide +kernel
theorem dX6_gain_52 : decode cX6_gain 52 = .ok (.iaload, 1) := by decide +kernel
theorem dX6_gain_53 : decode cX6_gain 53 = .ok (.istore 4, 2) := by decide +kernel
theorem dX6_gain_55 : decode cX6_gain 55 = .ok (.iconst 0, 1) := by decide +kernel
theorem dX6_gain_56 : decode cX6_gain 56 = .ok (.istore 5, 2) := by decide +kernel
theorem dX6_gain_58 : decode cX6_gain 58 = .ok (.iload 5, 2) := by decide +kernel
theorem dX6_gain_60 : decode cX6_gain 60 = .ok (.aload_n 0, 1) := by decide +kernel
theorem dX6_gain_61 : decode cX6_gain 61 = .ok (.getfield 42, 3) := by decide +kernel
theorem dX6_gain_64 : decode cX6_gain 64 = .ok (.if_icmp .ge 23, 3) := by decide +kernel
theorem dX6_gain_67 : decode cX6_gain 67 = .ok (.aload_n 0, 1) := by decide +kernel
theorem dX6_gain_68 : decode cX6_gain 68 = .ok (.getfield 55, 3) := by decide +kernel
theorem dX6_gain_71 : decode cX6_gain 71 = .ok (.iload 5, 2) := by decide +kernel
theorem dX6_gain_73 : decode cX6_gain 73 = .ok (.aload_n 0, 1) := by decide +kernel
theorem dX6_gain_74 : decode cX6_gain 74 = .ok (.getfield 46, 3) := by decide +kernel
theorem dX6_gain_77 : decode cX6_gain 77 = .ok (.iload 5, 2) := by decide +kernel
theorem dX6_gain_79 : decode cX6_gain 79 = .ok (.iaload, 1) := by decide +kernel
theorem dX6_gain_80 : decode cX6_gain 80 = .ok (.iastore, 1) := by decide +kernel
theorem dX6_gain_81 : decode cX6_gain 81 = .ok (.iinc 5 1, 3) := by decide +kernel
theorem dX6_gain_84 : decode cX6_gain 84 = .ok (.goto (-26), 3) := by decide +kernel
theorem dX6_gain_87 : decode cX6_gain 87 = .ok (.aload_n 0, 1) := by decide +kernel
theorem dX6_gain_88 : decode cX6_gain 88 = .ok (.invokevirtual 194, 3) := by decide +kernel
theorem dX6_gain_91 : decode cX6_gain 91 = .ok (.iload_n 3, 1) := by decide +kernel
theorem dX6_gain_92 : decode cX6_gain 92 = .ok (.ifCond .ne 13, 3) := by decide +kernel
theorem dX6_gain_95 : decode cX6_gain 95 = .ok (.aload_n 0, 1) := by decide +kernel
theorem dX6_gain_96 : decode cX6_gain 96 = .ok (.getfield 58, 3) := by decide +kernel
theorem dX6_gain_99 : decode cX6_gain 99 = .ok (.iload 4, 2) := by decide +kernel
theorem dX6_gain_101 : decode cX6_gain 101 = .ok (.laload, 1) := by decide +kernel
theorem dX6_gain_102 : decode cX6_gain 102 = .ok (.goto 10, 3) := by decide +kernel
theorem dX6_gain_105 : decode cX6_gain 105 = .ok (.aload_n 0, 1) := by decide +kernel
theorem dX6_gain_106 : decode cX6_gain 106 = .ok (.getfield 61, 3) := by decide +kernel
theorem dX6_gain_109 : decode cX6_gain 109 = .ok (.iload 4, 2) := by decide +kernel
theorem dX6_gain_111 : decode cX6_gain 111 = .ok (.laload, 1) := by decide +kernel
theorem dX6_gain_112 : decode cX6_gain 112 = .ok (.lstore 5, 2) := by decide +kernel
theorem dX6_gain_114 : decode cX6_gain 114 = .ok (.iconst 0, 1) := by decide +kernel
theorem dX6_gain_115 : decode cX6_gain 115 = .ok (.istore 7, 2) := by decide +kernel
theorem dX6_gain_117 : decode cX6_gain 117 = .ok (.iconst 0, 1) := by decide +kernel
theorem dX6_gain_118 : decode cX6_gain 118 = .ok (.istore 8, 2) := by decide +kernel
theorem dX6_gain_120 : decode cX6_gain 120 = .ok (.iload 8, 2) := by decide +kernel
theorem dX6_gain_122 : decode cX6_gain 122 = .ok (.aload_n 0, 1) := by decide +kernel
theorem dX6_gain_123 : decode cX6_gain 123 = .ok (.getfield 42, 3) := by decide +kernel
theorem dX6_gain_126 : decode cX6_gain 126 = .ok (.if_icmp .ge 64, 3) := by decide +kernel
theorem dX6_gain_129 : decode cX6_gain 129 = .ok (.iload 8, 2) := by decide +kernel
theorem dX6_gain_131 : decode cX6_gain 131 = .ok (.iload_n 2, 1) := by decide +kernel
theorem dX6_gain_132 : decode cX6_gain 132 = .ok (.if_icmp .ne 19, 3) := by decide +kernel
theorem dX6_gain_135 : decode cX6_gain 135 = .ok (.aload_n 0, 1) := by decide +kernel
theorem dX6_gain_136 : decode cX6_gain 136 = .ok (.getfield 55, 3) := by decide +kernel
theorem dX6_gain_139 : decode cX6_gain 139 = .ok (.iload 8, 2) := by decide +kernel
theorem dX6_gain_141 : decode cX6_gain 141 = .ok (.aload_n 0, 1) := by decide +kernel
theorem dX6_gain_142 : decode cX6_gain 142 = .ok (.getfield 46, 3) := by decide +kernel
theorem dX6_gain_145 : decode cX6_gain 145 = .ok (.iload_n 1, 1) := by decide +kernel
theorem dX6_gain_146 : decode cX6_gain 146 = .ok (.iaload, 1) := by decide +kernel
theorem dX6_gain_147 : decode cX6_gain 147 = .ok (.iastore, 1) := by decide +kernel
theorem dX6_gain_148 : decode cX6_gain 148 = .ok (.goto 36, 3) := by decide +kernel
theorem dX6_gain_151 : decode cX6_gain 151 = .ok (.iload 7, 2) := by decide +kernel
theorem dX6_gain_153 : decode cX6_gain 153 = .ok (.iload 7, 2) := by decide +kernel
theorem dX6_gain_155 : decode cX6_gain 155 = .ok (.iload_n 1, 1) := by decide +kernel
theorem dX6_gain_156 : decode cX6_gain 156 = .ok (.if_icmp .ne 7, 3) := by decide +kernel
theorem dX6_gain_159 : decode cX6_gain 159 = .ok (.iconst 1, 1) := by decide +kernel
theorem dX6_gain_160 : decode cX6_gain 160 = .ok (.goto 4, 3) := by decide +kernel
theorem dX6_gain_163 : decode cX6_gain 163 = .ok (.iconst 0, 1) := by decide +kernel
theorem dX6_gain_164 : decode cX6_gain 164 = .ok (.iadd, 1) := by decide +kernel
theorem dX6_gain_165 : decode cX6_gain 165 = .ok (.istore 7, 2) := by decide +kernel
theorem dX6_gain_167 : decode cX6_gain 167 = .ok (.aload_n 0, 1) := by decide +kernel
theorem dX6_gain_168 : decode cX6_gain 168 = .ok (.getfield 55, 3) := by decide +kernel
theorem dX6_gain_171 : decode cX6_gain 171 = .ok (.iload 8, 2) := by decide +kernel
theorem dX6_gain_173 : decode cX6_gain 173 = .ok (.aload_n 0, 1) := by decide +kernel
theorem dX6_gain_174 : decode cX6_gain 174 = .ok (.getfield 46, 3) := by decide +kernel
theorem dX6_gain_177 : decode cX6_gain 177 = .ok (.iload 7, 2) := by decide +kernel
theorem dX6_gain_179 : decode cX6_gain 179 = .ok (.iaload, 1) := by decide +kernel
theorem dX6_gain_180 : decode cX6_gain 180 = .ok (.iastore, 1) := by decide +kernel
theorem dX6_gain_181 : decode cX6_gain 181 = .ok (.iinc 7 1, 3) := by decide +kernel
theorem dX6_gain_184 : decode cX6_gain 184 = .ok (.iinc 8 1, 3) := by decide +kernel
theorem dX6_gain_187 : decode cX6_gain 187 = .ok (.goto (-67), 3) := by decide +kernel
theorem dX6_gain_190 : decode cX6_gain 190 = .ok (.aload_n 0, 1) := by decide +kernel
theorem dX6_gain_191 : decode cX6_gain 191 = .ok (.invokevirtual 194, 3) := by decide +kernel
theorem dX6_gain_194 : decode cX6_gain 194 = .ok (.iload_n 3, 1) := by decide +kernel
theorem dX6_gain_195 : decode cX6_gain 195 = .ok (.ifCond .ne 13, 3) := by decide +kernel
theorem dX6_gain_198 : decode cX6_gain 198 = .ok (.aload_n 0, 1) := by decide +kernel
theorem dX6_gain_199 : decode cX6_gain 199 = .ok (.getfield 58, 3) := by decide +kernel
theorem dX6_gain_202 : decode cX6_gain 202 = .ok (.iload 4, 2) := by decide +kernel
theorem dX6_gain_204 : decode cX6_gain 204 = .ok (.laload, 1) := by decide +kernel
theorem dX6_gain_205 : decode cX6_gain 205 = .ok (.goto 10, 3) := by decide +kernel
theorem dX6_gain_208 : decode cX6_gain 208 = .ok (.aload_n 0, 1) := by decide +kernel
theorem dX6_gain_209 : decode cX6_gain 209 = .ok (.getfield 61, 3) := by decide +kernel
theorem dX6_gain_212 : decode cX6_gain 212 = .ok (.iload 4, 2) := by decide +kernel
theorem dX6_gain_214 : decode cX6_gain 214 = .ok (.laload, 1) := by decide +kernel
theorem dX6_gain_215 : decode cX6_gain 215 = .ok (.lload 5, 2) := by decide +kernel
theorem dX6_gain_217 : decode cX6_gain 217 = .ok (.lsub, 1) := by decide +kernel
theorem dX6_gain_218 : decode cX6_gain 218 = .ok (.lreturn, 1) := by decide +kernel
theorem dX6_has_0 : decode cX6_has 0 = .ok (.iload_n 2, 1) := by decide +kernel
theorem dX6_has_1 : decode cX6_has 1 = .ok (.ifCond .eq 8, 3) := by decide +kernel
theorem dX6_has_4 : decode cX6_has 4 = .ok (.iload_n 2, 1) := by decide +kernel
theorem dX6_has_5 : decode cX6_has 5 = .ok (.iconst 1, 1) := by decide +kernel
theorem dX6_has_6 : decode cX6_has 6 = .ok (.if_icmp .ne 17, 3) := by decide +kernel
theorem dX6_has_9 : decode cX6_has 9 = .ok (.iload_n 1, 1) := by decide +kernel
theorem dX6_has_10 : decode cX6_has 10 = .ok (.bipush (-2), 2) := by decide +kernel
theorem dX6_has_12 : decode cX6_has 12 = .ok (.if_icmp .lt 11, 3) := by decide +kernel
theorem dX6_has_15 : decode cX6_has 15 = .ok (.iload_n 1, 1) := by decide +kernel
theorem dX6_has_16 : decode cX6_has 16 = .ok (.aload_n 0, 1) := by decide +kernel
theorem dX6_has_17 : decode cX6_has 17 = .ok (.getfield 102, 3) := by decide +kernel
theorem dX6_has_20 : decode cX6_has 20 = .ok (.if_icmp .lt 5, 3) := by decide +kernel
theorem dX6_has_23 : decode cX6_has 23 = .ok (.lconst 0, 1) := by decide +kernel
theorem dX6_has_24 : decode cX6_has 24 = .ok (.lreturn, 1) := by decide +kernel
theorem dX6_has_25 : decode cX6_has 25 = .ok (.iload_n 1, 1) := by decide +kernel
theorem dX6_has_26 : decode cX6_has 26 = .ok (.bipush (-2), 2) := by decide +kernel
theorem dX6_has_28 : decode cX6_has 28 = .ok (.if_icmp .ne 16, 3) := by decide +kernel
theorem dX6_has_31 : decode cX6_has 31 = .ok (.iload_n 2, 1) := by decide +kernel
theorem dX6_has_32 : decode cX6_has 32 = .ok (.ifCond .ne 10, 3) := by decide +kernel
end
section
theorem dX6_has_35 : decode cX6_has 35 = .ok (.aload_n 0, 1) := by decide +kernel
theorem dX6_has_36 : decode cX6_has 36 = .ok (.getfield 112, 3) := by decide +kernel
theorem dX6_has_39 : decode cX6_has 39 = .ok (.goto 4, 3) := by decide +kernel
theorem dX6_has_42 : decode cX6_has 42 = .ok (.lconst 0, 1) := by decide +kernel
theorem dX6_has_43 : decode cX6_has 43 = .ok (.lreturn, 1) := by decide +kernel
theorem dX6_has_44 : decode cX6_has 44 = .ok (.iload_n 1, 1) := by decide +kernel
theorem dX6_has_45 : decode cX6_has 45 = .ok (.iconst (-1), 1) := by decide +kernel
theorem dX6_has_46 : decode cX6_has 46 = .ok (.if_icmp .ne 19, 3) := by decide +kernel
theorem dX6_has_49 : decode cX6_has 49 = .ok (.iload_n 2, 1) := by decide +kernel
theorem dX6_has_50 : decode cX6_has 50 = .ok (.ifCond .ne 10, 3) := by decide +kernel
theorem dX6_has_53 : decode cX6_has 53 = .ok (.aload_n 0, 1) := by decide +kernel
theorem dX6_has_54 : decode cX6_has 54 = .ok (.getfield 105, 3) := by decide +kernel
theorem dX6_has_57 : decode cX6_has 57 = .ok (.goto 7, 3) := by decide +kernel
theorem dX6_has_60 : decode cX6_has 60 = .ok (.aload_n 0, 1) := by decide +kernel
theorem dX6_has_61 : decode cX6_has 61 = .ok (.getfield 109, 3) := by decide +kernel
theorem dX6_has_64 : decode cX6_has 64 = .ok (.lreturn, 1) := by decide +kernel
theorem dX6_has_65 : decode cX6_has 65 = .ok (.iload_n 2, 1) := by decide +kernel
theorem dX6_has_66 : decode cX6_has 66 = .ok (.ifCond .ne 12, 3) := by decide +kernel
theorem dX6_has_69 : decode cX6_has 69 = .ok (.aload_n 0, 1) := by decide +kernel
theorem dX6_has_70 : decode cX6_has 70 = .ok (.getfield 7, 3) := by decide +kernel
theorem dX6_has_73 : decode cX6_has 73 = .ok (.iload_n 1, 1) := by decide +kernel
theorem dX6_has_74 : decode cX6_has 74 = .ok (.laload, 1) := by decide +kernel
theorem dX6_has_75 : decode cX6_has 75 = .ok (.goto 9, 3) := by decide +kernel
theorem dX6_has_78 : decode cX6_has 78 = .ok (.aload_n 0, 1) := by decide +kernel
theorem dX6_has_79 : decode cX6_has 79 = .ok (.getfield 13, 3) := by decide +kernel
theorem dX6_has_82 : decode cX6_has 82 = .ok (.iload_n 1, 1) := by decide +kernel
theorem dX6_has_83 : decode cX6_has 83 = .ok (.laload, 1) := by decide +kernel
theorem dX6_has_84 : decode cX6_has 84 = .ok (.lreturn, 1) := by decide +kernel
theorem dX6_of_0 : decode cX6_of 0 = .ok (.aload_n 0, 1) := by decide +kernel
theorem dX6_of_1 : decode cX6_of 1 = .ok (.iload_n 1, 1) := by decide +kernel
theorem dX6_of_2 : decode cX6_of 2 = .ok (.invokevirtual 141, 3) := by decide +kernel
theorem dX6_of_5 : decode cX6_of 5 = .ok (.ifCond .eq 15, 3) := by decide +kernel
theorem dX6_of_8 : decode cX6_of 8 = .ok (.iload_n 2, 1) := by decide +kernel
theorem dX6_of_9 : decode cX6_of 9 = .ok (.i2l, 1) := by decide +kernel
theorem dX6_of_10 : decode cX6_of 10 = .ok (.lconst 0, 1) := by decide +kernel
theorem dX6_of_11 : decode cX6_of 11 = .ok (.ldc2_w 139, 3) := by decide +kernel
theorem dX6_of_14 : decode cX6_of 14 = .ok (.invokestatic 91, 3) := by decide +kernel
theorem dX6_of_17 : decode cX6_of 17 = .ok (.ifCond .ne 6, 3) := by decide +kernel
theorem dX6_of_20 : decode cX6_of 20 = .ok (.bipush (-2), 2) := by decide +kernel
theorem dX6_of_22 : decode cX6_of 22 = .ok (.ireturn, 1) := by decide +kernel
theorem dX6_of_23 : decode cX6_of 23 = .ok (.iload_n 2, 1) := by decide +kernel
theorem dX6_of_24 : decode cX6_of 24 = .ok (.iconst 1, 1) := by decide +kernel
theorem dX6_of_25 : decode cX6_of 25 = .ok (.if_icmp .le 14, 3) := by decide +kernel
theorem dX6_of_28 : decode cX6_of 28 = .ok (.aload_n 0, 1) := by decide +kernel
theorem dX6_of_29 : decode cX6_of 29 = .ok (.getfield 26, 3) := by decide +kernel
theorem dX6_of_32 : decode cX6_of 32 = .ok (.iload_n 1, 1) := by decide +kernel
theorem dX6_of_33 : decode cX6_of 33 = .ok (.baload, 1) := by decide +kernel
theorem dX6_of_34 : decode cX6_of 34 = .ok (.ifCond .ne 5, 3) := by decide +kernel
theorem dX6_of_37 : decode cX6_of 37 = .ok (.iconst (-1), 1) := by decide +kernel
theorem dX6_of_38 : decode cX6_of 38 = .ok (.ireturn, 1) := by decide +kernel
theorem dX6_of_39 : decode cX6_of 39 = .ok (.iload_n 2, 1) := by decide +kernel
theorem dX6_of_40 : decode cX6_of 40 = .ok (.ifCond .ne 12, 3) := by decide +kernel
theorem dX6_of_43 : decode cX6_of 43 = .ok (.aload_n 0, 1) := by decide +kernel
theorem dX6_of_44 : decode cX6_of 44 = .ok (.getfield 16, 3) := by decide +kernel
theorem dX6_of_47 : decode cX6_of 47 = .ok (.iload_n 1, 1) := by decide +kernel
theorem dX6_of_48 : decode cX6_of 48 = .ok (.iaload, 1) := by decide +kernel
theorem dX6_of_49 : decode cX6_of 49 = .ok (.goto 59, 3) := by decide +kernel
theorem dX6_of_52 : decode cX6_of 52 = .ok (.iload_n 2, 1) := by decide +kernel
theorem dX6_of_53 : decode cX6_of 53 = .ok (.iconst 1, 1) := by decide +kernel
theorem dX6_of_54 : decode cX6_of 54 = .ok (.if_icmp .ne 20, 3) := by decide +kernel
theorem dX6_of_57 : decode cX6_of 57 = .ok (.aload_n 0, 1) := by decide +kernel
theorem dX6_of_58 : decode cX6_of 58 = .ok (.getfield 26, 3) := by decide +kernel
theorem dX6_of_61 : decode cX6_of 61 = .ok (.iload_n 1, 1) := by decide +kernel
theorem dX6_of_62 : decode cX6_of 62 = .ok (.baload, 1) := by decide +kernel
theorem dX6_of_63 : decode cX6_of 63 = .ok (.ifCond .eq 7, 3) := by decide +kernel
theorem dX6_of_66 : decode cX6_of 66 = .ok (.iconst 1, 1) := by decide +kernel
theorem dX6_of_67 : decode cX6_of 67 = .ok (.goto 41, 3) := by decide +kernel
theorem dX6_of_70 : decode cX6_of 70 = .ok (.iconst 0, 1) := by decide +kernel
theorem dX6_of_71 : decode cX6_of 71 = .ok (.goto 37, 3) := by decide +kernel
theorem dX6_of_74 : decode cX6_of 74 = .ok (.iload_n 2, 1) := by decide +kernel
theorem dX6_of_75 : decode cX6_of 75 = .ok (.iconst 2, 1) := by decide +kernel
theorem dX6_of_76 : decode cX6_of 76 = .ok (.if_icmp .ne 12, 3) := by decide +kernel
theorem dX6_of_79 : decode cX6_of 79 = .ok (.aload_n 0, 1) := by decide +kernel
theorem dX6_of_80 : decode cX6_of 80 = .ok (.getfield 30, 3) := by decide +kernel
theorem dX6_of_83 : decode cX6_of 83 = .ok (.iload_n 1, 1) := by decide +kernel
theorem dX6_of_84 : decode cX6_of 84 = .ok (.iaload, 1) := by decide +kernel
theorem dX6_of_85 : decode cX6_of 85 = .ok (.goto 23, 3) := by decide +kernel
theorem dX6_of_88 : decode cX6_of 88 = .ok (.iload_n 2, 1) := by decide +kernel
theorem dX6_of_89 : decode cX6_of 89 = .ok (.iconst 3, 1) := by decide +kernel
theorem dX6_of_90 : decode cX6_of 90 = .ok (.if_icmp .ne 12, 3) := by decide +kernel
theorem dX6_of_93 : decode cX6_of 93 = .ok (.aload_n 0, 1) := by decide +kernel
theorem dX6_of_94 : decode cX6_of 94 = .ok (.getfield 33, 3) := by decide +kernel
theorem dX6_of_97 : decode cX6_of 97 = .ok (.iload_n 1, 1) := by decide +kernel
theorem dX6_of_98 : decode cX6_of 98 = .ok (.iaload, 1) := by decide +kernel
theorem dX6_of_99 : decode cX6_of 99 = .ok (.goto 9, 3) := by decide +kernel
theorem dX6_of_102 : decode cX6_of 102 = .ok (.aload_n 0, 1) := by decide +kernel
theorem dX6_of_103 : decode cX6_of 103 = .ok (.getfield 36, 3) := by decide +kernel
theorem dX6_of_106 : decode cX6_of 106 = .ok (.iload_n 1, 1) := by decide +kernel
theorem dX6_of_107 : decode cX6_of 107 = .ok (.iaload, 1) := by decide +kernel
theorem dX6_of_108 : decode cX6_of 108 = .ok (.ireturn, 1) := by decide +kernel
theorem dX6_count_0 : decode cX6_count 0 = .ok (.iconst 0, 1) := by decide +kernel
theorem dX6_count_1 : decode cX6_count 1 = .ok (.istore_n 2, 1) := by decide +kernel
theorem dX6_count_2 : decode cX6_count 2 = .ok (.iload_n 1, 1) := by decide +kernel
theorem dX6_count_3 : decode cX6_count 3 = .ok (.tableswitch 108 0 5 #[37, 42, 47, 52, 87, 92], 37) := by decide +kernel
theorem dX6_count_40 : decode cX6_count 40 = .ok (.aload_n 0, 1) := by decide +kernel
theorem dX6_count_41 : decode cX6_count 41 = .ok (.getfield 102, 3) := by decide +kernel
theorem dX6_count_44 : decode cX6_count 44 = .ok (.ireturn, 1) := by decide +kernel
theorem dX6_count_45 : decode cX6_count 45 = .ok (.aload_n 0, 1) := by decide +kernel
theorem dX6_count_46 : decode cX6_count 46 = .ok (.getfield 88, 3) := by decide +kernel
theorem dX6_count_49 : decode cX6_count 49 = .ok (.ireturn, 1) := by decide +kernel
theorem dX6_count_50 : decode cX6_count 50 = .ok (.aload_n 0, 1) := by decide +kernel
theorem dX6_count_51 : decode cX6_count 51 = .ok (.getfield 99, 3) := by decide +kernel
theorem dX6_count_54 : decode cX6_count 54 = .ok (.ireturn, 1) := by decide +kernel
theorem dX6_count_55 : decode cX6_count 55 = .ok (.iconst 0, 1) := by decide +kernel
theorem dX6_count_56 : decode cX6_count 56 = .ok (.istore_n 3, 1) := by decide +kernel
theorem dX6_count_57 : decode cX6_count 57 = .ok (.iload_n 3, 1) := by decide +kernel
theorem dX6_count_58 : decode cX6_count 58 = .ok (.aload_n 0, 1) := by decide +kernel
theorem dX6_count_59 : decode cX6_count 59 = .ok (.getfield 88, 3) := by decide +kernel
theorem dX6_count_62 : decode cX6_count 62 = .ok (.if_icmp .ge 26, 3) := by decide +kernel
theorem dX6_count_65 : decode cX6_count 65 = .ok (.iload_n 2, 1) := by decide +kernel
theorem dX6_count_66 : decode cX6_count 66 = .ok (.aload_n 0, 1) := by decide +kernel
theorem dX6_count_67 : decode cX6_count 67 = .ok (.getfield 26, 3) := by decide +kernel
theorem dX6_count_70 : decode cX6_count 70 = .ok (.iload_n 3, 1) := by decide +kernel
theorem dX6_count_71 : decode cX6_count 71 = .ok (.baload, 1) := by decide +kernel
theorem dX6_count_72 : decode cX6_count 72 = .ok (.ifCond .eq 7, 3) := by decide +kernel
theorem dX6_count_75 : decode cX6_count 75 = .ok (.iconst 1, 1) := by decide +kernel
theorem dX6_count_76 : decode cX6_count 76 = .ok (.goto 4, 3) := by decide +kernel
theorem dX6_count_79 : decode cX6_count 79 = .ok (.iconst 0, 1) := by decide +kernel
theorem dX6_count_80 : decode cX6_count 80 = .ok (.iadd, 1) := by decide +kernel
theorem dX6_count_81 : decode cX6_count 81 = .ok (.istore_n 2, 1) := by decide +kernel
theorem dX6_count_82 : decode cX6_count 82 = .ok (.iinc 3 1, 3) := by decide +kernel
theorem dX6_count_85 : decode cX6_count 85 = .ok (.goto (-28), 3) := by decide +kernel
theorem dX6_count_88 : decode cX6_count 88 = .ok (.iload_n 2, 1) := by decide +kernel
theorem dX6_count_89 : decode cX6_count 89 = .ok (.ireturn, 1) := by decide +kernel
theorem dX6_count_90 : decode cX6_count 90 = .ok (.aload_n 0, 1) := by decide +kernel
theorem dX6_count_91 : decode cX6_count 91 = .ok (.getfield 115, 3) := by decide +kernel
theorem dX6_count_94 : decode cX6_count 94 = .ok (.ireturn, 1) := by decide +kernel
theorem dX6_count_95 : decode cX6_count 95 = .ok (.aload_n 0, 1) := by decide +kernel
theorem dX6_count_96 : decode cX6_count 96 = .ok (.getfield 42, 3) := by decide +kernel
theorem dX6_count_99 : decode cX6_count 99 = .ok (.ifCond .ge 7, 3) := by decide +kernel
theorem dX6_count_102 : decode cX6_count 102 = .ok (.iconst 0, 1) := by decide +kernel
theorem dX6_count_103 : decode cX6_count 103 = .ok (.goto 7, 3) := by decide +kernel
theorem dX6_count_106 : decode cX6_count 106 = .ok (.aload_n 0, 1) := by decide +kernel
theorem dX6_count_107 : decode cX6_count 107 = .ok (.getfield 42, 3) := by decide +kernel
theorem dX6_count_110 : decode cX6_count 110 = .ok (.ireturn, 1) := by decide +kernel
theorem dX6_count_111 : decode cX6_count 111 = .ok (.bipush (-2), 2) := by decide +kernel
theorem dX6_count_113 : decode cX6_count 113 = .ok (.ireturn, 1) := by decide +kernel
theorem dX5_init_0 : decode cX5_init 0 = .ok (.aload_n 0, 1) := by decide +kernel
theorem dX5_init_1 : decode cX5_init 1 = .ok (.invokespecial 3, 3) := by decide +kernel
theorem dX5_init_4 : decode cX5_init 4 = .ok (.aload_n 0, 1) := by decide +kernel
theorem dX5_init_5 : decode cX5_init 5 = .ok (.bipush 16, 2) := by decide +kernel
theorem dX5_init_7 : decode cX5_init 7 = .ok (.newarray .boolean, 2) := by decide +kernel
theorem dX5_init_9 : decode cX5_init 9 = .ok (.putfield 9, 3) := by decide +kernel
theorem dX5_init_12 : decode cX5_init 12 = .ok (.aload_n 0, 1) := by decide +kernel
theorem dX5_init_13 : decode cX5_init 13 = .ok (.bipush 8, 2) := by decide +kernel
theorem dX5_init_15 : decode cX5_init 15 = .ok (.newarray .long, 2) := by decide +kernel
theorem dX5_init_17 : decode cX5_init 17 = .ok (.putfield 15, 3) := by decide +kernel
theorem dX5_init_20 : decode cX5_init 20 = .ok (.aload_n 0, 1) := by decide +kernel
theorem dX5_init_21 : decode cX5_init 21 = .ok (.bipush 8, 2) := by decide +kernel
theorem dX5_init_23 : decode cX5_init 23 = .ok (.newarray .long, 2) := by decide +kernel
theorem dX5_init_25 : decode cX5_init 25 = .ok (.putfield 19, 3) := by decide +kernel
theorem dX5_init_28 : decode cX5_init 28 = .ok (.return_, 1) := by decide +kernel
theorem dX5_findPrice_0 : decode cX5_findPrice 0 = .ok (.iconst (-1), 1) := by decide +kernel
theorem dX5_findPrice_1 : decode cX5_findPrice 1 = .ok (.istore 4, 2) := by decide +kernel
theorem dX5_findPrice_3 : decode cX5_findPrice 3 = .ok (.lconst 0, 1) := by decide +kernel
theorem dX5_findPrice_4 : decode cX5_findPrice 4 = .ok (.lstore 5, 2) := by decide +kernel
theorem dX5_findPrice_6 : decode cX5_findPrice 6 = .ok (.iconst 1, 1) := by decide +kernel
theorem dX5_findPrice_7 : decode cX5_findPrice 7 = .ok (.istore 7, 2) := by decide +kernel
theorem dX5_findPrice_9 : decode cX5_findPrice 9 = .ok (.iload 7, 2) := by decide +kernel
theorem dX5_findPrice_11 : decode cX5_findPrice 11 = .ok (.sipush 1000, 3) := by decide +kernel
theorem dX5_findPrice_14 : decode cX5_findPrice 14 = .ok (.if_icmp .gt 38, 3) := by decide +kernel
theorem dX5_findPrice_17 : decode cX5_findPrice 17 = .ok (.aload_n 0, 1) := by decide +kernel
theorem dX5_findPrice_18 : decode cX5_findPrice 18 = .ok (.iload 7, 2) := by decide +kernel
theorem dX5_findPrice_20 : decode cX5_findPrice 20 = .ok (.aload_n 1, 1) := by decide +kernel
theorem dX5_findPrice_21 : decode cX5_findPrice 21 = .ok (.aload_n 2, 1) := by decide +kernel
theorem dX5_findPrice_22 : decode cX5_findPrice 22 = .ok (.aload_n 3, 1) := by decide +kernel
theorem dX5_findPrice_23 : decode cX5_findPrice 23 = .ok (.invokevirtual 22, 3) := by decide +kernel
theorem dX5_findPrice_26 : decode cX5_findPrice 26 = .ok (.aload_n 0, 1) := by decide +kernel
theorem dX5_findPrice_27 : decode cX5_findPrice 27 = .ok (.invokevirtual 26, 3) := by decide +kernel
theorem dX5_findPrice_30 : decode cX5_findPrice 30 = .ok (.lload 5, 2) := by decide +kernel
theorem dX5_findPrice_32 : decode cX5_findPrice 32 = .ok (.lcmp, 1) := by decide +kernel
theorem dX5_findPrice_33 : decode cX5_findPrice 33 = .ok (.ifCond .le 13, 3) := by decide +kernel
theorem dX5_findPrice_36 : decode cX5_findPrice 36 = .ok (.aload_n 0, 1) := by decide +kernel
theorem dX5_findPrice_37 : decode cX5_findPrice 37 = .ok (.invokevirtual 26, 3) := by decide +kernel
theorem dX5_findPrice_40 : decode cX5_findPrice 40 = .ok (.lstore 5, 2) := by decide +kernel
theorem dX5_findPrice_42 : decode cX5_findPrice 42 = .ok (.iload 7, 2) := by decide +kernel
theorem dX5_findPrice_44 : decode cX5_findPrice 44 = .ok (.istore 4, 2) := by decide +kernel
theorem dX5_findPrice_46 : decode cX5_findPrice 46 = .ok (.iinc 7 1, 3) := by decide +kernel
theorem dX5_findPrice_49 : decode cX5_findPrice 49 = .ok (.goto (-40), 3) := by decide +kernel
theorem dX5_findPrice_52 : decode cX5_findPrice 52 = .ok (.iload 4, 2) := by decide +kernel
theorem dX5_findPrice_54 : decode cX5_findPrice 54 = .ok (.ireturn, 1) := by decide +kernel
theorem dX5_settle_0 : decode cX5_settle 0 = .ok (.aload_n 0, 1) := by decide +kernel
theorem dX5_settle_1 : decode cX5_settle 1 = .ok (.iload_n 1, 1) := by decide +kernel
theorem dX5_settle_2 : decode cX5_settle 2 = .ok (.aload_n 2, 1) := by decide +kernel
theorem dX5_settle_3 : decode cX5_settle 3 = .ok (.aload_n 3, 1) := by decide +kernel
theorem dX5_settle_4 : decode cX5_settle 4 = .ok (.aload 4, 2) := by decide +kernel
theorem dX5_settle_6 : decode cX5_settle 6 = .ok (.invokevirtual 22, 3) := by decide +kernel
theorem dX5_settle_9 : decode cX5_settle 9 = .ok (.aload_n 0, 1) := by decide +kernel
theorem dX5_settle_10 : decode cX5_settle 10 = .ok (.invokevirtual 26, 3) := by decide +kernel
theorem dX5_settle_13 : decode cX5_settle 13 = .ok (.lstore 5, 2) := by decide +kernel
theorem dX5_settle_15 : decode cX5_settle 15 = .ok (.aload_n 0, 1) := by decide +kernel
theorem dX5_settle_16 : decode cX5_settle 16 = .ok (.invokevirtual 26, 3) := by decide +kernel
theorem dX5_settle_19 : decode cX5_settle 19 = .ok (.lstore 7, 2) := by decide +kernel
theorem dX5_settle_21 : decode cX5_settle 21 = .ok (.iconst 0, 1) := by decide +kernel
theorem dX5_settle_22 : decode cX5_settle 22 = .ok (.istore 9, 2) := by decide +kernel
theorem dX5_settle_24 : decode cX5_settle 24 = .ok (.iload 9, 2) := by decide +kernel
theorem dX5_settle_26 : decode cX5_settle 26 = .ok (.aload_n 2, 1) := by decide +kernel
theorem dX5_settle_27 : decode cX5_settle 27 = .ok (.getfield 30, 3) := by decide +kernel
theorem dX5_settle_30 : decode cX5_settle 30 = .ok (.if_icmp .ge 81, 3) := by decide +kernel
theorem dX5_settle_33 : decode cX5_settle 33 = .ok (.aload_n 3, 1) := by decide +kernel
theorem dX5_settle_34 : decode cX5_settle 34 = .ok (.aload_n 2, 1) := by decide +kernel
theorem dX5_settle_35 : decode cX5_settle 35 = .ok (.getfield 36, 3) := by decide +kernel
theorem dX5_settle_38 : decode cX5_settle 38 = .ok (.iload 9, 2) := by decide +kernel
theorem dX5_settle_40 : decode cX5_settle 40 = .ok (.iaload, 1) := by decide +kernel
theorem dX5_settle_41 : decode cX5_settle 41 = .ok (.aaload, 1) := by decide +kernel
theorem dX5_settle_42 : decode cX5_settle 42 = .ok (.astore 10, 2) := by decide +kernel
theorem dX5_settle_44 : decode cX5_settle 44 = .ok (.aload_n 0, 1) := by decide +kernel
theorem dX5_settle_45 : decode cX5_settle 45 = .ok (.getfield 9, 3) := by decide +kernel
theorem dX5_settle_48 : decode cX5_settle 48 = .ok (.iload 9, 2) := by decide +kernel
theorem dX5_settle_50 : decode cX5_settle 50 = .ok (.baload, 1) := by decide +kernel
theorem dX5_settle_51 : decode cX5_settle 51 = .ok (.ifCond .eq 29, 3) := by decide +kernel
theorem dX5_settle_54 : decode cX5_settle 54 = .ok (.aload 10, 2) := by decide +kernel
theorem dX5_settle_56 : decode cX5_settle 56 = .ok (.getfield 40, 3) := by decide +kernel
theorem dX5_settle_59 : decode cX5_settle 59 = .ok (.ifCond .ne 21, 3) := by decide +kernel
theorem dX5_settle_62 : decode cX5_settle 62 = .ok (.lload 5, 2) := by decide +kernel
theorem dX5_settle_64 : decode cX5_settle 64 = .ok (.aload 10, 2) := by decide +kernel
theorem dX5_settle_66 : decode cX5_settle 66 = .ok (.lload 5, 2) := by decide +kernel
theorem dX5_settle_68 : decode cX5_settle 68 = .ok (.iload_n 1, 1) := by decide +kernel
theorem dX5_settle_69 : decode cX5_settle 69 = .ok (.aload 4, 2) := by decide +kernel
theorem dX5_settle_71 : decode cX5_settle 71 = .ok (.invokestatic 45, 3) := by decide +kernel
theorem dX5_settle_74 : decode cX5_settle 74 = .ok (.lsub, 1) := by decide +kernel
theorem dX5_settle_75 : decode cX5_settle 75 = .ok (.lstore 5, 2) := by decide +kernel
theorem dX5_settle_77 : decode cX5_settle 77 = .ok (.goto 28, 3) := by decide +kernel
theorem dX5_settle_80 : decode cX5_settle 80 = .ok (.aload_n 0, 1) := by decide +kernel
theorem dX5_settle_81 : decode cX5_settle 81 = .ok (.getfield 9, 3) := by decide +kernel
theorem dX5_settle_84 : decode cX5_settle 84 = .ok (.iload 9, 2) := by decide +kernel
theorem dX5_settle_86 : decode cX5_settle 86 = .ok (.baload, 1) := by decide +kernel
theorem dX5_settle_87 : decode cX5_settle 87 = .ok (.ifCond .eq 18, 3) := by decide +kernel
theorem dX5_settle_90 : decode cX5_settle 90 = .ok (.lload 7, 2) := by decide +kernel
theorem dX5_settle_92 : decode cX5_settle 92 = .ok (.aload 10, 2) := by decide +kernel
theorem dX5_settle_94 : decode cX5_settle 94 = .ok (.lload 7, 2) := by decide +kernel
theorem dX5_settle_96 : decode cX5_settle 96 = .ok (.iload_n 1, 1) := by decide +kernel
theorem dX5_settle_97 : decode cX5_settle 97 = .ok (.aload 4, 2) := by decide +kernel
theorem dX5_settle_99 : decode cX5_settle 99 = .ok (.invokestatic 45, 3) := by decide +kernel
theorem dX5_settle_102 : decode cX5_settle 102 = .ok (.lsub, 1) := by decide +kernel
theorem dX5_settle_103 : decode cX5_settle 103 = .ok (.lstore 7, 2) := by decide +kernel
theorem dX5_settle_105 : decode cX5_settle 105 = .ok (.iinc 9 1, 3) := by decide +kernel
theorem dX5_settle_108 : decode cX5_settle 108 = .ok (.goto (-84), 3) := by decide +kernel
theorem dX5_settle_111 : decode cX5_settle 111 = .ok (.return_, 1) := by decide +kernel
theorem dX5_volume_0 : decode cX5_volume 0 = .ok (.aload_n 0, 1) := by decide +kernel
theorem dX5_volume_1 : decode cX5_volume 1 = .ok (.getfield 49, 3) := by decide +kernel
theorem dX5_volume_4 : decode cX5_volume 4 = .ok (.aload_n 0, 1) := by decide +kernel
theorem dX5_volume_5 : decode cX5_volume 5 = .ok (.getfield 53, 3) := by decide +kernel
theorem dX5_volume_8 : decode cX5_volume 8 = .ok (.invokestatic 56, 3) := by decide +kernel
theorem dX5_volume_11 : decode cX5_volume 11 = .ok (.lreturn, 1) := by decide +kernel
theorem dX5_gather_0 : decode cX5_gather 0 = .ok (.aload_n 0, 1) := by decide +kernel
theorem dX5_gather_1 : decode cX5_gather 1 = .ok (.getfield 15, 3) := by decide +kernel
theorem dX5_gather_4 : decode cX5_gather 4 = .ok (.lconst 0, 1) := by decide +kernel
theorem dX5_gather_5 : decode cX5_gather 5 = .ok (.invokestatic 62, 3) := by decide +kernel
theorem dX5_gather_8 : decode cX5_gather 8 = .ok (.aload_n 0, 1) := by decide +kernel
theorem dX5_gather_9 : decode cX5_gather 9 = .ok (.getfield 19, 3) := by decide +kernel
theorem dX5_gather_12 : decode cX5_gather 12 = .ok (.lconst 0, 1) := by decide +kernel
theorem dX5_gather_13 : decode cX5_gather 13 = .ok (.invokestatic 62, 3) := by decide +kernel
theorem dX5_gather_16 : decode cX5_gather 16 = .ok (.aload_n 0, 1) := by decide +kernel
theorem dX5_gather_17 : decode cX5_gather 17 = .ok (.lconst 0, 1) := by decide +kernel
theorem dX5_gather_18 : decode cX5_gather 18 = .ok (.putfield 49, 3) := by decide +kernel
theorem dX5_gather_21 : decode cX5_gather 21 = .ok (.aload_n 0, 1) := by decide +kernel
theorem dX5_gather_22 : decode cX5_gather 22 = .ok (.lconst 0, 1) := by decide +kernel
theorem dX5_gather_23 : decode cX5_gather 23 = .ok (.putfield 53, 3) := by decide +kernel
theorem dX5_gather_26 : decode cX5_gather 26 = .ok (.iconst 0, 1) := by decide +kernel
theorem dX5_gather_27 : decode cX5_gather 27 = .ok (.istore 5, 2) := by decide +kernel
theorem dX5_gather_29 : decode cX5_gather 29 = .ok (.iload 5, 2) := by decide +kernel
theorem dX5_gather_31 : decode cX5_gather 31 = .ok (.aload_n 2, 1) := by decide +kernel
theorem dX5_gather_32 : decode cX5_gather 32 = .ok (.getfield 30, 3) := by decide +kernel
theorem dX5_gather_35 : decode cX5_gather 35 = .ok (.if_icmp .ge 56, 3) := by decide +kernel
theorem dX5_gather_38 : decode cX5_gather 38 = .ok (.aload_n 3, 1) := by decide +kernel
theorem dX5_gather_39 : decode cX5_gather 39 = .ok (.aload_n 2, 1) := by decide +kernel
theorem dX5_gather_40 : decode cX5_gather 40 = .ok (.getfield 36, 3) := by decide +kernel
theorem dX5_gather_43 : decode cX5_gather 43 = .ok (.iload 5, 2) := by decide +kernel
theorem dX5_gather_45 : decode cX5_gather 45 = .ok (.iaload, 1) := by decide +kernel
theorem dX5_gather_46 : decode cX5_gather 46 = .ok (.aaload, 1) := by decide +kernel
theorem dX5_gather_47 : decode cX5_gather 47 = .ok (.astore 6, 2) := by decide +kernel
theorem dX5_gather_49 : decode cX5_gather 49 = .ok (.aload_n 0, 1) := by decide +kernel
theorem dX5_gather_50 : decode cX5_gather 50 = .ok (.getfield 9, 3) := by decide +kernel
theorem dX5_gather_53 : decode cX5_gather 53 = .ok (.iload 5, 2) := by decide +kernel
theorem dX5_gather_55 : decode cX5_gather 55 = .ok (.aload 6, 2) := by decide +kernel
theorem dX5_gather_57 : decode cX5_gather 57 = .ok (.getfield 40, 3) := by decide +kernel
theorem dX5_gather_60 : decode cX5_gather 60 = .ok (.ifCond .ne 15, 3) := by decide +kernel
theorem dX5_gather_63 : decode cX5_gather 63 = .ok (.aload_n 0, 1) := by decide +kernel
theorem dX5_gather_64 : decode cX5_gather 64 = .ok (.aload 6, 2) := by decide +kernel
theorem dX5_gather_66 : decode cX5_gather 66 = .ok (.iload_n 1, 1) := by decide +kernel
theorem dX5_gather_67 : decode cX5_gather 67 = .ok (.aload 4, 2) := by decide +kernel
theorem dX5_gather_69 : decode cX5_gather 69 = .ok (.invokevirtual 67, 3) := by decide +kernel
theorem dX5_gather_72 : decode cX5_gather 72 = .ok (.goto 12, 3) := by decide +kernel
theorem dX5_gather_75 : decode cX5_gather 75 = .ok (.aload_n 0, 1) := by decide +kernel
theorem dX5_gather_76 : decode cX5_gather 76 = .ok (.aload 6, 2) := by decide +kernel
theorem dX5_gather_78 : decode cX5_gather 78 = .ok (.iload_n 1, 1) := by decide +kernel
theorem dX5_gather_79 : decode cX5_gather 79 = .ok (.aload 4, 2) := by decide +kernel
theorem dX5_gather_81 : decode cX5_gather 81 = .ok (.invokevirtual 71, 3) := by decide +kernel
theorem dX5_gather_84 : decode cX5_gather 84 = .ok (.bastore, 1) := by decide +kernel
theorem dX5_gather_85 : decode cX5_gather 85 = .ok (.iinc 5 1, 3) := by decide +kernel
theorem dX5_gather_88 : decode cX5_gather 88 = .ok (.goto (-59), 3) := by decide +kernel
theorem dX5_gather_91 : decode cX5_gather 91 = .ok (.return_, 1) := by decide +kernel
theorem dX5_joinBuys_0 : decode cX5_joinBuys 0 = .ok (.aload_n 0, 1) := by decide +kernel
theorem dX5_joinBuys_1 : decode cX5_joinBuys 1 = .ok (.getfield 15, 3) := by decide +kernel
theorem dX5_joinBuys_4 : decode cX5_joinBuys 4 = .ok (.aload_n 1, 1) := by decide +kernel
theorem dX5_joinBuys_5 : decode cX5_joinBuys 5 = .ok (.getfield 74, 3) := by decide +kernel
theorem dX5_joinBuys_8 : decode cX5_joinBuys 8 = .ok (.laload, 1) := by decide +kernel
theorem dX5_joinBuys_9 : decode cX5_joinBuys 9 = .ok (.aload_n 1, 1) := by decide +kernel
theorem dX5_joinBuys_10 : decode cX5_joinBuys 10 = .ok (.getfield 77, 3) := by decide +kernel
theorem dX5_joinBuys_13 : decode cX5_joinBuys 13 = .ok (.i2l, 1) := by decide +kernel
theorem dX5_joinBuys_14 : decode cX5_joinBuys 14 = .ok (.ladd, 1) := by decide +kernel
theorem dX5_joinBuys_15 : decode cX5_joinBuys 15 = .ok (.lstore 4, 2) := by decide +kernel
theorem dX5_joinBuys_17 : decode cX5_joinBuys 17 = .ok (.aload_n 1, 1) := by decide +kernel
theorem dX5_joinBuys_18 : decode cX5_joinBuys 18 = .ok (.getfield 80, 3) := by decide +kernel
theorem dX5_joinBuys_21 : decode cX5_joinBuys 21 = .ok (.iload_n 2, 1) := by decide +kernel
theorem dX5_joinBuys_22 : decode cX5_joinBuys 22 = .ok (.if_icmp .lt 21, 3) := by decide +kernel
theorem dX5_joinBuys_25 : decode cX5_joinBuys 25 = .ok (.lload 4, 2) := by decide +kernel
theorem dX5_joinBuys_27 : decode cX5_joinBuys 27 = .ok (.iload_n 2, 1) := by decide +kernel
theorem dX5_joinBuys_28 : decode cX5_joinBuys 28 = .ok (.i2l, 1) := by decide +kernel
theorem dX5_joinBuys_29 : decode cX5_joinBuys 29 = .ok (.lmul, 1) := by decide +kernel
theorem dX5_joinBuys_30 : decode cX5_joinBuys 30 = .ok (.aload_n 3, 1) := by decide +kernel
theorem dX5_joinBuys_31 : decode cX5_joinBuys 31 = .ok (.getfield 83, 3) := by decide +kernel
theorem dX5_joinBuys_34 : decode cX5_joinBuys 34 = .ok (.aload_n 1, 1) := by decide +kernel
theorem dX5_joinBuys_35 : decode cX5_joinBuys 35 = .ok (.getfield 74, 3) := by decide +kernel
theorem dX5_joinBuys_38 : decode cX5_joinBuys 38 = .ok (.laload, 1) := by decide +kernel
theorem dX5_joinBuys_39 : decode cX5_joinBuys 39 = .ok (.lcmp, 1) := by decide +kernel
theorem dX5_joinBuys_40 : decode cX5_joinBuys 40 = .ok (.ifCond .le 5, 3) := by decide +kernel
theorem dX5_joinBuys_43 : decode cX5_joinBuys 43 = .ok (.iconst 0, 1) := by decide +kernel
theorem dX5_joinBuys_44 : decode cX5_joinBuys 44 = .ok (.ireturn, 1) := by decide +kernel
theorem dX5_joinBuys_45 : decode cX5_joinBuys 45 = .ok (.aload_n 0, 1) := by decide +kernel
theorem dX5_joinBuys_46 : decode cX5_joinBuys 46 = .ok (.getfield 15, 3) := by decide +kernel
theorem dX5_joinBuys_49 : decode cX5_joinBuys 49 = .ok (.aload_n 1, 1) := by decide +kernel
theorem dX5_joinBuys_50 : decode cX5_joinBuys 50 = .ok (.getfield 74, 3) := by decide +kernel
theorem dX5_joinBuys_53 : decode cX5_joinBuys 53 = .ok (.lload 4, 2) := by decide +kernel
theorem dX5_joinBuys_55 : decode cX5_joinBuys 55 = .ok (.lastore, 1) := by decide +kernel
theorem dX5_joinBuys_56 : decode cX5_joinBuys 56 = .ok (.aload_n 0, 1) := by decide +kernel
theorem dX5_joinBuys_57 : decode cX5_joinBuys 57 = .ok (.dup, 1) := by decide +kernel
theorem dX5_joinBuys_58 : decode cX5_joinBuys 58 = .ok (.getfield 49, 3) := by decide +kernel
theorem dX5_joinBuys_61 : decode cX5_joinBuys 61 = .ok (.aload_n 1, 1) := by decide +kernel
theorem dX5_joinBuys_62 : decode cX5_joinBuys 62 = .ok (.getfield 77, 3) := by decide +kernel
theorem dX5_joinBuys_65 : decode cX5_joinBuys 65 = .ok (.i2l, 1) := by decide +kernel
theorem dX5_joinBuys_66 : decode cX5_joinBuys 66 = .ok (.ladd, 1) := by decide +kernel
theorem dX5_joinBuys_67 : decode cX5_joinBuys 67 = .ok (.putfield 49, 3) := by decide +kernel
theorem dX5_joinBuys_70 : decode cX5_joinBuys 70 = .ok (.iconst 1, 1) := by decide +kernel
theorem dX5_joinBuys_71 : decode cX5_joinBuys 71 = .ok (.ireturn, 1) := by decide +kernel
theorem dX5_joinSells_0 : decode cX5_joinSells 0 = .ok (.aload_n 0, 1) := by decide +kernel
theorem dX5_joinSells_1 : decode cX5_joinSells 1 = .ok (.getfield 19, 3) := by decide +kernel
theorem dX5_joinSells_4 : decode cX5_joinSells 4 = .ok (.aload_n 1, 1) := by decide +kernel
theorem dX5_joinSells_5 : decode cX5_joinSells 5 = .ok (.getfield 74, 3) := by decide +kernel
theorem dX5_joinSells_8 : decode cX5_joinSells 8 = .ok (.laload, 1) := by decide +kernel
theorem dX5_joinSells_9 : decode cX5_joinSells 9 = .ok (.aload_n 1, 1) := by decide +kernel
theorem dX5_joinSells_10 : decode cX5_joinSells 10 = .ok (.getfield 77, 3) := by decide +kernel
theorem dX5_joinSells_13 : decode cX5_joinSells 13 = .ok (.i2l, 1) := by decide +kernel
theorem dX5_joinSells_14 : decode cX5_joinSells 14 = .ok (.ladd, 1) := by decide +kernel
theorem dX5_joinSells_15 : decode cX5_joinSells 15 = .ok (.lstore 4, 2) := by decide +kernel
theorem dX5_joinSells_17 : decode cX5_joinSells 17 = .ok (.aload_n 1, 1) := by decide +kernel
theorem dX5_joinSells_18 : decode cX5_joinSells 18 = .ok (.getfield 80, 3) := by decide +kernel
theorem dX5_joinSells_21 : decode cX5_joinSells 21 = .ok (.iload_n 2, 1) := by decide +kernel
theorem dX5_joinSells_22 : decode cX5_joinSells 22 = .ok (.if_icmp .gt 18, 3) := by decide +kernel
theorem dX5_joinSells_25 : decode cX5_joinSells 25 = .ok (.lload 4, 2) := by decide +kernel
theorem dX5_joinSells_27 : decode cX5_joinSells 27 = .ok (.aload_n 3, 1) := by decide +kernel
theorem dX5_joinSells_28 : decode cX5_joinSells 28 = .ok (.getfield 88, 3) := by decide +kernel
theorem dX5_joinSells_31 : decode cX5_joinSells 31 = .ok (.aload_n 1, 1) := by decide +kernel
theorem dX5_joinSells_32 : decode cX5_joinSells 32 = .ok (.getfield 74, 3) := by decide +kernel
theorem dX5_joinSells_35 : decode cX5_joinSells 35 = .ok (.laload, 1) := by decide +kernel
theorem dX5_joinSells_36 : decode cX5_joinSells 36 = .ok (.lcmp, 1) := by decide +kernel
theorem dX5_joinSells_37 : decode cX5_joinSells 37 = .ok (.ifCond .le 5, 3) := by decide +kernel
theorem dX5_joinSells_40 : decode cX5_joinSells 40 = .ok (.iconst 0, 1) := by decide +kernel
theorem dX5_joinSells_41 : decode cX5_joinSells 41 = .ok (.ireturn, 1) := by decide +kernel
theorem dX5_joinSells_42 : decode cX5_joinSells 42 = .ok (.aload_n 0, 1) := by decide +kernel
theorem dX5_joinSells_43 : decode cX5_joinSells 43 = .ok (.getfield 19, 3) := by decide +kernel
theorem dX5_joinSells_46 : decode cX5_joinSells 46 = .ok (.aload_n 1, 1) := by decide +kernel
theorem dX5_joinSells_47 : decode cX5_joinSells 47 = .ok (.getfield 74, 3) := by decide +kernel
theorem dX5_joinSells_50 : decode cX5_joinSells 50 = .ok (.lload 4, 2) := by decide +kernel
theorem dX5_joinSells_52 : decode cX5_joinSells 52 = .ok (.lastore, 1) := by decide +kernel
theorem dX5_joinSells_53 : decode cX5_joinSells 53 = .ok (.aload_n 0, 1) := by decide +kernel
theorem dX5_joinSells_54 : decode cX5_joinSells 54 = .ok (.dup, 1) := by decide +kernel
theorem dX5_joinSells_55 : decode cX5_joinSells 55 = .ok (.getfield 53, 3) := by decide +kernel
theorem dX5_joinSells_58 : decode cX5_joinSells 58 = .ok (.aload_n 1, 1) := by decide +kernel
theorem dX5_joinSells_59 : decode cX5_joinSells 59 = .ok (.getfield 77, 3) := by decide +kernel
theorem dX5_joinSells_62 : decode cX5_joinSells 62 = .ok (.i2l, 1) := by decide +kernel
theorem dX5_joinSells_63 : decode cX5_joinSells 63 = .ok (.ladd, 1) := by decide +kernel
theorem dX5_joinSells_64 : decode cX5_joinSells 64 = .ok (.putfield 53, 3) := by decide +kernel
theorem dX5_joinSells_67 : decode cX5_joinSells 67 = .ok (.iconst 1, 1) := by decide +kernel
theorem dX5_joinSells_68 : decode cX5_joinSells 68 = .ok (.ireturn, 1) := by decide +kernel
theorem dX5_fill_0 : decode cX5_fill 0 = .ok (.aload_n 0, 1) := by decide +kernel
theorem dX5_fill_1 : decode cX5_fill 1 = .ok (.getfield 77, 3) := by decide +kernel
theorem dX5_fill_4 : decode cX5_fill 4 = .ok (.i2l, 1) := by decide +kernel
theorem dX5_fill_5 : decode cX5_fill 5 = .ok (.lload_n 1, 1) := by decide +kernel
theorem dX5_fill_6 : decode cX5_fill 6 = .ok (.invokestatic 56, 3) := by decide +kernel
theorem dX5_fill_9 : decode cX5_fill 9 = .ok (.l2i, 1) := by decide +kernel
theorem dX5_fill_10 : decode cX5_fill 10 = .ok (.istore 5, 2) := by decide +kernel
theorem dX5_fill_12 : decode cX5_fill 12 = .ok (.iload 5, 2) := by decide +kernel
theorem dX5_fill_14 : decode cX5_fill 14 = .ok (.i2l, 1) := by decide +kernel
theorem dX5_fill_15 : decode cX5_fill 15 = .ok (.iload_n 3, 1) := by decide +kernel
theorem dX5_fill_16 : decode cX5_fill 16 = .ok (.i2l, 1) := by decide +kernel
theorem dX5_fill_17 : decode cX5_fill 17 = .ok (.lmul, 1) := by decide +kernel
theorem dX5_fill_18 : decode cX5_fill 18 = .ok (.lstore 6, 2) := by decide +kernel
theorem dX5_fill_20 : decode cX5_fill 20 = .ok (.aload_n 0, 1) := by decide +kernel
theorem dX5_fill_21 : decode cX5_fill 21 = .ok (.iload 5, 2) := by decide +kernel
theorem dX5_fill_23 : decode cX5_fill 23 = .ok (.lload 6, 2) := by decide +kernel
theorem dX5_fill_25 : decode cX5_fill 25 = .ok (.invokevirtual 91, 3) := by decide +kernel
theorem dX5_fill_28 : decode cX5_fill 28 = .ok (.aload_n 0, 1) := by decide +kernel
theorem dX5_fill_29 : decode cX5_fill 29 = .ok (.getfield 40, 3) := by decide +kernel
theorem dX5_fill_32 : decode cX5_fill 32 = .ok (.ifCond .ne 20, 3) := by decide +kernel
theorem dX5_fill_35 : decode cX5_fill 35 = .ok (.aload 4, 2) := by decide +kernel
theorem dX5_fill_37 : decode cX5_fill 37 = .ok (.aload_n 0, 1) := by decide +kernel
theorem dX5_fill_38 : decode cX5_fill 38 = .ok (.getfield 74, 3) := by decide +kernel
theorem dX5_fill_41 : decode cX5_fill 41 = .ok (.lload 6, 2) := by decide +kernel
theorem dX5_fill_43 : decode cX5_fill 43 = .ok (.iload 5, 2) := by decide +kernel
theorem dX5_fill_45 : decode cX5_fill 45 = .ok (.i2l, 1) := by decide +kernel
theorem dX5_fill_46 : decode cX5_fill 46 = .ok (.invokevirtual 95, 3) := by decide +kernel
theorem dX5_fill_49 : decode cX5_fill 49 = .ok (.goto 17, 3) := by decide +kernel
theorem dX5_fill_52 : decode cX5_fill 52 = .ok (.aload 4, 2) := by decide +kernel
theorem dX5_fill_54 : decode cX5_fill 54 = .ok (.aload_n 0, 1) := by decide +kernel
theorem dX5_fill_55 : decode cX5_fill 55 = .ok (.getfield 74, 3) := by decide +kernel
theorem dX5_fill_58 : decode cX5_fill 58 = .ok (.lload 6, 2) := by decide +kernel
theorem dX5_fill_60 : decode cX5_fill 60 = .ok (.iload 5, 2) := by decide +kernel
theorem dX5_fill_62 : decode cX5_fill 62 = .ok (.i2l, 1) := by decide +kernel
theorem dX5_fill_63 : decode cX5_fill 63 = .ok (.invokevirtual 99, 3) := by decide +kernel
theorem dX5_fill_66 : decode cX5_fill 66 = .ok (.iload 5, 2) := by decide +kernel
theorem dX5_fill_68 : decode cX5_fill 68 = .ok (.i2l, 1) := by decide +kernel
theorem dX5_fill_69 : decode cX5_fill 69 = .ok (.lreturn, 1) := by decide +kernel
theorem dX1_init_0 : decode cX1_init 0 = .ok (.aload_n 0, 1) := by decide +kernel
theorem dX1_init_1 : decode cX1_init 1 = .ok (.invokespecial 3, 3) := by decide +kernel
theorem dX1_init_4 : decode cX1_init 4 = .ok (.aload_n 0, 1) := by decide +kernel
theorem dX1_init_5 : decode cX1_init 5 = .ok (.iconst 5, 1) := by decide +kernel
theorem dX1_init_6 : decode cX1_init 6 = .ok (.newarray .int, 2) := by decide +kernel
theorem dX1_init_8 : decode cX1_init 8 = .ok (.putfield 9, 3) := by decide +kernel
theorem dX1_init_11 : decode cX1_init 11 = .ok (.return_, 1) := by decide +kernel
theorem dX1_begin_0 : decode cX1_begin 0 = .ok (.aload_n 0, 1) := by decide +kernel
theorem dX1_begin_1 : decode cX1_begin 1 = .ok (.iload_n 1, 1) := by decide +kernel
theorem dX1_begin_2 : decode cX1_begin 2 = .ok (.putfield 15, 3) := by decide +kernel
theorem dX1_begin_5 : decode cX1_begin 5 = .ok (.aload_n 0, 1) := by decide +kernel
theorem dX1_begin_6 : decode cX1_begin 6 = .ok (.lload_n 2, 1) := by decide +kernel
theorem dX1_begin_7 : decode cX1_begin 7 = .ok (.putfield 19, 3) := by decide +kernel
theorem dX1_begin_10 : decode cX1_begin 10 = .ok (.aload_n 0, 1) := by decide +kernel
theorem dX1_begin_11 : decode cX1_begin 11 = .ok (.lload 4, 2) := by decide +kernel
theorem dX1_begin_13 : decode cX1_begin 13 = .ok (.putfield 23, 3) := by decide +kernel
theorem dX1_begin_16 : decode cX1_begin 16 = .ok (.aload_n 0, 1) := by decide +kernel
theorem dX1_begin_17 : decode cX1_begin 17 = .ok (.iconst 0, 1) := by decide +kernel
theorem dX1_begin_18 : decode cX1_begin 18 = .ok (.putfield 26, 3) := by decide +kernel
theorem dX1_begin_21 : decode cX1_begin 21 = .ok (.aload_n 0, 1) := by decide +kernel
theorem dX1_begin_22 : decode cX1_begin 22 = .ok (.getfield 9, 3) := by decide +kernel
theorem dX1_begin_25 : decode cX1_begin 25 = .ok (.ldc 30, 2) := by decide +kernel
theorem dX1_begin_27 : decode cX1_begin 27 = .ok (.invokestatic 31, 3) := by decide +kernel
theorem dX1_begin_30 : decode cX1_begin 30 = .ok (.aload_n 0, 1) := by decide +kernel
theorem dX1_begin_31 : decode cX1_begin 31 = .ok (.iconst 0, 1) := by decide +kernel
theorem dX1_begin_32 : decode cX1_begin 32 = .ok (.lconst 0, 1) := by decide +kernel
theorem dX1_begin_33 : decode cX1_begin 33 = .ok (.invokevirtual 37, 3) := by decide +kernel
theorem dX1_begin_36 : decode cX1_begin 36 = .ok (.return_, 1) := by decide +kernel
theorem dX1_tell_0 : decode cX1_tell 0 = .ok (.aload_n 0, 1) := by decide +kernel
theorem dX1_tell_1 : decode cX1_tell 1 = .ok (.iconst 1, 1) := by decide +kernel
theorem dX1_tell_2 : decode cX1_tell 2 = .ok (.putfield 26, 3) := by decide +kernel
theorem dX1_tell_5 : decode cX1_tell 5 = .ok (.aload_n 0, 1) := by decide +kernel
theorem dX1_tell_6 : decode cX1_tell 6 = .ok (.iload_n 1, 1) := by decide +kernel
theorem dX1_tell_7 : decode cX1_tell 7 = .ok (.putfield 41, 3) := by decide +kernel
theorem dX1_tell_10 : decode cX1_tell 10 = .ok (.aload_n 0, 1) := by decide +kernel
theorem dX1_tell_11 : decode cX1_tell 11 = .ok (.iload_n 2, 1) := by decide +kernel
theorem dX1_tell_12 : decode cX1_tell 12 = .ok (.putfield 44, 3) := by decide +kernel
theorem dX1_tell_15 : decode cX1_tell 15 = .ok (.aload_n 0, 1) := by decide +kernel
theorem dX1_tell_16 : decode cX1_tell 16 = .ok (.iload_n 3, 1) := by decide +kernel
theorem dX1_tell_17 : decode cX1_tell 17 = .ok (.putfield 47, 3) := by decide +kernel
theorem dX1_tell_20 : decode cX1_tell 20 = .ok (.return_, 1) := by decide +kernel
theorem dX1_note_0 : decode cX1_note 0 = .ok (.aload_n 0, 1) := by decide +kernel
theorem dX1_note_1 : decode cX1_note 1 = .ok (.iload_n 1, 1) := by decide +kernel
theorem dX1_note_2 : decode cX1_note 2 = .ok (.putfield 50, 3) := by decide +kernel
theorem dX1_note_5 : decode cX1_note 5 = .ok (.aload_n 0, 1) := by decide +kernel
theorem dX1_note_6 : decode cX1_note 6 = .ok (.lload_n 2, 1) := by decide +kernel
theorem dX1_note_7 : decode cX1_note 7 = .ok (.putfield 53, 3) := by decide +kernel
theorem dX1_note_10 : decode cX1_note 10 = .ok (.return_, 1) := by decide +kernel
theorem dX1_term_0 : decode cX1_term 0 = .ok (.iload_n 1, 1) := by decide +kernel
theorem dX1_term_1 : decode cX1_term 1 = .ok (.iconst 2, 1) := by decide +kernel
theorem dX1_term_2 : decode cX1_term 2 = .ok (.if_icmp .ne 10, 3) := by decide +kernel
theorem dX1_term_5 : decode cX1_term 5 = .ok (.aload_n 0, 1) := by decide +kernel
theorem dX1_term_6 : decode cX1_term 6 = .ok (.getfield 41, 3) := by decide +kernel
theorem dX1_term_9 : decode cX1_term 9 = .ok (.goto 19, 3) := by decide +kernel
theorem dX1_term_12 : decode cX1_term 12 = .ok (.iload_n 1, 1) := by decide +kernel
theorem dX1_term_13 : decode cX1_term 13 = .ok (.iconst 3, 1) := by decide +kernel
theorem dX1_term_14 : decode cX1_term 14 = .ok (.if_icmp .ne 10, 3) := by decide +kernel
theorem dX1_term_17 : decode cX1_term 17 = .ok (.aload_n 0, 1) := by decide +kernel
theorem dX1_term_18 : decode cX1_term 18 = .ok (.getfield 44, 3) := by decide +kernel
theorem dX1_term_21 : decode cX1_term 21 = .ok (.goto 7, 3) := by decide +kernel
theorem dX1_term_24 : decode cX1_term 24 = .ok (.aload_n 0, 1) := by decide +kernel
theorem dX1_term_25 : decode cX1_term 25 = .ok (.getfield 47, 3) := by decide +kernel
theorem dX1_term_28 : decode cX1_term 28 = .ok (.ireturn, 1) := by decide +kernel
theorem dX1_limit_0 : decode cX1_limit 0 = .ok (.aload_n 0, 1) := by decide +kernel
theorem dX1_limit_1 : decode cX1_limit 1 = .ok (.getfield 44, 3) := by decide +kernel
theorem dX1_limit_4 : decode cX1_limit 4 = .ok (.i2l, 1) := by decide +kernel
theorem dX1_limit_5 : decode cX1_limit 5 = .ok (.aload_n 0, 1) := by decide +kernel
theorem dX1_limit_6 : decode cX1_limit 6 = .ok (.getfield 47, 3) := by decide +kernel
theorem dX1_limit_9 : decode cX1_limit 9 = .ok (.i2l, 1) := by decide +kernel
theorem dX1_limit_10 : decode cX1_limit 10 = .ok (.lmul, 1) := by decide +kernel
theorem dX1_limit_11 : decode cX1_limit 11 = .ok (.lreturn, 1) := by decide +kernel
theorem dX1_thirdTime_0 : decode cX1_thirdTime 0 = .ok (.iconst 0, 1) := by decide +kernel
theorem dX1_thirdTime_1 : decode cX1_thirdTime 1 = .ok (.istore_n 1, 1) := by decide +kernel
theorem dX1_thirdTime_2 : decode cX1_thirdTime 2 = .ok (.iload_n 1, 1) := by decide +kernel
theorem dX1_thirdTime_3 : decode cX1_thirdTime 3 = .ok (.iconst 5, 1) := by decide +kernel
theorem dX1_thirdTime_4 : decode cX1_thirdTime 4 = .ok (.if_icmp .ge 25, 3) := by decide +kernel
theorem dX1_thirdTime_7 : decode cX1_thirdTime 7 = .ok (.aload_n 0, 1) := by decide +kernel
theorem dX1_thirdTime_8 : decode cX1_thirdTime 8 = .ok (.iload_n 1, 1) := by decide +kernel
theorem dX1_thirdTime_9 : decode cX1_thirdTime 9 = .ok (.invokevirtual 56, 3) := by decide +kernel
theorem dX1_thirdTime_12 : decode cX1_thirdTime 12 = .ok (.iconst 2, 1) := by decide +kernel
theorem dX1_thirdTime_13 : decode cX1_thirdTime 13 = .ok (.if_icmp .ne 10, 3) := by decide +kernel
theorem dX1_thirdTime_16 : decode cX1_thirdTime 16 = .ok (.aload_n 0, 1) := by decide +kernel
theorem dX1_thirdTime_17 : decode cX1_thirdTime 17 = .ok (.getfield 9, 3) := by decide +kernel
theorem dX1_thirdTime_20 : decode cX1_thirdTime 20 = .ok (.iload_n 1, 1) := by decide +kernel
theorem dX1_thirdTime_21 : decode cX1_thirdTime 21 = .ok (.iaload, 1) := by decide +kernel
theorem dX1_thirdTime_22 : decode cX1_thirdTime 22 = .ok (.ireturn, 1) := by decide +kernel
theorem dX1_thirdTime_23 : decode cX1_thirdTime 23 = .ok (.iinc 1 1, 3) := by decide +kernel
theorem dX1_thirdTime_26 : decode cX1_thirdTime 26 = .ok (.goto (-24), 3) := by decide +kernel
theorem dX1_thirdTime_29 : decode cX1_thirdTime 29 = .ok (.ldc 30, 2) := by decide +kernel
theorem dX1_thirdTime_31 : decode cX1_thirdTime 31 = .ok (.ireturn, 1) := by decide +kernel
theorem dX1_nodesBefore_0 : decode cX1_nodesBefore 0 = .ok (.iconst 0, 1) := by decide +kernel
theorem dX1_nodesBefore_1 : decode cX1_nodesBefore 1 = .ok (.istore_n 2, 1) := by decide +kernel
theorem dX1_nodesBefore_2 : decode cX1_nodesBefore 2 = .ok (.iconst 0, 1) := by decide +kernel
theorem dX1_nodesBefore_3 : decode cX1_nodesBefore 3 = .ok (.istore_n 3, 1) := by decide +kernel
theorem dX1_nodesBefore_4 : decode cX1_nodesBefore 4 = .ok (.iload_n 3, 1) := by decide +kernel
theorem dX1_nodesBefore_5 : decode cX1_nodesBefore 5 = .ok (.iconst 5, 1) := by decide +kernel
theorem dX1_nodesBefore_6 : decode cX1_nodesBefore 6 = .ok (.if_icmp .ge 47, 3) := by decide +kernel
theorem dX1_nodesBefore_9 : decode cX1_nodesBefore 9 = .ok (.aload_n 0, 1) := by decide +kernel
theorem dX1_nodesBefore_10 : decode cX1_nodesBefore 10 = .ok (.getfield 9, 3) := by decide +kernel
theorem dX1_nodesBefore_13 : decode cX1_nodesBefore 13 = .ok (.iload_n 3, 1) := by decide +kernel
theorem dX1_nodesBefore_14 : decode cX1_nodesBefore 14 = .ok (.iaload, 1) := by decide +kernel
theorem dX1_nodesBefore_15 : decode cX1_nodesBefore 15 = .ok (.aload_n 0, 1) := by decide +kernel
theorem dX1_nodesBefore_16 : decode cX1_nodesBefore 16 = .ok (.getfield 9, 3) := by decide +kernel
theorem dX1_nodesBefore_19 : decode cX1_nodesBefore 19 = .ok (.iload_n 1, 1) := by decide +kernel
theorem dX1_nodesBefore_20 : decode cX1_nodesBefore 20 = .ok (.iaload, 1) := by decide +kernel
theorem dX1_nodesBefore_21 : decode cX1_nodesBefore 21 = .ok (.if_icmp .lt 23, 3) := by decide +kernel
theorem dX1_nodesBefore_24 : decode cX1_nodesBefore 24 = .ok (.aload_n 0, 1) := by decide +kernel
theorem dX1_nodesBefore_25 : decode cX1_nodesBefore 25 = .ok (.getfield 9, 3) := by decide +kernel
theorem dX1_nodesBefore_28 : decode cX1_nodesBefore 28 = .ok (.iload_n 3, 1) := by decide +kernel
theorem dX1_nodesBefore_29 : decode cX1_nodesBefore 29 = .ok (.iaload, 1) := by decide +kernel
theorem dX1_nodesBefore_30 : decode cX1_nodesBefore 30 = .ok (.aload_n 0, 1) := by decide +kernel
theorem dX1_nodesBefore_31 : decode cX1_nodesBefore 31 = .ok (.getfield 9, 3) := by decide +kernel
theorem dX1_nodesBefore_34 : decode cX1_nodesBefore 34 = .ok (.iload_n 1, 1) := by decide +kernel
theorem dX1_nodesBefore_35 : decode cX1_nodesBefore 35 = .ok (.iaload, 1) := by decide +kernel
theorem dX1_nodesBefore_36 : decode cX1_nodesBefore 36 = .ok (.if_icmp .ne 11, 3) := by decide +kernel
theorem dX1_nodesBefore_39 : decode cX1_nodesBefore 39 = .ok (.iload_n 3, 1) := by decide +kernel
theorem dX1_nodesBefore_40 : decode cX1_nodesBefore 40 = .ok (.iload_n 1, 1) := by decide +kernel
theorem dX1_nodesBefore_41 : decode cX1_nodesBefore 41 = .ok (.if_icmp .ge 6, 3) := by decide +kernel
theorem dX1_nodesBefore_44 : decode cX1_nodesBefore 44 = .ok (.iinc 2 1, 3) := by decide +kernel
theorem dX1_nodesBefore_47 : decode cX1_nodesBefore 47 = .ok (.iinc 3 1, 3) := by decide +kernel
theorem dX1_nodesBefore_50 : decode cX1_nodesBefore 50 = .ok (.goto (-46), 3) := by decide +kernel
theorem dX1_nodesBefore_53 : decode cX1_nodesBefore 53 = .ok (.iload_n 2, 1) := by decide +kernel
theorem dX1_nodesBefore_54 : decode cX1_nodesBefore 54 = .ok (.ireturn, 1) := by decide +kernel
theorem dX1_isAheadOf_0 : decode cX1_isAheadOf 0 = .ok (.iconst 0, 1) := by decide +kernel
theorem dX1_isAheadOf_1 : decode cX1_isAheadOf 1 = .ok (.istore_n 2, 1) := by decide +kernel
theorem dX1_isAheadOf_2 : decode cX1_isAheadOf 2 = .ok (.iconst 0, 1) := by decide +kernel
theorem dX1_isAheadOf_3 : decode cX1_isAheadOf 3 = .ok (.istore_n 3, 1) := by decide +kernel
theorem dX1_isAheadOf_4 : decode cX1_isAheadOf 4 = .ok (.iload_n 3, 1) := by decide +kernel
theorem dX1_isAheadOf_5 : decode cX1_isAheadOf 5 = .ok (.iconst 5, 1) := by decide +kernel
theorem dX1_isAheadOf_6 : decode cX1_isAheadOf 6 = .ok (.if_icmp .ge 27, 3) := by decide +kernel
theorem dX1_isAheadOf_9 : decode cX1_isAheadOf 9 = .ok (.iload_n 2, 1) := by decide +kernel
theorem dX1_isAheadOf_10 : decode cX1_isAheadOf 10 = .ok (.aload_n 1, 1) := by decide +kernel
theorem dX1_isAheadOf_11 : decode cX1_isAheadOf 11 = .ok (.getfield 9, 3) := by decide +kernel
theorem dX1_isAheadOf_14 : decode cX1_isAheadOf 14 = .ok (.iload_n 3, 1) := by decide +kernel
theorem dX1_isAheadOf_15 : decode cX1_isAheadOf 15 = .ok (.iaload, 1) := by decide +kernel
theorem dX1_isAheadOf_16 : decode cX1_isAheadOf 16 = .ok (.aload_n 0, 1) := by decide +kernel
theorem dX1_isAheadOf_17 : decode cX1_isAheadOf 17 = .ok (.getfield 9, 3) := by decide +kernel
theorem dX1_isAheadOf_20 : decode cX1_isAheadOf 20 = .ok (.iload_n 3, 1) := by decide +kernel
theorem dX1_isAheadOf_21 : decode cX1_isAheadOf 21 = .ok (.iaload, 1) := by decide +kernel
theorem dX1_isAheadOf_22 : decode cX1_isAheadOf 22 = .ok (.invokestatic 60, 3) := by decide +kernel
theorem dX1_isAheadOf_25 : decode cX1_isAheadOf 25 = .ok (.iadd, 1) := by decide +kernel
theorem dX1_isAheadOf_26 : decode cX1_isAheadOf 26 = .ok (.istore_n 2, 1) := by decide +kernel
theorem dX1_isAheadOf_27 : decode cX1_isAheadOf 27 = .ok (.iinc 3 1, 3) := by decide +kernel
theorem dX1_isAheadOf_30 : decode cX1_isAheadOf 30 = .ok (.goto (-26), 3) := by decide +kernel
theorem dX1_isAheadOf_33 : decode cX1_isAheadOf 33 = .ok (.iload_n 2, 1) := by decide +kernel
theorem dX1_isAheadOf_34 : decode cX1_isAheadOf 34 = .ok (.ifCond .le 7, 3) := by decide +kernel
theorem dX1_isAheadOf_37 : decode cX1_isAheadOf 37 = .ok (.iconst 1, 1) := by decide +kernel
theorem dX1_isAheadOf_38 : decode cX1_isAheadOf 38 = .ok (.goto 4, 3) := by decide +kernel
theorem dX1_isAheadOf_41 : decode cX1_isAheadOf 41 = .ok (.iconst 0, 1) := by decide +kernel
theorem dX1_isAheadOf_42 : decode cX1_isAheadOf 42 = .ok (.ireturn, 1) := by decide +kernel
theorem dX4_init_0 : decode cX4_init 0 = .ok (.aload_n 0, 1) := by decide +kernel
theorem dX4_init_1 : decode cX4_init 1 = .ok (.invokespecial 3, 3) := by decide +kernel
theorem dX4_init_4 : decode cX4_init 4 = .ok (.aload_n 0, 1) := by decide +kernel
theorem dX4_init_5 : decode cX4_init 5 = .ok (.bipush 16, 2) := by decide +kernel
theorem dX4_init_7 : decode cX4_init 7 = .ok (.newarray .int, 2) := by decide +kernel
theorem dX4_init_9 : decode cX4_init 9 = .ok (.putfield 9, 3) := by decide +kernel
theorem dX4_init_12 : decode cX4_init 12 = .ok (.return_, 1) := by decide +kernel
theorem dX4_find_0 : decode cX4_find 0 = .ok (.iconst 0, 1) := by decide +kernel
theorem dX4_find_1 : decode cX4_find 1 = .ok (.istore_n 3, 1) := by decide +kernel
theorem dX4_find_2 : decode cX4_find 2 = .ok (.iload_n 3, 1) := by decide +kernel
theorem dX4_find_3 : decode cX4_find 3 = .ok (.iload_n 2, 1) := by decide +kernel
theorem dX4_find_4 : decode cX4_find 4 = .ok (.if_icmp .ge 22, 3) := by decide +kernel
theorem dX4_find_7 : decode cX4_find 7 = .ok (.aload_n 0, 1) := by decide +kernel
theorem dX4_find_8 : decode cX4_find 8 = .ok (.getfield 9, 3) := by decide +kernel
theorem dX4_find_11 : decode cX4_find 11 = .ok (.iload_n 3, 1) := by decide +kernel
theorem dX4_find_12 : decode cX4_find 12 = .ok (.aload_n 0, 1) := by decide +kernel
theorem dX4_find_13 : decode cX4_find 13 = .ok (.iload_n 3, 1) := by decide +kernel
theorem dX4_find_14 : decode cX4_find 14 = .ok (.aload_n 1, 1) := by decide +kernel
theorem dX4_find_15 : decode cX4_find 15 = .ok (.iload_n 2, 1) := by decide +kernel
theorem dX4_find_16 : decode cX4_find 16 = .ok (.invokevirtual 15, 3) := by decide +kernel
theorem dX4_find_19 : decode cX4_find 19 = .ok (.iastore, 1) := by decide +kernel
theorem dX4_find_20 : decode cX4_find 20 = .ok (.iinc 3 1, 3) := by decide +kernel
theorem dX4_find_23 : decode cX4_find 23 = .ok (.goto (-21), 3) := by decide +kernel
theorem dX4_find_26 : decode cX4_find 26 = .ok (.iconst 0, 1) := by decide +kernel
theorem dX4_find_27 : decode cX4_find 27 = .ok (.istore_n 3, 1) := by decide +kernel
theorem dX4_find_28 : decode cX4_find 28 = .ok (.iload_n 3, 1) := by decide +kernel
theorem dX4_find_29 : decode cX4_find 29 = .ok (.iload_n 2, 1) := by decide +kernel
theorem dX4_find_30 : decode cX4_find 30 = .ok (.if_icmp .ge 50, 3) := by decide +kernel
theorem dX4_find_33 : decode cX4_find 33 = .ok (.iconst 0, 1) := by decide +kernel
theorem dX4_find_34 : decode cX4_find 34 = .ok (.istore 4, 2) := by decide +kernel
theorem dX4_find_36 : decode cX4_find 36 = .ok (.iload 4, 2) := by decide +kernel
theorem dX4_find_38 : decode cX4_find 38 = .ok (.iload_n 2, 1) := by decide +kernel
theorem dX4_find_39 : decode cX4_find 39 = .ok (.if_icmp .ge 35, 3) := by decide +kernel
theorem dX4_find_42 : decode cX4_find 42 = .ok (.aload_n 0, 1) := by decide +kernel
theorem dX4_find_43 : decode cX4_find 43 = .ok (.iload 4, 2) := by decide +kernel
theorem dX4_find_45 : decode cX4_find 45 = .ok (.iload_n 3, 1) := by decide +kernel
theorem dX4_find_46 : decode cX4_find 46 = .ok (.invokevirtual 19, 3) := by decide +kernel
theorem dX4_find_49 : decode cX4_find 49 = .ok (.ifCond .eq 19, 3) := by decide +kernel
theorem dX4_find_52 : decode cX4_find 52 = .ok (.aload_n 0, 1) := by decide +kernel
theorem dX4_find_53 : decode cX4_find 53 = .ok (.getfield 9, 3) := by decide +kernel
theorem dX4_find_56 : decode cX4_find 56 = .ok (.iload 4, 2) := by decide +kernel
theorem dX4_find_58 : decode cX4_find 58 = .ok (.dup2, 1) := by decide +kernel
theorem dX4_find_59 : decode cX4_find 59 = .ok (.iaload, 1) := by decide +kernel
theorem dX4_find_60 : decode cX4_find 60 = .ok (.aload_n 0, 1) := by decide +kernel
theorem dX4_find_61 : decode cX4_find 61 = .ok (.getfield 9, 3) := by decide +kernel
theorem dX4_find_64 : decode cX4_find 64 = .ok (.iload_n 3, 1) := by decide +kernel
theorem dX4_find_65 : decode cX4_find 65 = .ok (.iaload, 1) := by decide +kernel
theorem dX4_find_66 : decode cX4_find 66 = .ok (.ior, 1) := by decide +kernel
theorem dX4_find_67 : decode cX4_find 67 = .ok (.iastore, 1) := by decide +kernel
theorem dX4_find_68 : decode cX4_find 68 = .ok (.iinc 4 1, 3) := by decide +kernel
theorem dX4_find_71 : decode cX4_find 71 = .ok (.goto (-35), 3) := by decide +kernel
theorem dX4_find_74 : decode cX4_find 74 = .ok (.iinc 3 1, 3) := by decide +kernel
theorem dX4_find_77 : decode cX4_find 77 = .ok (.goto (-49), 3) := by decide +kernel
theorem dX4_find_80 : decode cX4_find 80 = .ok (.return_, 1) := by decide +kernel
theorem dX4_setBehind_0 : decode cX4_setBehind 0 = .ok (.iconst 0, 1) := by decide +kernel
theorem dX4_setBehind_1 : decode cX4_setBehind 1 = .ok (.istore 4, 2) := by decide +kernel
theorem dX4_setBehind_3 : decode cX4_setBehind 3 = .ok (.iconst 0, 1) := by decide +kernel
theorem dX4_setBehind_4 : decode cX4_setBehind 4 = .ok (.istore 5, 2) := by decide +kernel
theorem dX4_setBehind_6 : decode cX4_setBehind 6 = .ok (.iload 5, 2) := by decide +kernel
theorem dX4_setBehind_8 : decode cX4_setBehind 8 = .ok (.iload_n 3, 1) := by decide +kernel
theorem dX4_setBehind_9 : decode cX4_setBehind 9 = .ok (.if_icmp .ge 50, 3) := by decide +kernel
theorem dX4_setBehind_12 : decode cX4_setBehind 12 = .ok (.aload_n 2, 1) := by decide +kernel
theorem dX4_setBehind_13 : decode cX4_setBehind 13 = .ok (.iload_n 1, 1) := by decide +kernel
theorem dX4_setBehind_14 : decode cX4_setBehind 14 = .ok (.aaload, 1) := by decide +kernel
theorem dX4_setBehind_15 : decode cX4_setBehind 15 = .ok (.getfield 23, 3) := by decide +kernel
theorem dX4_setBehind_18 : decode cX4_setBehind 18 = .ok (.ifCond .eq 35, 3) := by decide +kernel
theorem dX4_setBehind_21 : decode cX4_setBehind 21 = .ok (.aload_n 2, 1) := by decide +kernel
theorem dX4_setBehind_22 : decode cX4_setBehind 22 = .ok (.iload 5, 2) := by decide +kernel
theorem dX4_setBehind_24 : decode cX4_setBehind 24 = .ok (.aaload, 1) := by decide +kernel
theorem dX4_setBehind_25 : decode cX4_setBehind 25 = .ok (.getfield 23, 3) := by decide +kernel
theorem dX4_setBehind_28 : decode cX4_setBehind 28 = .ok (.ifCond .eq 25, 3) := by decide +kernel
theorem dX4_setBehind_31 : decode cX4_setBehind 31 = .ok (.aload_n 2, 1) := by decide +kernel
theorem dX4_setBehind_32 : decode cX4_setBehind 32 = .ok (.iload_n 1, 1) := by decide +kernel
theorem dX4_setBehind_33 : decode cX4_setBehind 33 = .ok (.aaload, 1) := by decide +kernel
theorem dX4_setBehind_34 : decode cX4_setBehind 34 = .ok (.aload_n 2, 1) := by decide +kernel
theorem dX4_setBehind_35 : decode cX4_setBehind 35 = .ok (.iload 5, 2) := by decide +kernel
theorem dX4_setBehind_37 : decode cX4_setBehind 37 = .ok (.aaload, 1) := by decide +kernel
theorem dX4_setBehind_38 : decode cX4_setBehind 38 = .ok (.invokevirtual 29, 3) := by decide +kernel
theorem dX4_setBehind_41 : decode cX4_setBehind 41 = .ok (.ifCond .eq 12, 3) := by decide +kernel
theorem dX4_setBehind_44 : decode cX4_setBehind 44 = .ok (.iload 4, 2) := by decide +kernel
theorem dX4_setBehind_46 : decode cX4_setBehind 46 = .ok (.iconst 1, 1) := by decide +kernel
theorem dX4_setBehind_47 : decode cX4_setBehind 47 = .ok (.iload 5, 2) := by decide +kernel
theorem dX4_setBehind_49 : decode cX4_setBehind 49 = .ok (.ishl, 1) := by decide +kernel
theorem dX4_setBehind_50 : decode cX4_setBehind 50 = .ok (.ior, 1) := by decide +kernel
theorem dX4_setBehind_51 : decode cX4_setBehind 51 = .ok (.istore 4, 2) := by decide +kernel
theorem dX4_setBehind_53 : decode cX4_setBehind 53 = .ok (.iinc 5 1, 3) := by decide +kernel
theorem dX4_setBehind_56 : decode cX4_setBehind 56 = .ok (.goto (-50), 3) := by decide +kernel
theorem dX4_setBehind_59 : decode cX4_setBehind 59 = .ok (.iload 4, 2) := by decide +kernel
theorem dX4_setBehind_61 : decode cX4_setBehind 61 = .ok (.ireturn, 1) := by decide +kernel
theorem dX4_leads_0 : decode cX4_leads 0 = .ok (.aload_n 0, 1) := by decide +kernel
theorem dX4_leads_1 : decode cX4_leads 1 = .ok (.getfield 9, 3) := by decide +kernel
theorem dX4_leads_4 : decode cX4_leads 4 = .ok (.iload_n 1, 1) := by decide +kernel
theorem dX4_leads_5 : decode cX4_leads 5 = .ok (.iaload, 1) := by decide +kernel
theorem dX4_leads_6 : decode cX4_leads 6 = .ok (.iload_n 2, 1) := by decide +kernel
theorem dX4_leads_7 : decode cX4_leads 7 = .ok (.invokestatic 33, 3) := by decide +kernel
theorem dX4_leads_10 : decode cX4_leads 10 = .ok (.ireturn, 1) := by decide +kernel
theorem dX4_addKnots_0 : decode cX4_addKnots 0 = .ok (.iload_n 2, 1) := by decide +kernel
theorem dX4_addKnots_1 : decode cX4_addKnots 1 = .ok (.istore 4, 2) := by decide +kernel
theorem dX4_addKnots_3 : decode cX4_addKnots 3 = .ok (.iconst 0, 1) := by decide +kernel
theorem dX4_addKnots_4 : decode cX4_addKnots 4 = .ok (.istore 5, 2) := by decide +kernel
theorem dX4_addKnots_6 : decode cX4_addKnots 6 = .ok (.iload 5, 2) := by decide +kernel
theorem dX4_addKnots_8 : decode cX4_addKnots 8 = .ok (.bipush 16, 2) := by decide +kernel
theorem dX4_addKnots_10 : decode cX4_addKnots 10 = .ok (.if_icmp .ge 39, 3) := by decide +kernel
theorem dX4_addKnots_13 : decode cX4_addKnots 13 = .ok (.iload 4, 2) := by decide +kernel
theorem dX4_addKnots_15 : decode cX4_addKnots 15 = .ok (.ifCond .eq 34, 3) := by decide +kernel
theorem dX4_addKnots_18 : decode cX4_addKnots 18 = .ok (.aload_n 0, 1) := by decide +kernel
theorem dX4_addKnots_19 : decode cX4_addKnots 19 = .ok (.iload 4, 2) := by decide +kernel
theorem dX4_addKnots_21 : decode cX4_addKnots 21 = .ok (.iload_n 3, 1) := by decide +kernel
theorem dX4_addKnots_22 : decode cX4_addKnots 22 = .ok (.invokevirtual 36, 3) := by decide +kernel
theorem dX4_addKnots_25 : decode cX4_addKnots 25 = .ok (.istore 6, 2) := by decide +kernel
theorem dX4_addKnots_27 : decode cX4_addKnots 27 = .ok (.aload_n 1, 1) := by decide +kernel
theorem dX4_addKnots_28 : decode cX4_addKnots 28 = .ok (.iload 6, 2) := by decide +kernel
theorem dX4_addKnots_30 : decode cX4_addKnots 30 = .ok (.iload_n 3, 1) := by decide +kernel
theorem dX4_addKnots_31 : decode cX4_addKnots 31 = .ok (.invokestatic 40, 3) := by decide +kernel
theorem dX4_addKnots_34 : decode cX4_addKnots 34 = .ok (.iload 4, 2) := by decide +kernel
theorem dX4_addKnots_36 : decode cX4_addKnots 36 = .ok (.iload 6, 2) := by decide +kernel
theorem dX4_addKnots_38 : decode cX4_addKnots 38 = .ok (.iconst (-1), 1) := by decide +kernel
theorem dX4_addKnots_39 : decode cX4_addKnots 39 = .ok (.ixor, 1) := by decide +kernel
theorem dX4_addKnots_40 : decode cX4_addKnots 40 = .ok (.iand, 1) := by decide +kernel
theorem dX4_addKnots_41 : decode cX4_addKnots 41 = .ok (.istore 4, 2) := by decide +kernel
theorem dX4_addKnots_43 : decode cX4_addKnots 43 = .ok (.iinc 5 1, 3) := by decide +kernel
theorem dX4_addKnots_46 : decode cX4_addKnots 46 = .ok (.goto (-40), 3) := by decide +kernel
theorem dX4_addKnots_49 : decode cX4_addKnots 49 = .ok (.return_, 1) := by decide +kernel
theorem dX4_firstKnot_0 : decode cX4_firstKnot 0 = .ok (.iconst 0, 1) := by decide +kernel
theorem dX4_firstKnot_1 : decode cX4_firstKnot 1 = .ok (.istore_n 3, 1) := by decide +kernel
theorem dX4_firstKnot_2 : decode cX4_firstKnot 2 = .ok (.iload_n 3, 1) := by decide +kernel
theorem dX4_firstKnot_3 : decode cX4_firstKnot 3 = .ok (.iload_n 2, 1) := by decide +kernel
theorem dX4_firstKnot_4 : decode cX4_firstKnot 4 = .ok (.if_icmp .ge 34, 3) := by decide +kernel
theorem dX4_firstKnot_7 : decode cX4_firstKnot 7 = .ok (.iload_n 1, 1) := by decide +kernel
theorem dX4_firstKnot_8 : decode cX4_firstKnot 8 = .ok (.iload_n 3, 1) := by decide +kernel
theorem dX4_firstKnot_9 : decode cX4_firstKnot 9 = .ok (.invokestatic 33, 3) := by decide +kernel
theorem dX4_firstKnot_12 : decode cX4_firstKnot 12 = .ok (.ifCond .eq 20, 3) := by decide +kernel
theorem dX4_firstKnot_15 : decode cX4_firstKnot 15 = .ok (.aload_n 0, 1) := by decide +kernel
theorem dX4_firstKnot_16 : decode cX4_firstKnot 16 = .ok (.iload_n 3, 1) := by decide +kernel
theorem dX4_firstKnot_17 : decode cX4_firstKnot 17 = .ok (.iload_n 1, 1) := by decide +kernel
theorem dX4_firstKnot_18 : decode cX4_firstKnot 18 = .ok (.iload_n 2, 1) := by decide +kernel
theorem dX4_firstKnot_19 : decode cX4_firstKnot 19 = .ok (.invokevirtual 44, 3) := by decide +kernel
theorem dX4_firstKnot_22 : decode cX4_firstKnot 22 = .ok (.ifCond .eq 10, 3) := by decide +kernel
theorem dX4_firstKnot_25 : decode cX4_firstKnot 25 = .ok (.aload_n 0, 1) := by decide +kernel
theorem dX4_firstKnot_26 : decode cX4_firstKnot 26 = .ok (.iload_n 3, 1) := by decide +kernel
theorem dX4_firstKnot_27 : decode cX4_firstKnot 27 = .ok (.iload_n 2, 1) := by decide +kernel
theorem dX4_firstKnot_28 : decode cX4_firstKnot 28 = .ok (.invokevirtual 48, 3) := by decide +kernel
theorem dX4_firstKnot_31 : decode cX4_firstKnot 31 = .ok (.ireturn, 1) := by decide +kernel
theorem dX4_firstKnot_32 : decode cX4_firstKnot 32 = .ok (.iinc 3 1, 3) := by decide +kernel
theorem dX4_firstKnot_35 : decode cX4_firstKnot 35 = .ok (.goto (-33), 3) := by decide +kernel
theorem dX4_firstKnot_38 : decode cX4_firstKnot 38 = .ok (.iconst 0, 1) := by decide +kernel
theorem dX4_firstKnot_39 : decode cX4_firstKnot 39 = .ok (.ireturn, 1) := by decide +kernel
theorem dX4_isFree_0 : decode cX4_isFree 0 = .ok (.iconst 0, 1) := by decide +kernel
theorem dX4_isFree_1 : decode cX4_isFree 1 = .ok (.istore 4, 2) := by decide +kernel
theorem dX4_isFree_3 : decode cX4_isFree 3 = .ok (.iload 4, 2) := by decide +kernel
theorem dX4_isFree_5 : decode cX4_isFree 5 = .ok (.iload_n 3, 1) := by decide +kernel
theorem dX4_isFree_6 : decode cX4_isFree 6 = .ok (.if_icmp .ge 40, 3) := by decide +kernel
theorem dX4_isFree_9 : decode cX4_isFree 9 = .ok (.iload_n 2, 1) := by decide +kernel
theorem dX4_isFree_10 : decode cX4_isFree 10 = .ok (.iload 4, 2) := by decide +kernel
theorem dX4_isFree_12 : decode cX4_isFree 12 = .ok (.invokestatic 33, 3) := by decide +kernel
theorem dX4_isFree_15 : decode cX4_isFree 15 = .ok (.ifCond .eq 25, 3) := by decide +kernel
theorem dX4_isFree_18 : decode cX4_isFree 18 = .ok (.aload_n 0, 1) := by decide +kernel
theorem dX4_isFree_19 : decode cX4_isFree 19 = .ok (.iload 4, 2) := by decide +kernel
theorem dX4_isFree_21 : decode cX4_isFree 21 = .ok (.iload_n 1, 1) := by decide +kernel
theorem dX4_isFree_22 : decode cX4_isFree 22 = .ok (.invokevirtual 19, 3) := by decide +kernel
theorem dX4_isFree_25 : decode cX4_isFree 25 = .ok (.ifCond .eq 15, 3) := by decide +kernel
theorem dX4_isFree_28 : decode cX4_isFree 28 = .ok (.aload_n 0, 1) := by decide +kernel
theorem dX4_isFree_29 : decode cX4_isFree 29 = .ok (.iload_n 1, 1) := by decide +kernel
theorem dX4_isFree_30 : decode cX4_isFree 30 = .ok (.iload 4, 2) := by decide +kernel
theorem dX4_isFree_32 : decode cX4_isFree 32 = .ok (.invokevirtual 19, 3) := by decide +kernel
theorem dX4_isFree_35 : decode cX4_isFree 35 = .ok (.ifCond .ne 5, 3) := by decide +kernel
theorem dX4_isFree_38 : decode cX4_isFree 38 = .ok (.iconst 0, 1) := by decide +kernel
theorem dX4_isFree_39 : decode cX4_isFree 39 = .ok (.ireturn, 1) := by decide +kernel
theorem dX4_isFree_40 : decode cX4_isFree 40 = .ok (.iinc 4 1, 3) := by decide +kernel
theorem dX4_isFree_43 : decode cX4_isFree 43 = .ok (.goto (-40), 3) := by decide +kernel
theorem dX4_isFree_46 : decode cX4_isFree 46 = .ok (.iconst 1, 1) := by decide +kernel
theorem dX4_isFree_47 : decode cX4_isFree 47 = .ok (.ireturn, 1) := by decide +kernel
theorem dX4_knotOf_0 : decode cX4_knotOf 0 = .ok (.iconst 1, 1) := by decide +kernel
theorem dX4_knotOf_1 : decode cX4_knotOf 1 = .ok (.iload_n 1, 1) := by decide +kernel
theorem dX4_knotOf_2 : decode cX4_knotOf 2 = .ok (.ishl, 1) := by decide +kernel
theorem dX4_knotOf_3 : decode cX4_knotOf 3 = .ok (.istore_n 3, 1) := by decide +kernel
theorem dX4_knotOf_4 : decode cX4_knotOf 4 = .ok (.iconst 0, 1) := by decide +kernel
theorem dX4_knotOf_5 : decode cX4_knotOf 5 = .ok (.istore 4, 2) := by decide +kernel
theorem dX4_knotOf_7 : decode cX4_knotOf 7 = .ok (.iload 4, 2) := by decide +kernel
theorem dX4_knotOf_9 : decode cX4_knotOf 9 = .ok (.iload_n 2, 1) := by decide +kernel
theorem dX4_knotOf_10 : decode cX4_knotOf 10 = .ok (.if_icmp .ge 36, 3) := by decide +kernel
theorem dX4_knotOf_13 : decode cX4_knotOf 13 = .ok (.aload_n 0, 1) := by decide +kernel
theorem dX4_knotOf_14 : decode cX4_knotOf 14 = .ok (.iload_n 1, 1) := by decide +kernel
theorem dX4_knotOf_15 : decode cX4_knotOf 15 = .ok (.iload 4, 2) := by decide +kernel
theorem dX4_knotOf_17 : decode cX4_knotOf 17 = .ok (.invokevirtual 19, 3) := by decide +kernel
theorem dX4_knotOf_20 : decode cX4_knotOf 20 = .ok (.ifCond .eq 20, 3) := by decide +kernel
theorem dX4_knotOf_23 : decode cX4_knotOf 23 = .ok (.aload_n 0, 1) := by decide +kernel
theorem dX4_knotOf_24 : decode cX4_knotOf 24 = .ok (.iload 4, 2) := by decide +kernel
theorem dX4_knotOf_26 : decode cX4_knotOf 26 = .ok (.iload_n 1, 1) := by decide +kernel
theorem dX4_knotOf_27 : decode cX4_knotOf 27 = .ok (.invokevirtual 19, 3) := by decide +kernel
theorem dX4_knotOf_30 : decode cX4_knotOf 30 = .ok (.ifCond .eq 10, 3) := by decide +kernel
theorem dX4_knotOf_33 : decode cX4_knotOf 33 = .ok (.iload_n 3, 1) := by decide +kernel
theorem dX4_knotOf_34 : decode cX4_knotOf 34 = .ok (.iconst 1, 1) := by decide +kernel
theorem dX4_knotOf_35 : decode cX4_knotOf 35 = .ok (.iload 4, 2) := by decide +kernel
theorem dX4_knotOf_37 : decode cX4_knotOf 37 = .ok (.ishl, 1) := by decide +kernel
theorem dX4_knotOf_38 : decode cX4_knotOf 38 = .ok (.ior, 1) := by decide +kernel
theorem dX4_knotOf_39 : decode cX4_knotOf 39 = .ok (.istore_n 3, 1) := by decide +kernel
theorem dX4_knotOf_40 : decode cX4_knotOf 40 = .ok (.iinc 4 1, 3) := by decide +kernel
theorem dX4_knotOf_43 : decode cX4_knotOf 43 = .ok (.goto (-36), 3) := by decide +kernel
theorem dX4_knotOf_46 : decode cX4_knotOf 46 = .ok (.iload_n 3, 1) := by decide +kernel
theorem dX4_knotOf_47 : decode cX4_knotOf 47 = .ok (.ireturn, 1) := by decide +kernel
theorem dX4_addSet_0 : decode cX4_addSet 0 = .ok (.iconst 0, 1) := by decide +kernel
theorem dX4_addSet_1 : decode cX4_addSet 1 = .ok (.istore_n 3, 1) := by decide +kernel
theorem dX4_addSet_2 : decode cX4_addSet 2 = .ok (.iload_n 3, 1) := by decide +kernel
theorem dX4_addSet_3 : decode cX4_addSet 3 = .ok (.iload_n 2, 1) := by decide +kernel
theorem dX4_addSet_4 : decode cX4_addSet 4 = .ok (.if_icmp .ge 22, 3) := by decide +kernel
theorem dX4_addSet_7 : decode cX4_addSet 7 = .ok (.iload_n 1, 1) := by decide +kernel
theorem dX4_addSet_8 : decode cX4_addSet 8 = .ok (.iload_n 3, 1) := by decide +kernel
theorem dX4_addSet_9 : decode cX4_addSet 9 = .ok (.invokestatic 33, 3) := by decide +kernel
theorem dX4_addSet_12 : decode cX4_addSet 12 = .ok (.ifCond .eq 8, 3) := by decide +kernel
theorem dX4_addSet_15 : decode cX4_addSet 15 = .ok (.aload_n 0, 1) := by decide +kernel
theorem dX4_addSet_16 : decode cX4_addSet 16 = .ok (.iload_n 3, 1) := by decide +kernel
theorem dX4_addSet_17 : decode cX4_addSet 17 = .ok (.invokevirtual 51, 3) := by decide +kernel
theorem dX4_addSet_20 : decode cX4_addSet 20 = .ok (.iinc 3 1, 3) := by decide +kernel
theorem dX4_addSet_23 : decode cX4_addSet 23 = .ok (.goto (-21), 3) := by decide +kernel
theorem dX4_addSet_26 : decode cX4_addSet 26 = .ok (.return_, 1) := by decide +kernel
theorem dX4_contains_0 : decode cX4_contains 0 = .ok (.iload_n 0, 1) := by decide +kernel
theorem dX4_contains_1 : decode cX4_contains 1 = .ok (.iload_n 1, 1) := by decide +kernel
theorem dX4_contains_2 : decode cX4_contains 2 = .ok (.iushr, 1) := by decide +kernel
theorem dX4_contains_3 : decode cX4_contains 3 = .ok (.iconst 1, 1) := by decide +kernel
theorem dX4_contains_4 : decode cX4_contains 4 = .ok (.iand, 1) := by decide +kernel
theorem dX4_contains_5 : decode cX4_contains 5 = .ok (.ifCond .eq 7, 3) := by decide +kernel
theorem dX4_contains_8 : decode cX4_contains 8 = .ok (.iconst 1, 1) := by decide +kernel
theorem dX4_contains_9 : decode cX4_contains 9 = .ok (.goto 4, 3) := by decide +kernel
theorem dX4_contains_12 : decode cX4_contains 12 = .ok (.iconst 0, 1) := by decide +kernel
theorem dX4_contains_13 : decode cX4_contains 13 = .ok (.ireturn, 1) := by decide +kernel
theorem dX2_init_0 : decode cX2_init 0 = .ok (.aload_n 0, 1) := by decide +kernel
theorem dX2_init_1 : decode cX2_init 1 = .ok (.invokespecial 3, 3) := by decide +kernel
theorem dX2_init_4 : decode cX2_init 4 = .ok (.aload_n 0, 1) := by decide +kernel
theorem dX2_init_5 : decode cX2_init 5 = .ok (.bipush 9, 2) := by decide +kernel
theorem dX2_init_7 : decode cX2_init 7 = .ok (.newarray .long, 2) := by decide +kernel
theorem dX2_init_9 : decode cX2_init 9 = .ok (.putfield 9, 3) := by decide +kernel
theorem dX2_init_12 : decode cX2_init 12 = .ok (.aload_n 0, 1) := by decide +kernel
theorem dX2_init_13 : decode cX2_init 13 = .ok (.bipush 9, 2) := by decide +kernel
theorem dX2_init_15 : decode cX2_init 15 = .ok (.newarray .long, 2) := by decide +kernel
theorem dX2_init_17 : decode cX2_init 17 = .ok (.putfield 15, 3) := by decide +kernel
theorem dX2_init_20 : decode cX2_init 20 = .ok (.return_, 1) := by decide +kernel
theorem dX2_makeEmpty_0 : decode cX2_makeEmpty 0 = .ok (.aload_n 0, 1) := by decide +kernel
theorem dX2_makeEmpty_1 : decode cX2_makeEmpty 1 = .ok (.getfield 9, 3) := by decide +kernel
theorem dX2_makeEmpty_4 : decode cX2_makeEmpty 4 = .ok (.lconst 0, 1) := by decide +kernel
theorem dX2_makeEmpty_5 : decode cX2_makeEmpty 5 = .ok (.invokestatic 18, 3) := by decide +kernel
theorem dX2_makeEmpty_8 : decode cX2_makeEmpty 8 = .ok (.aload_n 0, 1) := by decide +kernel
theorem dX2_makeEmpty_9 : decode cX2_makeEmpty 9 = .ok (.getfield 15, 3) := by decide +kernel
theorem dX2_makeEmpty_12 : decode cX2_makeEmpty 12 = .ok (.lconst 0, 1) := by decide +kernel
theorem dX2_makeEmpty_13 : decode cX2_makeEmpty 13 = .ok (.invokestatic 18, 3) := by decide +kernel
theorem dX2_makeEmpty_16 : decode cX2_makeEmpty 16 = .ok (.return_, 1) := by decide +kernel
theorem dX2_put_0 : decode cX2_put 0 = .ok (.aload_n 0, 1) := by decide +kernel
theorem dX2_put_1 : decode cX2_put 1 = .ok (.getfield 9, 3) := by decide +kernel
theorem dX2_put_4 : decode cX2_put 4 = .ok (.iload_n 1, 1) := by decide +kernel
theorem dX2_put_5 : decode cX2_put 5 = .ok (.lload_n 2, 1) := by decide +kernel
theorem dX2_put_6 : decode cX2_put 6 = .ok (.lastore, 1) := by decide +kernel
theorem dX2_put_7 : decode cX2_put 7 = .ok (.aload_n 0, 1) := by decide +kernel
theorem dX2_put_8 : decode cX2_put 8 = .ok (.getfield 15, 3) := by decide +kernel
theorem dX2_put_11 : decode cX2_put 11 = .ok (.iload_n 1, 1) := by decide +kernel
theorem dX2_put_12 : decode cX2_put 12 = .ok (.lload 4, 2) := by decide +kernel
theorem dX2_put_14 : decode cX2_put 14 = .ok (.lastore, 1) := by decide +kernel
theorem dX2_put_15 : decode cX2_put 15 = .ok (.return_, 1) := by decide +kernel
theorem dX2_copyFrom_0 : decode cX2_copyFrom 0 = .ok (.aload_n 1, 1) := by decide +kernel
theorem dX2_copyFrom_1 : decode cX2_copyFrom 1 = .ok (.getfield 9, 3) := by decide +kernel
theorem dX2_copyFrom_4 : decode cX2_copyFrom 4 = .ok (.iconst 0, 1) := by decide +kernel
theorem dX2_copyFrom_5 : decode cX2_copyFrom 5 = .ok (.aload_n 0, 1) := by decide +kernel
theorem dX2_copyFrom_6 : decode cX2_copyFrom 6 = .ok (.getfield 9, 3) := by decide +kernel
theorem dX2_copyFrom_9 : decode cX2_copyFrom 9 = .ok (.iconst 0, 1) := by decide +kernel
theorem dX2_copyFrom_10 : decode cX2_copyFrom 10 = .ok (.bipush 9, 2) := by decide +kernel
theorem dX2_copyFrom_12 : decode cX2_copyFrom 12 = .ok (.invokestatic 24, 3) := by decide +kernel
theorem dX2_copyFrom_15 : decode cX2_copyFrom 15 = .ok (.aload_n 1, 1) := by decide +kernel
theorem dX2_copyFrom_16 : decode cX2_copyFrom 16 = .ok (.getfield 15, 3) := by decide +kernel
theorem dX2_copyFrom_19 : decode cX2_copyFrom 19 = .ok (.iconst 0, 1) := by decide +kernel
theorem dX2_copyFrom_20 : decode cX2_copyFrom 20 = .ok (.aload_n 0, 1) := by decide +kernel
theorem dX2_copyFrom_21 : decode cX2_copyFrom 21 = .ok (.getfield 15, 3) := by decide +kernel
theorem dX2_copyFrom_24 : decode cX2_copyFrom 24 = .ok (.iconst 0, 1) := by decide +kernel
theorem dX2_copyFrom_25 : decode cX2_copyFrom 25 = .ok (.bipush 9, 2) := by decide +kernel
theorem dX2_copyFrom_27 : decode cX2_copyFrom 27 = .ok (.invokestatic 24, 3) := by decide +kernel
theorem dX2_copyFrom_30 : decode cX2_copyFrom 30 = .ok (.return_, 1) := by decide +kernel
theorem dX2_held_0 : decode cX2_held 0 = .ok (.iload_n 2, 1) := by decide +kernel
theorem dX2_held_1 : decode cX2_held 1 = .ok (.ifCond .ne 12, 3) := by decide +kernel
theorem dX2_held_4 : decode cX2_held 4 = .ok (.aload_n 0, 1) := by decide +kernel
theorem dX2_held_5 : decode cX2_held 5 = .ok (.getfield 9, 3) := by decide +kernel
theorem dX2_held_8 : decode cX2_held 8 = .ok (.iload_n 1, 1) := by decide +kernel
theorem dX2_held_9 : decode cX2_held 9 = .ok (.laload, 1) := by decide +kernel
theorem dX2_held_10 : decode cX2_held 10 = .ok (.goto 9, 3) := by decide +kernel
theorem dX2_held_13 : decode cX2_held 13 = .ok (.aload_n 0, 1) := by decide +kernel
theorem dX2_held_14 : decode cX2_held 14 = .ok (.getfield 15, 3) := by decide +kernel
theorem dX2_held_17 : decode cX2_held 17 = .ok (.iload_n 1, 1) := by decide +kernel
theorem dX2_held_18 : decode cX2_held 18 = .ok (.laload, 1) := by decide +kernel
theorem dX2_held_19 : decode cX2_held 19 = .ok (.lreturn, 1) := by decide +kernel
theorem dX2_trade_0 : decode cX2_trade 0 = .ok (.aload_n 1, 1) := by decide +kernel
theorem dX2_trade_1 : decode cX2_trade 1 = .ok (.getfield 30, 3) := by decide +kernel
theorem dX2_trade_4 : decode cX2_trade 4 = .ok (.ifCond .ne 11, 3) := by decide +kernel
theorem dX2_trade_7 : decode cX2_trade 7 = .ok (.aload_n 0, 1) := by decide +kernel
theorem dX2_trade_8 : decode cX2_trade 8 = .ok (.aload_n 1, 1) := by decide +kernel
theorem dX2_trade_9 : decode cX2_trade 9 = .ok (.invokevirtual 36, 3) := by decide +kernel
theorem dX2_trade_12 : decode cX2_trade 12 = .ok (.goto 8, 3) := by decide +kernel
theorem dX2_trade_15 : decode cX2_trade 15 = .ok (.aload_n 0, 1) := by decide +kernel
theorem dX2_trade_16 : decode cX2_trade 16 = .ok (.aload_n 1, 1) := by decide +kernel
theorem dX2_trade_17 : decode cX2_trade 17 = .ok (.invokevirtual 40, 3) := by decide +kernel
theorem dX2_trade_20 : decode cX2_trade 20 = .ok (.lreturn, 1) := by decide +kernel
theorem dX2_buyFromPool_0 : decode cX2_buyFromPool 0 = .ok (.aload_n 0, 1) := by decide +kernel
theorem dX2_buyFromPool_1 : decode cX2_buyFromPool 1 = .ok (.getfield 15, 3) := by decide +kernel
theorem dX2_buyFromPool_4 : decode cX2_buyFromPool 4 = .ok (.bipush 8, 2) := by decide +kernel
theorem dX2_buyFromPool_6 : decode cX2_buyFromPool 6 = .ok (.laload, 1) := by decide +kernel
theorem dX2_buyFromPool_7 : decode cX2_buyFromPool 7 = .ok (.aload_n 1, 1) := by decide +kernel
theorem dX2_buyFromPool_8 : decode cX2_buyFromPool 8 = .ok (.getfield 43, 3) := by decide +kernel
theorem dX2_buyFromPool_11 : decode cX2_buyFromPool 11 = .ok (.i2l, 1) := by decide +kernel
theorem dX2_buyFromPool_12 : decode cX2_buyFromPool 12 = .ok (.lsub, 1) := by decide +kernel
theorem dX2_buyFromPool_13 : decode cX2_buyFromPool 13 = .ok (.lstore_n 2, 1) := by decide +kernel
theorem dX2_buyFromPool_14 : decode cX2_buyFromPool 14 = .ok (.lload_n 2, 1) := by decide +kernel
theorem dX2_buyFromPool_15 : decode cX2_buyFromPool 15 = .ok (.lconst 0, 1) := by decide +kernel
theorem dX2_buyFromPool_16 : decode cX2_buyFromPool 16 = .ok (.lcmp, 1) := by decide +kernel
theorem dX2_buyFromPool_17 : decode cX2_buyFromPool 17 = .ok (.ifCond .gt 7, 3) := by decide +kernel
theorem dX2_buyFromPool_20 : decode cX2_buyFromPool 20 = .ok (.ldc2_w 46, 3) := by decide +kernel
theorem dX2_buyFromPool_23 : decode cX2_buyFromPool 23 = .ok (.lreturn, 1) := by decide +kernel
theorem dX2_buyFromPool_24 : decode cX2_buyFromPool 24 = .ok (.aload_n 0, 1) := by decide +kernel
theorem dX2_buyFromPool_25 : decode cX2_buyFromPool 25 = .ok (.getfield 9, 3) := by decide +kernel
theorem dX2_buyFromPool_28 : decode cX2_buyFromPool 28 = .ok (.bipush 8, 2) := by decide +kernel
theorem dX2_buyFromPool_30 : decode cX2_buyFromPool 30 = .ok (.laload, 1) := by decide +kernel
theorem dX2_buyFromPool_31 : decode cX2_buyFromPool 31 = .ok (.aload_n 1, 1) := by decide +kernel
theorem dX2_buyFromPool_32 : decode cX2_buyFromPool 32 = .ok (.getfield 43, 3) := by decide +kernel
theorem dX2_buyFromPool_35 : decode cX2_buyFromPool 35 = .ok (.i2l, 1) := by decide +kernel
theorem dX2_buyFromPool_36 : decode cX2_buyFromPool 36 = .ok (.lmul, 1) := by decide +kernel
theorem dX2_buyFromPool_37 : decode cX2_buyFromPool 37 = .ok (.lload_n 2, 1) := by decide +kernel
theorem dX2_buyFromPool_38 : decode cX2_buyFromPool 38 = .ok (.ladd, 1) := by decide +kernel
theorem dX2_buyFromPool_39 : decode cX2_buyFromPool 39 = .ok (.lconst 1, 1) := by decide +kernel
theorem dX2_buyFromPool_40 : decode cX2_buyFromPool 40 = .ok (.lsub, 1) := by decide +kernel
theorem dX2_buyFromPool_41 : decode cX2_buyFromPool 41 = .ok (.lload_n 2, 1) := by decide +kernel
theorem dX2_buyFromPool_42 : decode cX2_buyFromPool 42 = .ok (.ldiv, 1) := by decide +kernel
theorem dX2_buyFromPool_43 : decode cX2_buyFromPool 43 = .ok (.lstore 4, 2) := by decide +kernel
theorem dX2_buyFromPool_45 : decode cX2_buyFromPool 45 = .ok (.lload 4, 2) := by decide +kernel
theorem dX2_buyFromPool_47 : decode cX2_buyFromPool 47 = .ok (.aload_n 1, 1) := by decide +kernel
theorem dX2_buyFromPool_48 : decode cX2_buyFromPool 48 = .ok (.invokevirtual 48, 3) := by decide +kernel
theorem dX2_buyFromPool_51 : decode cX2_buyFromPool 51 = .ok (.lcmp, 1) := by decide +kernel
theorem dX2_buyFromPool_52 : decode cX2_buyFromPool 52 = .ok (.ifCond .gt 18, 3) := by decide +kernel
theorem dX2_buyFromPool_55 : decode cX2_buyFromPool 55 = .ok (.lload 4, 2) := by decide +kernel
theorem dX2_buyFromPool_57 : decode cX2_buyFromPool 57 = .ok (.aload_n 0, 1) := by decide +kernel
theorem dX2_buyFromPool_58 : decode cX2_buyFromPool 58 = .ok (.getfield 9, 3) := by decide +kernel
theorem dX2_buyFromPool_61 : decode cX2_buyFromPool 61 = .ok (.aload_n 1, 1) := by decide +kernel
theorem dX2_buyFromPool_62 : decode cX2_buyFromPool 62 = .ok (.getfield 52, 3) := by decide +kernel
theorem dX2_buyFromPool_65 : decode cX2_buyFromPool 65 = .ok (.laload, 1) := by decide +kernel
theorem dX2_buyFromPool_66 : decode cX2_buyFromPool 66 = .ok (.lcmp, 1) := by decide +kernel
theorem dX2_buyFromPool_67 : decode cX2_buyFromPool 67 = .ok (.ifCond .le 7, 3) := by decide +kernel
theorem dX2_buyFromPool_70 : decode cX2_buyFromPool 70 = .ok (.ldc2_w 46, 3) := by decide +kernel
theorem dX2_buyFromPool_73 : decode cX2_buyFromPool 73 = .ok (.lreturn, 1) := by decide +kernel
theorem dX2_buyFromPool_74 : decode cX2_buyFromPool 74 = .ok (.aload_n 0, 1) := by decide +kernel
theorem dX2_buyFromPool_75 : decode cX2_buyFromPool 75 = .ok (.aload_n 1, 1) := by decide +kernel
theorem dX2_buyFromPool_76 : decode cX2_buyFromPool 76 = .ok (.getfield 52, 3) := by decide +kernel
theorem dX2_buyFromPool_79 : decode cX2_buyFromPool 79 = .ok (.lload 4, 2) := by decide +kernel
theorem dX2_buyFromPool_81 : decode cX2_buyFromPool 81 = .ok (.aload_n 1, 1) := by decide +kernel
theorem dX2_buyFromPool_82 : decode cX2_buyFromPool 82 = .ok (.getfield 43, 3) := by decide +kernel
theorem dX2_buyFromPool_85 : decode cX2_buyFromPool 85 = .ok (.i2l, 1) := by decide +kernel
theorem dX2_buyFromPool_86 : decode cX2_buyFromPool 86 = .ok (.invokevirtual 55, 3) := by decide +kernel
theorem dX2_buyFromPool_89 : decode cX2_buyFromPool 89 = .ok (.aload_n 0, 1) := by decide +kernel
theorem dX2_buyFromPool_90 : decode cX2_buyFromPool 90 = .ok (.bipush 8, 2) := by decide +kernel
theorem dX2_buyFromPool_92 : decode cX2_buyFromPool 92 = .ok (.lload 4, 2) := by decide +kernel
theorem dX2_buyFromPool_94 : decode cX2_buyFromPool 94 = .ok (.aload_n 1, 1) := by decide +kernel
theorem dX2_buyFromPool_95 : decode cX2_buyFromPool 95 = .ok (.getfield 43, 3) := by decide +kernel
theorem dX2_buyFromPool_98 : decode cX2_buyFromPool 98 = .ok (.i2l, 1) := by decide +kernel
theorem dX2_buyFromPool_99 : decode cX2_buyFromPool 99 = .ok (.invokevirtual 59, 3) := by decide +kernel
theorem dX2_buyFromPool_102 : decode cX2_buyFromPool 102 = .ok (.lload 4, 2) := by decide +kernel
theorem dX2_buyFromPool_104 : decode cX2_buyFromPool 104 = .ok (.lreturn, 1) := by decide +kernel
theorem dX2_sellToPool_0 : decode cX2_sellToPool 0 = .ok (.aload_n 0, 1) := by decide +kernel
theorem dX2_sellToPool_1 : decode cX2_sellToPool 1 = .ok (.getfield 15, 3) := by decide +kernel
theorem dX2_sellToPool_4 : decode cX2_sellToPool 4 = .ok (.bipush 8, 2) := by decide +kernel
theorem dX2_sellToPool_6 : decode cX2_sellToPool 6 = .ok (.laload, 1) := by decide +kernel
theorem dX2_sellToPool_7 : decode cX2_sellToPool 7 = .ok (.aload_n 1, 1) := by decide +kernel
theorem dX2_sellToPool_8 : decode cX2_sellToPool 8 = .ok (.getfield 43, 3) := by decide +kernel
theorem dX2_sellToPool_11 : decode cX2_sellToPool 11 = .ok (.i2l, 1) := by decide +kernel
theorem dX2_sellToPool_12 : decode cX2_sellToPool 12 = .ok (.ladd, 1) := by decide +kernel
theorem dX2_sellToPool_13 : decode cX2_sellToPool 13 = .ok (.lstore_n 2, 1) := by decide +kernel
theorem dX2_sellToPool_14 : decode cX2_sellToPool 14 = .ok (.lload_n 2, 1) := by decide +kernel
theorem dX2_sellToPool_15 : decode cX2_sellToPool 15 = .ok (.lconst 0, 1) := by decide +kernel
theorem dX2_sellToPool_16 : decode cX2_sellToPool 16 = .ok (.lcmp, 1) := by decide +kernel
theorem dX2_sellToPool_17 : decode cX2_sellToPool 17 = .ok (.ifCond .le 21, 3) := by decide +kernel
theorem dX2_sellToPool_20 : decode cX2_sellToPool 20 = .ok (.aload_n 0, 1) := by decide +kernel
theorem dX2_sellToPool_21 : decode cX2_sellToPool 21 = .ok (.getfield 15, 3) := by decide +kernel
theorem dX2_sellToPool_24 : decode cX2_sellToPool 24 = .ok (.aload_n 1, 1) := by decide +kernel
theorem dX2_sellToPool_25 : decode cX2_sellToPool 25 = .ok (.getfield 52, 3) := by decide +kernel
theorem dX2_sellToPool_28 : decode cX2_sellToPool 28 = .ok (.laload, 1) := by decide +kernel
theorem dX2_sellToPool_29 : decode cX2_sellToPool 29 = .ok (.aload_n 1, 1) := by decide +kernel
theorem dX2_sellToPool_30 : decode cX2_sellToPool 30 = .ok (.getfield 43, 3) := by decide +kernel
theorem dX2_sellToPool_33 : decode cX2_sellToPool 33 = .ok (.i2l, 1) := by decide +kernel
theorem dX2_sellToPool_34 : decode cX2_sellToPool 34 = .ok (.lcmp, 1) := by decide +kernel
theorem dX2_sellToPool_35 : decode cX2_sellToPool 35 = .ok (.ifCond .ge 7, 3) := by decide +kernel
theorem dX2_sellToPool_38 : decode cX2_sellToPool 38 = .ok (.ldc2_w 46, 3) := by decide +kernel
theorem dX2_sellToPool_41 : decode cX2_sellToPool 41 = .ok (.lreturn, 1) := by decide +kernel
theorem dX2_sellToPool_42 : decode cX2_sellToPool 42 = .ok (.aload_n 0, 1) := by decide +kernel
theorem dX2_sellToPool_43 : decode cX2_sellToPool 43 = .ok (.getfield 9, 3) := by decide +kernel
theorem dX2_sellToPool_46 : decode cX2_sellToPool 46 = .ok (.bipush 8, 2) := by decide +kernel
theorem dX2_sellToPool_48 : decode cX2_sellToPool 48 = .ok (.laload, 1) := by decide +kernel
theorem dX2_sellToPool_49 : decode cX2_sellToPool 49 = .ok (.aload_n 1, 1) := by decide +kernel
theorem dX2_sellToPool_50 : decode cX2_sellToPool 50 = .ok (.getfield 43, 3) := by decide +kernel
theorem dX2_sellToPool_53 : decode cX2_sellToPool 53 = .ok (.i2l, 1) := by decide +kernel
theorem dX2_sellToPool_54 : decode cX2_sellToPool 54 = .ok (.lmul, 1) := by decide +kernel
theorem dX2_sellToPool_55 : decode cX2_sellToPool 55 = .ok (.lload_n 2, 1) := by decide +kernel
theorem dX2_sellToPool_56 : decode cX2_sellToPool 56 = .ok (.ldiv, 1) := by decide +kernel
theorem dX2_sellToPool_57 : decode cX2_sellToPool 57 = .ok (.lstore 4, 2) := by decide +kernel
theorem dX2_sellToPool_59 : decode cX2_sellToPool 59 = .ok (.lload 4, 2) := by decide +kernel
theorem dX2_sellToPool_61 : decode cX2_sellToPool 61 = .ok (.aload_n 1, 1) := by decide +kernel
theorem dX2_sellToPool_62 : decode cX2_sellToPool 62 = .ok (.invokevirtual 48, 3) := by decide +kernel
theorem dX2_sellToPool_65 : decode cX2_sellToPool 65 = .ok (.lcmp, 1) := by decide +kernel
theorem dX2_sellToPool_66 : decode cX2_sellToPool 66 = .ok (.ifCond .ge 7, 3) := by decide +kernel
theorem dX2_sellToPool_69 : decode cX2_sellToPool 69 = .ok (.ldc2_w 46, 3) := by decide +kernel
theorem dX2_sellToPool_72 : decode cX2_sellToPool 72 = .ok (.lreturn, 1) := by decide +kernel
theorem dX2_sellToPool_73 : decode cX2_sellToPool 73 = .ok (.aload_n 0, 1) := by decide +kernel
theorem dX2_sellToPool_74 : decode cX2_sellToPool 74 = .ok (.aload_n 1, 1) := by decide +kernel
theorem dX2_sellToPool_75 : decode cX2_sellToPool 75 = .ok (.getfield 52, 3) := by decide +kernel
theorem dX2_sellToPool_78 : decode cX2_sellToPool 78 = .ok (.lload 4, 2) := by decide +kernel
theorem dX2_sellToPool_80 : decode cX2_sellToPool 80 = .ok (.aload_n 1, 1) := by decide +kernel
theorem dX2_sellToPool_81 : decode cX2_sellToPool 81 = .ok (.getfield 43, 3) := by decide +kernel
theorem dX2_sellToPool_84 : decode cX2_sellToPool 84 = .ok (.i2l, 1) := by decide +kernel
theorem dX2_sellToPool_85 : decode cX2_sellToPool 85 = .ok (.invokevirtual 59, 3) := by decide +kernel
theorem dX2_sellToPool_88 : decode cX2_sellToPool 88 = .ok (.aload_n 0, 1) := by decide +kernel
theorem dX2_sellToPool_89 : decode cX2_sellToPool 89 = .ok (.bipush 8, 2) := by decide +kernel
theorem dX2_sellToPool_91 : decode cX2_sellToPool 91 = .ok (.lload 4, 2) := by decide +kernel
theorem dX2_sellToPool_93 : decode cX2_sellToPool 93 = .ok (.aload_n 1, 1) := by decide +kernel
theorem dX2_sellToPool_94 : decode cX2_sellToPool 94 = .ok (.getfield 43, 3) := by decide +kernel
theorem dX2_sellToPool_97 : decode cX2_sellToPool 97 = .ok (.i2l, 1) := by decide +kernel
theorem dX2_sellToPool_98 : decode cX2_sellToPool 98 = .ok (.invokevirtual 55, 3) := by decide +kernel
theorem dX2_sellToPool_101 : decode cX2_sellToPool 101 = .ok (.lload 4, 2) := by decide +kernel
theorem dX2_sellToPool_103 : decode cX2_sellToPool 103 = .ok (.lreturn, 1) := by decide +kernel
theorem dX2_take_0 : decode cX2_take 0 = .ok (.aload_n 0, 1) := by decide +kernel
theorem dX2_take_1 : decode cX2_take 1 = .ok (.getfield 9, 3) := by decide +kernel
theorem dX2_take_4 : decode cX2_take 4 = .ok (.iload_n 1, 1) := by decide +kernel
theorem dX2_take_5 : decode cX2_take 5 = .ok (.dup2, 1) := by decide +kernel
theorem dX2_take_6 : decode cX2_take 6 = .ok (.laload, 1) := by decide +kernel
theorem dX2_take_7 : decode cX2_take 7 = .ok (.lload_n 2, 1) := by decide +kernel
theorem dX2_take_8 : decode cX2_take 8 = .ok (.lsub, 1) := by decide +kernel
theorem dX2_take_9 : decode cX2_take 9 = .ok (.lastore, 1) := by decide +kernel
theorem dX2_take_10 : decode cX2_take 10 = .ok (.aload_n 0, 1) := by decide +kernel
theorem dX2_take_11 : decode cX2_take 11 = .ok (.getfield 15, 3) := by decide +kernel
theorem dX2_take_14 : decode cX2_take 14 = .ok (.iload_n 1, 1) := by decide +kernel
theorem dX2_take_15 : decode cX2_take 15 = .ok (.dup2, 1) := by decide +kernel
theorem dX2_take_16 : decode cX2_take 16 = .ok (.laload, 1) := by decide +kernel
theorem dX2_take_17 : decode cX2_take 17 = .ok (.lload 4, 2) := by decide +kernel
theorem dX2_take_19 : decode cX2_take 19 = .ok (.ladd, 1) := by decide +kernel
theorem dX2_take_20 : decode cX2_take 20 = .ok (.lastore, 1) := by decide +kernel
theorem dX2_take_21 : decode cX2_take 21 = .ok (.return_, 1) := by decide +kernel
theorem dX2_give_0 : decode cX2_give 0 = .ok (.aload_n 0, 1) := by decide +kernel
theorem dX2_give_1 : decode cX2_give 1 = .ok (.getfield 9, 3) := by decide +kernel
theorem dX2_give_4 : decode cX2_give 4 = .ok (.iload_n 1, 1) := by decide +kernel
theorem dX2_give_5 : decode cX2_give 5 = .ok (.dup2, 1) := by decide +kernel
theorem dX2_give_6 : decode cX2_give 6 = .ok (.laload, 1) := by decide +kernel
theorem dX2_give_7 : decode cX2_give 7 = .ok (.lload_n 2, 1) := by decide +kernel
theorem dX2_give_8 : decode cX2_give 8 = .ok (.ladd, 1) := by decide +kernel
theorem dX2_give_9 : decode cX2_give 9 = .ok (.lastore, 1) := by decide +kernel
theorem dX2_give_10 : decode cX2_give 10 = .ok (.aload_n 0, 1) := by decide +kernel
theorem dX2_give_11 : decode cX2_give 11 = .ok (.getfield 15, 3) := by decide +kernel
theorem dX2_give_14 : decode cX2_give 14 = .ok (.iload_n 1, 1) := by decide +kernel
theorem dX2_give_15 : decode cX2_give 15 = .ok (.dup2, 1) := by decide +kernel
theorem dX2_give_16 : decode cX2_give 16 = .ok (.laload, 1) := by decide +kernel
theorem dX2_give_17 : decode cX2_give 17 = .ok (.lload 4, 2) := by decide +kernel
theorem dX2_give_19 : decode cX2_give 19 = .ok (.lsub, 1) := by decide +kernel
theorem dX2_give_20 : decode cX2_give 20 = .ok (.lastore, 1) := by decide +kernel
theorem dX2_give_21 : decode cX2_give 21 = .ok (.return_, 1) := by decide +kernel
theorem dX3_init_0 : decode cX3_init 0 = .ok (.aload_n 0, 1) := by decide +kernel
theorem dX3_init_1 : decode cX3_init 1 = .ok (.invokespecial 3, 3) := by decide +kernel
theorem dX3_init_4 : decode cX3_init 4 = .ok (.aload_n 0, 1) := by decide +kernel
theorem dX3_init_5 : decode cX3_init 5 = .ok (.bipush 16, 2) := by decide +kernel
theorem dX3_init_7 : decode cX3_init 7 = .ok (.newarray .int, 2) := by decide +kernel
theorem dX3_init_9 : decode cX3_init 9 = .ok (.putfield 9, 3) := by decide +kernel
theorem dX3_init_12 : decode cX3_init 12 = .ok (.return_, 1) := by decide +kernel
theorem dX3_hasPlace_0 : decode cX3_hasPlace 0 = .ok (.iload_n 1, 1) := by decide +kernel
theorem dX3_hasPlace_1 : decode cX3_hasPlace 1 = .ok (.ifCond .lt 15, 3) := by decide +kernel
theorem dX3_hasPlace_4 : decode cX3_hasPlace 4 = .ok (.iload_n 1, 1) := by decide +kernel
theorem dX3_hasPlace_5 : decode cX3_hasPlace 5 = .ok (.aload_n 0, 1) := by decide +kernel
theorem dX3_hasPlace_6 : decode cX3_hasPlace 6 = .ok (.getfield 15, 3) := by decide +kernel
theorem dX3_hasPlace_9 : decode cX3_hasPlace 9 = .ok (.if_icmp .ge 7, 3) := by decide +kernel
theorem dX3_hasPlace_12 : decode cX3_hasPlace 12 = .ok (.iconst 1, 1) := by decide +kernel
theorem dX3_hasPlace_13 : decode cX3_hasPlace 13 = .ok (.goto 4, 3) := by decide +kernel
theorem dX3_hasPlace_16 : decode cX3_hasPlace 16 = .ok (.iconst 0, 1) := by decide +kernel
theorem dX3_hasPlace_17 : decode cX3_hasPlace 17 = .ok (.ireturn, 1) := by decide +kernel
theorem dX3_add_0 : decode cX3_add 0 = .ok (.aload_n 0, 1) := by decide +kernel
theorem dX3_add_1 : decode cX3_add 1 = .ok (.getfield 15, 3) := by decide +kernel
theorem dX3_add_4 : decode cX3_add 4 = .ok (.bipush 16, 2) := by decide +kernel
theorem dX3_add_6 : decode cX3_add 6 = .ok (.if_icmp .ge 23, 3) := by decide +kernel
theorem dX3_add_9 : decode cX3_add 9 = .ok (.aload_n 0, 1) := by decide +kernel
theorem dX3_add_10 : decode cX3_add 10 = .ok (.getfield 9, 3) := by decide +kernel
theorem dX3_add_13 : decode cX3_add 13 = .ok (.aload_n 0, 1) := by decide +kernel
theorem dX3_add_14 : decode cX3_add 14 = .ok (.getfield 15, 3) := by decide +kernel
theorem dX3_add_17 : decode cX3_add 17 = .ok (.iload_n 1, 1) := by decide +kernel
theorem dX3_add_18 : decode cX3_add 18 = .ok (.iastore, 1) := by decide +kernel
theorem dX3_add_19 : decode cX3_add 19 = .ok (.aload_n 0, 1) := by decide +kernel
theorem dX3_add_20 : decode cX3_add 20 = .ok (.dup, 1) := by decide +kernel
theorem dX3_add_21 : decode cX3_add 21 = .ok (.getfield 15, 3) := by decide +kernel
theorem dX3_add_24 : decode cX3_add 24 = .ok (.iconst 1, 1) := by decide +kernel
theorem dX3_add_25 : decode cX3_add 25 = .ok (.iadd, 1) := by decide +kernel
theorem dX3_add_26 : decode cX3_add 26 = .ok (.putfield 15, 3) := by decide +kernel
theorem dX3_add_29 : decode cX3_add 29 = .ok (.return_, 1) := by decide +kernel
theorem dX3_copyFrom_0 : decode cX3_copyFrom 0 = .ok (.aload_n 1, 1) := by decide +kernel
theorem dX3_copyFrom_1 : decode cX3_copyFrom 1 = .ok (.getfield 9, 3) := by decide +kernel
theorem dX3_copyFrom_4 : decode cX3_copyFrom 4 = .ok (.iconst 0, 1) := by decide +kernel
theorem dX3_copyFrom_5 : decode cX3_copyFrom 5 = .ok (.aload_n 0, 1) := by decide +kernel
theorem dX3_copyFrom_6 : decode cX3_copyFrom 6 = .ok (.getfield 9, 3) := by decide +kernel
theorem dX3_copyFrom_9 : decode cX3_copyFrom 9 = .ok (.iconst 0, 1) := by decide +kernel
theorem dX3_copyFrom_10 : decode cX3_copyFrom 10 = .ok (.bipush 16, 2) := by decide +kernel
theorem dX3_copyFrom_12 : decode cX3_copyFrom 12 = .ok (.invokestatic 19, 3) := by decide +kernel
theorem dX3_copyFrom_15 : decode cX3_copyFrom 15 = .ok (.aload_n 0, 1) := by decide +kernel
theorem dX3_copyFrom_16 : decode cX3_copyFrom 16 = .ok (.aload_n 1, 1) := by decide +kernel
theorem dX3_copyFrom_17 : decode cX3_copyFrom 17 = .ok (.getfield 15, 3) := by decide +kernel
theorem dX3_copyFrom_20 : decode cX3_copyFrom 20 = .ok (.putfield 15, 3) := by decide +kernel
theorem dX3_copyFrom_23 : decode cX3_copyFrom 23 = .ok (.return_, 1) := by decide +kernel
theorem dX3_sortBy_0 : decode cX3_sortBy 0 = .ok (.iconst 1, 1) := by decide +kernel
theorem dX3_sortBy_1 : decode cX3_sortBy 1 = .ok (.istore_n 2, 1) := by decide +kernel
theorem dX3_sortBy_2 : decode cX3_sortBy 2 = .ok (.iload_n 2, 1) := by decide +kernel
theorem dX3_sortBy_3 : decode cX3_sortBy 3 = .ok (.aload_n 0, 1) := by decide +kernel
theorem dX3_sortBy_4 : decode cX3_sortBy 4 = .ok (.getfield 15, 3) := by decide +kernel
theorem dX3_sortBy_7 : decode cX3_sortBy 7 = .ok (.if_icmp .ge 50, 3) := by decide +kernel
theorem dX3_sortBy_10 : decode cX3_sortBy 10 = .ok (.iload_n 2, 1) := by decide +kernel
theorem dX3_sortBy_11 : decode cX3_sortBy 11 = .ok (.istore_n 3, 1) := by decide +kernel
theorem dX3_sortBy_12 : decode cX3_sortBy 12 = .ok (.iload_n 3, 1) := by decide +kernel
theorem dX3_sortBy_13 : decode cX3_sortBy 13 = .ok (.ifCond .le 38, 3) := by decide +kernel
theorem dX3_sortBy_16 : decode cX3_sortBy 16 = .ok (.aload_n 1, 1) := by decide +kernel
theorem dX3_sortBy_17 : decode cX3_sortBy 17 = .ok (.aload_n 0, 1) := by decide +kernel
theorem dX3_sortBy_18 : decode cX3_sortBy 18 = .ok (.getfield 9, 3) := by decide +kernel
theorem dX3_sortBy_21 : decode cX3_sortBy 21 = .ok (.iload_n 3, 1) := by decide +kernel
theorem dX3_sortBy_22 : decode cX3_sortBy 22 = .ok (.iconst 1, 1) := by decide +kernel
theorem dX3_sortBy_23 : decode cX3_sortBy 23 = .ok (.isub, 1) := by decide +kernel
theorem dX3_sortBy_24 : decode cX3_sortBy 24 = .ok (.iaload, 1) := by decide +kernel
theorem dX3_sortBy_25 : decode cX3_sortBy 25 = .ok (.iaload, 1) := by decide +kernel
theorem dX3_sortBy_26 : decode cX3_sortBy 26 = .ok (.aload_n 1, 1) := by decide +kernel
theorem dX3_sortBy_27 : decode cX3_sortBy 27 = .ok (.aload_n 0, 1) := by decide +kernel
theorem dX3_sortBy_28 : decode cX3_sortBy 28 = .ok (.getfield 9, 3) := by decide +kernel
theorem dX3_sortBy_31 : decode cX3_sortBy 31 = .ok (.iload_n 3, 1) := by decide +kernel
theorem dX3_sortBy_32 : decode cX3_sortBy 32 = .ok (.iaload, 1) := by decide +kernel
theorem dX3_sortBy_33 : decode cX3_sortBy 33 = .ok (.iaload, 1) := by decide +kernel
theorem dX3_sortBy_34 : decode cX3_sortBy 34 = .ok (.if_icmp .le 17, 3) := by decide +kernel
theorem dX3_sortBy_37 : decode cX3_sortBy 37 = .ok (.aload_n 0, 1) := by decide +kernel
theorem dX3_sortBy_38 : decode cX3_sortBy 38 = .ok (.iload_n 3, 1) := by decide +kernel
theorem dX3_sortBy_39 : decode cX3_sortBy 39 = .ok (.iconst 1, 1) := by decide +kernel
theorem dX3_sortBy_40 : decode cX3_sortBy 40 = .ok (.isub, 1) := by decide +kernel
theorem dX3_sortBy_41 : decode cX3_sortBy 41 = .ok (.iload_n 3, 1) := by decide +kernel
theorem dX3_sortBy_42 : decode cX3_sortBy 42 = .ok (.invokevirtual 25, 3) := by decide +kernel
theorem dX3_sortBy_45 : decode cX3_sortBy 45 = .ok (.iinc 3 (-1), 3) := by decide +kernel
theorem dX3_sortBy_48 : decode cX3_sortBy 48 = .ok (.goto (-36), 3) := by decide +kernel
theorem dX3_sortBy_51 : decode cX3_sortBy 51 = .ok (.iinc 2 1, 3) := by decide +kernel
theorem dX3_sortBy_54 : decode cX3_sortBy 54 = .ok (.goto (-52), 3) := by decide +kernel
theorem dX3_sortBy_57 : decode cX3_sortBy 57 = .ok (.return_, 1) := by decide +kernel
theorem dX3_shuffle_0 : decode cX3_shuffle 0 = .ok (.lload_n 1, 1) := by decide +kernel
theorem dX3_shuffle_1 : decode cX3_shuffle 1 = .ok (.lstore_n 3, 1) := by decide +kernel
theorem dX3_shuffle_2 : decode cX3_shuffle 2 = .ok (.aload_n 0, 1) := by decide +kernel
theorem dX3_shuffle_3 : decode cX3_shuffle 3 = .ok (.getfield 15, 3) := by decide +kernel
theorem dX3_shuffle_6 : decode cX3_shuffle 6 = .ok (.iconst 1, 1) := by decide +kernel
theorem dX3_shuffle_7 : decode cX3_shuffle 7 = .ok (.isub, 1) := by decide +kernel
theorem dX3_shuffle_8 : decode cX3_shuffle 8 = .ok (.istore 5, 2) := by decide +kernel
theorem dX3_shuffle_10 : decode cX3_shuffle 10 = .ok (.iload 5, 2) := by decide +kernel
theorem dX3_shuffle_12 : decode cX3_shuffle 12 = .ok (.iconst 1, 1) := by decide +kernel
theorem dX3_shuffle_13 : decode cX3_shuffle 13 = .ok (.if_icmp .lt 36, 3) := by decide +kernel
theorem dX3_shuffle_16 : decode cX3_shuffle 16 = .ok (.lload_n 3, 1) := by decide +kernel
theorem dX3_shuffle_17 : decode cX3_shuffle 17 = .ok (.ldc2_w 29, 3) := by decide +kernel
theorem dX3_shuffle_20 : decode cX3_shuffle 20 = .ok (.lmul, 1) := by decide +kernel
theorem dX3_shuffle_21 : decode cX3_shuffle 21 = .ok (.ldc2_w 31, 3) := by decide +kernel
theorem dX3_shuffle_24 : decode cX3_shuffle 24 = .ok (.ladd, 1) := by decide +kernel
theorem dX3_shuffle_25 : decode cX3_shuffle 25 = .ok (.lstore_n 3, 1) := by decide +kernel
theorem dX3_shuffle_26 : decode cX3_shuffle 26 = .ok (.aload_n 0, 1) := by decide +kernel
theorem dX3_shuffle_27 : decode cX3_shuffle 27 = .ok (.iload 5, 2) := by decide +kernel
theorem dX3_shuffle_29 : decode cX3_shuffle 29 = .ok (.lload_n 3, 1) := by decide +kernel
theorem dX3_shuffle_30 : decode cX3_shuffle 30 = .ok (.bipush 33, 2) := by decide +kernel
theorem dX3_shuffle_32 : decode cX3_shuffle 32 = .ok (.lushr, 1) := by decide +kernel
theorem dX3_shuffle_33 : decode cX3_shuffle 33 = .ok (.iload 5, 2) := by decide +kernel
theorem dX3_shuffle_35 : decode cX3_shuffle 35 = .ok (.iconst 1, 1) := by decide +kernel
theorem dX3_shuffle_36 : decode cX3_shuffle 36 = .ok (.iadd, 1) := by decide +kernel
theorem dX3_shuffle_37 : decode cX3_shuffle 37 = .ok (.i2l, 1) := by decide +kernel
theorem dX3_shuffle_38 : decode cX3_shuffle 38 = .ok (.lrem, 1) := by decide +kernel
theorem dX3_shuffle_39 : decode cX3_shuffle 39 = .ok (.l2i, 1) := by decide +kernel
theorem dX3_shuffle_40 : decode cX3_shuffle 40 = .ok (.invokevirtual 25, 3) := by decide +kernel
theorem dX3_shuffle_43 : decode cX3_shuffle 43 = .ok (.iinc 5 (-1), 3) := by decide +kernel
theorem dX3_shuffle_46 : decode cX3_shuffle 46 = .ok (.goto (-36), 3) := by decide +kernel
theorem dX3_shuffle_49 : decode cX3_shuffle 49 = .ok (.return_, 1) := by decide +kernel
theorem dX3_move_0 : decode cX3_move 0 = .ok (.iload_n 1, 1) := by decide +kernel
theorem dX3_move_1 : decode cX3_move 1 = .ok (.istore_n 3, 1) := by decide +kernel
theorem dX3_move_2 : decode cX3_move 2 = .ok (.iload_n 3, 1) := by decide +kernel
theorem dX3_move_3 : decode cX3_move 3 = .ok (.iload_n 2, 1) := by decide +kernel
theorem dX3_move_4 : decode cX3_move 4 = .ok (.if_icmp .ge 17, 3) := by decide +kernel
theorem dX3_move_7 : decode cX3_move 7 = .ok (.aload_n 0, 1) := by decide +kernel
theorem dX3_move_8 : decode cX3_move 8 = .ok (.iload_n 3, 1) := by decide +kernel
theorem dX3_move_9 : decode cX3_move 9 = .ok (.iload_n 3, 1) := by decide +kernel
theorem dX3_move_10 : decode cX3_move 10 = .ok (.iconst 1, 1) := by decide +kernel
theorem dX3_move_11 : decode cX3_move 11 = .ok (.iadd, 1) := by decide +kernel
theorem dX3_move_12 : decode cX3_move 12 = .ok (.invokevirtual 25, 3) := by decide +kernel
theorem dX3_move_15 : decode cX3_move 15 = .ok (.iinc 3 1, 3) := by decide +kernel
theorem dX3_move_18 : decode cX3_move 18 = .ok (.goto (-16), 3) := by decide +kernel
theorem dX3_move_21 : decode cX3_move 21 = .ok (.iload_n 1, 1) := by decide +kernel
theorem dX3_move_22 : decode cX3_move 22 = .ok (.istore_n 3, 1) := by decide +kernel
theorem dX3_move_23 : decode cX3_move 23 = .ok (.iload_n 3, 1) := by decide +kernel
theorem dX3_move_24 : decode cX3_move 24 = .ok (.iload_n 2, 1) := by decide +kernel
theorem dX3_move_25 : decode cX3_move 25 = .ok (.if_icmp .le 17, 3) := by decide +kernel
theorem dX3_move_28 : decode cX3_move 28 = .ok (.aload_n 0, 1) := by decide +kernel
theorem dX3_move_29 : decode cX3_move 29 = .ok (.iload_n 3, 1) := by decide +kernel
theorem dX3_move_30 : decode cX3_move 30 = .ok (.iload_n 3, 1) := by decide +kernel
theorem dX3_move_31 : decode cX3_move 31 = .ok (.iconst 1, 1) := by decide +kernel
theorem dX3_move_32 : decode cX3_move 32 = .ok (.isub, 1) := by decide +kernel
theorem dX3_move_33 : decode cX3_move 33 = .ok (.invokevirtual 25, 3) := by decide +kernel
theorem dX3_move_36 : decode cX3_move 36 = .ok (.iinc 3 (-1), 3) := by decide +kernel
theorem dX3_move_39 : decode cX3_move 39 = .ok (.goto (-16), 3) := by decide +kernel
theorem dX3_move_42 : decode cX3_move 42 = .ok (.return_, 1) := by decide +kernel
theorem dX3_swap_0 : decode cX3_swap 0 = .ok (.aload_n 0, 1) := by decide +kernel
theorem dX3_swap_1 : decode cX3_swap 1 = .ok (.getfield 9, 3) := by decide +kernel
theorem dX3_swap_4 : decode cX3_swap 4 = .ok (.iload_n 1, 1) := by decide +kernel
theorem dX3_swap_5 : decode cX3_swap 5 = .ok (.iaload, 1) := by decide +kernel
theorem dX3_swap_6 : decode cX3_swap 6 = .ok (.istore_n 3, 1) := by decide +kernel
theorem dX3_swap_7 : decode cX3_swap 7 = .ok (.aload_n 0, 1) := by decide +kernel
theorem dX3_swap_8 : decode cX3_swap 8 = .ok (.getfield 9, 3) := by decide +kernel
theorem dX3_swap_11 : decode cX3_swap 11 = .ok (.iload_n 1, 1) := by decide +kernel
theorem dX3_swap_12 : decode cX3_swap 12 = .ok (.aload_n 0, 1) := by decide +kernel
theorem dX3_swap_13 : decode cX3_swap 13 = .ok (.getfield 9, 3) := by decide +kernel
theorem dX3_swap_16 : decode cX3_swap 16 = .ok (.iload_n 2, 1) := by decide +kernel
theorem dX3_swap_17 : decode cX3_swap 17 = .ok (.iaload, 1) := by decide +kernel
theorem dX3_swap_18 : decode cX3_swap 18 = .ok (.iastore, 1) := by decide +kernel
theorem dX3_swap_19 : decode cX3_swap 19 = .ok (.aload_n 0, 1) := by decide +kernel
theorem dX3_swap_20 : decode cX3_swap 20 = .ok (.getfield 9, 3) := by decide +kernel
theorem dX3_swap_23 : decode cX3_swap 23 = .ok (.iload_n 2, 1) := by decide +kernel
theorem dX3_swap_24 : decode cX3_swap 24 = .ok (.iload_n 3, 1) := by decide +kernel
theorem dX3_swap_25 : decode cX3_swap 25 = .ok (.iastore, 1) := by decide +kernel
theorem dX3_swap_26 : decode cX3_swap 26 = .ok (.return_, 1) := by decide +kernel
theorem dX7_bitCount_0 : decode cX7_bitCount 0 = .ok (.iload_n 0, 1) := by decide +kernel
theorem dX7_bitCount_1 : decode cX7_bitCount 1 = .ok (.iload_n 0, 1) := by decide +kernel
theorem dX7_bitCount_2 : decode cX7_bitCount 2 = .ok (.iconst 1, 1) := by decide +kernel
theorem dX7_bitCount_3 : decode cX7_bitCount 3 = .ok (.iushr, 1) := by decide +kernel
theorem dX7_bitCount_4 : decode cX7_bitCount 4 = .ok (.ldc_w 265, 3) := by decide +kernel
theorem dX7_bitCount_7 : decode cX7_bitCount 7 = .ok (.iand, 1) := by decide +kernel
theorem dX7_bitCount_8 : decode cX7_bitCount 8 = .ok (.isub, 1) := by decide +kernel
theorem dX7_bitCount_9 : decode cX7_bitCount 9 = .ok (.istore_n 0, 1) := by decide +kernel
theorem dX7_bitCount_10 : decode cX7_bitCount 10 = .ok (.iload_n 0, 1) := by decide +kernel
theorem dX7_bitCount_11 : decode cX7_bitCount 11 = .ok (.ldc_w 266, 3) := by decide +kernel
theorem dX7_bitCount_14 : decode cX7_bitCount 14 = .ok (.iand, 1) := by decide +kernel
theorem dX7_bitCount_15 : decode cX7_bitCount 15 = .ok (.iload_n 0, 1) := by decide +kernel
theorem dX7_bitCount_16 : decode cX7_bitCount 16 = .ok (.iconst 2, 1) := by decide +kernel
theorem dX7_bitCount_17 : decode cX7_bitCount 17 = .ok (.iushr, 1) := by decide +kernel
theorem dX7_bitCount_18 : decode cX7_bitCount 18 = .ok (.ldc_w 266, 3) := by decide +kernel
theorem dX7_bitCount_21 : decode cX7_bitCount 21 = .ok (.iand, 1) := by decide +kernel
theorem dX7_bitCount_22 : decode cX7_bitCount 22 = .ok (.iadd, 1) := by decide +kernel
theorem dX7_bitCount_23 : decode cX7_bitCount 23 = .ok (.istore_n 0, 1) := by decide +kernel
theorem dX7_bitCount_24 : decode cX7_bitCount 24 = .ok (.iload_n 0, 1) := by decide +kernel
theorem dX7_bitCount_25 : decode cX7_bitCount 25 = .ok (.iload_n 0, 1) := by decide +kernel
theorem dX7_bitCount_26 : decode cX7_bitCount 26 = .ok (.iconst 4, 1) := by decide +kernel
theorem dX7_bitCount_27 : decode cX7_bitCount 27 = .ok (.iushr, 1) := by decide +kernel
theorem dX7_bitCount_28 : decode cX7_bitCount 28 = .ok (.iadd, 1) := by decide +kernel
theorem dX7_bitCount_29 : decode cX7_bitCount 29 = .ok (.ldc_w 267, 3) := by decide +kernel
theorem dX7_bitCount_32 : decode cX7_bitCount 32 = .ok (.iand, 1) := by decide +kernel
theorem dX7_bitCount_33 : decode cX7_bitCount 33 = .ok (.istore_n 0, 1) := by decide +kernel
theorem dX7_bitCount_34 : decode cX7_bitCount 34 = .ok (.iload_n 0, 1) := by decide +kernel
theorem dX7_bitCount_35 : decode cX7_bitCount 35 = .ok (.iload_n 0, 1) := by decide +kernel
theorem dX7_bitCount_36 : decode cX7_bitCount 36 = .ok (.bipush 8, 2) := by decide +kernel
theorem dX7_bitCount_38 : decode cX7_bitCount 38 = .ok (.iushr, 1) := by decide +kernel
theorem dX7_bitCount_39 : decode cX7_bitCount 39 = .ok (.iadd, 1) := by decide +kernel
theorem dX7_bitCount_40 : decode cX7_bitCount 40 = .ok (.istore_n 0, 1) := by decide +kernel
theorem dX7_bitCount_41 : decode cX7_bitCount 41 = .ok (.iload_n 0, 1) := by decide +kernel
theorem dX7_bitCount_42 : decode cX7_bitCount 42 = .ok (.iload_n 0, 1) := by decide +kernel
theorem dX7_bitCount_43 : decode cX7_bitCount 43 = .ok (.bipush 16, 2) := by decide +kernel
theorem dX7_bitCount_45 : decode cX7_bitCount 45 = .ok (.iushr, 1) := by decide +kernel
theorem dX7_bitCount_46 : decode cX7_bitCount 46 = .ok (.iadd, 1) := by decide +kernel
theorem dX7_bitCount_47 : decode cX7_bitCount 47 = .ok (.istore_n 0, 1) := by decide +kernel
theorem dX7_bitCount_48 : decode cX7_bitCount 48 = .ok (.iload_n 0, 1) := by decide +kernel
theorem dX7_bitCount_49 : decode cX7_bitCount 49 = .ok (.bipush 63, 2) := by decide +kernel
theorem dX7_bitCount_51 : decode cX7_bitCount 51 = .ok (.iand, 1) := by decide +kernel
theorem dX7_bitCount_52 : decode cX7_bitCount 52 = .ok (.ireturn, 1) := by decide +kernel
theorem dX7_compare_0 : decode cX7_compare 0 = .ok (.iload_n 0, 1) := by decide +kernel
theorem dX7_compare_1 : decode cX7_compare 1 = .ok (.iload_n 1, 1) := by decide +kernel
theorem dX7_compare_2 : decode cX7_compare 2 = .ok (.if_icmp .ge 7, 3) := by decide +kernel
theorem dX7_compare_5 : decode cX7_compare 5 = .ok (.iconst (-1), 1) := by decide +kernel
theorem dX7_compare_6 : decode cX7_compare 6 = .ok (.goto 13, 3) := by decide +kernel
theorem dX7_compare_9 : decode cX7_compare 9 = .ok (.iload_n 0, 1) := by decide +kernel
theorem dX7_compare_10 : decode cX7_compare 10 = .ok (.iload_n 1, 1) := by decide +kernel
theorem dX7_compare_11 : decode cX7_compare 11 = .ok (.if_icmp .ne 7, 3) := by decide +kernel
theorem dX7_compare_14 : decode cX7_compare 14 = .ok (.iconst 0, 1) := by decide +kernel
theorem dX7_compare_15 : decode cX7_compare 15 = .ok (.goto 4, 3) := by decide +kernel
theorem dX7_compare_18 : decode cX7_compare 18 = .ok (.iconst 1, 1) := by decide +kernel
theorem dX7_compare_19 : decode cX7_compare 19 = .ok (.ireturn, 1) := by decide +kernel
theorem dX8_fillI_0 : decode cX8_fillI 0 = .ok (.iconst 0, 1) := by decide +kernel
theorem dX8_fillI_1 : decode cX8_fillI 1 = .ok (.istore_n 2, 1) := by decide +kernel
theorem dX8_fillI_2 : decode cX8_fillI 2 = .ok (.aload_n 0, 1) := by decide +kernel
theorem dX8_fillI_3 : decode cX8_fillI 3 = .ok (.arraylength, 1) := by decide +kernel
theorem dX8_fillI_4 : decode cX8_fillI 4 = .ok (.istore_n 3, 1) := by decide +kernel
theorem dX8_fillI_5 : decode cX8_fillI 5 = .ok (.iload_n 2, 1) := by decide +kernel
theorem dX8_fillI_6 : decode cX8_fillI 6 = .ok (.iload_n 3, 1) := by decide +kernel
theorem dX8_fillI_7 : decode cX8_fillI 7 = .ok (.if_icmp .ge 13, 3) := by decide +kernel
theorem dX8_fillI_10 : decode cX8_fillI 10 = .ok (.aload_n 0, 1) := by decide +kernel
theorem dX8_fillI_11 : decode cX8_fillI 11 = .ok (.iload_n 2, 1) := by decide +kernel
theorem dX8_fillI_12 : decode cX8_fillI 12 = .ok (.iload_n 1, 1) := by decide +kernel
theorem dX8_fillI_13 : decode cX8_fillI 13 = .ok (.iastore, 1) := by decide +kernel
theorem dX8_fillI_14 : decode cX8_fillI 14 = .ok (.iinc 2 1, 3) := by decide +kernel
theorem dX8_fillI_17 : decode cX8_fillI 17 = .ok (.goto (-12), 3) := by decide +kernel
theorem dX8_fillI_20 : decode cX8_fillI 20 = .ok (.return_, 1) := by decide +kernel
theorem dX8_fillJ_0 : decode cX8_fillJ 0 = .ok (.iconst 0, 1) := by decide +kernel
theorem dX8_fillJ_1 : decode cX8_fillJ 1 = .ok (.istore_n 3, 1) := by decide +kernel
theorem dX8_fillJ_2 : decode cX8_fillJ 2 = .ok (.aload_n 0, 1) := by decide +kernel
theorem dX8_fillJ_3 : decode cX8_fillJ 3 = .ok (.arraylength, 1) := by decide +kernel
theorem dX8_fillJ_4 : decode cX8_fillJ 4 = .ok (.istore 4, 2) := by decide +kernel
theorem dX8_fillJ_6 : decode cX8_fillJ 6 = .ok (.iload_n 3, 1) := by decide +kernel
theorem dX8_fillJ_7 : decode cX8_fillJ 7 = .ok (.iload 4, 2) := by decide +kernel
theorem dX8_fillJ_9 : decode cX8_fillJ 9 = .ok (.if_icmp .ge 13, 3) := by decide +kernel
theorem dX8_fillJ_12 : decode cX8_fillJ 12 = .ok (.aload_n 0, 1) := by decide +kernel
theorem dX8_fillJ_13 : decode cX8_fillJ 13 = .ok (.iload_n 3, 1) := by decide +kernel
theorem dX8_fillJ_14 : decode cX8_fillJ 14 = .ok (.lload_n 1, 1) := by decide +kernel
theorem dX8_fillJ_15 : decode cX8_fillJ 15 = .ok (.lastore, 1) := by decide +kernel
theorem dX8_fillJ_16 : decode cX8_fillJ 16 = .ok (.iinc 3 1, 3) := by decide +kernel
theorem dX8_fillJ_19 : decode cX8_fillJ 19 = .ok (.goto (-13), 3) := by decide +kernel
theorem dX8_fillJ_22 : decode cX8_fillJ 22 = .ok (.return_, 1) := by decide +kernel
end
section
theorem dX9_law_0 : decode cX9_law 0 = .ok (.new 7, 3) := by decide +kernel
theorem dX9_law_3 : decode cX9_law 3 = .ok (.dup, 1) := by decide +kernel
theorem dX9_law_4 : decode cX9_law 4 = .ok (.invokespecial 9, 3) := by decide +kernel
theorem dX9_law_7 : decode cX9_law 7 = .ok (.astore_n 1, 1) := by decide +kernel
theorem dX9_law_8 : decode cX9_law 8 = .ok (.new 10, 3) := by decide +kernel
theorem dX9_law_11 : decode cX9_law 11 = .ok (.dup, 1) := by decide +kernel
theorem dX9_law_12 : decode cX9_law 12 = .ok (.invokespecial 12, 3) := by decide +kernel
theorem dX9_law_15 : decode cX9_law 15 = .ok (.astore_n 2, 1) := by decide +kernel
theorem dX9_law_16 : decode cX9_law 16 = .ok (.iconst 0, 1) := by decide +kernel
theorem dX9_law_17 : decode cX9_law 17 = .ok (.istore_n 3, 1) := by decide +kernel
theorem dX9_law_18 : decode cX9_law 18 = .ok (.iload_n 3, 1) := by decide +kernel
theorem dX9_law_19 : decode cX9_law 19 = .ok (.aload_n 0, 1) := by decide +kernel
theorem dX9_law_20 : decode cX9_law 20 = .ok (.arraylength, 1) := by decide +kernel
theorem dX9_law_21 : decode cX9_law 21 = .ok (.bipush 6, 2) := by decide +kernel
theorem dX9_law_23 : decode cX9_law 23 = .ok (.isub, 1) := by decide +kernel
theorem dX9_law_24 : decode cX9_law 24 = .ok (.if_icmp .gt 934, 3) := by decide +kernel
theorem dX9_law_27 : decode cX9_law 27 = .ok (.aload_n 0, 1) := by decide +kernel
theorem dX9_law_28 : decode cX9_law 28 = .ok (.iload_n 3, 1) := by decide +kernel
theorem dX9_law_29 : decode cX9_law 29 = .ok (.iaload, 1) := by decide +kernel
theorem dX9_law_30 : decode cX9_law 30 = .ok (.bipush 31, 2) := by decide +kernel
theorem dX9_law_32 : decode cX9_law 32 = .ok (.iand, 1) := by decide +kernel
theorem dX9_law_33 : decode cX9_law 33 = .ok (.tableswitch 919 0 19 #[95, 108, 201, 294, 348, 451, 494, 557, 570, 633, 656, 689, 712, 725, 738, 761, 785, 829, 863, 896], 95) := by decide +kernel
theorem dX9_law_128 : decode cX9_law 128 = .ok (.aload_n 1, 1) := by decide +kernel
theorem dX9_law_129 : decode cX9_law 129 = .ok (.invokevirtual 13, 3) := by decide +kernel
theorem dX9_law_132 : decode cX9_law 132 = .ok (.aload_n 2, 1) := by decide +kernel
theorem dX9_law_133 : decode cX9_law 133 = .ok (.invokevirtual 17, 3) := by decide +kernel
theorem dX9_law_136 : decode cX9_law 136 = .ok (.if_icmp .eq 816, 3) := by decide +kernel
theorem dX9_law_139 : decode cX9_law 139 = .ok (.iconst 0, 1) := by decide +kernel
theorem dX9_law_140 : decode cX9_law 140 = .ok (.ireturn, 1) := by decide +kernel
theorem dX9_law_141 : decode cX9_law 141 = .ok (.aload_n 1, 1) := by decide +kernel
theorem dX9_law_142 : decode cX9_law 142 = .ok (.aload_n 0, 1) := by decide +kernel
theorem dX9_law_143 : decode cX9_law 143 = .ok (.iload_n 3, 1) := by decide +kernel
theorem dX9_law_144 : decode cX9_law 144 = .ok (.iconst 1, 1) := by decide +kernel
theorem dX9_law_145 : decode cX9_law 145 = .ok (.iadd, 1) := by decide +kernel
theorem dX9_law_146 : decode cX9_law 146 = .ok (.iaload, 1) := by decide +kernel
theorem dX9_law_147 : decode cX9_law 147 = .ok (.i2l, 1) := by decide +kernel
theorem dX9_law_148 : decode cX9_law 148 = .ok (.bipush 32, 2) := by decide +kernel
theorem dX9_law_150 : decode cX9_law 150 = .ok (.lshl, 1) := by decide +kernel
theorem dX9_law_151 : decode cX9_law 151 = .ok (.aload_n 0, 1) := by decide +kernel
theorem dX9_law_152 : decode cX9_law 152 = .ok (.iload_n 3, 1) := by decide +kernel
theorem dX9_law_153 : decode cX9_law 153 = .ok (.iconst 2, 1) := by decide +kernel
theorem dX9_law_154 : decode cX9_law 154 = .ok (.iadd, 1) := by decide +kernel
theorem dX9_law_155 : decode cX9_law 155 = .ok (.iaload, 1) := by decide +kernel
theorem dX9_law_156 : decode cX9_law 156 = .ok (.i2l, 1) := by decide +kernel
theorem dX9_law_157 : decode cX9_law 157 = .ok (.ldc2_w 18, 3) := by decide +kernel
theorem dX9_law_160 : decode cX9_law 160 = .ok (.land, 1) := by decide +kernel
theorem dX9_law_161 : decode cX9_law 161 = .ok (.lor, 1) := by decide +kernel
theorem dX9_law_162 : decode cX9_law 162 = .ok (.aload_n 0, 1) := by decide +kernel
theorem dX9_law_163 : decode cX9_law 163 = .ok (.iload_n 3, 1) := by decide +kernel
theorem dX9_law_164 : decode cX9_law 164 = .ok (.iconst 3, 1) := by decide +kernel
theorem dX9_law_165 : decode cX9_law 165 = .ok (.iadd, 1) := by decide +kernel
theorem dX9_law_166 : decode cX9_law 166 = .ok (.iaload, 1) := by decide +kernel
theorem dX9_law_167 : decode cX9_law 167 = .ok (.i2l, 1) := by decide +kernel
theorem dX9_law_168 : decode cX9_law 168 = .ok (.bipush 32, 2) := by decide +kernel
theorem dX9_law_170 : decode cX9_law 170 = .ok (.lshl, 1) := by decide +kernel
theorem dX9_law_171 : decode cX9_law 171 = .ok (.aload_n 0, 1) := by decide +kernel
theorem dX9_law_172 : decode cX9_law 172 = .ok (.iload_n 3, 1) := by decide +kernel
theorem dX9_law_173 : decode cX9_law 173 = .ok (.iconst 4, 1) := by decide +kernel
theorem dX9_law_174 : decode cX9_law 174 = .ok (.iadd, 1) := by decide +kernel
theorem dX9_law_175 : decode cX9_law 175 = .ok (.iaload, 1) := by decide +kernel
theorem dX9_law_176 : decode cX9_law 176 = .ok (.i2l, 1) := by decide +kernel
theorem dX9_law_177 : decode cX9_law 177 = .ok (.ldc2_w 18, 3) := by decide +kernel
theorem dX9_law_180 : decode cX9_law 180 = .ok (.land, 1) := by decide +kernel
theorem dX9_law_181 : decode cX9_law 181 = .ok (.lor, 1) := by decide +kernel
theorem dX9_law_182 : decode cX9_law 182 = .ok (.invokevirtual 20, 3) := by decide +kernel
theorem dX9_law_185 : decode cX9_law 185 = .ok (.aload_n 2, 1) := by decide +kernel
theorem dX9_law_186 : decode cX9_law 186 = .ok (.aload_n 0, 1) := by decide +kernel
theorem dX9_law_187 : decode cX9_law 187 = .ok (.iload_n 3, 1) := by decide +kernel
theorem dX9_law_188 : decode cX9_law 188 = .ok (.iconst 1, 1) := by decide +kernel
theorem dX9_law_189 : decode cX9_law 189 = .ok (.iadd, 1) := by decide +kernel
theorem dX9_law_190 : decode cX9_law 190 = .ok (.iaload, 1) := by decide +kernel
theorem dX9_law_191 : decode cX9_law 191 = .ok (.i2l, 1) := by decide +kernel
theorem dX9_law_192 : decode cX9_law 192 = .ok (.bipush 32, 2) := by decide +kernel
theorem dX9_law_194 : decode cX9_law 194 = .ok (.lshl, 1) := by decide +kernel
theorem dX9_law_195 : decode cX9_law 195 = .ok (.aload_n 0, 1) := by decide +kernel
theorem dX9_law_196 : decode cX9_law 196 = .ok (.iload_n 3, 1) := by decide +kernel
theorem dX9_law_197 : decode cX9_law 197 = .ok (.iconst 2, 1) := by decide +kernel
theorem dX9_law_198 : decode cX9_law 198 = .ok (.iadd, 1) := by decide +kernel
theorem dX9_law_199 : decode cX9_law 199 = .ok (.iaload, 1) := by decide +kernel
theorem dX9_law_200 : decode cX9_law 200 = .ok (.i2l, 1) := by decide +kernel
theorem dX9_law_201 : decode cX9_law 201 = .ok (.ldc2_w 18, 3) := by decide +kernel
theorem dX9_law_204 : decode cX9_law 204 = .ok (.land, 1) := by decide +kernel
theorem dX9_law_205 : decode cX9_law 205 = .ok (.lor, 1) := by decide +kernel
theorem dX9_law_206 : decode cX9_law 206 = .ok (.aload_n 0, 1) := by decide +kernel
theorem dX9_law_207 : decode cX9_law 207 = .ok (.iload_n 3, 1) := by decide +kernel
theorem dX9_law_208 : decode cX9_law 208 = .ok (.iconst 3, 1) := by decide +kernel
theorem dX9_law_209 : decode cX9_law 209 = .ok (.iadd, 1) := by decide +kernel
theorem dX9_law_210 : decode cX9_law 210 = .ok (.iaload, 1) := by decide +kernel
theorem dX9_law_211 : decode cX9_law 211 = .ok (.i2l, 1) := by decide +kernel
theorem dX9_law_212 : decode cX9_law 212 = .ok (.bipush 32, 2) := by decide +kernel
theorem dX9_law_214 : decode cX9_law 214 = .ok (.lshl, 1) := by decide +kernel
theorem dX9_law_215 : decode cX9_law 215 = .ok (.aload_n 0, 1) := by decide +kernel
theorem dX9_law_216 : decode cX9_law 216 = .ok (.iload_n 3, 1) := by decide +kernel
theorem dX9_law_217 : decode cX9_law 217 = .ok (.iconst 4, 1) := by decide +kernel
theorem dX9_law_218 : decode cX9_law 218 = .ok (.iadd, 1) := by decide +kernel
theorem dX9_law_219 : decode cX9_law 219 = .ok (.iaload, 1) := by decide +kernel
theorem dX9_law_220 : decode cX9_law 220 = .ok (.i2l, 1) := by decide +kernel
theorem dX9_law_221 : decode cX9_law 221 = .ok (.ldc2_w 18, 3) := by decide +kernel
theorem dX9_law_224 : decode cX9_law 224 = .ok (.land, 1) := by decide +kernel
theorem dX9_law_225 : decode cX9_law 225 = .ok (.lor, 1) := by decide +kernel
theorem dX9_law_226 : decode cX9_law 226 = .ok (.invokevirtual 24, 3) := by decide +kernel
theorem dX9_law_229 : decode cX9_law 229 = .ok (.if_icmp .eq 723, 3) := by decide +kernel
theorem dX9_law_232 : decode cX9_law 232 = .ok (.iconst 0, 1) := by decide +kernel
theorem dX9_law_233 : decode cX9_law 233 = .ok (.ireturn, 1) := by decide +kernel
theorem dX9_law_234 : decode cX9_law 234 = .ok (.aload_n 1, 1) := by decide +kernel
theorem dX9_law_235 : decode cX9_law 235 = .ok (.aload_n 0, 1) := by decide +kernel
theorem dX9_law_236 : decode cX9_law 236 = .ok (.iload_n 3, 1) := by decide +kernel
theorem dX9_law_237 : decode cX9_law 237 = .ok (.iconst 1, 1) := by decide +kernel
theorem dX9_law_238 : decode cX9_law 238 = .ok (.iadd, 1) := by decide +kernel
theorem dX9_law_239 : decode cX9_law 239 = .ok (.iaload, 1) := by decide +kernel
theorem dX9_law_240 : decode cX9_law 240 = .ok (.i2l, 1) := by decide +kernel
theorem dX9_law_241 : decode cX9_law 241 = .ok (.bipush 32, 2) := by decide +kernel
theorem dX9_law_243 : decode cX9_law 243 = .ok (.lshl, 1) := by decide +kernel
theorem dX9_law_244 : decode cX9_law 244 = .ok (.aload_n 0, 1) := by decide +kernel
theorem dX9_law_245 : decode cX9_law 245 = .ok (.iload_n 3, 1) := by decide +kernel
theorem dX9_law_246 : decode cX9_law 246 = .ok (.iconst 2, 1) := by decide +kernel
theorem dX9_law_247 : decode cX9_law 247 = .ok (.iadd, 1) := by decide +kernel
theorem dX9_law_248 : decode cX9_law 248 = .ok (.iaload, 1) := by decide +kernel
theorem dX9_law_249 : decode cX9_law 249 = .ok (.i2l, 1) := by decide +kernel
theorem dX9_law_250 : decode cX9_law 250 = .ok (.ldc2_w 18, 3) := by decide +kernel
theorem dX9_law_253 : decode cX9_law 253 = .ok (.land, 1) := by decide +kernel
theorem dX9_law_254 : decode cX9_law 254 = .ok (.lor, 1) := by decide +kernel
theorem dX9_law_255 : decode cX9_law 255 = .ok (.aload_n 0, 1) := by decide +kernel
theorem dX9_law_256 : decode cX9_law 256 = .ok (.iload_n 3, 1) := by decide +kernel
theorem dX9_law_257 : decode cX9_law 257 = .ok (.iconst 3, 1) := by decide +kernel
theorem dX9_law_258 : decode cX9_law 258 = .ok (.iadd, 1) := by decide +kernel
theorem dX9_law_259 : decode cX9_law 259 = .ok (.iaload, 1) := by decide +kernel
theorem dX9_law_260 : decode cX9_law 260 = .ok (.i2l, 1) := by decide +kernel
theorem dX9_law_261 : decode cX9_law 261 = .ok (.bipush 32, 2) := by decide +kernel
theorem dX9_law_263 : decode cX9_law 263 = .ok (.lshl, 1) := by decide +kernel
theorem dX9_law_264 : decode cX9_law 264 = .ok (.aload_n 0, 1) := by decide +kernel
theorem dX9_law_265 : decode cX9_law 265 = .ok (.iload_n 3, 1) := by decide +kernel
theorem dX9_law_266 : decode cX9_law 266 = .ok (.iconst 4, 1) := by decide +kernel
theorem dX9_law_267 : decode cX9_law 267 = .ok (.iadd, 1) := by decide +kernel
theorem dX9_law_268 : decode cX9_law 268 = .ok (.iaload, 1) := by decide +kernel
theorem dX9_law_269 : decode cX9_law 269 = .ok (.i2l, 1) := by decide +kernel
theorem dX9_law_270 : decode cX9_law 270 = .ok (.ldc2_w 18, 3) := by decide +kernel
theorem dX9_law_273 : decode cX9_law 273 = .ok (.land, 1) := by decide +kernel
theorem dX9_law_274 : decode cX9_law 274 = .ok (.lor, 1) := by decide +kernel
theorem dX9_law_275 : decode cX9_law 275 = .ok (.invokevirtual 25, 3) := by decide +kernel
theorem dX9_law_278 : decode cX9_law 278 = .ok (.aload_n 2, 1) := by decide +kernel
theorem dX9_law_279 : decode cX9_law 279 = .ok (.aload_n 0, 1) := by decide +kernel
theorem dX9_law_280 : decode cX9_law 280 = .ok (.iload_n 3, 1) := by decide +kernel
theorem dX9_law_281 : decode cX9_law 281 = .ok (.iconst 1, 1) := by decide +kernel
theorem dX9_law_282 : decode cX9_law 282 = .ok (.iadd, 1) := by decide +kernel
theorem dX9_law_283 : decode cX9_law 283 = .ok (.iaload, 1) := by decide +kernel
theorem dX9_law_284 : decode cX9_law 284 = .ok (.i2l, 1) := by decide +kernel
theorem dX9_law_285 : decode cX9_law 285 = .ok (.bipush 32, 2) := by decide +kernel
theorem dX9_law_287 : decode cX9_law 287 = .ok (.lshl, 1) := by decide +kernel
theorem dX9_law_288 : decode cX9_law 288 = .ok (.aload_n 0, 1) := by decide +kernel
theorem dX9_law_289 : decode cX9_law 289 = .ok (.iload_n 3, 1) := by decide +kernel
theorem dX9_law_290 : decode cX9_law 290 = .ok (.iconst 2, 1) := by decide +kernel
theorem dX9_law_291 : decode cX9_law 291 = .ok (.iadd, 1) := by decide +kernel
theorem dX9_law_292 : decode cX9_law 292 = .ok (.iaload, 1) := by decide +kernel
theorem dX9_law_293 : decode cX9_law 293 = .ok (.i2l, 1) := by decide +kernel
theorem dX9_law_294 : decode cX9_law 294 = .ok (.ldc2_w 18, 3) := by decide +kernel
theorem dX9_law_297 : decode cX9_law 297 = .ok (.land, 1) := by decide +kernel
theorem dX9_law_298 : decode cX9_law 298 = .ok (.lor, 1) := by decide +kernel
theorem dX9_law_299 : decode cX9_law 299 = .ok (.aload_n 0, 1) := by decide +kernel
theorem dX9_law_300 : decode cX9_law 300 = .ok (.iload_n 3, 1) := by decide +kernel
theorem dX9_law_301 : decode cX9_law 301 = .ok (.iconst 3, 1) := by decide +kernel
theorem dX9_law_302 : decode cX9_law 302 = .ok (.iadd, 1) := by decide +kernel
theorem dX9_law_303 : decode cX9_law 303 = .ok (.iaload, 1) := by decide +kernel
theorem dX9_law_304 : decode cX9_law 304 = .ok (.i2l, 1) := by decide +kernel
theorem dX9_law_305 : decode cX9_law 305 = .ok (.bipush 32, 2) := by decide +kernel
theorem dX9_law_307 : decode cX9_law 307 = .ok (.lshl, 1) := by decide +kernel
theorem dX9_law_308 : decode cX9_law 308 = .ok (.aload_n 0, 1) := by decide +kernel
theorem dX9_law_309 : decode cX9_law 309 = .ok (.iload_n 3, 1) := by decide +kernel
theorem dX9_law_310 : decode cX9_law 310 = .ok (.iconst 4, 1) := by decide +kernel
theorem dX9_law_311 : decode cX9_law 311 = .ok (.iadd, 1) := by decide +kernel
theorem dX9_law_312 : decode cX9_law 312 = .ok (.iaload, 1) := by decide +kernel
theorem dX9_law_313 : decode cX9_law 313 = .ok (.i2l, 1) := by decide +kernel
theorem dX9_law_314 : decode cX9_law 314 = .ok (.ldc2_w 18, 3) := by decide +kernel
theorem dX9_law_317 : decode cX9_law 317 = .ok (.land, 1) := by decide +kernel
theorem dX9_law_318 : decode cX9_law 318 = .ok (.lor, 1) := by decide +kernel
theorem dX9_law_319 : decode cX9_law 319 = .ok (.invokevirtual 28, 3) := by decide +kernel
theorem dX9_law_322 : decode cX9_law 322 = .ok (.if_icmp .eq 630, 3) := by decide +kernel
theorem dX9_law_325 : decode cX9_law 325 = .ok (.iconst 0, 1) := by decide +kernel
theorem dX9_law_326 : decode cX9_law 326 = .ok (.ireturn, 1) := by decide +kernel
theorem dX9_law_327 : decode cX9_law 327 = .ok (.aload_n 1, 1) := by decide +kernel
theorem dX9_law_328 : decode cX9_law 328 = .ok (.aload_n 0, 1) := by decide +kernel
theorem dX9_law_329 : decode cX9_law 329 = .ok (.iload_n 3, 1) := by decide +kernel
theorem dX9_law_330 : decode cX9_law 330 = .ok (.iconst 1, 1) := by decide +kernel
theorem dX9_law_331 : decode cX9_law 331 = .ok (.iadd, 1) := by decide +kernel
theorem dX9_law_332 : decode cX9_law 332 = .ok (.iaload, 1) := by decide +kernel
theorem dX9_law_333 : decode cX9_law 333 = .ok (.aload_n 0, 1) := by decide +kernel
theorem dX9_law_334 : decode cX9_law 334 = .ok (.iload_n 3, 1) := by decide +kernel
theorem dX9_law_335 : decode cX9_law 335 = .ok (.iconst 2, 1) := by decide +kernel
theorem dX9_law_336 : decode cX9_law 336 = .ok (.iadd, 1) := by decide +kernel
theorem dX9_law_337 : decode cX9_law 337 = .ok (.iaload, 1) := by decide +kernel
theorem dX9_law_338 : decode cX9_law 338 = .ok (.aload_n 0, 1) := by decide +kernel
theorem dX9_law_339 : decode cX9_law 339 = .ok (.iload_n 3, 1) := by decide +kernel
theorem dX9_law_340 : decode cX9_law 340 = .ok (.iconst 3, 1) := by decide +kernel
theorem dX9_law_341 : decode cX9_law 341 = .ok (.iadd, 1) := by decide +kernel
theorem dX9_law_342 : decode cX9_law 342 = .ok (.iaload, 1) := by decide +kernel
theorem dX9_law_343 : decode cX9_law 343 = .ok (.aload_n 0, 1) := by decide +kernel
theorem dX9_law_344 : decode cX9_law 344 = .ok (.iload_n 3, 1) := by decide +kernel
theorem dX9_law_345 : decode cX9_law 345 = .ok (.iconst 4, 1) := by decide +kernel
theorem dX9_law_346 : decode cX9_law 346 = .ok (.iadd, 1) := by decide +kernel
theorem dX9_law_347 : decode cX9_law 347 = .ok (.iaload, 1) := by decide +kernel
theorem dX9_law_348 : decode cX9_law 348 = .ok (.invokevirtual 29, 3) := by decide +kernel
theorem dX9_law_351 : decode cX9_law 351 = .ok (.aload_n 2, 1) := by decide +kernel
theorem dX9_law_352 : decode cX9_law 352 = .ok (.aload_n 0, 1) := by decide +kernel
theorem dX9_law_353 : decode cX9_law 353 = .ok (.iload_n 3, 1) := by decide +kernel
theorem dX9_law_354 : decode cX9_law 354 = .ok (.iconst 1, 1) := by decide +kernel
theorem dX9_law_355 : decode cX9_law 355 = .ok (.iadd, 1) := by decide +kernel
theorem dX9_law_356 : decode cX9_law 356 = .ok (.iaload, 1) := by decide +kernel
theorem dX9_law_357 : decode cX9_law 357 = .ok (.aload_n 0, 1) := by decide +kernel
theorem dX9_law_358 : decode cX9_law 358 = .ok (.iload_n 3, 1) := by decide +kernel
theorem dX9_law_359 : decode cX9_law 359 = .ok (.iconst 2, 1) := by decide +kernel
theorem dX9_law_360 : decode cX9_law 360 = .ok (.iadd, 1) := by decide +kernel
theorem dX9_law_361 : decode cX9_law 361 = .ok (.iaload, 1) := by decide +kernel
theorem dX9_law_362 : decode cX9_law 362 = .ok (.aload_n 0, 1) := by decide +kernel
theorem dX9_law_363 : decode cX9_law 363 = .ok (.iload_n 3, 1) := by decide +kernel
theorem dX9_law_364 : decode cX9_law 364 = .ok (.iconst 3, 1) := by decide +kernel
theorem dX9_law_365 : decode cX9_law 365 = .ok (.iadd, 1) := by decide +kernel
theorem dX9_law_366 : decode cX9_law 366 = .ok (.iaload, 1) := by decide +kernel
theorem dX9_law_367 : decode cX9_law 367 = .ok (.aload_n 0, 1) := by decide +kernel
theorem dX9_law_368 : decode cX9_law 368 = .ok (.iload_n 3, 1) := by decide +kernel
theorem dX9_law_369 : decode cX9_law 369 = .ok (.iconst 4, 1) := by decide +kernel
theorem dX9_law_370 : decode cX9_law 370 = .ok (.iadd, 1) := by decide +kernel
theorem dX9_law_371 : decode cX9_law 371 = .ok (.iaload, 1) := by decide +kernel
theorem dX9_law_372 : decode cX9_law 372 = .ok (.invokevirtual 33, 3) := by decide +kernel
theorem dX9_law_375 : decode cX9_law 375 = .ok (.lcmp, 1) := by decide +kernel
theorem dX9_law_376 : decode cX9_law 376 = .ok (.ifCond .eq 576, 3) := by decide +kernel
theorem dX9_law_379 : decode cX9_law 379 = .ok (.iconst 0, 1) := by decide +kernel
theorem dX9_law_380 : decode cX9_law 380 = .ok (.ireturn, 1) := by decide +kernel
theorem dX9_law_381 : decode cX9_law 381 = .ok (.aload_n 1, 1) := by decide +kernel
theorem dX9_law_382 : decode cX9_law 382 = .ok (.aload_n 0, 1) := by decide +kernel
theorem dX9_law_383 : decode cX9_law 383 = .ok (.iload_n 3, 1) := by decide +kernel
theorem dX9_law_384 : decode cX9_law 384 = .ok (.iconst 1, 1) := by decide +kernel
theorem dX9_law_385 : decode cX9_law 385 = .ok (.iadd, 1) := by decide +kernel
theorem dX9_law_386 : decode cX9_law 386 = .ok (.iaload, 1) := by decide +kernel
theorem dX9_law_387 : decode cX9_law 387 = .ok (.aload_n 0, 1) := by decide +kernel
theorem dX9_law_388 : decode cX9_law 388 = .ok (.iload_n 3, 1) := by decide +kernel
theorem dX9_law_389 : decode cX9_law 389 = .ok (.iconst 2, 1) := by decide +kernel
theorem dX9_law_390 : decode cX9_law 390 = .ok (.iadd, 1) := by decide +kernel
theorem dX9_law_391 : decode cX9_law 391 = .ok (.iaload, 1) := by decide +kernel
theorem dX9_law_392 : decode cX9_law 392 = .ok (.i2l, 1) := by decide +kernel
theorem dX9_law_393 : decode cX9_law 393 = .ok (.bipush 32, 2) := by decide +kernel
theorem dX9_law_395 : decode cX9_law 395 = .ok (.lshl, 1) := by decide +kernel
theorem dX9_law_396 : decode cX9_law 396 = .ok (.aload_n 0, 1) := by decide +kernel
theorem dX9_law_397 : decode cX9_law 397 = .ok (.iload_n 3, 1) := by decide +kernel
theorem dX9_law_398 : decode cX9_law 398 = .ok (.iconst 3, 1) := by decide +kernel
theorem dX9_law_399 : decode cX9_law 399 = .ok (.iadd, 1) := by decide +kernel
theorem dX9_law_400 : decode cX9_law 400 = .ok (.iaload, 1) := by decide +kernel
theorem dX9_law_401 : decode cX9_law 401 = .ok (.i2l, 1) := by decide +kernel
theorem dX9_law_402 : decode cX9_law 402 = .ok (.ldc2_w 18, 3) := by decide +kernel
theorem dX9_law_405 : decode cX9_law 405 = .ok (.land, 1) := by decide +kernel
theorem dX9_law_406 : decode cX9_law 406 = .ok (.lor, 1) := by decide +kernel
theorem dX9_law_407 : decode cX9_law 407 = .ok (.aload_n 0, 1) := by decide +kernel
theorem dX9_law_408 : decode cX9_law 408 = .ok (.iload_n 3, 1) := by decide +kernel
theorem dX9_law_409 : decode cX9_law 409 = .ok (.iconst 4, 1) := by decide +kernel
theorem dX9_law_410 : decode cX9_law 410 = .ok (.iadd, 1) := by decide +kernel
theorem dX9_law_411 : decode cX9_law 411 = .ok (.iaload, 1) := by decide +kernel
theorem dX9_law_412 : decode cX9_law 412 = .ok (.i2l, 1) := by decide +kernel
theorem dX9_law_413 : decode cX9_law 413 = .ok (.bipush 32, 2) := by decide +kernel
theorem dX9_law_415 : decode cX9_law 415 = .ok (.lshl, 1) := by decide +kernel
theorem dX9_law_416 : decode cX9_law 416 = .ok (.aload_n 0, 1) := by decide +kernel
theorem dX9_law_417 : decode cX9_law 417 = .ok (.iload_n 3, 1) := by decide +kernel
theorem dX9_law_418 : decode cX9_law 418 = .ok (.iconst 5, 1) := by decide +kernel
theorem dX9_law_419 : decode cX9_law 419 = .ok (.iadd, 1) := by decide +kernel
theorem dX9_law_420 : decode cX9_law 420 = .ok (.iaload, 1) := by decide +kernel
theorem dX9_law_421 : decode cX9_law 421 = .ok (.i2l, 1) := by decide +kernel
theorem dX9_law_422 : decode cX9_law 422 = .ok (.ldc2_w 18, 3) := by decide +kernel
theorem dX9_law_425 : decode cX9_law 425 = .ok (.land, 1) := by decide +kernel
theorem dX9_law_426 : decode cX9_law 426 = .ok (.lor, 1) := by decide +kernel
theorem dX9_law_427 : decode cX9_law 427 = .ok (.invokevirtual 34, 3) := by decide +kernel
theorem dX9_law_430 : decode cX9_law 430 = .ok (.aload_n 2, 1) := by decide +kernel
theorem dX9_law_431 : decode cX9_law 431 = .ok (.aload_n 0, 1) := by decide +kernel
theorem dX9_law_432 : decode cX9_law 432 = .ok (.iload_n 3, 1) := by decide +kernel
theorem dX9_law_433 : decode cX9_law 433 = .ok (.iconst 1, 1) := by decide +kernel
theorem dX9_law_434 : decode cX9_law 434 = .ok (.iadd, 1) := by decide +kernel
theorem dX9_law_435 : decode cX9_law 435 = .ok (.iaload, 1) := by decide +kernel
theorem dX9_law_436 : decode cX9_law 436 = .ok (.aload_n 0, 1) := by decide +kernel
theorem dX9_law_437 : decode cX9_law 437 = .ok (.iload_n 3, 1) := by decide +kernel
theorem dX9_law_438 : decode cX9_law 438 = .ok (.iconst 2, 1) := by decide +kernel
theorem dX9_law_439 : decode cX9_law 439 = .ok (.iadd, 1) := by decide +kernel
theorem dX9_law_440 : decode cX9_law 440 = .ok (.iaload, 1) := by decide +kernel
theorem dX9_law_441 : decode cX9_law 441 = .ok (.i2l, 1) := by decide +kernel
theorem dX9_law_442 : decode cX9_law 442 = .ok (.bipush 32, 2) := by decide +kernel
theorem dX9_law_444 : decode cX9_law 444 = .ok (.lshl, 1) := by decide +kernel
theorem dX9_law_445 : decode cX9_law 445 = .ok (.aload_n 0, 1) := by decide +kernel
theorem dX9_law_446 : decode cX9_law 446 = .ok (.iload_n 3, 1) := by decide +kernel
theorem dX9_law_447 : decode cX9_law 447 = .ok (.iconst 3, 1) := by decide +kernel
theorem dX9_law_448 : decode cX9_law 448 = .ok (.iadd, 1) := by decide +kernel
theorem dX9_law_449 : decode cX9_law 449 = .ok (.iaload, 1) := by decide +kernel
theorem dX9_law_450 : decode cX9_law 450 = .ok (.i2l, 1) := by decide +kernel
theorem dX9_law_451 : decode cX9_law 451 = .ok (.ldc2_w 18, 3) := by decide +kernel
theorem dX9_law_454 : decode cX9_law 454 = .ok (.land, 1) := by decide +kernel
theorem dX9_law_455 : decode cX9_law 455 = .ok (.lor, 1) := by decide +kernel
theorem dX9_law_456 : decode cX9_law 456 = .ok (.aload_n 0, 1) := by decide +kernel
theorem dX9_law_457 : decode cX9_law 457 = .ok (.iload_n 3, 1) := by decide +kernel
theorem dX9_law_458 : decode cX9_law 458 = .ok (.iconst 4, 1) := by decide +kernel
theorem dX9_law_459 : decode cX9_law 459 = .ok (.iadd, 1) := by decide +kernel
theorem dX9_law_460 : decode cX9_law 460 = .ok (.iaload, 1) := by decide +kernel
theorem dX9_law_461 : decode cX9_law 461 = .ok (.i2l, 1) := by decide +kernel
theorem dX9_law_462 : decode cX9_law 462 = .ok (.bipush 32, 2) := by decide +kernel
theorem dX9_law_464 : decode cX9_law 464 = .ok (.lshl, 1) := by decide +kernel
theorem dX9_law_465 : decode cX9_law 465 = .ok (.aload_n 0, 1) := by decide +kernel
theorem dX9_law_466 : decode cX9_law 466 = .ok (.iload_n 3, 1) := by decide +kernel
theorem dX9_law_467 : decode cX9_law 467 = .ok (.iconst 5, 1) := by decide +kernel
theorem dX9_law_468 : decode cX9_law 468 = .ok (.iadd, 1) := by decide +kernel
theorem dX9_law_469 : decode cX9_law 469 = .ok (.iaload, 1) := by decide +kernel
theorem dX9_law_470 : decode cX9_law 470 = .ok (.i2l, 1) := by decide +kernel
theorem dX9_law_471 : decode cX9_law 471 = .ok (.ldc2_w 18, 3) := by decide +kernel
theorem dX9_law_474 : decode cX9_law 474 = .ok (.land, 1) := by decide +kernel
theorem dX9_law_475 : decode cX9_law 475 = .ok (.lor, 1) := by decide +kernel
theorem dX9_law_476 : decode cX9_law 476 = .ok (.invokevirtual 38, 3) := by decide +kernel
theorem dX9_law_479 : decode cX9_law 479 = .ok (.if_icmp .eq 473, 3) := by decide +kernel
theorem dX9_law_482 : decode cX9_law 482 = .ok (.iconst 0, 1) := by decide +kernel
theorem dX9_law_483 : decode cX9_law 483 = .ok (.ireturn, 1) := by decide +kernel
theorem dX9_law_484 : decode cX9_law 484 = .ok (.aload_n 1, 1) := by decide +kernel
theorem dX9_law_485 : decode cX9_law 485 = .ok (.aload_n 0, 1) := by decide +kernel
theorem dX9_law_486 : decode cX9_law 486 = .ok (.iload_n 3, 1) := by decide +kernel
theorem dX9_law_487 : decode cX9_law 487 = .ok (.iconst 1, 1) := by decide +kernel
theorem dX9_law_488 : decode cX9_law 488 = .ok (.iadd, 1) := by decide +kernel
theorem dX9_law_489 : decode cX9_law 489 = .ok (.iaload, 1) := by decide +kernel
theorem dX9_law_490 : decode cX9_law 490 = .ok (.aload_n 0, 1) := by decide +kernel
theorem dX9_law_491 : decode cX9_law 491 = .ok (.iload_n 3, 1) := by decide +kernel
theorem dX9_law_492 : decode cX9_law 492 = .ok (.iconst 2, 1) := by decide +kernel
theorem dX9_law_493 : decode cX9_law 493 = .ok (.iadd, 1) := by decide +kernel
theorem dX9_law_494 : decode cX9_law 494 = .ok (.iaload, 1) := by decide +kernel
theorem dX9_law_495 : decode cX9_law 495 = .ok (.aload_n 0, 1) := by decide +kernel
theorem dX9_law_496 : decode cX9_law 496 = .ok (.iload_n 3, 1) := by decide +kernel
theorem dX9_law_497 : decode cX9_law 497 = .ok (.iconst 3, 1) := by decide +kernel
theorem dX9_law_498 : decode cX9_law 498 = .ok (.iadd, 1) := by decide +kernel
theorem dX9_law_499 : decode cX9_law 499 = .ok (.iaload, 1) := by decide +kernel
theorem dX9_law_500 : decode cX9_law 500 = .ok (.invokevirtual 39, 3) := by decide +kernel
theorem dX9_law_503 : decode cX9_law 503 = .ok (.aload_n 2, 1) := by decide +kernel
theorem dX9_law_504 : decode cX9_law 504 = .ok (.aload_n 0, 1) := by decide +kernel
theorem dX9_law_505 : decode cX9_law 505 = .ok (.iload_n 3, 1) := by decide +kernel
theorem dX9_law_506 : decode cX9_law 506 = .ok (.iconst 1, 1) := by decide +kernel
theorem dX9_law_507 : decode cX9_law 507 = .ok (.iadd, 1) := by decide +kernel
theorem dX9_law_508 : decode cX9_law 508 = .ok (.iaload, 1) := by decide +kernel
theorem dX9_law_509 : decode cX9_law 509 = .ok (.aload_n 0, 1) := by decide +kernel
theorem dX9_law_510 : decode cX9_law 510 = .ok (.iload_n 3, 1) := by decide +kernel
theorem dX9_law_511 : decode cX9_law 511 = .ok (.iconst 2, 1) := by decide +kernel
theorem dX9_law_512 : decode cX9_law 512 = .ok (.iadd, 1) := by decide +kernel
theorem dX9_law_513 : decode cX9_law 513 = .ok (.iaload, 1) := by decide +kernel
theorem dX9_law_514 : decode cX9_law 514 = .ok (.aload_n 0, 1) := by decide +kernel
theorem dX9_law_515 : decode cX9_law 515 = .ok (.iload_n 3, 1) := by decide +kernel
theorem dX9_law_516 : decode cX9_law 516 = .ok (.iconst 3, 1) := by decide +kernel
theorem dX9_law_517 : decode cX9_law 517 = .ok (.iadd, 1) := by decide +kernel
theorem dX9_law_518 : decode cX9_law 518 = .ok (.iaload, 1) := by decide +kernel
theorem dX9_law_519 : decode cX9_law 519 = .ok (.invokevirtual 43, 3) := by decide +kernel
theorem dX9_law_522 : decode cX9_law 522 = .ok (.if_icmp .eq 430, 3) := by decide +kernel
theorem dX9_law_525 : decode cX9_law 525 = .ok (.iconst 0, 1) := by decide +kernel
theorem dX9_law_526 : decode cX9_law 526 = .ok (.ireturn, 1) := by decide +kernel
theorem dX9_law_527 : decode cX9_law 527 = .ok (.aload_n 1, 1) := by decide +kernel
theorem dX9_law_528 : decode cX9_law 528 = .ok (.aload_n 0, 1) := by decide +kernel
theorem dX9_law_529 : decode cX9_law 529 = .ok (.iload_n 3, 1) := by decide +kernel
theorem dX9_law_530 : decode cX9_law 530 = .ok (.iconst 1, 1) := by decide +kernel
theorem dX9_law_531 : decode cX9_law 531 = .ok (.iadd, 1) := by decide +kernel
theorem dX9_law_532 : decode cX9_law 532 = .ok (.iaload, 1) := by decide +kernel
theorem dX9_law_533 : decode cX9_law 533 = .ok (.aload_n 0, 1) := by decide +kernel
theorem dX9_law_534 : decode cX9_law 534 = .ok (.iload_n 3, 1) := by decide +kernel
theorem dX9_law_535 : decode cX9_law 535 = .ok (.iconst 2, 1) := by decide +kernel
theorem dX9_law_536 : decode cX9_law 536 = .ok (.iadd, 1) := by decide +kernel
theorem dX9_law_537 : decode cX9_law 537 = .ok (.iaload, 1) := by decide +kernel
theorem dX9_law_538 : decode cX9_law 538 = .ok (.aload_n 0, 1) := by decide +kernel
theorem dX9_law_539 : decode cX9_law 539 = .ok (.iload_n 3, 1) := by decide +kernel
theorem dX9_law_540 : decode cX9_law 540 = .ok (.iconst 3, 1) := by decide +kernel
theorem dX9_law_541 : decode cX9_law 541 = .ok (.iadd, 1) := by decide +kernel
theorem dX9_law_542 : decode cX9_law 542 = .ok (.iaload, 1) := by decide +kernel
theorem dX9_law_543 : decode cX9_law 543 = .ok (.aload_n 0, 1) := by decide +kernel
theorem dX9_law_544 : decode cX9_law 544 = .ok (.iload_n 3, 1) := by decide +kernel
theorem dX9_law_545 : decode cX9_law 545 = .ok (.iconst 4, 1) := by decide +kernel
theorem dX9_law_546 : decode cX9_law 546 = .ok (.iadd, 1) := by decide +kernel
theorem dX9_law_547 : decode cX9_law 547 = .ok (.iaload, 1) := by decide +kernel
theorem dX9_law_548 : decode cX9_law 548 = .ok (.aload_n 0, 1) := by decide +kernel
theorem dX9_law_549 : decode cX9_law 549 = .ok (.iload_n 3, 1) := by decide +kernel
theorem dX9_law_550 : decode cX9_law 550 = .ok (.iconst 5, 1) := by decide +kernel
theorem dX9_law_551 : decode cX9_law 551 = .ok (.iadd, 1) := by decide +kernel
theorem dX9_law_552 : decode cX9_law 552 = .ok (.iaload, 1) := by decide +kernel
theorem dX9_law_553 : decode cX9_law 553 = .ok (.invokevirtual 44, 3) := by decide +kernel
theorem dX9_law_556 : decode cX9_law 556 = .ok (.aload_n 2, 1) := by decide +kernel
theorem dX9_law_557 : decode cX9_law 557 = .ok (.aload_n 0, 1) := by decide +kernel
theorem dX9_law_558 : decode cX9_law 558 = .ok (.iload_n 3, 1) := by decide +kernel
theorem dX9_law_559 : decode cX9_law 559 = .ok (.iconst 1, 1) := by decide +kernel
theorem dX9_law_560 : decode cX9_law 560 = .ok (.iadd, 1) := by decide +kernel
theorem dX9_law_561 : decode cX9_law 561 = .ok (.iaload, 1) := by decide +kernel
theorem dX9_law_562 : decode cX9_law 562 = .ok (.aload_n 0, 1) := by decide +kernel
theorem dX9_law_563 : decode cX9_law 563 = .ok (.iload_n 3, 1) := by decide +kernel
theorem dX9_law_564 : decode cX9_law 564 = .ok (.iconst 2, 1) := by decide +kernel
theorem dX9_law_565 : decode cX9_law 565 = .ok (.iadd, 1) := by decide +kernel
theorem dX9_law_566 : decode cX9_law 566 = .ok (.iaload, 1) := by decide +kernel
theorem dX9_law_567 : decode cX9_law 567 = .ok (.aload_n 0, 1) := by decide +kernel
theorem dX9_law_568 : decode cX9_law 568 = .ok (.iload_n 3, 1) := by decide +kernel
theorem dX9_law_569 : decode cX9_law 569 = .ok (.iconst 3, 1) := by decide +kernel
theorem dX9_law_570 : decode cX9_law 570 = .ok (.iadd, 1) := by decide +kernel
theorem dX9_law_571 : decode cX9_law 571 = .ok (.iaload, 1) := by decide +kernel
theorem dX9_law_572 : decode cX9_law 572 = .ok (.aload_n 0, 1) := by decide +kernel
theorem dX9_law_573 : decode cX9_law 573 = .ok (.iload_n 3, 1) := by decide +kernel
theorem dX9_law_574 : decode cX9_law 574 = .ok (.iconst 4, 1) := by decide +kernel
theorem dX9_law_575 : decode cX9_law 575 = .ok (.iadd, 1) := by decide +kernel
theorem dX9_law_576 : decode cX9_law 576 = .ok (.iaload, 1) := by decide +kernel
theorem dX9_law_577 : decode cX9_law 577 = .ok (.aload_n 0, 1) := by decide +kernel
theorem dX9_law_578 : decode cX9_law 578 = .ok (.iload_n 3, 1) := by decide +kernel
theorem dX9_law_579 : decode cX9_law 579 = .ok (.iconst 5, 1) := by decide +kernel
theorem dX9_law_580 : decode cX9_law 580 = .ok (.iadd, 1) := by decide +kernel
theorem dX9_law_581 : decode cX9_law 581 = .ok (.iaload, 1) := by decide +kernel
theorem dX9_law_582 : decode cX9_law 582 = .ok (.invokevirtual 48, 3) := by decide +kernel
theorem dX9_law_585 : decode cX9_law 585 = .ok (.if_icmp .eq 367, 3) := by decide +kernel
theorem dX9_law_588 : decode cX9_law 588 = .ok (.iconst 0, 1) := by decide +kernel
theorem dX9_law_589 : decode cX9_law 589 = .ok (.ireturn, 1) := by decide +kernel
theorem dX9_law_590 : decode cX9_law 590 = .ok (.aload_n 1, 1) := by decide +kernel
theorem dX9_law_591 : decode cX9_law 591 = .ok (.invokevirtual 49, 3) := by decide +kernel
theorem dX9_law_594 : decode cX9_law 594 = .ok (.aload_n 2, 1) := by decide +kernel
theorem dX9_law_595 : decode cX9_law 595 = .ok (.invokevirtual 52, 3) := by decide +kernel
theorem dX9_law_598 : decode cX9_law 598 = .ok (.if_icmp .eq 354, 3) := by decide +kernel
theorem dX9_law_601 : decode cX9_law 601 = .ok (.iconst 0, 1) := by decide +kernel
theorem dX9_law_602 : decode cX9_law 602 = .ok (.ireturn, 1) := by decide +kernel
theorem dX9_law_603 : decode cX9_law 603 = .ok (.aload_n 1, 1) := by decide +kernel
theorem dX9_law_604 : decode cX9_law 604 = .ok (.aload_n 0, 1) := by decide +kernel
theorem dX9_law_605 : decode cX9_law 605 = .ok (.iload_n 3, 1) := by decide +kernel
theorem dX9_law_606 : decode cX9_law 606 = .ok (.iconst 1, 1) := by decide +kernel
theorem dX9_law_607 : decode cX9_law 607 = .ok (.iadd, 1) := by decide +kernel
theorem dX9_law_608 : decode cX9_law 608 = .ok (.iaload, 1) := by decide +kernel
theorem dX9_law_609 : decode cX9_law 609 = .ok (.aload_n 0, 1) := by decide +kernel
theorem dX9_law_610 : decode cX9_law 610 = .ok (.iload_n 3, 1) := by decide +kernel
theorem dX9_law_611 : decode cX9_law 611 = .ok (.iconst 2, 1) := by decide +kernel
theorem dX9_law_612 : decode cX9_law 612 = .ok (.iadd, 1) := by decide +kernel
theorem dX9_law_613 : decode cX9_law 613 = .ok (.iaload, 1) := by decide +kernel
theorem dX9_law_614 : decode cX9_law 614 = .ok (.i2l, 1) := by decide +kernel
theorem dX9_law_615 : decode cX9_law 615 = .ok (.bipush 32, 2) := by decide +kernel
theorem dX9_law_617 : decode cX9_law 617 = .ok (.lshl, 1) := by decide +kernel
theorem dX9_law_618 : decode cX9_law 618 = .ok (.aload_n 0, 1) := by decide +kernel
theorem dX9_law_619 : decode cX9_law 619 = .ok (.iload_n 3, 1) := by decide +kernel
theorem dX9_law_620 : decode cX9_law 620 = .ok (.iconst 3, 1) := by decide +kernel
theorem dX9_law_621 : decode cX9_law 621 = .ok (.iadd, 1) := by decide +kernel
theorem dX9_law_622 : decode cX9_law 622 = .ok (.iaload, 1) := by decide +kernel
theorem dX9_law_623 : decode cX9_law 623 = .ok (.i2l, 1) := by decide +kernel
theorem dX9_law_624 : decode cX9_law 624 = .ok (.ldc2_w 18, 3) := by decide +kernel
theorem dX9_law_627 : decode cX9_law 627 = .ok (.land, 1) := by decide +kernel
theorem dX9_law_628 : decode cX9_law 628 = .ok (.lor, 1) := by decide +kernel
theorem dX9_law_629 : decode cX9_law 629 = .ok (.invokevirtual 53, 3) := by decide +kernel
theorem dX9_law_632 : decode cX9_law 632 = .ok (.aload_n 2, 1) := by decide +kernel
theorem dX9_law_633 : decode cX9_law 633 = .ok (.aload_n 0, 1) := by decide +kernel
theorem dX9_law_634 : decode cX9_law 634 = .ok (.iload_n 3, 1) := by decide +kernel
theorem dX9_law_635 : decode cX9_law 635 = .ok (.iconst 1, 1) := by decide +kernel
theorem dX9_law_636 : decode cX9_law 636 = .ok (.iadd, 1) := by decide +kernel
theorem dX9_law_637 : decode cX9_law 637 = .ok (.iaload, 1) := by decide +kernel
theorem dX9_law_638 : decode cX9_law 638 = .ok (.aload_n 0, 1) := by decide +kernel
theorem dX9_law_639 : decode cX9_law 639 = .ok (.iload_n 3, 1) := by decide +kernel
theorem dX9_law_640 : decode cX9_law 640 = .ok (.iconst 2, 1) := by decide +kernel
theorem dX9_law_641 : decode cX9_law 641 = .ok (.iadd, 1) := by decide +kernel
theorem dX9_law_642 : decode cX9_law 642 = .ok (.iaload, 1) := by decide +kernel
theorem dX9_law_643 : decode cX9_law 643 = .ok (.i2l, 1) := by decide +kernel
theorem dX9_law_644 : decode cX9_law 644 = .ok (.bipush 32, 2) := by decide +kernel
theorem dX9_law_646 : decode cX9_law 646 = .ok (.lshl, 1) := by decide +kernel
theorem dX9_law_647 : decode cX9_law 647 = .ok (.aload_n 0, 1) := by decide +kernel
theorem dX9_law_648 : decode cX9_law 648 = .ok (.iload_n 3, 1) := by decide +kernel
theorem dX9_law_649 : decode cX9_law 649 = .ok (.iconst 3, 1) := by decide +kernel
theorem dX9_law_650 : decode cX9_law 650 = .ok (.iadd, 1) := by decide +kernel
theorem dX9_law_651 : decode cX9_law 651 = .ok (.iaload, 1) := by decide +kernel
theorem dX9_law_652 : decode cX9_law 652 = .ok (.i2l, 1) := by decide +kernel
theorem dX9_law_653 : decode cX9_law 653 = .ok (.ldc2_w 18, 3) := by decide +kernel
theorem dX9_law_656 : decode cX9_law 656 = .ok (.land, 1) := by decide +kernel
theorem dX9_law_657 : decode cX9_law 657 = .ok (.lor, 1) := by decide +kernel
theorem dX9_law_658 : decode cX9_law 658 = .ok (.invokevirtual 57, 3) := by decide +kernel
theorem dX9_law_661 : decode cX9_law 661 = .ok (.if_icmp .eq 291, 3) := by decide +kernel
theorem dX9_law_664 : decode cX9_law 664 = .ok (.iconst 0, 1) := by decide +kernel
theorem dX9_law_665 : decode cX9_law 665 = .ok (.ireturn, 1) := by decide +kernel
theorem dX9_law_666 : decode cX9_law 666 = .ok (.aload_n 1, 1) := by decide +kernel
theorem dX9_law_667 : decode cX9_law 667 = .ok (.aload_n 0, 1) := by decide +kernel
theorem dX9_law_668 : decode cX9_law 668 = .ok (.iload_n 3, 1) := by decide +kernel
theorem dX9_law_669 : decode cX9_law 669 = .ok (.iconst 1, 1) := by decide +kernel
theorem dX9_law_670 : decode cX9_law 670 = .ok (.iadd, 1) := by decide +kernel
theorem dX9_law_671 : decode cX9_law 671 = .ok (.iaload, 1) := by decide +kernel
theorem dX9_law_672 : decode cX9_law 672 = .ok (.invokevirtual 58, 3) := by decide +kernel
theorem dX9_law_675 : decode cX9_law 675 = .ok (.aload_n 2, 1) := by decide +kernel
theorem dX9_law_676 : decode cX9_law 676 = .ok (.aload_n 0, 1) := by decide +kernel
theorem dX9_law_677 : decode cX9_law 677 = .ok (.iload_n 3, 1) := by decide +kernel
theorem dX9_law_678 : decode cX9_law 678 = .ok (.iconst 1, 1) := by decide +kernel
theorem dX9_law_679 : decode cX9_law 679 = .ok (.iadd, 1) := by decide +kernel
theorem dX9_law_680 : decode cX9_law 680 = .ok (.iaload, 1) := by decide +kernel
theorem dX9_law_681 : decode cX9_law 681 = .ok (.invokevirtual 62, 3) := by decide +kernel
theorem dX9_law_684 : decode cX9_law 684 = .ok (.if_icmp .eq 268, 3) := by decide +kernel
theorem dX9_law_687 : decode cX9_law 687 = .ok (.iconst 0, 1) := by decide +kernel
theorem dX9_law_688 : decode cX9_law 688 = .ok (.ireturn, 1) := by decide +kernel
theorem dX9_law_689 : decode cX9_law 689 = .ok (.aload_n 1, 1) := by decide +kernel
theorem dX9_law_690 : decode cX9_law 690 = .ok (.aload_n 0, 1) := by decide +kernel
theorem dX9_law_691 : decode cX9_law 691 = .ok (.iload_n 3, 1) := by decide +kernel
theorem dX9_law_692 : decode cX9_law 692 = .ok (.iconst 1, 1) := by decide +kernel
theorem dX9_law_693 : decode cX9_law 693 = .ok (.iadd, 1) := by decide +kernel
theorem dX9_law_694 : decode cX9_law 694 = .ok (.iaload, 1) := by decide +kernel
theorem dX9_law_695 : decode cX9_law 695 = .ok (.aload_n 0, 1) := by decide +kernel
theorem dX9_law_696 : decode cX9_law 696 = .ok (.iload_n 3, 1) := by decide +kernel
theorem dX9_law_697 : decode cX9_law 697 = .ok (.iconst 2, 1) := by decide +kernel
theorem dX9_law_698 : decode cX9_law 698 = .ok (.iadd, 1) := by decide +kernel
theorem dX9_law_699 : decode cX9_law 699 = .ok (.iaload, 1) := by decide +kernel
theorem dX9_law_700 : decode cX9_law 700 = .ok (.invokevirtual 63, 3) := by decide +kernel
theorem dX9_law_703 : decode cX9_law 703 = .ok (.aload_n 2, 1) := by decide +kernel
theorem dX9_law_704 : decode cX9_law 704 = .ok (.aload_n 0, 1) := by decide +kernel
theorem dX9_law_705 : decode cX9_law 705 = .ok (.iload_n 3, 1) := by decide +kernel
theorem dX9_law_706 : decode cX9_law 706 = .ok (.iconst 1, 1) := by decide +kernel
theorem dX9_law_707 : decode cX9_law 707 = .ok (.iadd, 1) := by decide +kernel
theorem dX9_law_708 : decode cX9_law 708 = .ok (.iaload, 1) := by decide +kernel
theorem dX9_law_709 : decode cX9_law 709 = .ok (.aload_n 0, 1) := by decide +kernel
theorem dX9_law_710 : decode cX9_law 710 = .ok (.iload_n 3, 1) := by decide +kernel
theorem dX9_law_711 : decode cX9_law 711 = .ok (.iconst 2, 1) := by decide +kernel
theorem dX9_law_712 : decode cX9_law 712 = .ok (.iadd, 1) := by decide +kernel
theorem dX9_law_713 : decode cX9_law 713 = .ok (.iaload, 1) := by decide +kernel
theorem dX9_law_714 : decode cX9_law 714 = .ok (.invokevirtual 67, 3) := by decide +kernel
theorem dX9_law_717 : decode cX9_law 717 = .ok (.if_icmp .eq 235, 3) := by decide +kernel
theorem dX9_law_720 : decode cX9_law 720 = .ok (.iconst 0, 1) := by decide +kernel
theorem dX9_law_721 : decode cX9_law 721 = .ok (.ireturn, 1) := by decide +kernel
theorem dX9_law_722 : decode cX9_law 722 = .ok (.aload_n 1, 1) := by decide +kernel
theorem dX9_law_723 : decode cX9_law 723 = .ok (.aload_n 0, 1) := by decide +kernel
theorem dX9_law_724 : decode cX9_law 724 = .ok (.iload_n 3, 1) := by decide +kernel
theorem dX9_law_725 : decode cX9_law 725 = .ok (.iconst 1, 1) := by decide +kernel
theorem dX9_law_726 : decode cX9_law 726 = .ok (.iadd, 1) := by decide +kernel
theorem dX9_law_727 : decode cX9_law 727 = .ok (.iaload, 1) := by decide +kernel
theorem dX9_law_728 : decode cX9_law 728 = .ok (.invokevirtual 68, 3) := by decide +kernel
theorem dX9_law_731 : decode cX9_law 731 = .ok (.aload_n 2, 1) := by decide +kernel
theorem dX9_law_732 : decode cX9_law 732 = .ok (.aload_n 0, 1) := by decide +kernel
theorem dX9_law_733 : decode cX9_law 733 = .ok (.iload_n 3, 1) := by decide +kernel
theorem dX9_law_734 : decode cX9_law 734 = .ok (.iconst 1, 1) := by decide +kernel
theorem dX9_law_735 : decode cX9_law 735 = .ok (.iadd, 1) := by decide +kernel
theorem dX9_law_736 : decode cX9_law 736 = .ok (.iaload, 1) := by decide +kernel
theorem dX9_law_737 : decode cX9_law 737 = .ok (.invokevirtual 71, 3) := by decide +kernel
theorem dX9_law_740 : decode cX9_law 740 = .ok (.if_icmp .eq 212, 3) := by decide +kernel
theorem dX9_law_743 : decode cX9_law 743 = .ok (.iconst 0, 1) := by decide +kernel
theorem dX9_law_744 : decode cX9_law 744 = .ok (.ireturn, 1) := by decide +kernel
theorem dX9_law_745 : decode cX9_law 745 = .ok (.aload_n 1, 1) := by decide +kernel
theorem dX9_law_746 : decode cX9_law 746 = .ok (.invokevirtual 72, 3) := by decide +kernel
theorem dX9_law_749 : decode cX9_law 749 = .ok (.aload_n 2, 1) := by decide +kernel
theorem dX9_law_750 : decode cX9_law 750 = .ok (.invokevirtual 75, 3) := by decide +kernel
theorem dX9_law_753 : decode cX9_law 753 = .ok (.if_icmp .eq 199, 3) := by decide +kernel
theorem dX9_law_756 : decode cX9_law 756 = .ok (.iconst 0, 1) := by decide +kernel
theorem dX9_law_757 : decode cX9_law 757 = .ok (.ireturn, 1) := by decide +kernel
theorem dX9_law_758 : decode cX9_law 758 = .ok (.aload_n 1, 1) := by decide +kernel
theorem dX9_law_759 : decode cX9_law 759 = .ok (.invokevirtual 76, 3) := by decide +kernel
theorem dX9_law_762 : decode cX9_law 762 = .ok (.aload_n 2, 1) := by decide +kernel
theorem dX9_law_763 : decode cX9_law 763 = .ok (.invokevirtual 79, 3) := by decide +kernel
theorem dX9_law_766 : decode cX9_law 766 = .ok (.if_icmp .eq 186, 3) := by decide +kernel
theorem dX9_law_769 : decode cX9_law 769 = .ok (.iconst 0, 1) := by decide +kernel
theorem dX9_law_770 : decode cX9_law 770 = .ok (.ireturn, 1) := by decide +kernel
theorem dX9_law_771 : decode cX9_law 771 = .ok (.aload_n 1, 1) := by decide +kernel
theorem dX9_law_772 : decode cX9_law 772 = .ok (.aload_n 0, 1) := by decide +kernel
theorem dX9_law_773 : decode cX9_law 773 = .ok (.iload_n 3, 1) := by decide +kernel
theorem dX9_law_774 : decode cX9_law 774 = .ok (.iconst 1, 1) := by decide +kernel
theorem dX9_law_775 : decode cX9_law 775 = .ok (.iadd, 1) := by decide +kernel
theorem dX9_law_776 : decode cX9_law 776 = .ok (.iaload, 1) := by decide +kernel
theorem dX9_law_777 : decode cX9_law 777 = .ok (.invokevirtual 80, 3) := by decide +kernel
theorem dX9_law_780 : decode cX9_law 780 = .ok (.aload_n 2, 1) := by decide +kernel
theorem dX9_law_781 : decode cX9_law 781 = .ok (.aload_n 0, 1) := by decide +kernel
theorem dX9_law_782 : decode cX9_law 782 = .ok (.iload_n 3, 1) := by decide +kernel
theorem dX9_law_783 : decode cX9_law 783 = .ok (.iconst 1, 1) := by decide +kernel
theorem dX9_law_784 : decode cX9_law 784 = .ok (.iadd, 1) := by decide +kernel
theorem dX9_law_785 : decode cX9_law 785 = .ok (.iaload, 1) := by decide +kernel
theorem dX9_law_786 : decode cX9_law 786 = .ok (.invokevirtual 83, 3) := by decide +kernel
theorem dX9_law_789 : decode cX9_law 789 = .ok (.if_icmp .eq 163, 3) := by decide +kernel
theorem dX9_law_792 : decode cX9_law 792 = .ok (.iconst 0, 1) := by decide +kernel
theorem dX9_law_793 : decode cX9_law 793 = .ok (.ireturn, 1) := by decide +kernel
theorem dX9_law_794 : decode cX9_law 794 = .ok (.aload_n 1, 1) := by decide +kernel
theorem dX9_law_795 : decode cX9_law 795 = .ok (.aload_n 0, 1) := by decide +kernel
theorem dX9_law_796 : decode cX9_law 796 = .ok (.iload_n 3, 1) := by decide +kernel
theorem dX9_law_797 : decode cX9_law 797 = .ok (.iconst 1, 1) := by decide +kernel
theorem dX9_law_798 : decode cX9_law 798 = .ok (.iadd, 1) := by decide +kernel
theorem dX9_law_799 : decode cX9_law 799 = .ok (.iaload, 1) := by decide +kernel
theorem dX9_law_800 : decode cX9_law 800 = .ok (.invokevirtual 84, 3) := by decide +kernel
theorem dX9_law_803 : decode cX9_law 803 = .ok (.aload_n 2, 1) := by decide +kernel
theorem dX9_law_804 : decode cX9_law 804 = .ok (.aload_n 0, 1) := by decide +kernel
theorem dX9_law_805 : decode cX9_law 805 = .ok (.iload_n 3, 1) := by decide +kernel
theorem dX9_law_806 : decode cX9_law 806 = .ok (.iconst 1, 1) := by decide +kernel
theorem dX9_law_807 : decode cX9_law 807 = .ok (.iadd, 1) := by decide +kernel
theorem dX9_law_808 : decode cX9_law 808 = .ok (.iaload, 1) := by decide +kernel
theorem dX9_law_809 : decode cX9_law 809 = .ok (.invokevirtual 88, 3) := by decide +kernel
theorem dX9_law_812 : decode cX9_law 812 = .ok (.lcmp, 1) := by decide +kernel
theorem dX9_law_813 : decode cX9_law 813 = .ok (.ifCond .eq 139, 3) := by decide +kernel
theorem dX9_law_816 : decode cX9_law 816 = .ok (.iconst 0, 1) := by decide +kernel
theorem dX9_law_817 : decode cX9_law 817 = .ok (.ireturn, 1) := by decide +kernel
theorem dX9_law_818 : decode cX9_law 818 = .ok (.aload_n 1, 1) := by decide +kernel
theorem dX9_law_819 : decode cX9_law 819 = .ok (.aload_n 0, 1) := by decide +kernel
theorem dX9_law_820 : decode cX9_law 820 = .ok (.iload_n 3, 1) := by decide +kernel
theorem dX9_law_821 : decode cX9_law 821 = .ok (.iconst 1, 1) := by decide +kernel
theorem dX9_law_822 : decode cX9_law 822 = .ok (.iadd, 1) := by decide +kernel
theorem dX9_law_823 : decode cX9_law 823 = .ok (.iaload, 1) := by decide +kernel
theorem dX9_law_824 : decode cX9_law 824 = .ok (.aload_n 0, 1) := by decide +kernel
theorem dX9_law_825 : decode cX9_law 825 = .ok (.iload_n 3, 1) := by decide +kernel
theorem dX9_law_826 : decode cX9_law 826 = .ok (.iconst 2, 1) := by decide +kernel
theorem dX9_law_827 : decode cX9_law 827 = .ok (.iadd, 1) := by decide +kernel
theorem dX9_law_828 : decode cX9_law 828 = .ok (.iaload, 1) := by decide +kernel
theorem dX9_law_829 : decode cX9_law 829 = .ok (.aload_n 0, 1) := by decide +kernel
theorem dX9_law_830 : decode cX9_law 830 = .ok (.iload_n 3, 1) := by decide +kernel
theorem dX9_law_831 : decode cX9_law 831 = .ok (.iconst 3, 1) := by decide +kernel
theorem dX9_law_832 : decode cX9_law 832 = .ok (.iadd, 1) := by decide +kernel
theorem dX9_law_833 : decode cX9_law 833 = .ok (.iaload, 1) := by decide +kernel
theorem dX9_law_834 : decode cX9_law 834 = .ok (.invokevirtual 89, 3) := by decide +kernel
theorem dX9_law_837 : decode cX9_law 837 = .ok (.aload_n 2, 1) := by decide +kernel
theorem dX9_law_838 : decode cX9_law 838 = .ok (.aload_n 0, 1) := by decide +kernel
theorem dX9_law_839 : decode cX9_law 839 = .ok (.iload_n 3, 1) := by decide +kernel
theorem dX9_law_840 : decode cX9_law 840 = .ok (.iconst 1, 1) := by decide +kernel
theorem dX9_law_841 : decode cX9_law 841 = .ok (.iadd, 1) := by decide +kernel
theorem dX9_law_842 : decode cX9_law 842 = .ok (.iaload, 1) := by decide +kernel
theorem dX9_law_843 : decode cX9_law 843 = .ok (.aload_n 0, 1) := by decide +kernel
theorem dX9_law_844 : decode cX9_law 844 = .ok (.iload_n 3, 1) := by decide +kernel
theorem dX9_law_845 : decode cX9_law 845 = .ok (.iconst 2, 1) := by decide +kernel
theorem dX9_law_846 : decode cX9_law 846 = .ok (.iadd, 1) := by decide +kernel
theorem dX9_law_847 : decode cX9_law 847 = .ok (.iaload, 1) := by decide +kernel
theorem dX9_law_848 : decode cX9_law 848 = .ok (.aload_n 0, 1) := by decide +kernel
theorem dX9_law_849 : decode cX9_law 849 = .ok (.iload_n 3, 1) := by decide +kernel
theorem dX9_law_850 : decode cX9_law 850 = .ok (.iconst 3, 1) := by decide +kernel
theorem dX9_law_851 : decode cX9_law 851 = .ok (.iadd, 1) := by decide +kernel
theorem dX9_law_852 : decode cX9_law 852 = .ok (.iaload, 1) := by decide +kernel
theorem dX9_law_853 : decode cX9_law 853 = .ok (.invokevirtual 93, 3) := by decide +kernel
theorem dX9_law_856 : decode cX9_law 856 = .ok (.lcmp, 1) := by decide +kernel
theorem dX9_law_857 : decode cX9_law 857 = .ok (.ifCond .eq 95, 3) := by decide +kernel
theorem dX9_law_860 : decode cX9_law 860 = .ok (.iconst 0, 1) := by decide +kernel
theorem dX9_law_861 : decode cX9_law 861 = .ok (.ireturn, 1) := by decide +kernel
theorem dX9_law_862 : decode cX9_law 862 = .ok (.aload_n 1, 1) := by decide +kernel
theorem dX9_law_863 : decode cX9_law 863 = .ok (.aload_n 0, 1) := by decide +kernel
theorem dX9_law_864 : decode cX9_law 864 = .ok (.iload_n 3, 1) := by decide +kernel
theorem dX9_law_865 : decode cX9_law 865 = .ok (.iconst 1, 1) := by decide +kernel
theorem dX9_law_866 : decode cX9_law 866 = .ok (.iadd, 1) := by decide +kernel
theorem dX9_law_867 : decode cX9_law 867 = .ok (.iaload, 1) := by decide +kernel
theorem dX9_law_868 : decode cX9_law 868 = .ok (.aload_n 0, 1) := by decide +kernel
theorem dX9_law_869 : decode cX9_law 869 = .ok (.iload_n 3, 1) := by decide +kernel
theorem dX9_law_870 : decode cX9_law 870 = .ok (.iconst 2, 1) := by decide +kernel
theorem dX9_law_871 : decode cX9_law 871 = .ok (.iadd, 1) := by decide +kernel
theorem dX9_law_872 : decode cX9_law 872 = .ok (.iaload, 1) := by decide +kernel
theorem dX9_law_873 : decode cX9_law 873 = .ok (.invokevirtual 94, 3) := by decide +kernel
theorem dX9_law_876 : decode cX9_law 876 = .ok (.aload_n 2, 1) := by decide +kernel
theorem dX9_law_877 : decode cX9_law 877 = .ok (.aload_n 0, 1) := by decide +kernel
theorem dX9_law_878 : decode cX9_law 878 = .ok (.iload_n 3, 1) := by decide +kernel
theorem dX9_law_879 : decode cX9_law 879 = .ok (.iconst 1, 1) := by decide +kernel
theorem dX9_law_880 : decode cX9_law 880 = .ok (.iadd, 1) := by decide +kernel
theorem dX9_law_881 : decode cX9_law 881 = .ok (.iaload, 1) := by decide +kernel
theorem dX9_law_882 : decode cX9_law 882 = .ok (.aload_n 0, 1) := by decide +kernel
theorem dX9_law_883 : decode cX9_law 883 = .ok (.iload_n 3, 1) := by decide +kernel
theorem dX9_law_884 : decode cX9_law 884 = .ok (.iconst 2, 1) := by decide +kernel
theorem dX9_law_885 : decode cX9_law 885 = .ok (.iadd, 1) := by decide +kernel
theorem dX9_law_886 : decode cX9_law 886 = .ok (.iaload, 1) := by decide +kernel
theorem dX9_law_887 : decode cX9_law 887 = .ok (.invokevirtual 98, 3) := by decide +kernel
theorem dX9_law_890 : decode cX9_law 890 = .ok (.lcmp, 1) := by decide +kernel
theorem dX9_law_891 : decode cX9_law 891 = .ok (.ifCond .eq 61, 3) := by decide +kernel
theorem dX9_law_894 : decode cX9_law 894 = .ok (.iconst 0, 1) := by decide +kernel
theorem dX9_law_895 : decode cX9_law 895 = .ok (.ireturn, 1) := by decide +kernel
theorem dX9_law_896 : decode cX9_law 896 = .ok (.aload_n 1, 1) := by decide +kernel
theorem dX9_law_897 : decode cX9_law 897 = .ok (.aload_n 0, 1) := by decide +kernel
theorem dX9_law_898 : decode cX9_law 898 = .ok (.iload_n 3, 1) := by decide +kernel
theorem dX9_law_899 : decode cX9_law 899 = .ok (.iconst 1, 1) := by decide +kernel
theorem dX9_law_900 : decode cX9_law 900 = .ok (.iadd, 1) := by decide +kernel
theorem dX9_law_901 : decode cX9_law 901 = .ok (.iaload, 1) := by decide +kernel
theorem dX9_law_902 : decode cX9_law 902 = .ok (.aload_n 0, 1) := by decide +kernel
theorem dX9_law_903 : decode cX9_law 903 = .ok (.iload_n 3, 1) := by decide +kernel
theorem dX9_law_904 : decode cX9_law 904 = .ok (.iconst 2, 1) := by decide +kernel
theorem dX9_law_905 : decode cX9_law 905 = .ok (.iadd, 1) := by decide +kernel
theorem dX9_law_906 : decode cX9_law 906 = .ok (.iaload, 1) := by decide +kernel
theorem dX9_law_907 : decode cX9_law 907 = .ok (.invokevirtual 99, 3) := by decide +kernel
theorem dX9_law_910 : decode cX9_law 910 = .ok (.aload_n 2, 1) := by decide +kernel
theorem dX9_law_911 : decode cX9_law 911 = .ok (.aload_n 0, 1) := by decide +kernel
theorem dX9_law_912 : decode cX9_law 912 = .ok (.iload_n 3, 1) := by decide +kernel
theorem dX9_law_913 : decode cX9_law 913 = .ok (.iconst 1, 1) := by decide +kernel
theorem dX9_law_914 : decode cX9_law 914 = .ok (.iadd, 1) := by decide +kernel
theorem dX9_law_915 : decode cX9_law 915 = .ok (.iaload, 1) := by decide +kernel
theorem dX9_law_916 : decode cX9_law 916 = .ok (.aload_n 0, 1) := by decide +kernel
theorem dX9_law_917 : decode cX9_law 917 = .ok (.iload_n 3, 1) := by decide +kernel
theorem dX9_law_918 : decode cX9_law 918 = .ok (.iconst 2, 1) := by decide +kernel
theorem dX9_law_919 : decode cX9_law 919 = .ok (.iadd, 1) := by decide +kernel
theorem dX9_law_920 : decode cX9_law 920 = .ok (.iaload, 1) := by decide +kernel
theorem dX9_law_921 : decode cX9_law 921 = .ok (.invokevirtual 102, 3) := by decide +kernel
theorem dX9_law_924 : decode cX9_law 924 = .ok (.if_icmp .eq 28, 3) := by decide +kernel
theorem dX9_law_927 : decode cX9_law 927 = .ok (.iconst 0, 1) := by decide +kernel
theorem dX9_law_928 : decode cX9_law 928 = .ok (.ireturn, 1) := by decide +kernel
theorem dX9_law_929 : decode cX9_law 929 = .ok (.aload_n 1, 1) := by decide +kernel
theorem dX9_law_930 : decode cX9_law 930 = .ok (.aload_n 0, 1) := by decide +kernel
theorem dX9_law_931 : decode cX9_law 931 = .ok (.iload_n 3, 1) := by decide +kernel
theorem dX9_law_932 : decode cX9_law 932 = .ok (.iconst 1, 1) := by decide +kernel
theorem dX9_law_933 : decode cX9_law 933 = .ok (.iadd, 1) := by decide +kernel
theorem dX9_law_934 : decode cX9_law 934 = .ok (.iaload, 1) := by decide +kernel
theorem dX9_law_935 : decode cX9_law 935 = .ok (.invokevirtual 103, 3) := by decide +kernel
theorem dX9_law_938 : decode cX9_law 938 = .ok (.aload_n 2, 1) := by decide +kernel
theorem dX9_law_939 : decode cX9_law 939 = .ok (.aload_n 0, 1) := by decide +kernel
theorem dX9_law_940 : decode cX9_law 940 = .ok (.iload_n 3, 1) := by decide +kernel
theorem dX9_law_941 : decode cX9_law 941 = .ok (.iconst 1, 1) := by decide +kernel
theorem dX9_law_942 : decode cX9_law 942 = .ok (.iadd, 1) := by decide +kernel
theorem dX9_law_943 : decode cX9_law 943 = .ok (.iaload, 1) := by decide +kernel
theorem dX9_law_944 : decode cX9_law 944 = .ok (.invokevirtual 106, 3) := by decide +kernel
theorem dX9_law_947 : decode cX9_law 947 = .ok (.if_icmp .eq 5, 3) := by decide +kernel
theorem dX9_law_950 : decode cX9_law 950 = .ok (.iconst 0, 1) := by decide +kernel
theorem dX9_law_951 : decode cX9_law 951 = .ok (.ireturn, 1) := by decide +kernel
theorem dX9_law_952 : decode cX9_law 952 = .ok (.iinc 3 6, 3) := by decide +kernel
theorem dX9_law_955 : decode cX9_law 955 = .ok (.goto (-937), 3) := by decide +kernel
theorem dX9_law_958 : decode cX9_law 958 = .ok (.iconst 1, 1) := by decide +kernel
theorem dX9_law_959 : decode cX9_law 959 = .ok (.ireturn, 1) := by decide +kernel
end
section
-- loops as functions: a body answers the next state or the loop's end; fuel
def fo_lp {σ ε : Type} (b : σ → Option (σ ⊕ ε)) : Nat → σ → Option ε
  | 0, _ => none
  | n + 1, s => match b s with
    | none => none
    | some (.inl s') => fo_lp b n s'
    | some (.inr x) => some x
theorem fo_lp_ind {σ ε : Type} {b : σ → Option (σ ⊕ ε)} {x : ε} (T : σ → Prop)
    (step : ∀ (s : σ) (o : Option (σ ⊕ ε)), b s = o → o ≠ none → (∀ s', some (.inl s') = o → T s') → (∀ y, some (.inr y) = o → y = x) → T s) :
    ∀ (n : Nat) (s : σ), fo_lp b n s = some x → T s := by
  intro n
  induction n with
  | zero => intro s h; simp [fo_lp] at h
  | succ n ih =>
    intro s h
    rw [fo_lp] at h
    refine step s (b s) rfl ?_ ?_ ?_
    · intro hn
      rw [hn] at h
      cases h
    · intro s' hs
      rw [← hs] at h
      exact ih s' h
    · intro y hy
      rw [← hy] at h
      exact Option.some.inj h
theorem fo_itT {α : Type} {c : Prop} {i : Decidable c} {a b o : α} (hc : c) (h : @ite α c i a b = o) : a = o := by
  rw [if_pos hc] at h
  exact h
theorem fo_itF {α : Type} {c : Prop} {i : Decidable c} {a b o : α} (hc : ¬ c) (h : @ite α c i a b = o) : b = o := by
  rw [if_neg hc] at h
  exact h
/-- a guard of a function that is defined -/
theorem fo_gd {α : Type} {c : Prop} {i : Decidable c} {a o : Option α} (h : @ite (Option α) c i a none = o) (hN : o ≠ none) : c ∧ a = o := by
  by_cases hc : c
  · rw [if_pos hc] at h
    exact ⟨hc, h⟩
  · rw [if_neg hc] at h
    exact absurd h.symm hN
theorem fo_bd {α β : Type} {a : Option α} {k : α → Option β} {o : Option β} (h : a.bind k = o) (hN : o ≠ none) : ∃ x, a = some x ∧ k x = o := by
  cases a with
  | none => exact absurd h.symm hN
  | some x => exact ⟨x, rfl, h⟩
theorem fo_lp_inv {σ ε : Type} {b : σ → Option (σ ⊕ ε)} (I : σ → Prop) (μ : σ → Nat) (P : ε → Prop) (step : ∀ s, I s → (∃ s', b s = some (.inl s') ∧ I s' ∧ μ s' < μ s) ∨ (∃ y, b s = some (.inr y) ∧ P y)) : ∀ (n : Nat) (s : σ), I s → μ s < n → ∃ y, fo_lp b n s = some y ∧ P y := by
  intro n
  induction n with
  | zero => intro s _ h; exact absurd h (Nat.not_lt_zero _)
  | succ n ih =>
    intro s hI hm
    rcases step s hI with ⟨s', h1, h2, h3⟩ | ⟨y, h1, h2⟩
    · obtain ⟨y, hy, hP⟩ := ih s' h2 (by omega)
      exact ⟨y, by rw [fo_lp, h1]; exact hy, hP⟩
    · exact ⟨y, by rw [fo_lp, h1], h2⟩
def fo_FU : Nat := 100000
/-- an index in its bounds, as a test -/
abbrev fo_vi (x : Int32) (n : Nat) : Prop := ¬ (x < 0 ∨ n ≤ x.toNatClampNeg)
-- the registers of a world: ints and longs by kind, number, place
abbrev fo_S : Type := (Nat → Nat → Nat → Int32) × (Nat → Nat → Nat → Int64)
def fo_pI (σ : fo_S) (k i j : Nat) (v : Int32) : fo_S := (fun a b c => if a = k ∧ b = i ∧ c = j then v else σ.1 a b c, σ.2)
def fo_pJ (σ : fo_S) (k i j : Nat) (v : Int64) : fo_S := (σ.1, fun a b c => if a = k ∧ b = i ∧ c = j then v else σ.2 a b c)
/-- a whole row of ints, of longs -/
def fo_rI (σ : fo_S) (k i : Nat) (f : Nat → Int32) : fo_S := (fun a b c => if a = k ∧ b = i then f c else σ.1 a b c, σ.2)
def fo_rJ (σ : fo_S) (k i : Nat) (f : Nat → Int64) : fo_S := (σ.1, fun a b c => if a = k ∧ b = i then f c else σ.2 a b c)
theorem fo_pI_1 (σ : fo_S) (k i j : Nat) (v : Int32) : (fo_pI σ k i j v).1 k i = upd (σ.1 k i) j v := by
  funext c
  simp [fo_pI, upd]
theorem fo_pI_n {σ : fo_S} {k i j k' i' : Nat} {v : Int32} (h : ¬ (k' = k ∧ i' = i)) : (fo_pI σ k i j v).1 k' i' = σ.1 k' i' := by
  funext c
  show (if k' = k ∧ i' = i ∧ c = j then v else σ.1 k' i' c) = σ.1 k' i' c
  rw [if_neg (fun q => h ⟨q.1, q.2.1⟩)]
theorem fo_pJ_1 (σ : fo_S) (k i j : Nat) (v : Int64) : (fo_pJ σ k i j v).2 k i = vp_updL (σ.2 k i) j v := by
  funext c
  simp [fo_pJ, vp_updL]
theorem fo_pJ_n {σ : fo_S} {k i j k' i' : Nat} {v : Int64} (h : ¬ (k' = k ∧ i' = i)) : (fo_pJ σ k i j v).2 k' i' = σ.2 k' i' := by
  funext c
  show (if k' = k ∧ i' = i ∧ c = j then v else σ.2 k' i' c) = σ.2 k' i' c
  rw [if_neg (fun q => h ⟨q.1, q.2.1⟩)]
theorem fo_rI_1 (σ : fo_S) (k i : Nat) (f : Nat → Int32) : (fo_rI σ k i f).1 k i = f := by
  funext c
  simp [fo_rI]
theorem fo_rI_n {σ : fo_S} {k i k' i' : Nat} {f : Nat → Int32} (h : ¬ (k' = k ∧ i' = i)) : (fo_rI σ k i f).1 k' i' = σ.1 k' i' := by
  funext c
  show (if k' = k ∧ i' = i then f c else σ.1 k' i' c) = σ.1 k' i' c
  rw [if_neg h]
theorem fo_rJ_1 (σ : fo_S) (k i : Nat) (f : Nat → Int64) : (fo_rJ σ k i f).2 k i = f := by
  funext c
  simp [fo_rJ]
theorem fo_rJ_n {σ : fo_S} {k i k' i' : Nat} {f : Nat → Int64} (h : ¬ (k' = k ∧ i' = i)) : (fo_rJ σ k i f).2 k' i' = σ.2 k' i' := by
  funext c
  show (if k' = k ∧ i' = i then f c else σ.2 k' i' c) = σ.2 k' i' c
  rw [if_neg h]
-- a world of K cells, by places
def fo_vx (K : Nat) (ad : Nat → Nat) (e : Nat → va_E) : va_W := (List.range K).map (fun j => (ad j, e j))
theorem fo_vx_len (K : Nat) (ad : Nat → Nat) (e : Nat → va_E) : (fo_vx K ad e).length = K := by
  simp [fo_vx]
theorem fo_vx_at {K : Nat} {ad : Nat → Nat} {e : Nat → va_E} {j : Nat} (h : j < K) : (fo_vx K ad e)[j]? = some (ad j, e j) := by
  simp [fo_vx, h]
theorem fo_vx_get {K : Nat} {ad : Nat → Nat} {e : Nat → va_E} {j : Nat} {q : Nat × va_E} (h : (fo_vx K ad e)[j]? = some q) : j < K ∧ q = (ad j, e j) := by
  by_cases hj : j < K
  · rw [fo_vx_at hj] at h
    exact ⟨hj, (Option.some.inj h).symm⟩
  · rw [List.getElem?_eq_none (by rw [fo_vx_len]; omega)] at h
    cases h
theorem fo_vx_set {K : Nat} {ad : Nat → Nat} {e e' : Nat → va_E} {j : Nat} {x : va_E} (h : j < K) (hx : e' j = x) (hn : ∀ i, i < K → i ≠ j → e' i = e i) : (fo_vx K ad e).set j (ad j, x) = fo_vx K ad e' := by
  apply List.ext_getElem?
  intro i
  by_cases hi : i < K
  · rw [fo_vx_at hi, List.getElem?_set]
    by_cases hij : j = i
    · subst hij
      rw [if_pos rfl, if_pos (by rw [fo_vx_len]; exact hi), hx]
    · rw [if_neg hij, fo_vx_at hi, hn i hi (Ne.symm hij)]
  · rw [List.getElem?_eq_none (by rw [List.length_set, fo_vx_len]; omega), List.getElem?_eq_none (by rw [fo_vx_len]; omega)]
theorem fo_vx_D {A : Nat → Prop} {K : Nat} {ad : Nat → Nat} {e e' : Nat → va_E} (h : va_D A (fo_vx K ad e)) : va_D A (fo_vx K ad e') := by
  refine ⟨fun i j p q hp hq hpq => ?_, fun k q hq => ?_⟩
  · obtain ⟨hi, rfl⟩ := fo_vx_get hp
    obtain ⟨hj, rfl⟩ := fo_vx_get hq
    exact h.1 i j _ _ (fo_vx_at hi) (fo_vx_at hj) hpq
  · obtain ⟨hk, rfl⟩ := fo_vx_get hq
    exact h.2 k (ad k, e k) (fo_vx_at hk)
/-- which cells a method of the world may change: the world's, and new ones -/
def fo_A (K : Nat) (ad : Nat → Nat) (sz : Nat) : Nat → Prop := fun q => (∃ j, j < K ∧ q = ad j) ∨ sz ≤ q
theorem fo_A_D {A : Nat → Prop} {K : Nat} {ad : Nat → Nat} {e e' : Nat → va_E} {sz : Nat} (h : va_D A (fo_vx K ad e)) : va_D (fo_A K ad sz) (fo_vx K ad e') := by
  refine ⟨(fo_vx_D h).1, fun k q hq => ?_⟩
  obtain ⟨hk, rfl⟩ := fo_vx_get hq
  exact Or.inl ⟨k, hk, rfl⟩
theorem fo_A_le {K : Nat} {ad : Nat → Nat} {a b q : Nat} (h : a ≤ b) (hq : fo_A K ad b q) : fo_A K ad a q := by
  rcases hq with hq | hq
  · exact Or.inl hq
  · exact Or.inr (Nat.le_trans h hq)
/-- a contract's start and ends, over a world -/
def fo_Pre (K : Nat) (D : va_G) (cl : List vw_C) (tys : List (ClassId × FieldType)) (ad : Nat → Nat) (e : Nat → va_E) (sz : Nat) (av : List Value) : Array Value → State → Prop :=
  va_Pc av (fun U => U.heap.size = sz ∧ va_P D cl (fo_vx K ad e) U.heap ∧ va_K D cl tys U ∧ va_D (fun _ => True) (fo_vx K ad e))
def fo_Bh (K : Nat) (D : va_G) (cl : List vw_C) (tys : List (ClassId × FieldType)) (ad : Nat → Nat) (e : Nat → va_E) : Unit → State → Prop := fun _ t => va_P D cl (fo_vx K ad e) t.heap ∧ va_K D cl tys t
def fo_PoI (K : Nat) (D : va_G) (cl : List vw_C) (tys : List (ClassId × FieldType)) (ad : Nat → Nat) (e : Nat → va_E) (sz : Nat) (r : Int32) : Array Value → State → Outcome → State → Prop :=
  va_Qi (fun r' (_ : Unit) => r' = r) (fo_Bh K D cl tys ad e) (fo_A K ad sz)
def fo_PoL (K : Nat) (D : va_G) (cl : List vw_C) (tys : List (ClassId × FieldType)) (ad : Nat → Nat) (e : Nat → va_E) (sz : Nat) (r : Int64) : Array Value → State → Outcome → State → Prop :=
  va_Ql (fun r' (_ : Unit) => r' = r) (fo_Bh K D cl tys ad e) (fo_A K ad sz)
def fo_PoV (K : Nat) (D : va_G) (cl : List vw_C) (tys : List (ClassId × FieldType)) (ad : Nat → Nat) (e : Nat → va_E) (sz : Nat) : Array Value → State → Outcome → State → Prop :=
  va_Qv (fun (_ : Unit) => True) (fo_Bh K D cl tys ad e) (fo_A K ad sz)
theorem fo_Pre_blind {K : Nat} {D : va_G} {cl : List vw_C} {tys : List (ClassId × FieldType)} {ad : Nat → Nat} {e : Nat → va_E} {sz : Nat} {av : List Value} : FrameBlind (fo_Pre K D cl tys ad e sz av) := by
  intro a U g mk q
  obtain ⟨q0, q1, qP, qK, qD⟩ := q
  exact ⟨q0, q1, qP, va_K.moved (u := U) (U := U.calling g mk a) (Vm.Alike.refl U.vm) qK, qD⟩
theorem fo_Pre_at {K : Nat} {D : va_G} {cl : List vw_C} {tys : List (ClassId × FieldType)} {ad : Nat → Nat} {e : Nat → va_E} {av : List Value} {s : State} {H : Heap} {A : Nat → Prop} (hP : va_P D cl (fo_vx K ad e) H) (hK : va_K D cl tys s) (hD : va_D A (fo_vx K ad e)) : ∀ U : State, U.heap = H → s.WarmedH U.vm → fo_Pre K D cl tys ad e H.size av av.toArray U := by
  intro U hU hW
  exact ⟨rfl, by rw [hU], by rw [hU]; exact hP, va_K.moved hW.alike hK, hD.weaken (fun _ _ _ _ => trivial)⟩
section FOC
variable {p : Program} {l : Launch} {e : Env} {R : Room} {s : State} {m : MethodId} {args : Array Value} {below : List Frame} {meth : Method} {c : Code} {H : Heap} {locs : List Loc} {cells slots : Nat} {Q : State → Prop}
variable {pc : Nat} {ls : Array Slot} {rest st0 : List Value} {a : Array Value} {K : Nat} {D : va_G} {cl : List vw_C} {tys : List (ClassId × FieldType)} {ad : Nat → Nat} {e1 : Nat → va_E}
/-- behind a call inside a world -/
theorem fo_calli {r : Int32} (hr : va_Run p l e R s m args below meth c H locs cells slots 0 0 (F0 m pc ls st0) rest (fo_PoI K D cl tys ad e1 H.size r a) (fo_A K ad H.size)) (hS : va_S (fo_A K ad s.heap.size) s.heap H locs)
    (kk : ∀ (H1 : Heap) (locs1 : List Loc), va_P D cl (fo_vx K ad e1) H1 → va_S (fo_A K ad s.heap.size) s.heap H1 locs1 → W p l e R s m args below meth c H1 locs1 cells slots Q (F0 m (pc + 3) ls (.int r :: rest))) : W p l e R s m args below meth c H locs cells slots Q (F0 m pc ls st0) := by
  refine va_calli hr hS (fun q _ h => fo_A_le hS.1 h) (fun q h => fo_A_le hS.1 h) (fun r1 u t H1 locs1 ht hvm hw hB hz hk hS1 => ?_)
  obtain ⟨hP1, hK1⟩ := hB
  rw [ht] at hP1
  subst hw
  exact kk H1 locs1 hP1 hS1
theorem fo_calll {r : Int64} (hr : va_Run p l e R s m args below meth c H locs cells slots 0 0 (F0 m pc ls st0) rest (fo_PoL K D cl tys ad e1 H.size r a) (fo_A K ad H.size)) (hS : va_S (fo_A K ad s.heap.size) s.heap H locs)
    (kk : ∀ (H1 : Heap) (locs1 : List Loc), va_P D cl (fo_vx K ad e1) H1 → va_S (fo_A K ad s.heap.size) s.heap H1 locs1 → W p l e R s m args below meth c H1 locs1 cells slots Q (F0 m (pc + 3) ls (.long r :: rest))) : W p l e R s m args below meth c H locs cells slots Q (F0 m pc ls st0) := by
  refine va_calll hr hS (fun q _ h => fo_A_le hS.1 h) (fun q h => fo_A_le hS.1 h) (fun r1 u t H1 locs1 ht hvm hw hB hz hk hS1 => ?_)
  obtain ⟨hP1, hK1⟩ := hB
  rw [ht] at hP1
  subst hw
  exact kk H1 locs1 hP1 hS1
theorem fo_callv (hr : va_Run p l e R s m args below meth c H locs cells slots 0 0 (F0 m pc ls st0) rest (fo_PoV K D cl tys ad e1 H.size a) (fo_A K ad H.size)) (hS : va_S (fo_A K ad s.heap.size) s.heap H locs)
    (kk : ∀ (H1 : Heap) (locs1 : List Loc), va_P D cl (fo_vx K ad e1) H1 → va_S (fo_A K ad s.heap.size) s.heap H1 locs1 → W p l e R s m args below meth c H1 locs1 cells slots Q (F0 m (pc + 3) ls rest)) : W p l e R s m args below meth c H locs cells slots Q (F0 m pc ls st0) := by
  refine va_callv hr hS (fun q _ h => fo_A_le hS.1 h) (fun q h => fo_A_le hS.1 h) (fun u t H1 locs1 ht hvm hw hB hz hk hS1 => ?_)
  obtain ⟨hP1, hK1⟩ := hB
  rw [ht] at hP1
  exact kk H1 locs1 hP1 hS1
end FOC
theorem fo_in {x : Int32} {n : Nat} (h : vp_in x n) : x.toNatClampNeg < n := Nat.not_le.mp fun q => h (Or.inr q)
theorem fo_zn {x : Int32} (h : x = 0 ∨ x = 1) : narrow .boolean (.int x) = .int x := by
  rcases h with rfl | rfl <;> rfl
def fo_fil {α : Type} (f : Nat → α) (n : Nat) (v : α) : Nat → α := fun j => if j < n then v else f j
-- worlds that grow
theorem fo_vx_push {K : Nat} {ad : Nat → Nat} {e : Nat → va_E} {q : Nat} {x : va_E} : fo_vx K ad e ++ [(q, x)] = fo_vx (K + 1) (va_up ad K q) (va_up e K x) := by
  unfold fo_vx
  rw [List.range_succ, List.map_append]
  congr 1
  · apply List.map_congr_left
    intro j hj
    have h : j ≠ K := Nat.ne_of_lt (List.mem_range.mp hj)
    simp [va_up, h]
  · simp [va_up]
theorem fo_up_lt {α : Type} {f : Nat → α} {K j : Nat} {x : α} (h : j < K) : va_up f K x j = f j := by
  simp [va_up, Nat.ne_of_lt h]
theorem fo_up_eq {α : Type} {f : Nat → α} {K : Nat} {x : α} : va_up f K x K = x := by
  simp [va_up]
theorem fo_vx_up {K : Nat} {ad : Nat → Nat} {e : Nat → va_E} {j a : Nat} {x : va_E} (h : j < K) (ha : ad j = a) : (fo_vx K ad e).set j (a, x) = fo_vx K ad (va_up e j x) := by
  subst ha
  refine fo_vx_set h fo_up_eq (fun i _ hne => ?_)
  simp [va_up, hne]
theorem fo_vx_ext {K : Nat} {ad : Nat → Nat} {e e' : Nat → va_E} (h : ∀ j, j < K → e j = e' j) : fo_vx K ad e = fo_vx K ad e' := by
  unfold fo_vx
  apply List.map_congr_left
  intro j hj
  rw [h j (List.mem_range.mp hj)]
theorem fo_A_sub {A0 : Nat → Prop} {K : Nat} {ad : Nat → Nat} {e : Nat → va_E} {H0 H : Heap} {locs : List Loc} (hD : va_D A0 (fo_vx K ad e)) (hS : va_S A0 H0 H locs) (hA : ∀ q, H0.size ≤ q → A0 q) : ∀ q, fo_A K ad H.size q → A0 q := by
  intro q hq
  rcases hq with ⟨j, hj, rfl⟩ | hq
  · exact hD.2 j _ (fo_vx_at hj)
  · exact hA q (Nat.le_trans hS.1 hq)
section FOG
variable {p : Program} {l : Launch} {e : Env} {R : Room} {s : State} {m : MethodId} {args : Array Value} {below : List Frame} {meth : Method} {c : Code} {H : Heap} {locs : List Loc} {cells slots : Nat} {Q : State → Prop}
variable {cc : ByteArray} {pc : Nat} {ls : Array Slot} {rest : List Value} {D : va_G} {cl : List vw_C} {tys : List (ClassId × FieldType)} {A : Nat → Prop} {H0 : Heap} {K : Nat} {ad : Nat → Nat} {e1 : Nat → va_E}
/-- a new array of a primitive type whose class is known -/
theorem fo_newa {atype : ArrayType} {ty : FieldType} {cA0 : ClassId} (hx : p.tables.exec = Jvm.exec) (hb : c.code = cc) (harr : (Cond.arrayClass (newarray.typeOf atype)).before args s = true) (hty : newarray.typeOf atype = ty) (hK : va_K D cl tys s) (t0 : Nat) (ht : tys[t0]? = some (cA0, ty)) (hra : ∀ cA : ClassId, va_RA s cA ty → va_RA s cA0 ty → cA = cA0) (hP : va_P D cl (fo_vx K ad e1) H) (hD : va_D A (fo_vx K ad e1)) (hS : va_S A H0 H locs) (hA : ∀ q, H0.size ≤ q → A q)
    {n : Int32} {N' : Nat} {a0 : vp_A} (ha : ∀ cA : ClassId, vp_cell cA a0 = arrV cA N' (fun _ => defaultValue ty)) (hn : ¬ n < 0) (hN : n.toNatClampNeg = N') (hbytes : N' * componentBytes ty ≤ 536870912) (hcells : cells + 1 ≤ R.cells) (hslots : slots + N' ≤ R.slots) (hdg : decode cc pc = .ok (.newarray atype, 2))
    (kk : ∀ (q : Nat) (H1 : Heap), va_P D cl (fo_vx (K + 1) (va_up ad K q) (va_up e1 K (.inl (cA0, a0)))) H1 → va_D A (fo_vx (K + 1) (va_up ad K q) (va_up e1 K (.inl (cA0, a0)))) → va_S A H0 H1 locs → W p l e R s m args below meth c H1 locs (cells + 1) (slots + N') Q (F0 m (pc + 2) ls (.ref q :: rest))) : W p l e R s m args below meth c H locs cells slots Q (F0 m pc ls (.int n :: rest)) := by
  refine va_newa hx hb harr hty hK hP hD hS hA ha hn hN hbytes hcells hslots hdg (fun q cA H1 hK1 hP1 hD1 hS1 => ?_)
  have h1 := (hK1.2 tys.length (cA, ty) (by simp)).2
  have h2 := (hK.2 t0 _ ht).2
  have hc : cA = cA0 := hra cA h1 h2
  subst hc
  rw [fo_vx_push] at hP1 hD1
  exact kk q H1 hP1 hD1 hS1
theorem fo_new {own C : String} {T : u_T} {N ci index : Nat} {Ts : List Cond} (hx : p.tables.exec = Jvm.exec) (hb : c.code = cc) (hts : ∀ w ∈ Ts, w.before args s = true) (hin : ∀ w ∈ u_ws C T N, w ∈ Ts) (ty : Nat → FieldType) (hty : ∀ k, k < N → parseFieldDescriptor (T k).2.2.1 = some (ty k)) (hown : s.vm.findClass own = some m.cls) (hcl : (Cond.classLink own index C).before args s = true) (hinst : (Cond.instantiable C N).before args s = true) (hini : (Cond.initialized C).before args s = true)
    (hK : va_K D cl tys s) (hP : va_P D cl (fo_vx K ad e1) H) (hD : va_D A (fo_vx K ad e1)) (hS : va_S A H0 H locs) (hA : ∀ q, H0.size ≤ q → A q) (hc : cl[ci]? = some (C, T, N)) {fs : List Value} (hfs : ∀ j, j < N → defaultValue (ty j) = vp_V fs j) (hcells : cells + 1 ≤ R.cells) (hslots : slots + N ≤ R.slots) (hdg : decode cc pc = .ok (.new index, 3))
    (kk : ∀ (q : Nat) (H1 : Heap), va_P D cl (fo_vx (K + 1) (va_up ad K q) (va_up e1 K (.inr (ci, fs)))) H1 → va_D A (fo_vx (K + 1) (va_up ad K q) (va_up e1 K (.inr (ci, fs)))) → va_S A H0 H1 locs → W p l e R s m args below meth c H1 locs (cells + 1) (slots + N) Q (F0 m (pc + 3) ls (.ref q :: rest))) : W p l e R s m args below meth c H locs cells slots Q (F0 m pc ls rest) := by
  refine va_new hx hb hts hin ty hty hown hcl hinst hini hK hP hD hS hA hc hfs hcells hslots hdg (fun q H1 hP1 hD1 hS1 => ?_)
  rw [fo_vx_push] at hP1 hD1
  exact kk q H1 hP1 hD1 hS1
theorem fo_putF {own ref C : String} {T : u_T} {N ci index : Nat} {Ts : List Cond} (hx : p.tables.exec = Jvm.exec) (hb : c.code = cc) (hts : ∀ w ∈ Ts, w.before args s = true) (hin : ∀ w ∈ u_ws C T N, w ∈ Ts) (ty0 : Nat → FieldType) (hty : ∀ k, k < N → parseFieldDescriptor (T k).2.2.1 = some (ty0 k)) (hnm : ∀ a, a < N → ∀ b, b < N → a ≠ b → (T a).2.1 ≠ (T b).2.1) (hown : s.vm.findClass own = some m.cls) (hK : va_K D cl tys s) (hP : va_P D cl (fo_vx K ad e1) H) (hD : va_D A (fo_vx K ad e1)) (hS : va_S A H0 H locs) (j : Nat) {a : Nat} (hj : j < K) (ha : ad j = a) {fs : List Value} (hej : e1 j = .inr (ci, fs)) (hc : cl[ci]? = some (C, T, N)) (k : Nat) (hk : k < N) (hlink : (Cond.fieldLink own index ref (T k).2.1 (T k).2.2.1).before args s = true) (hsame : ∀ x, s.fieldFound? (T k).1 (T k).2.1 (T k).2.2.1 = some x → s.fieldFound? ref (T k).2.1 (T k).2.2.1 = some x) (hfin : (T k).2.2.2 = true) (hin2 : meth.name = "<init>") (hdecl : (T k).1 = own) {ty : FieldType} {v : Value} (hd : parseFieldDescriptor (T k).2.2.1 = some ty) (hn : narrow ty v = v) (hfit : fits ty v = true) (hl : k < fs.length) (hdg : decode cc pc = .ok (.putfield index, 3))
    (kk : ∀ (H1 : Heap) (locs1 : List Loc), va_P D cl (fo_vx K ad (va_up e1 j (.inr (ci, fs.set k v)))) H1 → va_D A (fo_vx K ad (va_up e1 j (.inr (ci, fs.set k v)))) → va_S A H0 H1 locs1 → W p l e R s m args below meth c H1 locs1 cells slots Q (F0 m (pc + 3) ls rest)) : W p l e R s m args below meth c H locs cells slots Q (F0 m pc ls (v :: .ref a :: rest)) := by
  refine va_putF hx hb hts hin ty0 hty hnm hown hK hP hD hS j (by rw [fo_vx_at hj, ha, hej]) hc k hk hlink hsame hfin hin2 hdecl hd hn hfit hl hdg (fun H1 locs1 hP1 hD1 hS1 => ?_)
  rw [fo_vx_up hj ha] at hP1 hD1
  exact kk H1 locs1 hP1 hD1 hS1
theorem fo_newq {own C : String} {index : Nat} {cA0 : ClassId} (hx : p.tables.exec = Jvm.exec) (hb : c.code = cc) (hown : s.vm.findClass own = some m.cls) (hcl : (Cond.classLink own index C).before args s = true) (hover : va_AO C s) (hK : va_K D cl tys s) (t0 : Nat) (ht : tys[t0]? = some (cA0, .object C)) (hP : va_P D cl (fo_vx K ad e1) H) (hD : va_D A (fo_vx K ad e1)) (hS : va_S A H0 H locs) (hA : ∀ q, H0.size ≤ q → A q)
    {n : Int32} {N' : Nat} (hn : ¬ n < 0) (hN : n.toNatClampNeg = N') (hbytes : N' * 4 ≤ 536870912) (hcells : cells + 1 ≤ R.cells) (hslots : slots + N' ≤ R.slots) (hdg : decode cc pc = .ok (.anewarray index, 3))
    (kk : ∀ (q : Nat) (H1 : Heap), va_P D cl (fo_vx (K + 1) (va_up ad K q) (va_up e1 K (.inl (cA0, N', .inr (.inr (.inr (.inr (fun _ => none)))))))) H1 → va_D A (fo_vx (K + 1) (va_up ad K q) (va_up e1 K (.inl (cA0, N', .inr (.inr (.inr (.inr (fun _ => none)))))))) → va_S A H0 H1 locs → W p l e R s m args below meth c H1 locs (cells + 1) (slots + N') Q (F0 m (pc + 3) ls (.ref q :: rest))) : W p l e R s m args below meth c H locs cells slots Q (F0 m pc ls (.int n :: rest)) := by
  refine va_newq hx hb hown hcl hover hK hP hD hS hA hn hN hbytes hcells hslots hdg (fun q cA H1 hK1 hP1 hD1 hS1 => ?_)
  obtain ⟨kA, comp, a1, a2, a3, a4⟩ := (hK1.2 tys.length (cA, .object C) (by simp)).2
  obtain ⟨kA', comp', b1, b2, b3, b4⟩ := (hK.2 t0 _ ht).2
  have hc : cA = cA0 := Option.some.inj (a4.symm.trans b4)
  subst hc
  rw [fo_vx_push] at hP1 hD1
  exact kk q H1 hP1 hD1 hS1
end FOG
section FOG2
variable {p : Program} {l : Launch} {e : Env} {R : Room} {s : State} {m : MethodId} {args : Array Value} {below : List Frame} {meth : Method} {c : Code} {H : Heap} {locs : List Loc} {cells slots : Nat} {Q : State → Prop}
variable {cc : ByteArray} {pc : Nat} {ls : Array Slot} {rest : List Value} {D : va_G} {cl : List vw_C} {tys : List (ClassId × FieldType)} {A : Nat → Prop} {H0 : Heap} {K : Nat} {ad : Nat → Nat} {e1 : Nat → va_E}
theorem fo_astq (hx : p.tables.exec = Jvm.exec) (hb : c.code = cc) (hK : va_K D cl tys s) (hP : va_P D cl (fo_vx K ad e1) H) (hD : va_D A (fo_vx K ad e1)) (hS : va_S A H0 H locs) (j jk t0 ci : Nat) (hj : j < K) (hjk : jk < K) {a v : Nat} (ha : ad j = a) (hv : ad jk = v) {cA : ClassId} {r : vw_C} {n : Nat} {vs : List Value} {f : Nat → Option Nat} (hej : e1 j = .inl (cA, n, .inr (.inr (.inr (.inr f))))) (ht : tys[t0]? = some (cA, .object r.1)) (hek : e1 jk = .inr (ci, vs)) (hc : cl[ci]? = some r) {i : Int32} (hin : vp_in i n) (hdg : decode cc pc = .ok (.aastore, 1))
    (kk : ∀ (H1 : Heap) (locs1 : List Loc), va_P D cl (fo_vx K ad (va_up e1 j (.inl (cA, n, .inr (.inr (.inr (.inr (va_up f i.toNatClampNeg (some v))))))))) H1 → va_D A (fo_vx K ad (va_up e1 j (.inl (cA, n, .inr (.inr (.inr (.inr (va_up f i.toNatClampNeg (some v))))))))) → va_S A H0 H1 locs1 → W p l e R s m args below meth c H1 locs1 cells slots Q (F0 m (pc + 1) ls rest)) : W p l e R s m args below meth c H locs cells slots Q (F0 m pc ls (.ref v :: .int i :: .ref a :: rest)) := by
  refine va_astq hx hb hK hP hD hS j t0 jk ci (by rw [fo_vx_at hj, ha, hej]) ht (by rw [fo_vx_at hjk, hv, hek]) hc hin hdg (fun H1 locs1 hP1 hD1 hS1 => ?_)
  rw [fo_vx_up hj ha] at hP1 hD1
  exact kk H1 locs1 hP1 hD1 hS1
end FOG2
end
section
theorem fo_cpn {args : Array Value} {s : State} (hT : ∀ w ∈ fo_T, w.before args s = true) : (Cond.native arraycopyName).before args s = true := hT _ (fo_tb 484 (by decide +kernel) rfl)
theorem fo_cps {args : Array Value} {s : State} (hT : ∀ w ∈ fo_T, w.before args s = true) : (Cond.static arraycopyName).before args s = true := hT _ (fo_tb 483 (by decide +kernel) rfl)
theorem fo_cpi {args : Array Value} {s : State} (hT : ∀ w ∈ fo_T, w.before args s = true) : (Cond.initialized "java/lang/System").before args s = true := hT _ (fo_tb 11 (by decide +kernel) rfl)
theorem fo_oi {args : Array Value} {s : State} (hT : ∀ w ∈ fo_T, w.before args s = true) : (Cond.instanceMethod objectInit).before args s = true := hT _ (fo_tb 18 (by decide +kernel) rfl)
theorem fo_oc {args : Array Value} {s : State} (hT : ∀ w ∈ fo_T, w.before args s = true) : (Cond.code objectInit ⟨#[0xb1]⟩ 1 none).before args s = true := hT _ (fo_tb 19 (by decide +kernel) rfl)
theorem fo_acI {args : Array Value} {s : State} (hT : ∀ w ∈ fo_T, w.before args s = true) : (Cond.arrayClass (newarray.typeOf .int)).before args s = true := hT _ (fo_tb 56 (by decide +kernel) rfl)
theorem fo_acJ {args : Array Value} {s : State} (hT : ∀ w ∈ fo_T, w.before args s = true) : (Cond.arrayClass (newarray.typeOf .long)).before args s = true := hT _ (fo_tb 36 (by decide +kernel) rfl)
theorem fo_acZ {args : Array Value} {s : State} (hT : ∀ w ∈ fo_T, w.before args s = true) : (Cond.arrayClass (newarray.typeOf .boolean)).before args s = true := hT _ (fo_tb 89 (by decide +kernel) rfl)
theorem fo_o0 {args : Array Value} {s : State} (hT : ∀ w ∈ fo_T, w.before args s = true) : (Cond.methodLink RX0 3 objectInit).before args s = true := hT _ (fo_tb 17 (by decide +kernel) rfl)
theorem fo_o1 {args : Array Value} {s : State} (hT : ∀ w ∈ fo_T, w.before args s = true) : (Cond.methodLink RX1 3 objectInit).before args s = true := hT _ (fo_tb 94 (by decide +kernel) rfl)
theorem fo_o2 {args : Array Value} {s : State} (hT : ∀ w ∈ fo_T, w.before args s = true) : (Cond.methodLink RX2 3 objectInit).before args s = true := hT _ (fo_tb 25 (by decide +kernel) rfl)
theorem fo_o3 {args : Array Value} {s : State} (hT : ∀ w ∈ fo_T, w.before args s = true) : (Cond.methodLink RX3 3 objectInit).before args s = true := hT _ (fo_tb 44 (by decide +kernel) rfl)
theorem fo_o4 {args : Array Value} {s : State} (hT : ∀ w ∈ fo_T, w.before args s = true) : (Cond.methodLink RX4 3 objectInit).before args s = true := hT _ (fo_tb 62 (by decide +kernel) rfl)
theorem fo_o5 {args : Array Value} {s : State} (hT : ∀ w ∈ fo_T, w.before args s = true) : (Cond.methodLink RX5 3 objectInit).before args s = true := hT _ (fo_tb 72 (by decide +kernel) rfl)
theorem fo_o6 {args : Array Value} {s : State} (hT : ∀ w ∈ fo_T, w.before args s = true) : (Cond.methodLink RX6 1 objectInit).before args s = true := hT _ (fo_tb 529 (by decide +kernel) rfl)
end
section
def fo_base : Nat → Nat := fun k => match k with
  | 0 => 0
  | 1 => 1
  | 2 => 2
  | 3 => 3
  | 4 => 7
  | 5 => 8
  | 6 => 9
  | 7 => 12
  | 8 => 13
  | 9 => 14
  | 10 => 15
  | 11 => 16
  | 12 => 17
  | 13 => 18
  | 14 => 19
  | 15 => 20
  | _ => 0
def fo_cnt : Nat → Nat := fun k => match k with
  | 0 => 1
  | 1 => 2
  | 2 => 2
  | 3 => 2
  | 4 => 1
  | 5 => 2
  | 6 => 2
  | 7 => 1
  | 8 => 1
  | 9 => 1
  | 10 => 1
  | 11 => 1
  | 12 => 1
  | 13 => 1
  | 14 => 16
  | 15 => 16
  | _ => 0
def fo_str : Nat → Nat := fun k => match k with
  | 0 => 0
  | 1 => 3
  | 2 => 3
  | 3 => 3
  | 4 => 0
  | 5 => 2
  | 6 => 2
  | 7 => 0
  | 8 => 0
  | 9 => 0
  | 10 => 0
  | 11 => 0
  | 12 => 0
  | 13 => 0
  | 14 => 2
  | 15 => 2
  | _ => 0
def fo_lay (k i : Nat) : Nat := fo_base k + fo_str k * i
def fo_tab : List (Nat × Nat) := [(0, 0), (1, 0), (2, 0), (3, 0), (1, 1), (2, 1), (3, 1), (4, 0), (5, 0), (6, 0), (5, 1), (6, 1), (7, 0), (8, 0), (9, 0), (10, 0), (11, 0), (12, 0), (13, 0), (14, 0), (15, 0), (14, 1), (15, 1), (14, 2), (15, 2), (14, 3), (15, 3), (14, 4), (15, 4), (14, 5), (15, 5), (14, 6), (15, 6), (14, 7), (15, 7), (14, 8), (15, 8), (14, 9), (15, 9), (14, 10), (15, 10), (14, 11), (15, 11), (14, 12), (15, 12), (14, 13), (15, 13), (14, 14), (15, 14), (14, 15), (15, 15)]
def fo_kd (j : Nat) : Nat × Nat := fo_tab.getD j (0, 0)
theorem fo_tabA : ∀ k, k < 16 → ∀ i, i < fo_cnt k → fo_lay k i < 51 ∧ fo_kd (fo_lay k i) = (k, i) := by decide +kernel
theorem fo_tabB : ∀ j, j < 51 → (fo_kd j).1 < 16 ∧ (fo_kd j).2 < fo_cnt (fo_kd j).1 ∧ fo_lay (fo_kd j).1 (fo_kd j).2 = j := by decide +kernel
def fo_row (ca : Nat → ClassId) (ad : Nat → Nat) (I : Nat → Int32) (J : Nat → Int64) (k i : Nat) : va_E := match k with
  | 0 => .inr (0, [.ref (ad (fo_lay 1 0)), .ref (ad (fo_lay 1 1)), .ref (ad (fo_lay 4 0)), .ref (ad (fo_lay 5 0)), .ref (ad (fo_lay 5 1)), .ref (ad (fo_lay 7 0)), .ref (ad (fo_lay 8 0)), .ref (ad (fo_lay 10 0)), .int (I 8), .int (I 9), .int (I 10), .int (I 11), .long (J 12), .int (I 13), .int (I 14)])
  | 1 => .inr (2, [.ref (ad (fo_lay 2 i)), .ref (ad (fo_lay 3 i))])
  | 2 => .inl (ca 1, 9, .inr (.inl J))
  | 3 => .inl (ca 1, 9, .inr (.inl J))
  | 4 => .inl (ca 3, 16, .inr (.inr (.inr (.inr (fun q => some (ad (fo_lay 14 q)))))))
  | 5 => .inr (3, [.ref (ad (fo_lay 6 i)), .int (I 1)])
  | 6 => .inl (ca 0, 16, .inl I)
  | 7 => .inl (ca 0, 16, .inl I)
  | 8 => .inr (4, [.ref (ad (fo_lay 9 i))])
  | 9 => .inl (ca 0, 16, .inl I)
  | 10 => .inr (5, [.ref (ad (fo_lay 11 i)), .ref (ad (fo_lay 12 i)), .ref (ad (fo_lay 13 i)), .long (J 3), .long (J 4)])
  | 11 => .inl (ca 2, 16, .inl I)
  | 12 => .inl (ca 1, 8, .inr (.inl J))
  | 13 => .inl (ca 1, 8, .inr (.inl J))
  | 14 => .inr (1, [.ref (ad (fo_lay 15 i)), .int (I 1), .long (J 2), .long (J 3), .int (I 4), .int (I 5), .int (I 6), .int (I 7), .int (I 8), .long (J 9)])
  | 15 => .inl (ca 0, 5, .inl I)
  | _ => .inr (0, [])
def fo_ck (ca : Nat → ClassId) (ad : Nat → Nat) (σ : fo_S) (k i : Nat) : va_E := fo_row ca ad (σ.1 k i) (σ.2 k i) k i
def fo_ce (ca : Nat → ClassId) (ad : Nat → Nat) (σ : fo_S) (j : Nat) : va_E := fo_ck ca ad σ (fo_kd j).1 (fo_kd j).2
abbrev fo_tys (ca : Nat → ClassId) : List (ClassId × FieldType) := [(ca 0, .int), (ca 1, .long), (ca 2, .boolean), (ca 3, .object "FairOrder$Call")]
theorem fo_at {ca : Nat → ClassId} {ad : Nat → Nat} {σ : fo_S} {k i : Nat} (hk : k < 16) (hi : i < fo_cnt k) : (fo_vx 51 ad (fo_ce ca ad σ))[fo_lay k i]? = some (ad (fo_lay k i), fo_row ca ad (σ.1 k i) (σ.2 k i) k i) := by
  obtain ⟨h1, h2⟩ := fo_tabA k hk i hi
  rw [fo_vx_at h1, fo_ce, h2, fo_ck]
theorem fo_set {ca : Nat → ClassId} {ad : Nat → Nat} {σ σ' : fo_S} {k i : Nat} {x : va_E} (hk : k < 16) (hi : i < fo_cnt k) (hx : fo_row ca ad (σ'.1 k i) (σ'.2 k i) k i = x) (h1 : ∀ k' i', ¬ (k' = k ∧ i' = i) → σ'.1 k' i' = σ.1 k' i') (h2 : ∀ k' i', ¬ (k' = k ∧ i' = i) → σ'.2 k' i' = σ.2 k' i') : (fo_vx 51 ad (fo_ce ca ad σ)).set (fo_lay k i) (ad (fo_lay k i), x) = fo_vx 51 ad (fo_ce ca ad σ') := by
  obtain ⟨q1, q2⟩ := fo_tabA k hk i hi
  refine fo_vx_set q1 ?_ ?_
  · rw [fo_ce, q2, fo_ck]
    exact hx
  · intro j hj hne
    obtain ⟨b1, b2, b3⟩ := fo_tabB j hj
    have hn : ¬ ((fo_kd j).1 = k ∧ (fo_kd j).2 = i) := fun q => hne (by rw [← b3, q.1, q.2])
    rw [fo_ce, fo_ce, fo_ck, fo_ck, h1 _ _ hn, h2 _ _ hn]
theorem fo_setI {ca : Nat → ClassId} {ad : Nat → Nat} {σ : fo_S} {k i j : Nat} {v : Int32} {x : va_E} (hk : k < 16) (hi : i < fo_cnt k) (hx : fo_row ca ad (upd (σ.1 k i) j v) (σ.2 k i) k i = x) : (fo_vx 51 ad (fo_ce ca ad σ)).set (fo_lay k i) (ad (fo_lay k i), x) = fo_vx 51 ad (fo_ce ca ad (fo_pI σ k i j v)) :=
  fo_set hk hi (by rw [fo_pI_1]; exact hx) (fun _ _ h => fo_pI_n h) (fun _ _ _ => rfl)
theorem fo_setJ {ca : Nat → ClassId} {ad : Nat → Nat} {σ : fo_S} {k i j : Nat} {v : Int64} {x : va_E} (hk : k < 16) (hi : i < fo_cnt k) (hx : fo_row ca ad (σ.1 k i) (vp_updL (σ.2 k i) j v) k i = x) : (fo_vx 51 ad (fo_ce ca ad σ)).set (fo_lay k i) (ad (fo_lay k i), x) = fo_vx 51 ad (fo_ce ca ad (fo_pJ σ k i j v)) :=
  fo_set hk hi (by rw [fo_pJ_1]; exact hx) (fun _ _ _ => rfl) (fun _ _ h => fo_pJ_n h)
theorem fo_setrI {ca : Nat → ClassId} {ad : Nat → Nat} {σ : fo_S} {k i : Nat} {f : Nat → Int32} {x : va_E} (hk : k < 16) (hi : i < fo_cnt k) (hx : fo_row ca ad f (σ.2 k i) k i = x) : (fo_vx 51 ad (fo_ce ca ad σ)).set (fo_lay k i) (ad (fo_lay k i), x) = fo_vx 51 ad (fo_ce ca ad (fo_rI σ k i f)) :=
  fo_set hk hi (by rw [fo_rI_1]; exact hx) (fun _ _ h => fo_rI_n h) (fun _ _ _ => rfl)
theorem fo_setrJ {ca : Nat → ClassId} {ad : Nat → Nat} {σ : fo_S} {k i : Nat} {f : Nat → Int64} {x : va_E} (hk : k < 16) (hi : i < fo_cnt k) (hx : fo_row ca ad (σ.1 k i) f k i = x) : (fo_vx 51 ad (fo_ce ca ad σ)).set (fo_lay k i) (ad (fo_lay k i), x) = fo_vx 51 ad (fo_ce ca ad (fo_rJ σ k i f)) :=
  fo_set hk hi (by rw [fo_rJ_1]; exact hx) (fun _ _ _ => rfl) (fun _ _ h => fo_rJ_n h)
def fo_CX (p : Program) (s : State) (m : MethodId) (args : Array Value) (c : Code) (cc : ByteArray) (nL : Nat) (own : String) (D : va_G) (ca : Nat → ClassId) (ad : Nat → Nat) : Prop :=
  p.tables.exec = Jvm.exec ∧ c.code = cc ∧ c.maxLocals = nL ∧ s.vm.findClass own = some m.cls ∧ (∀ w ∈ fo_T, w.before args s = true) ∧ va_K D vwCl (fo_tys ca) s ∧ ∀ e, va_D (fo_A 51 ad s.heap.size) (fo_vx 51 ad e)
theorem fo_mkI {l : Launch} {y : MethodName} {cc : ByteArray} {maxL : Nat} {rm : Room} {D : va_G} {ca : Nat → ClassId} {ad : Nat → Nat} {e0 e1 : Nat → va_E} {sz : Nat} {r : Int32} {av : List Value} (hy : plainName y.cls = true)
    (body : ∀ {p : Program} {e : Env} {s : State} {m : MethodId} {args : Array Value} {below : List Frame} {meth : Method} {c : Code} {Q : State → Prop}, fo_CX p s m args c cc maxL y.cls D ca ad → (∀ (pc : Nat) (ls : Array Slot) (H : Heap) (locs : List Loc), decode cc pc = .ok (.ireturn, 1) → va_P D vwCl (fo_vx 51 ad e1) H → va_S (fo_A 51 ad s.heap.size) s.heap H locs → W p l e rm s m args below meth c H locs 0 0 Q (F0 m pc ls [.int r])) → va_P D vwCl (fo_vx 51 ad e0) s.heap → W p l e rm s m args below meth c s.heap [] 0 0 Q (entryFrame m av.toArray maxL)) :
    Met l y (.code y cc maxL (some .int) :: fo_T) rm (fo_Pre 51 D vwCl (fo_tys ca) ad e0 sz av) (fo_PoI 51 D vwCl (fo_tys ca) ad e1 sz r) 0 0 (fo_A 51 ad sz) := by
  refine Met.ofW (cc := cc) (maxL := maxL) (ret := some .int) hy rfl ?_
  intro p e s m args below meth c s₁ B hml hv
  obtain ⟨rfl, hsz, hP, hK, hD0⟩ := hv
  subst hsz
  have hr := B.returns
  have hlocks := B.notSynchronized
  have hts := atoms_spec (ws := .code y cc maxL (some .int) :: fo_T) B.pre
  refine body ⟨B.exec, B.bytes, hml, findClass_of_methodNamed B.named, fun w h => hts w (List.mem_cons_of_mem _ h), hK, fun e => fo_A_D hD0⟩ (fun pc ls H locs hd hP1 hS => ?_) hP
  exact W.iret B.exec B.bytes hr (fun t ht hW => ⟨⟨r, (), rfl, rfl, by rw [ht]; exact hP1, va_K.moved hW.alike hK⟩, hS.F ht⟩) hS.2.2 hd
theorem fo_mkZ {l : Launch} {y : MethodName} {cc : ByteArray} {maxL : Nat} {rm : Room} {D : va_G} {ca : Nat → ClassId} {ad : Nat → Nat} {e0 e1 : Nat → va_E} {sz : Nat} {r : Int32} {av : List Value} (hy : plainName y.cls = true)
    (body : ∀ {p : Program} {e : Env} {s : State} {m : MethodId} {args : Array Value} {below : List Frame} {meth : Method} {c : Code} {Q : State → Prop}, fo_CX p s m args c cc maxL y.cls D ca ad → (∀ (pc : Nat) (ls : Array Slot) (H : Heap) (locs : List Loc), narrow .boolean (.int r) = .int r → decode cc pc = .ok (.ireturn, 1) → va_P D vwCl (fo_vx 51 ad e1) H → va_S (fo_A 51 ad s.heap.size) s.heap H locs → W p l e rm s m args below meth c H locs 0 0 Q (F0 m pc ls [.int r])) → va_P D vwCl (fo_vx 51 ad e0) s.heap → W p l e rm s m args below meth c s.heap [] 0 0 Q (entryFrame m av.toArray maxL)) :
    Met l y (.code y cc maxL (some .boolean) :: fo_T) rm (fo_Pre 51 D vwCl (fo_tys ca) ad e0 sz av) (fo_PoI 51 D vwCl (fo_tys ca) ad e1 sz r) 0 0 (fo_A 51 ad sz) := by
  refine Met.ofW (cc := cc) (maxL := maxL) (ret := some .boolean) hy rfl ?_
  intro p e s m args below meth c s₁ B hml hv
  obtain ⟨rfl, hsz, hP, hK, hD0⟩ := hv
  subst hsz
  have hr := B.returns
  have hlocks := B.notSynchronized
  have hts := atoms_spec (ws := .code y cc maxL (some .boolean) :: fo_T) B.pre
  refine body ⟨B.exec, B.bytes, hml, findClass_of_methodNamed B.named, fun w h => hts w (List.mem_cons_of_mem _ h), hK, fun e => fo_A_D hD0⟩ (fun pc ls H locs hz hd hP1 hS => ?_) hP
  exact W.zret B.exec B.bytes hr hz (fun t ht hW => ⟨⟨r, (), rfl, rfl, by rw [ht]; exact hP1, va_K.moved hW.alike hK⟩, hS.F ht⟩) hS.2.2 hd
theorem fo_mkL {l : Launch} {y : MethodName} {cc : ByteArray} {maxL : Nat} {rm : Room} {D : va_G} {ca : Nat → ClassId} {ad : Nat → Nat} {e0 e1 : Nat → va_E} {sz : Nat} {r : Int64} {av : List Value} (hy : plainName y.cls = true)
    (body : ∀ {p : Program} {e : Env} {s : State} {m : MethodId} {args : Array Value} {below : List Frame} {meth : Method} {c : Code} {Q : State → Prop}, fo_CX p s m args c cc maxL y.cls D ca ad → (∀ (pc : Nat) (ls : Array Slot) (H : Heap) (locs : List Loc), decode cc pc = .ok (.lreturn, 1) → va_P D vwCl (fo_vx 51 ad e1) H → va_S (fo_A 51 ad s.heap.size) s.heap H locs → W p l e rm s m args below meth c H locs 0 0 Q (F0 m pc ls [.long r])) → va_P D vwCl (fo_vx 51 ad e0) s.heap → W p l e rm s m args below meth c s.heap [] 0 0 Q (entryFrame m av.toArray maxL)) :
    Met l y (.code y cc maxL (some .long) :: fo_T) rm (fo_Pre 51 D vwCl (fo_tys ca) ad e0 sz av) (fo_PoL 51 D vwCl (fo_tys ca) ad e1 sz r) 0 0 (fo_A 51 ad sz) := by
  refine Met.ofW (cc := cc) (maxL := maxL) (ret := some .long) hy rfl ?_
  intro p e s m args below meth c s₁ B hml hv
  obtain ⟨rfl, hsz, hP, hK, hD0⟩ := hv
  subst hsz
  have hr := B.returns
  have hlocks := B.notSynchronized
  have hts := atoms_spec (ws := .code y cc maxL (some .long) :: fo_T) B.pre
  refine body ⟨B.exec, B.bytes, hml, findClass_of_methodNamed B.named, fun w h => hts w (List.mem_cons_of_mem _ h), hK, fun e => fo_A_D hD0⟩ (fun pc ls H locs hd hP1 hS => ?_) hP
  exact W.lret B.exec B.bytes hr (fun t ht hW => ⟨⟨r, (), rfl, rfl, by rw [ht]; exact hP1, va_K.moved hW.alike hK⟩, hS.F ht⟩) hS.2.2 hd
theorem fo_mkV {l : Launch} {y : MethodName} {cc : ByteArray} {maxL : Nat} {rm : Room} {D : va_G} {ca : Nat → ClassId} {ad : Nat → Nat} {e0 e1 : Nat → va_E} {sz : Nat} {av : List Value} (hy : plainName y.cls = true)
    (body : ∀ {p : Program} {e : Env} {s : State} {m : MethodId} {args : Array Value} {below : List Frame} {meth : Method} {c : Code} {Q : State → Prop}, fo_CX p s m args c cc maxL y.cls D ca ad → (∀ (pc : Nat) (ls : Array Slot) (H : Heap) (locs : List Loc), decode cc pc = .ok (.return_, 1) → va_P D vwCl (fo_vx 51 ad e1) H → va_S (fo_A 51 ad s.heap.size) s.heap H locs → W p l e rm s m args below meth c H locs 0 0 Q (F0 m pc ls [])) → va_P D vwCl (fo_vx 51 ad e0) s.heap → W p l e rm s m args below meth c s.heap [] 0 0 Q (entryFrame m av.toArray maxL)) :
    Met l y (.code y cc maxL (none) :: fo_T) rm (fo_Pre 51 D vwCl (fo_tys ca) ad e0 sz av) (fo_PoV 51 D vwCl (fo_tys ca) ad e1 sz) 0 0 (fo_A 51 ad sz) := by
  refine Met.ofW (cc := cc) (maxL := maxL) (ret := none) hy rfl ?_
  intro p e s m args below meth c s₁ B hml hv
  obtain ⟨rfl, hsz, hP, hK, hD0⟩ := hv
  subst hsz
  have hr := B.returns
  have hlocks := B.notSynchronized
  have hts := atoms_spec (ws := .code y cc maxL (none) :: fo_T) B.pre
  refine body ⟨B.exec, B.bytes, hml, findClass_of_methodNamed B.named, fun w h => hts w (List.mem_cons_of_mem _ h), hK, fun e => fo_A_D hD0⟩ (fun pc ls H locs hd hP1 hS => ?_) hP
  exact W.vret B.exec B.bytes hr (fun t ht hW => ⟨⟨(), rfl, trivial, by rw [ht]; exact hP1, va_K.moved hW.alike hK⟩, hS.F ht⟩) hS.2.2 hd
section FOM
variable {p : Program} {l : Launch} {e : Env} {R : Room} {s : State} {m : MethodId} {args : Array Value} {below : List Frame} {meth : Method} {c : Code} {H : Heap} {locs : List Loc} {cells slots : Nat} {Q : State → Prop}
variable {cc : ByteArray} {pc : Nat} {ls : Array Slot} {rest : List Value} {D : va_G} {A : Nat → Prop} {H0 : Heap} {ca : Nat → ClassId} {ad : Nat → Nat} {σ : fo_S}
theorem fo_iald (hx : p.tables.exec = Jvm.exec) (hb : c.code = cc) (hK : va_K D vwCl (fo_tys ca) s) (hP : va_P D vwCl (fo_vx 51 ad (fo_ce ca ad σ)) H) {k i n : Nat} (hk : k < 16) (hi : i < fo_cnt k) (hrow : ∀ (I : Nat → Int32) (J : Nat → Int64), fo_row ca ad I J k i = .inl (ca 0, n, .inl I)) {ix : Int32} (hin : vp_in ix n) (hdg : decode cc pc = .ok (.iaload, 1))
    (kk : W p l e R s m args below meth c H locs cells slots Q (F0 m (pc + 1) ls (.int (σ.1 k i ix.toNatClampNeg) :: rest))) : W p l e R s m args below meth c H locs cells slots Q (F0 m pc ls (.int ix :: .ref (ad (fo_lay k i)) :: rest)) :=
  va_iald hx hb hK hP (fo_lay k i) 0 (by rw [fo_at hk hi, hrow]) rfl hin hdg kk
theorem fo_zald (hx : p.tables.exec = Jvm.exec) (hb : c.code = cc) (hK : va_K D vwCl (fo_tys ca) s) (hP : va_P D vwCl (fo_vx 51 ad (fo_ce ca ad σ)) H) {k i n : Nat} (hk : k < 16) (hi : i < fo_cnt k) (hrow : ∀ (I : Nat → Int32) (J : Nat → Int64), fo_row ca ad I J k i = .inl (ca 2, n, .inl I)) {ix : Int32} (hin : vp_in ix n) (hdg : decode cc pc = .ok (.baload, 1))
    (kk : W p l e R s m args below meth c H locs cells slots Q (F0 m (pc + 1) ls (.int (σ.1 k i ix.toNatClampNeg) :: rest))) : W p l e R s m args below meth c H locs cells slots Q (F0 m pc ls (.int ix :: .ref (ad (fo_lay k i)) :: rest)) :=
  va_zald hx hb hK hP (fo_lay k i) 2 (by rw [fo_at hk hi, hrow]) rfl hin hdg kk
theorem fo_lald (hx : p.tables.exec = Jvm.exec) (hb : c.code = cc) (hK : va_K D vwCl (fo_tys ca) s) (hP : va_P D vwCl (fo_vx 51 ad (fo_ce ca ad σ)) H) {k i n : Nat} (hk : k < 16) (hi : i < fo_cnt k) (hrow : ∀ (I : Nat → Int32) (J : Nat → Int64), fo_row ca ad I J k i = .inl (ca 1, n, .inr (.inl J))) {ix : Int32} (hin : vp_in ix n) (hdg : decode cc pc = .ok (.laload, 1))
    (kk : W p l e R s m args below meth c H locs cells slots Q (F0 m (pc + 1) ls (.long (σ.2 k i ix.toNatClampNeg) :: rest))) : W p l e R s m args below meth c H locs cells slots Q (F0 m pc ls (.int ix :: .ref (ad (fo_lay k i)) :: rest)) :=
  va_lald hx hb hK hP (fo_lay k i) 1 (by rw [fo_at hk hi, hrow]) rfl hin hdg kk
theorem fo_iast (hx : p.tables.exec = Jvm.exec) (hb : c.code = cc) (hK : va_K D vwCl (fo_tys ca) s) (hP : va_P D vwCl (fo_vx 51 ad (fo_ce ca ad σ)) H) (hD : ∀ e, va_D A (fo_vx 51 ad e)) (hS : va_S A H0 H locs) {k i n : Nat} (hk : k < 16) (hi : i < fo_cnt k) (hrow : ∀ (I : Nat → Int32) (J : Nat → Int64), fo_row ca ad I J k i = .inl (ca 0, n, .inl I)) {ix : Int32} {x : Int32} (hin : vp_in ix n) (hdg : decode cc pc = .ok (.iastore, 1))
    (kk : ∀ (H1 : Heap) (locs1 : List Loc), va_P D vwCl (fo_vx 51 ad (fo_ce ca ad (fo_pI σ k i ix.toNatClampNeg x))) H1 → va_S A H0 H1 locs1 → W p l e R s m args below meth c H1 locs1 cells slots Q (F0 m (pc + 1) ls rest)) : W p l e R s m args below meth c H locs cells slots Q (F0 m pc ls (.int x :: .int ix :: .ref (ad (fo_lay k i)) :: rest)) := by
  refine va_iast hx hb hK hP (hD _) hS (fo_lay k i) 0 (by rw [fo_at hk hi, hrow]) rfl hin hdg (fun H1 locs1 hP1 hD1 hS1 => ?_)
  rw [fo_setI hk hi (hrow _ _)] at hP1
  exact kk H1 locs1 hP1 hS1
theorem fo_zast (hx : p.tables.exec = Jvm.exec) (hb : c.code = cc) (hK : va_K D vwCl (fo_tys ca) s) (hP : va_P D vwCl (fo_vx 51 ad (fo_ce ca ad σ)) H) (hD : ∀ e, va_D A (fo_vx 51 ad e)) (hS : va_S A H0 H locs) {k i n : Nat} (hk : k < 16) (hi : i < fo_cnt k) (hrow : ∀ (I : Nat → Int32) (J : Nat → Int64), fo_row ca ad I J k i = .inl (ca 2, n, .inl I)) {ix : Int32} {x : Int32} (hin : vp_in ix n) (hdg : decode cc pc = .ok (.bastore, 1))
    (kk : ∀ (H1 : Heap) (locs1 : List Loc), va_P D vwCl (fo_vx 51 ad (fo_ce ca ad (fo_pI σ k i ix.toNatClampNeg (vp_nar .boolean x)))) H1 → va_S A H0 H1 locs1 → W p l e R s m args below meth c H1 locs1 cells slots Q (F0 m (pc + 1) ls rest)) : W p l e R s m args below meth c H locs cells slots Q (F0 m pc ls (.int x :: .int ix :: .ref (ad (fo_lay k i)) :: rest)) := by
  refine va_zast hx hb hK hP (hD _) hS (fo_lay k i) 2 (by rw [fo_at hk hi, hrow]) rfl hin hdg (fun H1 locs1 hP1 hD1 hS1 => ?_)
  rw [fo_setI hk hi (hrow _ _)] at hP1
  exact kk H1 locs1 hP1 hS1
theorem fo_last (hx : p.tables.exec = Jvm.exec) (hb : c.code = cc) (hK : va_K D vwCl (fo_tys ca) s) (hP : va_P D vwCl (fo_vx 51 ad (fo_ce ca ad σ)) H) (hD : ∀ e, va_D A (fo_vx 51 ad e)) (hS : va_S A H0 H locs) {k i n : Nat} (hk : k < 16) (hi : i < fo_cnt k) (hrow : ∀ (I : Nat → Int32) (J : Nat → Int64), fo_row ca ad I J k i = .inl (ca 1, n, .inr (.inl J))) {ix : Int32} {x : Int64} (hin : vp_in ix n) (hdg : decode cc pc = .ok (.lastore, 1))
    (kk : ∀ (H1 : Heap) (locs1 : List Loc), va_P D vwCl (fo_vx 51 ad (fo_ce ca ad (fo_pJ σ k i ix.toNatClampNeg x))) H1 → va_S A H0 H1 locs1 → W p l e R s m args below meth c H1 locs1 cells slots Q (F0 m (pc + 1) ls rest)) : W p l e R s m args below meth c H locs cells slots Q (F0 m pc ls (.long x :: .int ix :: .ref (ad (fo_lay k i)) :: rest)) := by
  refine va_last hx hb hK hP (hD _) hS (fo_lay k i) 1 (by rw [fo_at hk hi, hrow]) rfl hin hdg (fun H1 locs1 hP1 hD1 hS1 => ?_)
  rw [fo_setJ hk hi (hrow _ _)] at hP1
  exact kk H1 locs1 hP1 hS1
theorem fo_rc0 {s : State} {H : Heap} {D : va_G} {ca : Nat → ClassId} {ad : Nat → Nat} {σ : fo_S} (hK : va_K D vwCl (fo_tys ca) s) (hP : va_P D vwCl (fo_vx 51 ad (fo_ce ca ad σ)) H) {i : Nat} (hi : i < 1) : ∃ cell : Cell, H[ad (fo_lay 0 i)]? = some cell ∧ cell.vm.isStatics = false ∧ s.vm.findClass RX0 = some cell.cls :=
  va_recv hK hP (ci := 0) (q0 := fo_lay 0 i) rfl (fo_at (by decide) hi)
theorem fo_rc1 {s : State} {H : Heap} {D : va_G} {ca : Nat → ClassId} {ad : Nat → Nat} {σ : fo_S} (hK : va_K D vwCl (fo_tys ca) s) (hP : va_P D vwCl (fo_vx 51 ad (fo_ce ca ad σ)) H) {i : Nat} (hi : i < 2) : ∃ cell : Cell, H[ad (fo_lay 1 i)]? = some cell ∧ cell.vm.isStatics = false ∧ s.vm.findClass RX2 = some cell.cls :=
  va_recv hK hP (ci := 2) (q0 := fo_lay 1 i) rfl (fo_at (by decide) hi)
theorem fo_alen_2 (hx : p.tables.exec = Jvm.exec) (hb : c.code = cc) (hK : va_K D vwCl (fo_tys ca) s) (hP : va_P D vwCl (fo_vx 51 ad (fo_ce ca ad σ)) H) {i : Nat} (hi : i < 2) (hdg : decode cc pc = .ok (.arraylength, 1))
    (kk : W p l e R s m args below meth c H locs cells slots Q (F0 m (pc + 1) ls (.int 9 :: rest))) : W p l e R s m args below meth c H locs cells slots Q (F0 m pc ls (.ref (ad (fo_lay 2 i)) :: rest)) :=
  va_alen hx hb hK hP (fo_lay 2 i) 1 (fo_at (by decide) hi) rfl rfl hdg kk
theorem fo_alen_3 (hx : p.tables.exec = Jvm.exec) (hb : c.code = cc) (hK : va_K D vwCl (fo_tys ca) s) (hP : va_P D vwCl (fo_vx 51 ad (fo_ce ca ad σ)) H) {i : Nat} (hi : i < 2) (hdg : decode cc pc = .ok (.arraylength, 1))
    (kk : W p l e R s m args below meth c H locs cells slots Q (F0 m (pc + 1) ls (.int 9 :: rest))) : W p l e R s m args below meth c H locs cells slots Q (F0 m pc ls (.ref (ad (fo_lay 3 i)) :: rest)) :=
  va_alen hx hb hK hP (fo_lay 3 i) 1 (fo_at (by decide) hi) rfl rfl hdg kk
theorem fo_aald_4 (hx : p.tables.exec = Jvm.exec) (hb : c.code = cc) (hK : va_K D vwCl (fo_tys ca) s) (hP : va_P D vwCl (fo_vx 51 ad (fo_ce ca ad σ)) H) {i : Nat} (hi : i < 1) {ix : Int32} (hin : vp_in ix 16) (hdg : decode cc pc = .ok (.aaload, 1))
    (kk : W p l e R s m args below meth c H locs cells slots Q (F0 m (pc + 1) ls (.ref (ad (fo_lay 14 ix.toNatClampNeg)) :: rest))) : W p l e R s m args below meth c H locs cells slots Q (F0 m pc ls (.int ix :: .ref (ad (fo_lay 4 i)) :: rest)) :=
  va_aldq hx hb hK hP (fo_lay 4 i) 3 (fo_at (by decide) hi) rfl hin hdg kk
theorem fo_alen_4 (hx : p.tables.exec = Jvm.exec) (hb : c.code = cc) (hK : va_K D vwCl (fo_tys ca) s) (hP : va_P D vwCl (fo_vx 51 ad (fo_ce ca ad σ)) H) {i : Nat} (hi : i < 1) (hdg : decode cc pc = .ok (.arraylength, 1))
    (kk : W p l e R s m args below meth c H locs cells slots Q (F0 m (pc + 1) ls (.int 16 :: rest))) : W p l e R s m args below meth c H locs cells slots Q (F0 m pc ls (.ref (ad (fo_lay 4 i)) :: rest)) :=
  va_alen hx hb hK hP (fo_lay 4 i) 3 (fo_at (by decide) hi) rfl rfl hdg kk
theorem fo_rc5 {s : State} {H : Heap} {D : va_G} {ca : Nat → ClassId} {ad : Nat → Nat} {σ : fo_S} (hK : va_K D vwCl (fo_tys ca) s) (hP : va_P D vwCl (fo_vx 51 ad (fo_ce ca ad σ)) H) {i : Nat} (hi : i < 2) : ∃ cell : Cell, H[ad (fo_lay 5 i)]? = some cell ∧ cell.vm.isStatics = false ∧ s.vm.findClass RX3 = some cell.cls :=
  va_recv hK hP (ci := 3) (q0 := fo_lay 5 i) rfl (fo_at (by decide) hi)
theorem fo_alen_6 (hx : p.tables.exec = Jvm.exec) (hb : c.code = cc) (hK : va_K D vwCl (fo_tys ca) s) (hP : va_P D vwCl (fo_vx 51 ad (fo_ce ca ad σ)) H) {i : Nat} (hi : i < 2) (hdg : decode cc pc = .ok (.arraylength, 1))
    (kk : W p l e R s m args below meth c H locs cells slots Q (F0 m (pc + 1) ls (.int 16 :: rest))) : W p l e R s m args below meth c H locs cells slots Q (F0 m pc ls (.ref (ad (fo_lay 6 i)) :: rest)) :=
  va_alen hx hb hK hP (fo_lay 6 i) 0 (fo_at (by decide) hi) rfl rfl hdg kk
theorem fo_alen_7 (hx : p.tables.exec = Jvm.exec) (hb : c.code = cc) (hK : va_K D vwCl (fo_tys ca) s) (hP : va_P D vwCl (fo_vx 51 ad (fo_ce ca ad σ)) H) {i : Nat} (hi : i < 1) (hdg : decode cc pc = .ok (.arraylength, 1))
    (kk : W p l e R s m args below meth c H locs cells slots Q (F0 m (pc + 1) ls (.int 16 :: rest))) : W p l e R s m args below meth c H locs cells slots Q (F0 m pc ls (.ref (ad (fo_lay 7 i)) :: rest)) :=
  va_alen hx hb hK hP (fo_lay 7 i) 0 (fo_at (by decide) hi) rfl rfl hdg kk
theorem fo_rc8 {s : State} {H : Heap} {D : va_G} {ca : Nat → ClassId} {ad : Nat → Nat} {σ : fo_S} (hK : va_K D vwCl (fo_tys ca) s) (hP : va_P D vwCl (fo_vx 51 ad (fo_ce ca ad σ)) H) {i : Nat} (hi : i < 1) : ∃ cell : Cell, H[ad (fo_lay 8 i)]? = some cell ∧ cell.vm.isStatics = false ∧ s.vm.findClass RX4 = some cell.cls :=
  va_recv hK hP (ci := 4) (q0 := fo_lay 8 i) rfl (fo_at (by decide) hi)
theorem fo_alen_9 (hx : p.tables.exec = Jvm.exec) (hb : c.code = cc) (hK : va_K D vwCl (fo_tys ca) s) (hP : va_P D vwCl (fo_vx 51 ad (fo_ce ca ad σ)) H) {i : Nat} (hi : i < 1) (hdg : decode cc pc = .ok (.arraylength, 1))
    (kk : W p l e R s m args below meth c H locs cells slots Q (F0 m (pc + 1) ls (.int 16 :: rest))) : W p l e R s m args below meth c H locs cells slots Q (F0 m pc ls (.ref (ad (fo_lay 9 i)) :: rest)) :=
  va_alen hx hb hK hP (fo_lay 9 i) 0 (fo_at (by decide) hi) rfl rfl hdg kk
theorem fo_rc10 {s : State} {H : Heap} {D : va_G} {ca : Nat → ClassId} {ad : Nat → Nat} {σ : fo_S} (hK : va_K D vwCl (fo_tys ca) s) (hP : va_P D vwCl (fo_vx 51 ad (fo_ce ca ad σ)) H) {i : Nat} (hi : i < 1) : ∃ cell : Cell, H[ad (fo_lay 10 i)]? = some cell ∧ cell.vm.isStatics = false ∧ s.vm.findClass RX5 = some cell.cls :=
  va_recv hK hP (ci := 5) (q0 := fo_lay 10 i) rfl (fo_at (by decide) hi)
theorem fo_alen_11 (hx : p.tables.exec = Jvm.exec) (hb : c.code = cc) (hK : va_K D vwCl (fo_tys ca) s) (hP : va_P D vwCl (fo_vx 51 ad (fo_ce ca ad σ)) H) {i : Nat} (hi : i < 1) (hdg : decode cc pc = .ok (.arraylength, 1))
    (kk : W p l e R s m args below meth c H locs cells slots Q (F0 m (pc + 1) ls (.int 16 :: rest))) : W p l e R s m args below meth c H locs cells slots Q (F0 m pc ls (.ref (ad (fo_lay 11 i)) :: rest)) :=
  va_alen hx hb hK hP (fo_lay 11 i) 2 (fo_at (by decide) hi) rfl rfl hdg kk
theorem fo_alen_12 (hx : p.tables.exec = Jvm.exec) (hb : c.code = cc) (hK : va_K D vwCl (fo_tys ca) s) (hP : va_P D vwCl (fo_vx 51 ad (fo_ce ca ad σ)) H) {i : Nat} (hi : i < 1) (hdg : decode cc pc = .ok (.arraylength, 1))
    (kk : W p l e R s m args below meth c H locs cells slots Q (F0 m (pc + 1) ls (.int 8 :: rest))) : W p l e R s m args below meth c H locs cells slots Q (F0 m pc ls (.ref (ad (fo_lay 12 i)) :: rest)) :=
  va_alen hx hb hK hP (fo_lay 12 i) 1 (fo_at (by decide) hi) rfl rfl hdg kk
theorem fo_alen_13 (hx : p.tables.exec = Jvm.exec) (hb : c.code = cc) (hK : va_K D vwCl (fo_tys ca) s) (hP : va_P D vwCl (fo_vx 51 ad (fo_ce ca ad σ)) H) {i : Nat} (hi : i < 1) (hdg : decode cc pc = .ok (.arraylength, 1))
    (kk : W p l e R s m args below meth c H locs cells slots Q (F0 m (pc + 1) ls (.int 8 :: rest))) : W p l e R s m args below meth c H locs cells slots Q (F0 m pc ls (.ref (ad (fo_lay 13 i)) :: rest)) :=
  va_alen hx hb hK hP (fo_lay 13 i) 1 (fo_at (by decide) hi) rfl rfl hdg kk
theorem fo_rc14 {s : State} {H : Heap} {D : va_G} {ca : Nat → ClassId} {ad : Nat → Nat} {σ : fo_S} (hK : va_K D vwCl (fo_tys ca) s) (hP : va_P D vwCl (fo_vx 51 ad (fo_ce ca ad σ)) H) {i : Nat} (hi : i < 16) : ∃ cell : Cell, H[ad (fo_lay 14 i)]? = some cell ∧ cell.vm.isStatics = false ∧ s.vm.findClass RX1 = some cell.cls :=
  va_recv hK hP (ci := 1) (q0 := fo_lay 14 i) rfl (fo_at (by decide) hi)
theorem fo_alen_15 (hx : p.tables.exec = Jvm.exec) (hb : c.code = cc) (hK : va_K D vwCl (fo_tys ca) s) (hP : va_P D vwCl (fo_vx 51 ad (fo_ce ca ad σ)) H) {i : Nat} (hi : i < 16) (hdg : decode cc pc = .ok (.arraylength, 1))
    (kk : W p l e R s m args below meth c H locs cells slots Q (F0 m (pc + 1) ls (.int 5 :: rest))) : W p l e R s m args below meth c H locs cells slots Q (F0 m pc ls (.ref (ad (fo_lay 15 i)) :: rest)) :=
  va_alen hx hb hK hP (fo_lay 15 i) 0 (fo_at (by decide) hi) rfl rfl hdg kk
end FOM
section FOM
variable {p : Program} {l : Launch} {e : Env} {R : Room} {s : State} {m : MethodId} {args : Array Value} {below : List Frame} {meth : Method} {c : Code} {H : Heap} {locs : List Loc} {cells slots : Nat} {Q : State → Prop}
variable {cc : ByteArray} {pc : Nat} {ls : Array Slot} {rest : List Value} {D : va_G} {A : Nat → Prop} {H0 : Heap} {ca : Nat → ClassId} {ad : Nat → Nat} {σ : fo_S}
theorem fo_cpJ (hx : p.tables.exec = Jvm.exec) (hb : c.code = cc) (hml : c.maxLocals = ls.size) {own : String} {index : Nat} (hown : s.vm.findClass own = some m.cls) (hlink : (Cond.methodLink own index arraycopyName).before args s = true) (hT : ∀ w ∈ fo_T, w.before args s = true) (hK : va_K D vwCl (fo_tys ca) s) (hP : va_P D vwCl (fo_vx 51 ad (fo_ce ca ad σ)) H) (hD : ∀ e, va_D A (fo_vx 51 ad e)) (hS : va_S A H0 H locs) {k0 i0 n0 k i n : Nat} (hk0 : k0 < 16) (hi0 : i0 < fo_cnt k0) (hk : k < 16) (hi : i < fo_cnt k) (hrow0 : ∀ (I : Nat → Int32) (J : Nat → Int64), fo_row ca ad I J k0 i0 = .inl (ca 1, n0, .inr (.inl J))) (hrow : ∀ (I : Nat → Int32) (J : Nat → Int64), fo_row ca ad I J k i = .inl (ca 1, n, .inr (.inl J))) {sp dp len : Int32} (h1 : ¬ sp < 0) (h2 : ¬ dp < 0) (h3 : ¬ len < 0) (h4 : sp.toNatClampNeg + len.toNatClampNeg ≤ n0) (h5 : dp.toNatClampNeg + len.toNatClampNeg ≤ n) (hframes : 1 ≤ R.frames) (hlocals : (rest.map fun v => v.category).sum + (nativeFrameWords "java/lang/System" "arraycopy" 5 + 11) ≤ R.locals) (hdg : decode cc pc = .ok (.invokestatic index, 3))
    (kk : ∀ (H1 : Heap) (locs1 : List Loc), va_P D vwCl (fo_vx 51 ad (fo_ce ca ad (fo_rJ σ k i (va_cpy (σ.2 k0 i0) (σ.2 k i) sp.toNatClampNeg dp.toNatClampNeg len.toNatClampNeg)))) H1 → va_S A H0 H1 locs1 → W p l e R s m args below meth c H1 locs1 cells slots Q (F0 m (pc + 3) ls rest)) : W p l e R s m args below meth c H locs cells slots Q (F0 m pc ls (.int len :: .int dp :: .ref (ad (fo_lay k i)) :: .int sp :: .ref (ad (fo_lay k0 i0)) :: rest)) := by
  refine va_copyl hx hb hml hown hlink (fo_cpn hT) (fo_cps hT) (fo_cpi hT) hK hP (hD _) hS (fo_lay k0 i0) (fo_lay k i) 1 1 (by rw [fo_at hk0 hi0, hrow0]) (by rw [fo_at hk hi, hrow]) rfl rfl rfl h1 h2 h3 h4 h5 (fun _ _ => rfl) hframes hlocals hdg (fun H1 locs1 hP1 hD1 hS1 => ?_)
  rw [fo_setrJ hk hi (hrow _ _)] at hP1
  exact kk H1 locs1 hP1 hS1
theorem fo_cpI (hx : p.tables.exec = Jvm.exec) (hb : c.code = cc) (hml : c.maxLocals = ls.size) {own : String} {index : Nat} (hown : s.vm.findClass own = some m.cls) (hlink : (Cond.methodLink own index arraycopyName).before args s = true) (hT : ∀ w ∈ fo_T, w.before args s = true) (hK : va_K D vwCl (fo_tys ca) s) (hP : va_P D vwCl (fo_vx 51 ad (fo_ce ca ad σ)) H) (hD : ∀ e, va_D A (fo_vx 51 ad e)) (hS : va_S A H0 H locs) {k0 i0 n0 k i n : Nat} (hk0 : k0 < 16) (hi0 : i0 < fo_cnt k0) (hk : k < 16) (hi : i < fo_cnt k) (hrow0 : ∀ (I : Nat → Int32) (J : Nat → Int64), fo_row ca ad I J k0 i0 = .inl (ca 0, n0, .inl I)) (hrow : ∀ (I : Nat → Int32) (J : Nat → Int64), fo_row ca ad I J k i = .inl (ca 0, n, .inl I)) {sp dp len : Int32} (h1 : ¬ sp < 0) (h2 : ¬ dp < 0) (h3 : ¬ len < 0) (h4 : sp.toNatClampNeg + len.toNatClampNeg ≤ n0) (h5 : dp.toNatClampNeg + len.toNatClampNeg ≤ n) (hframes : 1 ≤ R.frames) (hlocals : (rest.map fun v => v.category).sum + (nativeFrameWords "java/lang/System" "arraycopy" 5 + 11) ≤ R.locals) (hdg : decode cc pc = .ok (.invokestatic index, 3))
    (kk : ∀ (H1 : Heap) (locs1 : List Loc), va_P D vwCl (fo_vx 51 ad (fo_ce ca ad (fo_rI σ k i (va_cpy (σ.1 k0 i0) (σ.1 k i) sp.toNatClampNeg dp.toNatClampNeg len.toNatClampNeg)))) H1 → va_S A H0 H1 locs1 → W p l e R s m args below meth c H1 locs1 cells slots Q (F0 m (pc + 3) ls rest)) : W p l e R s m args below meth c H locs cells slots Q (F0 m pc ls (.int len :: .int dp :: .ref (ad (fo_lay k i)) :: .int sp :: .ref (ad (fo_lay k0 i0)) :: rest)) := by
  refine va_copyi hx hb hml hown hlink (fo_cpn hT) (fo_cps hT) (fo_cpi hT) hK hP (hD _) hS (fo_lay k0 i0) (fo_lay k i) 0 0 (by rw [fo_at hk0 hi0, hrow0]) (by rw [fo_at hk hi, hrow]) rfl rfl rfl h1 h2 h3 h4 h5 (fun _ _ => rfl) hframes hlocals hdg (fun H1 locs1 hP1 hD1 hS1 => ?_)
  rw [fo_setrI hk hi (hrow _ _)] at hP1
  exact kk H1 locs1 hP1 hS1
end FOM
end
section
abbrev ws_q_Market_makeEmpty : List Cond := .code yX2_makeEmpty cX2_makeEmpty 1 none :: fo_T
abbrev rm_q_Market_makeEmpty : Room := { frames := 1, cells := 0, slots := 0, locals := 24 }
abbrev ws_q_FairOrder_beginBlock : List Cond := .code yX0_beginBlock cX0_beginBlock 1 none :: fo_T
abbrev rm_q_FairOrder_beginBlock : Room := { frames := 0, cells := 0, slots := 0, locals := 0 }
abbrev ws_q_FairOrder_clear : List Cond := .code yX0_clear cX0_clear 2 (some .int) :: fo_T
abbrev rm_q_FairOrder_clear : Room := { frames := 2, cells := 0, slots := 0, locals := 44 }
abbrev ws_q_FairOrder_mayBeginWith : List Cond := .code yX0_mayBeginWith cX0_mayBeginWith 2 (some .boolean) :: fo_T
abbrev rm_q_FairOrder_mayBeginWith : Room := { frames := 0, cells := 0, slots := 0, locals := 0 }
abbrev ws_q_Market_put : List Cond := .code yX2_put cX2_put 6 none :: fo_T
abbrev rm_q_Market_put : Room := { frames := 0, cells := 0, slots := 0, locals := 0 }
abbrev ws_q_FairOrder_account : List Cond := .code yX0_account cX0_account 5 (some .int) :: fo_T
abbrev rm_q_FairOrder_account : Room := { frames := 1, cells := 0, slots := 0, locals := 25 }
abbrev ws_q_FairOrder_pool : List Cond := .code yX0_pool cX0_pool 5 (some .int) :: fo_T
abbrev rm_q_FairOrder_pool : Room := { frames := 1, cells := 0, slots := 0, locals := 25 }
abbrev ws_q_FairOrder_areTerms : List Cond := .code yX0_areTerms cX0_areTerms 3 (some .boolean) :: fo_T
abbrev rm_q_FairOrder_areTerms : Room := { frames := 0, cells := 0, slots := 0, locals := 0 }
abbrev ws_q_FairOrder_sealOf : List Cond := .code yX0_sealOf cX0_sealOf 6 (some .long) :: fo_T
abbrev rm_q_FairOrder_sealOf : Room := { frames := 0, cells := 0, slots := 0, locals := 0 }
abbrev ws_q_FairOrder_seal : List Cond := .code yX0_seal cX0_seal 5 (some .long) :: fo_T
abbrev rm_q_FairOrder_seal : Room := { frames := 1, cells := 0, slots := 0, locals := 25 }
abbrev ws_q_FairOrder_isAccount : List Cond := .code yX0_isAccount cX0_isAccount 2 (some .boolean) :: fo_T
abbrev rm_q_FairOrder_isAccount : Room := { frames := 0, cells := 0, slots := 0, locals := 0 }
abbrev ws_q_Call_note : List Cond := .code yX1_note cX1_note 4 none :: fo_T
abbrev rm_q_Call_note : Room := { frames := 0, cells := 0, slots := 0, locals := 0 }
abbrev ws_q_Call_begin : List Cond := .code yX1_begin cX1_begin 6 none :: fo_T
abbrev rm_q_Call_begin : Room := { frames := 1, cells := 0, slots := 0, locals := 23 }
abbrev ws_q_FairOrder_commit : List Cond := .code yX0_commit cX0_commit 6 (some .int) :: fo_T
abbrev rm_q_FairOrder_commit : Room := { frames := 2, cells := 0, slots := 0, locals := 48 }
abbrev ws_q_FairOrder_isCall : List Cond := .code yX0_isCall cX0_isCall 2 (some .boolean) :: fo_T
abbrev rm_q_FairOrder_isCall : Room := { frames := 0, cells := 0, slots := 0, locals := 0 }
abbrev ws_q_FairOrder_hear : List Cond := .code yX0_hear cX0_hear 5 (some .int) :: fo_T
abbrev rm_q_FairOrder_hear : Room := { frames := 1, cells := 0, slots := 0, locals := 21 }
abbrev ws_q_Call_tell : List Cond := .code yX1_tell cX1_tell 4 none :: fo_T
abbrev rm_q_Call_tell : Room := { frames := 0, cells := 0, slots := 0, locals := 0 }
abbrev ws_q_FairOrder_open : List Cond := .code yX0_open cX0_open 7 (some .int) :: fo_T
abbrev rm_q_FairOrder_open : Room := { frames := 1, cells := 0, slots := 0, locals := 25 }
abbrev ws_q_FairOrder_takeLostDeposits : List Cond := .code yX0_takeLostDeposits cX0_takeLostDeposits 2 none :: fo_T
abbrev rm_q_FairOrder_takeLostDeposits : Room := { frames := 0, cells := 0, slots := 0, locals := 0 }
abbrev ws_q_FairOrder_next : List Cond := .code yX0_next cX0_next 1 (some .int) :: fo_T
abbrev rm_q_FairOrder_next : Room := { frames := 1, cells := 0, slots := 0, locals := 21 }
abbrev ws_q_Integer_compare : List Cond := .code yX7_compare cX7_compare 2 (some .int) :: fo_T
abbrev rm_q_Integer_compare : Room := { frames := 0, cells := 0, slots := 0, locals := 0 }
abbrev ws_q_Call_isAheadOf : List Cond := .code yX1_isAheadOf cX1_isAheadOf 4 (some .boolean) :: fo_T
abbrev rm_q_Call_isAheadOf : Room := { frames := 1, cells := 0, slots := 0, locals := 21 }
abbrev ws_q_Links_setBehind : List Cond := .code yX4_setBehind cX4_setBehind 6 (some .int) :: fo_T
abbrev rm_q_Links_setBehind : Room := { frames := 2, cells := 0, slots := 0, locals := 44 }
abbrev ws_q_Links_contains : List Cond := .code yX4_contains cX4_contains 2 (some .boolean) :: fo_T
abbrev rm_q_Links_contains : Room := { frames := 0, cells := 0, slots := 0, locals := 0 }
abbrev ws_q_Links_leads : List Cond := .code yX4_leads cX4_leads 3 (some .boolean) :: fo_T
abbrev rm_q_Links_leads : Room := { frames := 1, cells := 0, slots := 0, locals := 21 }
abbrev ws_q_Links_find : List Cond := .code yX4_find cX4_find 5 none :: fo_T
abbrev rm_q_Links_find : Room := { frames := 3, cells := 0, slots := 0, locals := 69 }
abbrev ws_q_FairOrder_openedSet : List Cond := .code yX0_openedSet cX0_openedSet 3 (some .int) :: fo_T
abbrev rm_q_FairOrder_openedSet : Room := { frames := 0, cells := 0, slots := 0, locals := 0 }
abbrev ws_q_Links_isFree : List Cond := .code yX4_isFree cX4_isFree 5 (some .boolean) :: fo_T
abbrev rm_q_Links_isFree : Room := { frames := 2, cells := 0, slots := 0, locals := 43 }
abbrev ws_q_Links_knotOf : List Cond := .code yX4_knotOf cX4_knotOf 5 (some .int) :: fo_T
abbrev rm_q_Links_knotOf : Room := { frames := 2, cells := 0, slots := 0, locals := 43 }
abbrev ws_q_Links_firstKnot : List Cond := .code yX4_firstKnot cX4_firstKnot 4 (some .int) :: fo_T
abbrev rm_q_Links_firstKnot : Room := { frames := 3, cells := 0, slots := 0, locals := 67 }
abbrev ws_q_Row_add : List Cond := .code yX3_add cX3_add 2 none :: fo_T
abbrev rm_q_Row_add : Room := { frames := 0, cells := 0, slots := 0, locals := 0 }
abbrev ws_q_Links_addSet : List Cond := .code yX4_addSet cX4_addSet 4 none :: fo_T
abbrev rm_q_Links_addSet : Room := { frames := 1, cells := 0, slots := 0, locals := 21 }
abbrev ws_q_Links_addKnots : List Cond := .code yX4_addKnots cX4_addKnots 7 none :: fo_T
abbrev rm_q_Links_addKnots : Room := { frames := 4, cells := 0, slots := 0, locals := 90 }
abbrev ws_q_FairOrder_addByNumbers : List Cond := .code yX0_addByNumbers cX0_addByNumbers 2 none :: fo_T
abbrev rm_q_FairOrder_addByNumbers : Room := { frames := 1, cells := 0, slots := 0, locals := 21 }
abbrev ws_q_Row_swap : List Cond := .code yX3_swap cX3_swap 4 none :: fo_T
abbrev rm_q_Row_swap : Room := { frames := 0, cells := 0, slots := 0, locals := 0 }
abbrev ws_q_Row_shuffle : List Cond := .code yX3_shuffle cX3_shuffle 6 none :: fo_T
abbrev rm_q_Row_shuffle : Room := { frames := 1, cells := 0, slots := 0, locals := 23 }
abbrev ws_q_Call_nodesBefore : List Cond := .code yX1_nodesBefore cX1_nodesBefore 4 (some .int) :: fo_T
abbrev rm_q_Call_nodesBefore : Room := { frames := 0, cells := 0, slots := 0, locals := 0 }
abbrev ws_q_Call_thirdTime : List Cond := .code yX1_thirdTime cX1_thirdTime 2 (some .int) :: fo_T
abbrev rm_q_Call_thirdTime : Room := { frames := 1, cells := 0, slots := 0, locals := 23 }
abbrev ws_q_FairOrder_keyOf : List Cond := .code yX0_keyOf cX0_keyOf 2 (some .int) :: fo_T
abbrev rm_q_FairOrder_keyOf : Room := { frames := 2, cells := 0, slots := 0, locals := 44 }
abbrev ws_q_Row_sortBy : List Cond := .code yX3_sortBy cX3_sortBy 4 none :: fo_T
abbrev rm_q_Row_sortBy : Room := { frames := 1, cells := 0, slots := 0, locals := 23 }
abbrev ws_q_FairOrder_arrange : List Cond := .code yX0_arrange cX0_arrange 5 none :: fo_T
abbrev rm_q_FairOrder_arrange : Room := { frames := 3, cells := 0, slots := 0, locals := 65 }
abbrev ws_q_FairOrder_order : List Cond := .code yX0_order cX0_order 4 (some .int) :: fo_T
abbrev rm_q_FairOrder_order : Room := { frames := 5, cells := 0, slots := 0, locals := 116 }
abbrev ws_q_Row_hasPlace : List Cond := .code yX3_hasPlace cX3_hasPlace 2 (some .boolean) :: fo_T
abbrev rm_q_Row_hasPlace : Room := { frames := 0, cells := 0, slots := 0, locals := 0 }
abbrev ws_q_FairOrder_at : List Cond := .code yX0_at cX0_at 2 (some .int) :: fo_T
abbrev rm_q_FairOrder_at : Room := { frames := 1, cells := 0, slots := 0, locals := 21 }
abbrev ws_q_FairOrder_isOpenedCall : List Cond := .code yX0_isOpenedCall cX0_isOpenedCall 2 (some .boolean) :: fo_T
abbrev rm_q_FairOrder_isOpenedCall : Room := { frames := 1, cells := 0, slots := 0, locals := 21 }
abbrev ws_q_FairOrder_linked : List Cond := .code yX0_linked cX0_linked 3 (some .int) :: fo_T
abbrev rm_q_FairOrder_linked : Room := { frames := 4, cells := 0, slots := 0, locals := 93 }
abbrev ws_q_FairOrder_heard : List Cond := .code yX0_heard cX0_heard 3 (some .int) :: fo_T
abbrev rm_q_FairOrder_heard : Room := { frames := 2, cells := 0, slots := 0, locals := 44 }
abbrev ws_q_FairOrder_mayPlay : List Cond := .code yX0_mayPlay cX0_mayPlay 1 (some .boolean) :: fo_T
abbrev rm_q_FairOrder_mayPlay : Room := { frames := 0, cells := 0, slots := 0, locals := 0 }
abbrev ws_q_Call_limit : List Cond := .code yX1_limit cX1_limit 1 (some .long) :: fo_T
abbrev rm_q_Call_limit : Room := { frames := 0, cells := 0, slots := 0, locals := 0 }
abbrev ws_q_Market_take : List Cond := .code yX2_take cX2_take 6 none :: fo_T
abbrev rm_q_Market_take : Room := { frames := 0, cells := 0, slots := 0, locals := 0 }
abbrev ws_q_Market_give : List Cond := .code yX2_give cX2_give 6 none :: fo_T
abbrev rm_q_Market_give : Room := { frames := 0, cells := 0, slots := 0, locals := 0 }
abbrev ws_q_Market_buyFromPool : List Cond := .code yX2_buyFromPool cX2_buyFromPool 6 (some .long) :: fo_T
abbrev rm_q_Market_buyFromPool : Room := { frames := 1, cells := 0, slots := 0, locals := 25 }
abbrev ws_q_Market_sellToPool : List Cond := .code yX2_sellToPool cX2_sellToPool 6 (some .long) :: fo_T
abbrev rm_q_Market_sellToPool : Room := { frames := 1, cells := 0, slots := 0, locals := 25 }
abbrev ws_q_Market_trade : List Cond := .code yX2_trade cX2_trade 2 (some .long) :: fo_T
abbrev rm_q_Market_trade : Room := { frames := 2, cells := 0, slots := 0, locals := 50 }
abbrev ws_q_FairOrder_play : List Cond := .code yX0_play cX0_play 6 (some .int) :: fo_T
abbrev rm_q_FairOrder_play : Room := { frames := 3, cells := 0, slots := 0, locals := 71 }
abbrev ws_q_Auction_joinBuys : List Cond := .code yX5_joinBuys cX5_joinBuys 6 (some .boolean) :: fo_T
abbrev rm_q_Auction_joinBuys : Room := { frames := 0, cells := 0, slots := 0, locals := 0 }
abbrev ws_q_Auction_joinSells : List Cond := .code yX5_joinSells cX5_joinSells 6 (some .boolean) :: fo_T
abbrev rm_q_Auction_joinSells : Room := { frames := 0, cells := 0, slots := 0, locals := 0 }
abbrev ws_q_Auction_gather : List Cond := .code yX5_gather cX5_gather 7 none :: fo_T
abbrev rm_q_Auction_gather : Room := { frames := 1, cells := 0, slots := 0, locals := 25 }
abbrev ws_q_Auction_volume : List Cond := .code yX5_volume cX5_volume 1 (some .long) :: fo_T
abbrev rm_q_Auction_volume : Room := { frames := 1, cells := 0, slots := 0, locals := 23 }
abbrev ws_q_Auction_findPrice : List Cond := .code yX5_findPrice cX5_findPrice 8 (some .int) :: fo_T
abbrev rm_q_Auction_findPrice : Room := { frames := 2, cells := 0, slots := 0, locals := 51 }
abbrev ws_q_Auction_fill : List Cond := .code yX5_fill cX5_fill 8 (some .long) :: fo_T
abbrev rm_q_Auction_fill : Room := { frames := 1, cells := 0, slots := 0, locals := 25 }
abbrev ws_q_Auction_settle : List Cond := .code yX5_settle cX5_settle 11 none :: fo_T
abbrev rm_q_Auction_settle : Room := { frames := 2, cells := 0, slots := 0, locals := 52 }
abbrev ws_q_FairOrder_batch : List Cond := .code yX0_batch cX0_batch 2 (some .int) :: fo_T
abbrev rm_q_FairOrder_batch : Room := { frames := 3, cells := 0, slots := 0, locals := 82 }
abbrev ws_q_FairOrder_done : List Cond := .code yX0_done cX0_done 2 (some .int) :: fo_T
abbrev rm_q_FairOrder_done : Room := { frames := 1, cells := 0, slots := 0, locals := 21 }
abbrev ws_q_FairOrder_passed : List Cond := .code yX0_passed cX0_passed 2 (some .long) :: fo_T
abbrev rm_q_FairOrder_passed : Room := { frames := 1, cells := 0, slots := 0, locals := 21 }
abbrev ws_q_FairOrder_isHolding : List Cond := .code yX0_isHolding cX0_isHolding 1 (some .boolean) :: fo_T
abbrev rm_q_FairOrder_isHolding : Room := { frames := 0, cells := 0, slots := 0, locals := 0 }
abbrev ws_q_Row_copyFrom : List Cond := .code yX3_copyFrom cX3_copyFrom 2 none :: fo_T
abbrev rm_q_Row_copyFrom : Room := { frames := 1, cells := 0, slots := 0, locals := 40 }
abbrev ws_q_Row_move : List Cond := .code yX3_move cX3_move 4 none :: fo_T
abbrev rm_q_Row_move : Room := { frames := 1, cells := 0, slots := 0, locals := 23 }
abbrev ws_q_Market_copyFrom : List Cond := .code yX2_copyFrom cX2_copyFrom 2 none :: fo_T
abbrev rm_q_Market_copyFrom : Room := { frames := 1, cells := 0, slots := 0, locals := 40 }
abbrev ws_q_Market_held : List Cond := .code yX2_held cX2_held 3 (some .long) :: fo_T
abbrev rm_q_Market_held : Room := { frames := 0, cells := 0, slots := 0, locals := 0 }
abbrev ws_q_FairOrder_heldAfterTrial : List Cond := .code yX0_heldAfterTrial cX0_heldAfterTrial 5 (some .long) :: fo_T
abbrev rm_q_FairOrder_heldAfterTrial : Room := { frames := 3, cells := 0, slots := 0, locals := 71 }
abbrev ws_q_FairOrder_gain : List Cond := .code yX0_gain cX0_gain 9 (some .long) :: fo_T
abbrev rm_q_FairOrder_gain : Room := { frames := 4, cells := 0, slots := 0, locals := 95 }
abbrev ws_q_FairOrder_has : List Cond := .code yX0_has cX0_has 3 (some .long) :: fo_T
abbrev rm_q_FairOrder_has : Room := { frames := 1, cells := 0, slots := 0, locals := 22 }
abbrev ws_q_Call_term : List Cond := .code yX1_term cX1_term 2 (some .int) :: fo_T
abbrev rm_q_Call_term : Room := { frames := 0, cells := 0, slots := 0, locals := 0 }
abbrev ws_q_FairOrder_of : List Cond := .code yX0_of cX0_of 4 (some .int) :: fo_T
abbrev rm_q_FairOrder_of : Room := { frames := 1, cells := 0, slots := 0, locals := 21 }
abbrev ws_q_Integer_bitCount : List Cond := .code yX7_bitCount cX7_bitCount 1 (some .int) :: fo_T
abbrev rm_q_Integer_bitCount : Room := { frames := 0, cells := 0, slots := 0, locals := 0 }
abbrev ws_q_FairOrder_count : List Cond := .code yX0_count cX0_count 2 (some .int) :: fo_T
abbrev rm_q_FairOrder_count : Room := { frames := 1, cells := 0, slots := 0, locals := 22 }
abbrev ws_q_fillJ : List Cond := .code yX8_fillJ cX8_fillJ 5 none :: fo_T
abbrev rm_q_fillJ : Room := { frames := 0, cells := 0, slots := 0, locals := 0 }
abbrev ws_q_fillI : List Cond := .code yX8_fillI cX8_fillI 4 none :: fo_T
abbrev rm_q_fillI : Room := { frames := 0, cells := 0, slots := 0, locals := 0 }
abbrev ws_q_Call_init : List Cond := .code yX1_init cX1_init 1 none :: fo_T
abbrev rm_q_Call_init : Room := { frames := 1, cells := 1, slots := 5, locals := 12 }
abbrev ws_q_Market_init : List Cond := .code yX2_init cX2_init 1 none :: fo_T
abbrev rm_q_Market_init : Room := { frames := 1, cells := 2, slots := 18, locals := 12 }
abbrev ws_q_Row_init : List Cond := .code yX3_init cX3_init 1 none :: fo_T
abbrev rm_q_Row_init : Room := { frames := 1, cells := 1, slots := 16, locals := 12 }
abbrev ws_q_Links_init : List Cond := .code yX4_init cX4_init 1 none :: fo_T
abbrev rm_q_Links_init : Room := { frames := 1, cells := 1, slots := 16, locals := 12 }
abbrev ws_q_Auction_init : List Cond := .code yX5_init cX5_init 1 none :: fo_T
abbrev rm_q_Auction_init : Room := { frames := 1, cells := 3, slots := 32, locals := 12 }
abbrev ws_q_FairOrder_init : List Cond := .code yX0_init cX0_init 2 none :: fo_T
abbrev rm_q_FairOrder_init : Room := { frames := 2, cells := 50, slots := 402, locals := 32 }
theorem fo_k0_109 {args : Array Value} {s : State} (hT : ∀ w ∈ fo_T, w.before args s = true) : (Cond.constant RX0 109 1000000).before args s = true := hT _ (fo_tb 263 (by decide +kernel) rfl)
theorem fo_k0_113 {args : Array Value} {s : State} (hT : ∀ w ∈ fo_T, w.before args s = true) : (Cond.constant RX0 113 1000001).before args s = true := hT _ (fo_tb 264 (by decide +kernel) rfl)
theorem fo_k0_186 {args : Array Value} {s : State} (hT : ∀ w ∈ fo_T, w.before args s = true) : (Cond.constantLong RX0 186 (-1)).before args s = true := hT _ (fo_tb 422 (by decide +kernel) rfl)
theorem fo_k0_205 {args : Array Value} {s : State} (hT : ∀ w ∈ fo_T, w.before args s = true) : (Cond.constantLong RX0 205 (-2)).before args s = true := hT _ (fo_tb 470 (by decide +kernel) rfl)
theorem fo_k0_238 {args : Array Value} {s : State} (hT : ∀ w ∈ fo_T, w.before args s = true) : (Cond.constantLong RX0 238 1000000000).before args s = true := hT _ (fo_tb 211 (by decide +kernel) rfl)
theorem fo_k0_240 {args : Array Value} {s : State} (hT : ∀ w ∈ fo_T, w.before args s = true) : (Cond.constantLong RX0 240 31).before args s = true := hT _ (fo_tb 230 (by decide +kernel) rfl)
theorem fo_k0_242 {args : Array Value} {s : State} (hT : ∀ w ∈ fo_T, w.before args s = true) : (Cond.constantLong RX0 242 1009).before args s = true := hT _ (fo_tb 231 (by decide +kernel) rfl)
theorem fo_k0_244 {args : Array Value} {s : State} (hT : ∀ w ∈ fo_T, w.before args s = true) : (Cond.constantLong RX0 244 1013).before args s = true := hT _ (fo_tb 232 (by decide +kernel) rfl)
theorem fo_k0_246 {args : Array Value} {s : State} (hT : ∀ w ∈ fo_T, w.before args s = true) : (Cond.constantLong RX0 246 6364136223846793005).before args s = true := hT _ (fo_tb 233 (by decide +kernel) rfl)
theorem fo_k0_91 {args : Array Value} {s : State} (hT : ∀ w ∈ fo_T, w.before args s = true) : (Cond.constantLong RX0 91 1000000).before args s = true := hT _ (fo_tb 242 (by decide +kernel) rfl)
theorem fo_k1_30 {args : Array Value} {s : State} (hT : ∀ w ∈ fo_T, w.before args s = true) : (Cond.constant RX1 30 1000001).before args s = true := hT _ (fo_tb 247 (by decide +kernel) rfl)
theorem fo_k2_46 {args : Array Value} {s : State} (hT : ∀ w ∈ fo_T, w.before args s = true) : (Cond.constantLong RX2 46 (-1)).before args s = true := hT _ (fo_tb 405 (by decide +kernel) rfl)
theorem fo_k3_29 {args : Array Value} {s : State} (hT : ∀ w ∈ fo_T, w.before args s = true) : (Cond.constantLong RX3 29 6364136223846793005).before args s = true := hT _ (fo_tb 347 (by decide +kernel) rfl)
theorem fo_k3_31 {args : Array Value} {s : State} (hT : ∀ w ∈ fo_T, w.before args s = true) : (Cond.constantLong RX3 31 1442695040888963407).before args s = true := hT _ (fo_tb 348 (by decide +kernel) rfl)
theorem fo_k7_265 {args : Array Value} {s : State} (hT : ∀ w ∈ fo_T, w.before args s = true) : (Cond.constant RX7 265 1431655765).before args s = true := hT _ (fo_tb 521 (by decide +kernel) rfl)
theorem fo_k7_266 {args : Array Value} {s : State} (hT : ∀ w ∈ fo_T, w.before args s = true) : (Cond.constant RX7 266 858993459).before args s = true := hT _ (fo_tb 522 (by decide +kernel) rfl)
theorem fo_k7_267 {args : Array Value} {s : State} (hT : ∀ w ∈ fo_T, w.before args s = true) : (Cond.constant RX7 267 252645135).before args s = true := hT _ (fo_tb 523 (by decide +kernel) rfl)
section FOM
variable {p : Program} {l : Launch} {e : Env} {R : Room} {s : State} {m : MethodId} {args : Array Value} {below : List Frame} {meth : Method} {c : Code} {H : Heap} {locs : List Loc} {cells slots : Nat} {Q : State → Prop}
variable {cc : ByteArray} {pc : Nat} {ls : Array Slot} {rest : List Value} {D : va_G} {A : Nat → Prop} {H0 : Heap} {ca : Nat → ClassId} {ad : Nat → Nat} {σ : fo_S}
theorem fo_g0_110 (hx : p.tables.exec = Jvm.exec) (hb : c.code = cc) (hT : ∀ w ∈ fo_T, w.before args s = true) (hown : s.vm.findClass RX0 = some m.cls) (hK : va_K D vwCl (fo_tys ca) s) (hP : va_P D vwCl (fo_vx 51 ad (fo_ce ca ad σ)) H) {i : Nat} (hi : i < 16) (hdg : decode cc pc = .ok (.getfield 110, 3))
    (kk : W p l e R s m args below meth c H locs cells slots Q (F0 m (pc + 3) ls (.ref (ad (fo_lay 15 i)) :: rest))) : W p l e R s m args below meth c H locs cells slots Q (F0 m pc ls (.ref (ad (fo_lay 14 i)) :: rest)) :=
  va_get (C := RX1) (T := TX1) (N := 10) (ci := 1) hx hb hT fo_in1 hown hK hP (fo_lay 14 i) (fo_at (by decide) hi) rfl 0 (by decide) (hT _ (fo_tb 96 (by decide +kernel) rfl)) (fun _ h => h) rfl hdg kk
theorem fo_g0_114 (hx : p.tables.exec = Jvm.exec) (hb : c.code = cc) (hT : ∀ w ∈ fo_T, w.before args s = true) (hown : s.vm.findClass RX0 = some m.cls) (hK : va_K D vwCl (fo_tys ca) s) (hP : va_P D vwCl (fo_vx 51 ad (fo_ce ca ad σ)) H) {i : Nat} (hi : i < 16) (hdg : decode cc pc = .ok (.getfield 114, 3))
    (kk : W p l e R s m args below meth c H locs cells slots Q (F0 m (pc + 3) ls (.int (σ.1 14 i 4) :: rest))) : W p l e R s m args below meth c H locs cells slots Q (F0 m pc ls (.ref (ad (fo_lay 14 i)) :: rest)) :=
  va_get (C := RX1) (T := TX1) (N := 10) (ci := 1) hx hb hT fo_in1 hown hK hP (fo_lay 14 i) (fo_at (by decide) hi) rfl 4 (by decide) (hT _ (fo_tb 107 (by decide +kernel) rfl)) (fun _ h => h) rfl hdg kk
theorem fo_g0_118 (hx : p.tables.exec = Jvm.exec) (hb : c.code = cc) (hT : ∀ w ∈ fo_T, w.before args s = true) (hown : s.vm.findClass RX0 = some m.cls) (hK : va_K D vwCl (fo_tys ca) s) (hP : va_P D vwCl (fo_vx 51 ad (fo_ce ca ad σ)) H) {i : Nat} (hi : i < 16) (hdg : decode cc pc = .ok (.getfield 118, 3))
    (kk : W p l e R s m args below meth c H locs cells slots Q (F0 m (pc + 3) ls (.long (σ.2 14 i 3) :: rest))) : W p l e R s m args below meth c H locs cells slots Q (F0 m pc ls (.ref (ad (fo_lay 14 i)) :: rest)) :=
  va_get (C := RX1) (T := TX1) (N := 10) (ci := 1) hx hb hT fo_in1 hown hK hP (fo_lay 14 i) (fo_at (by decide) hi) rfl 3 (by decide) (hT _ (fo_tb 104 (by decide +kernel) rfl)) (fun _ h => h) rfl hdg kk
theorem fo_g0_12 (hx : p.tables.exec = Jvm.exec) (hb : c.code = cc) (hT : ∀ w ∈ fo_T, w.before args s = true) (hown : s.vm.findClass RX0 = some m.cls) (hK : va_K D vwCl (fo_tys ca) s) (hP : va_P D vwCl (fo_vx 51 ad (fo_ce ca ad σ)) H) {i : Nat} (hi : i < 1) (hdg : decode cc pc = .ok (.getfield 12, 3))
    (kk : W p l e R s m args below meth c H locs cells slots Q (F0 m (pc + 3) ls (.ref (ad (fo_lay 1 0)) :: rest))) : W p l e R s m args below meth c H locs cells slots Q (F0 m pc ls (.ref (ad (fo_lay 0 i)) :: rest)) :=
  va_get (C := RX0) (T := TX0) (N := 15) (ci := 0) hx hb hT fo_in0 hown hK hP (fo_lay 0 i) (fo_at (by decide) hi) rfl 0 (by decide) (hT _ (fo_tb 143 (by decide +kernel) rfl)) (fun _ h => h) rfl hdg kk
theorem fo_g0_125 (hx : p.tables.exec = Jvm.exec) (hb : c.code = cc) (hT : ∀ w ∈ fo_T, w.before args s = true) (hown : s.vm.findClass RX0 = some m.cls) (hK : va_K D vwCl (fo_tys ca) s) (hP : va_P D vwCl (fo_vx 51 ad (fo_ce ca ad σ)) H) {i : Nat} (hi : i < 16) (hdg : decode cc pc = .ok (.getfield 125, 3))
    (kk : W p l e R s m args below meth c H locs cells slots Q (F0 m (pc + 3) ls (.int (σ.1 14 i 1) :: rest))) : W p l e R s m args below meth c H locs cells slots Q (F0 m pc ls (.ref (ad (fo_lay 14 i)) :: rest)) :=
  va_get (C := RX1) (T := TX1) (N := 10) (ci := 1) hx hb hT fo_in1 hown hK hP (fo_lay 14 i) (fo_at (by decide) hi) rfl 1 (by decide) (hT _ (fo_tb 100 (by decide +kernel) rfl)) (fun _ h => h) rfl hdg kk
theorem fo_g0_128 (hx : p.tables.exec = Jvm.exec) (hb : c.code = cc) (hT : ∀ w ∈ fo_T, w.before args s = true) (hown : s.vm.findClass RX0 = some m.cls) (hK : va_K D vwCl (fo_tys ca) s) (hP : va_P D vwCl (fo_vx 51 ad (fo_ce ca ad σ)) H) {i : Nat} (hi : i < 16) (hdg : decode cc pc = .ok (.getfield 128, 3))
    (kk : W p l e R s m args below meth c H locs cells slots Q (F0 m (pc + 3) ls (.long (σ.2 14 i 2) :: rest))) : W p l e R s m args below meth c H locs cells slots Q (F0 m pc ls (.ref (ad (fo_lay 14 i)) :: rest)) :=
  va_get (C := RX1) (T := TX1) (N := 10) (ci := 1) hx hb hT fo_in1 hown hK hP (fo_lay 14 i) (fo_at (by decide) hi) rfl 2 (by decide) (hT _ (fo_tb 102 (by decide +kernel) rfl)) (fun _ h => h) rfl hdg kk
theorem fo_g0_134 (hx : p.tables.exec = Jvm.exec) (hb : c.code = cc) (hT : ∀ w ∈ fo_T, w.before args s = true) (hown : s.vm.findClass RX0 = some m.cls) (hK : va_K D vwCl (fo_tys ca) s) (hP : va_P D vwCl (fo_vx 51 ad (fo_ce ca ad σ)) H) {i : Nat} (hi : i < 2) (hdg : decode cc pc = .ok (.getfield 134, 3))
    (kk : W p l e R s m args below meth c H locs cells slots Q (F0 m (pc + 3) ls (.int (σ.1 5 i 1) :: rest))) : W p l e R s m args below meth c H locs cells slots Q (F0 m pc ls (.ref (ad (fo_lay 5 i)) :: rest)) :=
  va_get (C := RX3) (T := TX3) (N := 2) (ci := 3) hx hb hT fo_in3 hown hK hP (fo_lay 5 i) (fo_at (by decide) hi) rfl 1 (by decide) (hT _ (fo_tb 50 (by decide +kernel) rfl)) (fun _ h => h) rfl hdg kk
theorem fo_g0_156 (hx : p.tables.exec = Jvm.exec) (hb : c.code = cc) (hT : ∀ w ∈ fo_T, w.before args s = true) (hown : s.vm.findClass RX0 = some m.cls) (hK : va_K D vwCl (fo_tys ca) s) (hP : va_P D vwCl (fo_vx 51 ad (fo_ce ca ad σ)) H) {i : Nat} (hi : i < 1) (hdg : decode cc pc = .ok (.getfield 156, 3))
    (kk : W p l e R s m args below meth c H locs cells slots Q (F0 m (pc + 3) ls (.int (σ.1 0 i 13) :: rest))) : W p l e R s m args below meth c H locs cells slots Q (F0 m pc ls (.ref (ad (fo_lay 0 i)) :: rest)) :=
  va_get (C := RX0) (T := TX0) (N := 15) (ci := 0) hx hb hT fo_in0 hown hK hP (fo_lay 0 i) (fo_at (by decide) hi) rfl 13 (by decide) (hT _ (fo_tb 156 (by decide +kernel) rfl)) (fun _ h => h) rfl hdg kk
theorem fo_g0_16 (hx : p.tables.exec = Jvm.exec) (hb : c.code = cc) (hT : ∀ w ∈ fo_T, w.before args s = true) (hown : s.vm.findClass RX0 = some m.cls) (hK : va_K D vwCl (fo_tys ca) s) (hP : va_P D vwCl (fo_vx 51 ad (fo_ce ca ad σ)) H) {i : Nat} (hi : i < 1) (hdg : decode cc pc = .ok (.getfield 16, 3))
    (kk : W p l e R s m args below meth c H locs cells slots Q (F0 m (pc + 3) ls (.ref (ad (fo_lay 1 1)) :: rest))) : W p l e R s m args below meth c H locs cells slots Q (F0 m pc ls (.ref (ad (fo_lay 0 i)) :: rest)) :=
  va_get (C := RX0) (T := TX0) (N := 15) (ci := 0) hx hb hT fo_in0 hown hK hP (fo_lay 0 i) (fo_at (by decide) hi) rfl 1 (by decide) (hT _ (fo_tb 144 (by decide +kernel) rfl)) (fun _ h => h) rfl hdg kk
theorem fo_g0_162 (hx : p.tables.exec = Jvm.exec) (hb : c.code = cc) (hT : ∀ w ∈ fo_T, w.before args s = true) (hown : s.vm.findClass RX0 = some m.cls) (hK : va_K D vwCl (fo_tys ca) s) (hP : va_P D vwCl (fo_vx 51 ad (fo_ce ca ad σ)) H) {i : Nat} (hi : i < 2) (hdg : decode cc pc = .ok (.getfield 162, 3))
    (kk : W p l e R s m args below meth c H locs cells slots Q (F0 m (pc + 3) ls (.ref (ad (fo_lay 6 i)) :: rest))) : W p l e R s m args below meth c H locs cells slots Q (F0 m pc ls (.ref (ad (fo_lay 5 i)) :: rest)) :=
  va_get (C := RX3) (T := TX3) (N := 2) (ci := 3) hx hb hT fo_in3 hown hK hP (fo_lay 5 i) (fo_at (by decide) hi) rfl 0 (by decide) (hT _ (fo_tb 47 (by decide +kernel) rfl)) (fun _ h => h) rfl hdg kk
theorem fo_g0_179 (hx : p.tables.exec = Jvm.exec) (hb : c.code = cc) (hT : ∀ w ∈ fo_T, w.before args s = true) (hown : s.vm.findClass RX0 = some m.cls) (hK : va_K D vwCl (fo_tys ca) s) (hP : va_P D vwCl (fo_vx 51 ad (fo_ce ca ad σ)) H) {i : Nat} (hi : i < 1) (hdg : decode cc pc = .ok (.getfield 179, 3))
    (kk : W p l e R s m args below meth c H locs cells slots Q (F0 m (pc + 3) ls (.int (σ.1 0 i 14) :: rest))) : W p l e R s m args below meth c H locs cells slots Q (F0 m pc ls (.ref (ad (fo_lay 0 i)) :: rest)) :=
  va_get (C := RX0) (T := TX0) (N := 15) (ci := 0) hx hb hT fo_in0 hown hK hP (fo_lay 0 i) (fo_at (by decide) hi) rfl 14 (by decide) (hT _ (fo_tb 157 (by decide +kernel) rfl)) (fun _ h => h) rfl hdg kk
theorem fo_g0_188 (hx : p.tables.exec = Jvm.exec) (hb : c.code = cc) (hT : ∀ w ∈ fo_T, w.before args s = true) (hown : s.vm.findClass RX0 = some m.cls) (hK : va_K D vwCl (fo_tys ca) s) (hP : va_P D vwCl (fo_vx 51 ad (fo_ce ca ad σ)) H) {i : Nat} (hi : i < 16) (hdg : decode cc pc = .ok (.getfield 188, 3))
    (kk : W p l e R s m args below meth c H locs cells slots Q (F0 m (pc + 3) ls (.int (σ.1 14 i 7) :: rest))) : W p l e R s m args below meth c H locs cells slots Q (F0 m pc ls (.ref (ad (fo_lay 14 i)) :: rest)) :=
  va_get (C := RX1) (T := TX1) (N := 10) (ci := 1) hx hb hT fo_in1 hown hK hP (fo_lay 14 i) (fo_at (by decide) hi) rfl 7 (by decide) (hT _ (fo_tb 117 (by decide +kernel) rfl)) (fun _ h => h) rfl hdg kk
theorem fo_g0_202 (hx : p.tables.exec = Jvm.exec) (hb : c.code = cc) (hT : ∀ w ∈ fo_T, w.before args s = true) (hown : s.vm.findClass RX0 = some m.cls) (hK : va_K D vwCl (fo_tys ca) s) (hP : va_P D vwCl (fo_vx 51 ad (fo_ce ca ad σ)) H) {i : Nat} (hi : i < 16) (hdg : decode cc pc = .ok (.getfield 202, 3))
    (kk : W p l e R s m args below meth c H locs cells slots Q (F0 m (pc + 3) ls (.int (σ.1 14 i 8) :: rest))) : W p l e R s m args below meth c H locs cells slots Q (F0 m pc ls (.ref (ad (fo_lay 14 i)) :: rest)) :=
  va_get (C := RX1) (T := TX1) (N := 10) (ci := 1) hx hb hT fo_in1 hown hK hP (fo_lay 14 i) (fo_at (by decide) hi) rfl 8 (by decide) (hT _ (fo_tb 119 (by decide +kernel) rfl)) (fun _ h => h) rfl hdg kk
theorem fo_g0_207 (hx : p.tables.exec = Jvm.exec) (hb : c.code = cc) (hT : ∀ w ∈ fo_T, w.before args s = true) (hown : s.vm.findClass RX0 = some m.cls) (hK : va_K D vwCl (fo_tys ca) s) (hP : va_P D vwCl (fo_vx 51 ad (fo_ce ca ad σ)) H) {i : Nat} (hi : i < 16) (hdg : decode cc pc = .ok (.getfield 207, 3))
    (kk : W p l e R s m args below meth c H locs cells slots Q (F0 m (pc + 3) ls (.long (σ.2 14 i 9) :: rest))) : W p l e R s m args below meth c H locs cells slots Q (F0 m pc ls (.ref (ad (fo_lay 14 i)) :: rest)) :=
  va_get (C := RX1) (T := TX1) (N := 10) (ci := 1) hx hb hT fo_in1 hown hK hP (fo_lay 14 i) (fo_at (by decide) hi) rfl 9 (by decide) (hT _ (fo_tb 121 (by decide +kernel) rfl)) (fun _ h => h) rfl hdg kk
theorem fo_g0_21 (hx : p.tables.exec = Jvm.exec) (hb : c.code = cc) (hT : ∀ w ∈ fo_T, w.before args s = true) (hown : s.vm.findClass RX0 = some m.cls) (hK : va_K D vwCl (fo_tys ca) s) (hP : va_P D vwCl (fo_vx 51 ad (fo_ce ca ad σ)) H) {i : Nat} (hi : i < 1) (hdg : decode cc pc = .ok (.getfield 21, 3))
    (kk : W p l e R s m args below meth c H locs cells slots Q (F0 m (pc + 3) ls (.ref (ad (fo_lay 4 0)) :: rest))) : W p l e R s m args below meth c H locs cells slots Q (F0 m pc ls (.ref (ad (fo_lay 0 i)) :: rest)) :=
  va_get (C := RX0) (T := TX0) (N := 15) (ci := 0) hx hb hT fo_in0 hown hK hP (fo_lay 0 i) (fo_at (by decide) hi) rfl 2 (by decide) (hT _ (fo_tb 145 (by decide +kernel) rfl)) (fun _ h => h) rfl hdg kk
theorem fo_g0_264 (hx : p.tables.exec = Jvm.exec) (hb : c.code = cc) (hT : ∀ w ∈ fo_T, w.before args s = true) (hown : s.vm.findClass RX0 = some m.cls) (hK : va_K D vwCl (fo_tys ca) s) (hP : va_P D vwCl (fo_vx 51 ad (fo_ce ca ad σ)) H) {i : Nat} (hi : i < 16) (hdg : decode cc pc = .ok (.getfield 264, 3))
    (kk : W p l e R s m args below meth c H locs cells slots Q (F0 m (pc + 3) ls (.int (σ.1 14 i 6) :: rest))) : W p l e R s m args below meth c H locs cells slots Q (F0 m pc ls (.ref (ad (fo_lay 14 i)) :: rest)) :=
  va_get (C := RX1) (T := TX1) (N := 10) (ci := 1) hx hb hT fo_in1 hown hK hP (fo_lay 14 i) (fo_at (by decide) hi) rfl 6 (by decide) (hT _ (fo_tb 113 (by decide +kernel) rfl)) (fun _ h => h) rfl hdg kk
theorem fo_g0_28 (hx : p.tables.exec = Jvm.exec) (hb : c.code = cc) (hT : ∀ w ∈ fo_T, w.before args s = true) (hown : s.vm.findClass RX0 = some m.cls) (hK : va_K D vwCl (fo_tys ca) s) (hP : va_P D vwCl (fo_vx 51 ad (fo_ce ca ad σ)) H) {i : Nat} (hi : i < 1) (hdg : decode cc pc = .ok (.getfield 28, 3))
    (kk : W p l e R s m args below meth c H locs cells slots Q (F0 m (pc + 3) ls (.ref (ad (fo_lay 5 0)) :: rest))) : W p l e R s m args below meth c H locs cells slots Q (F0 m pc ls (.ref (ad (fo_lay 0 i)) :: rest)) :=
  va_get (C := RX0) (T := TX0) (N := 15) (ci := 0) hx hb hT fo_in0 hown hK hP (fo_lay 0 i) (fo_at (by decide) hi) rfl 3 (by decide) (hT _ (fo_tb 146 (by decide +kernel) rfl)) (fun _ h => h) rfl hdg kk
theorem fo_g0_32 (hx : p.tables.exec = Jvm.exec) (hb : c.code = cc) (hT : ∀ w ∈ fo_T, w.before args s = true) (hown : s.vm.findClass RX0 = some m.cls) (hK : va_K D vwCl (fo_tys ca) s) (hP : va_P D vwCl (fo_vx 51 ad (fo_ce ca ad σ)) H) {i : Nat} (hi : i < 1) (hdg : decode cc pc = .ok (.getfield 32, 3))
    (kk : W p l e R s m args below meth c H locs cells slots Q (F0 m (pc + 3) ls (.ref (ad (fo_lay 5 1)) :: rest))) : W p l e R s m args below meth c H locs cells slots Q (F0 m pc ls (.ref (ad (fo_lay 0 i)) :: rest)) :=
  va_get (C := RX0) (T := TX0) (N := 15) (ci := 0) hx hb hT fo_in0 hown hK hP (fo_lay 0 i) (fo_at (by decide) hi) rfl 4 (by decide) (hT _ (fo_tb 147 (by decide +kernel) rfl)) (fun _ h => h) rfl hdg kk
theorem fo_g0_35 (hx : p.tables.exec = Jvm.exec) (hb : c.code = cc) (hT : ∀ w ∈ fo_T, w.before args s = true) (hown : s.vm.findClass RX0 = some m.cls) (hK : va_K D vwCl (fo_tys ca) s) (hP : va_P D vwCl (fo_vx 51 ad (fo_ce ca ad σ)) H) {i : Nat} (hi : i < 1) (hdg : decode cc pc = .ok (.getfield 35, 3))
    (kk : W p l e R s m args below meth c H locs cells slots Q (F0 m (pc + 3) ls (.ref (ad (fo_lay 7 0)) :: rest))) : W p l e R s m args below meth c H locs cells slots Q (F0 m pc ls (.ref (ad (fo_lay 0 i)) :: rest)) :=
  va_get (C := RX0) (T := TX0) (N := 15) (ci := 0) hx hb hT fo_in0 hown hK hP (fo_lay 0 i) (fo_at (by decide) hi) rfl 5 (by decide) (hT _ (fo_tb 148 (by decide +kernel) rfl)) (fun _ h => h) rfl hdg kk
theorem fo_g0_42 (hx : p.tables.exec = Jvm.exec) (hb : c.code = cc) (hT : ∀ w ∈ fo_T, w.before args s = true) (hown : s.vm.findClass RX0 = some m.cls) (hK : va_K D vwCl (fo_tys ca) s) (hP : va_P D vwCl (fo_vx 51 ad (fo_ce ca ad σ)) H) {i : Nat} (hi : i < 1) (hdg : decode cc pc = .ok (.getfield 42, 3))
    (kk : W p l e R s m args below meth c H locs cells slots Q (F0 m (pc + 3) ls (.ref (ad (fo_lay 8 0)) :: rest))) : W p l e R s m args below meth c H locs cells slots Q (F0 m pc ls (.ref (ad (fo_lay 0 i)) :: rest)) :=
  va_get (C := RX0) (T := TX0) (N := 15) (ci := 0) hx hb hT fo_in0 hown hK hP (fo_lay 0 i) (fo_at (by decide) hi) rfl 6 (by decide) (hT _ (fo_tb 149 (by decide +kernel) rfl)) (fun _ h => h) rfl hdg kk
theorem fo_g0_49 (hx : p.tables.exec = Jvm.exec) (hb : c.code = cc) (hT : ∀ w ∈ fo_T, w.before args s = true) (hown : s.vm.findClass RX0 = some m.cls) (hK : va_K D vwCl (fo_tys ca) s) (hP : va_P D vwCl (fo_vx 51 ad (fo_ce ca ad σ)) H) {i : Nat} (hi : i < 1) (hdg : decode cc pc = .ok (.getfield 49, 3))
    (kk : W p l e R s m args below meth c H locs cells slots Q (F0 m (pc + 3) ls (.ref (ad (fo_lay 10 0)) :: rest))) : W p l e R s m args below meth c H locs cells slots Q (F0 m pc ls (.ref (ad (fo_lay 0 i)) :: rest)) :=
  va_get (C := RX0) (T := TX0) (N := 15) (ci := 0) hx hb hT fo_in0 hown hK hP (fo_lay 0 i) (fo_at (by decide) hi) rfl 7 (by decide) (hT _ (fo_tb 150 (by decide +kernel) rfl)) (fun _ h => h) rfl hdg kk
theorem fo_g0_54 (hx : p.tables.exec = Jvm.exec) (hb : c.code = cc) (hT : ∀ w ∈ fo_T, w.before args s = true) (hown : s.vm.findClass RX0 = some m.cls) (hK : va_K D vwCl (fo_tys ca) s) (hP : va_P D vwCl (fo_vx 51 ad (fo_ce ca ad σ)) H) {i : Nat} (hi : i < 1) (hdg : decode cc pc = .ok (.getfield 54, 3))
    (kk : W p l e R s m args below meth c H locs cells slots Q (F0 m (pc + 3) ls (.int (σ.1 0 i 8) :: rest))) : W p l e R s m args below meth c H locs cells slots Q (F0 m pc ls (.ref (ad (fo_lay 0 i)) :: rest)) :=
  va_get (C := RX0) (T := TX0) (N := 15) (ci := 0) hx hb hT fo_in0 hown hK hP (fo_lay 0 i) (fo_at (by decide) hi) rfl 8 (by decide) (hT _ (fo_tb 151 (by decide +kernel) rfl)) (fun _ h => h) rfl hdg kk
theorem fo_g0_61 (hx : p.tables.exec = Jvm.exec) (hb : c.code = cc) (hT : ∀ w ∈ fo_T, w.before args s = true) (hown : s.vm.findClass RX0 = some m.cls) (hK : va_K D vwCl (fo_tys ca) s) (hP : va_P D vwCl (fo_vx 51 ad (fo_ce ca ad σ)) H) {i : Nat} (hi : i < 1) (hdg : decode cc pc = .ok (.getfield 61, 3))
    (kk : W p l e R s m args below meth c H locs cells slots Q (F0 m (pc + 3) ls (.long (σ.2 0 i 12) :: rest))) : W p l e R s m args below meth c H locs cells slots Q (F0 m pc ls (.ref (ad (fo_lay 0 i)) :: rest)) :=
  va_get (C := RX0) (T := TX0) (N := 15) (ci := 0) hx hb hT fo_in0 hown hK hP (fo_lay 0 i) (fo_at (by decide) hi) rfl 12 (by decide) (hT _ (fo_tb 155 (by decide +kernel) rfl)) (fun _ h => h) rfl hdg kk
theorem fo_g0_65 (hx : p.tables.exec = Jvm.exec) (hb : c.code = cc) (hT : ∀ w ∈ fo_T, w.before args s = true) (hown : s.vm.findClass RX0 = some m.cls) (hK : va_K D vwCl (fo_tys ca) s) (hP : va_P D vwCl (fo_vx 51 ad (fo_ce ca ad σ)) H) {i : Nat} (hi : i < 1) (hdg : decode cc pc = .ok (.getfield 65, 3))
    (kk : W p l e R s m args below meth c H locs cells slots Q (F0 m (pc + 3) ls (.int (σ.1 0 i 11) :: rest))) : W p l e R s m args below meth c H locs cells slots Q (F0 m pc ls (.ref (ad (fo_lay 0 i)) :: rest)) :=
  va_get (C := RX0) (T := TX0) (N := 15) (ci := 0) hx hb hT fo_in0 hown hK hP (fo_lay 0 i) (fo_at (by decide) hi) rfl 11 (by decide) (hT _ (fo_tb 154 (by decide +kernel) rfl)) (fun _ h => h) rfl hdg kk
theorem fo_g0_93 (hx : p.tables.exec = Jvm.exec) (hb : c.code = cc) (hT : ∀ w ∈ fo_T, w.before args s = true) (hown : s.vm.findClass RX0 = some m.cls) (hK : va_K D vwCl (fo_tys ca) s) (hP : va_P D vwCl (fo_vx 51 ad (fo_ce ca ad σ)) H) {i : Nat} (hi : i < 1) (hdg : decode cc pc = .ok (.getfield 93, 3))
    (kk : W p l e R s m args below meth c H locs cells slots Q (F0 m (pc + 3) ls (.int (σ.1 0 i 10) :: rest))) : W p l e R s m args below meth c H locs cells slots Q (F0 m pc ls (.ref (ad (fo_lay 0 i)) :: rest)) :=
  va_get (C := RX0) (T := TX0) (N := 15) (ci := 0) hx hb hT fo_in0 hown hK hP (fo_lay 0 i) (fo_at (by decide) hi) rfl 10 (by decide) (hT _ (fo_tb 153 (by decide +kernel) rfl)) (fun _ h => h) rfl hdg kk
theorem fo_g0_96 (hx : p.tables.exec = Jvm.exec) (hb : c.code = cc) (hT : ∀ w ∈ fo_T, w.before args s = true) (hown : s.vm.findClass RX0 = some m.cls) (hK : va_K D vwCl (fo_tys ca) s) (hP : va_P D vwCl (fo_vx 51 ad (fo_ce ca ad σ)) H) {i : Nat} (hi : i < 1) (hdg : decode cc pc = .ok (.getfield 96, 3))
    (kk : W p l e R s m args below meth c H locs cells slots Q (F0 m (pc + 3) ls (.int (σ.1 0 i 9) :: rest))) : W p l e R s m args below meth c H locs cells slots Q (F0 m pc ls (.ref (ad (fo_lay 0 i)) :: rest)) :=
  va_get (C := RX0) (T := TX0) (N := 15) (ci := 0) hx hb hT fo_in0 hown hK hP (fo_lay 0 i) (fo_at (by decide) hi) rfl 9 (by decide) (hT _ (fo_tb 152 (by decide +kernel) rfl)) (fun _ h => h) rfl hdg kk
theorem fo_g0_99 (hx : p.tables.exec = Jvm.exec) (hb : c.code = cc) (hT : ∀ w ∈ fo_T, w.before args s = true) (hown : s.vm.findClass RX0 = some m.cls) (hK : va_K D vwCl (fo_tys ca) s) (hP : va_P D vwCl (fo_vx 51 ad (fo_ce ca ad σ)) H) {i : Nat} (hi : i < 2) (hdg : decode cc pc = .ok (.getfield 99, 3))
    (kk : W p l e R s m args below meth c H locs cells slots Q (F0 m (pc + 3) ls (.ref (ad (fo_lay 2 i)) :: rest))) : W p l e R s m args below meth c H locs cells slots Q (F0 m pc ls (.ref (ad (fo_lay 1 i)) :: rest)) :=
  va_get (C := RX2) (T := TX2) (N := 2) (ci := 2) hx hb hT fo_in2 hown hK hP (fo_lay 1 i) (fo_at (by decide) hi) rfl 0 (by decide) (hT _ (fo_tb 28 (by decide +kernel) rfl)) (fun _ h => h) rfl hdg kk
theorem fo_g1_41 (hx : p.tables.exec = Jvm.exec) (hb : c.code = cc) (hT : ∀ w ∈ fo_T, w.before args s = true) (hown : s.vm.findClass RX1 = some m.cls) (hK : va_K D vwCl (fo_tys ca) s) (hP : va_P D vwCl (fo_vx 51 ad (fo_ce ca ad σ)) H) {i : Nat} (hi : i < 16) (hdg : decode cc pc = .ok (.getfield 41, 3))
    (kk : W p l e R s m args below meth c H locs cells slots Q (F0 m (pc + 3) ls (.int (σ.1 14 i 5) :: rest))) : W p l e R s m args below meth c H locs cells slots Q (F0 m pc ls (.ref (ad (fo_lay 14 i)) :: rest)) :=
  va_get (C := RX1) (T := TX1) (N := 10) (ci := 1) hx hb hT fo_in1 hown hK hP (fo_lay 14 i) (fo_at (by decide) hi) rfl 5 (by decide) (hT _ (fo_tb 108 (by decide +kernel) rfl)) (fun _ h => h) rfl hdg kk
theorem fo_g1_44 (hx : p.tables.exec = Jvm.exec) (hb : c.code = cc) (hT : ∀ w ∈ fo_T, w.before args s = true) (hown : s.vm.findClass RX1 = some m.cls) (hK : va_K D vwCl (fo_tys ca) s) (hP : va_P D vwCl (fo_vx 51 ad (fo_ce ca ad σ)) H) {i : Nat} (hi : i < 16) (hdg : decode cc pc = .ok (.getfield 44, 3))
    (kk : W p l e R s m args below meth c H locs cells slots Q (F0 m (pc + 3) ls (.int (σ.1 14 i 6) :: rest))) : W p l e R s m args below meth c H locs cells slots Q (F0 m pc ls (.ref (ad (fo_lay 14 i)) :: rest)) :=
  va_get (C := RX1) (T := TX1) (N := 10) (ci := 1) hx hb hT fo_in1 hown hK hP (fo_lay 14 i) (fo_at (by decide) hi) rfl 6 (by decide) (hT _ (fo_tb 111 (by decide +kernel) rfl)) (fun _ h => h) rfl hdg kk
theorem fo_g1_47 (hx : p.tables.exec = Jvm.exec) (hb : c.code = cc) (hT : ∀ w ∈ fo_T, w.before args s = true) (hown : s.vm.findClass RX1 = some m.cls) (hK : va_K D vwCl (fo_tys ca) s) (hP : va_P D vwCl (fo_vx 51 ad (fo_ce ca ad σ)) H) {i : Nat} (hi : i < 16) (hdg : decode cc pc = .ok (.getfield 47, 3))
    (kk : W p l e R s m args below meth c H locs cells slots Q (F0 m (pc + 3) ls (.int (σ.1 14 i 7) :: rest))) : W p l e R s m args below meth c H locs cells slots Q (F0 m pc ls (.ref (ad (fo_lay 14 i)) :: rest)) :=
  va_get (C := RX1) (T := TX1) (N := 10) (ci := 1) hx hb hT fo_in1 hown hK hP (fo_lay 14 i) (fo_at (by decide) hi) rfl 7 (by decide) (hT _ (fo_tb 114 (by decide +kernel) rfl)) (fun _ h => h) rfl hdg kk
theorem fo_g1_9 (hx : p.tables.exec = Jvm.exec) (hb : c.code = cc) (hT : ∀ w ∈ fo_T, w.before args s = true) (hown : s.vm.findClass RX1 = some m.cls) (hK : va_K D vwCl (fo_tys ca) s) (hP : va_P D vwCl (fo_vx 51 ad (fo_ce ca ad σ)) H) {i : Nat} (hi : i < 16) (hdg : decode cc pc = .ok (.getfield 9, 3))
    (kk : W p l e R s m args below meth c H locs cells slots Q (F0 m (pc + 3) ls (.ref (ad (fo_lay 15 i)) :: rest))) : W p l e R s m args below meth c H locs cells slots Q (F0 m pc ls (.ref (ad (fo_lay 14 i)) :: rest)) :=
  va_get (C := RX1) (T := TX1) (N := 10) (ci := 1) hx hb hT fo_in1 hown hK hP (fo_lay 14 i) (fo_at (by decide) hi) rfl 0 (by decide) (hT _ (fo_tb 95 (by decide +kernel) rfl)) (fun _ h => h) rfl hdg kk
theorem fo_g2_15 (hx : p.tables.exec = Jvm.exec) (hb : c.code = cc) (hT : ∀ w ∈ fo_T, w.before args s = true) (hown : s.vm.findClass RX2 = some m.cls) (hK : va_K D vwCl (fo_tys ca) s) (hP : va_P D vwCl (fo_vx 51 ad (fo_ce ca ad σ)) H) {i : Nat} (hi : i < 2) (hdg : decode cc pc = .ok (.getfield 15, 3))
    (kk : W p l e R s m args below meth c H locs cells slots Q (F0 m (pc + 3) ls (.ref (ad (fo_lay 3 i)) :: rest))) : W p l e R s m args below meth c H locs cells slots Q (F0 m pc ls (.ref (ad (fo_lay 1 i)) :: rest)) :=
  va_get (C := RX2) (T := TX2) (N := 2) (ci := 2) hx hb hT fo_in2 hown hK hP (fo_lay 1 i) (fo_at (by decide) hi) rfl 1 (by decide) (hT _ (fo_tb 29 (by decide +kernel) rfl)) (fun _ h => h) rfl hdg kk
theorem fo_g2_30 (hx : p.tables.exec = Jvm.exec) (hb : c.code = cc) (hT : ∀ w ∈ fo_T, w.before args s = true) (hown : s.vm.findClass RX2 = some m.cls) (hK : va_K D vwCl (fo_tys ca) s) (hP : va_P D vwCl (fo_vx 51 ad (fo_ce ca ad σ)) H) {i : Nat} (hi : i < 16) (hdg : decode cc pc = .ok (.getfield 30, 3))
    (kk : W p l e R s m args below meth c H locs cells slots Q (F0 m (pc + 3) ls (.int (σ.1 14 i 5) :: rest))) : W p l e R s m args below meth c H locs cells slots Q (F0 m pc ls (.ref (ad (fo_lay 14 i)) :: rest)) :=
  va_get (C := RX1) (T := TX1) (N := 10) (ci := 1) hx hb hT fo_in1 hown hK hP (fo_lay 14 i) (fo_at (by decide) hi) rfl 5 (by decide) (hT _ (fo_tb 110 (by decide +kernel) rfl)) (fun _ h => h) rfl hdg kk
theorem fo_g2_43 (hx : p.tables.exec = Jvm.exec) (hb : c.code = cc) (hT : ∀ w ∈ fo_T, w.before args s = true) (hown : s.vm.findClass RX2 = some m.cls) (hK : va_K D vwCl (fo_tys ca) s) (hP : va_P D vwCl (fo_vx 51 ad (fo_ce ca ad σ)) H) {i : Nat} (hi : i < 16) (hdg : decode cc pc = .ok (.getfield 43, 3))
    (kk : W p l e R s m args below meth c H locs cells slots Q (F0 m (pc + 3) ls (.int (σ.1 14 i 7) :: rest))) : W p l e R s m args below meth c H locs cells slots Q (F0 m pc ls (.ref (ad (fo_lay 14 i)) :: rest)) :=
  va_get (C := RX1) (T := TX1) (N := 10) (ci := 1) hx hb hT fo_in1 hown hK hP (fo_lay 14 i) (fo_at (by decide) hi) rfl 7 (by decide) (hT _ (fo_tb 116 (by decide +kernel) rfl)) (fun _ h => h) rfl hdg kk
theorem fo_g2_52 (hx : p.tables.exec = Jvm.exec) (hb : c.code = cc) (hT : ∀ w ∈ fo_T, w.before args s = true) (hown : s.vm.findClass RX2 = some m.cls) (hK : va_K D vwCl (fo_tys ca) s) (hP : va_P D vwCl (fo_vx 51 ad (fo_ce ca ad σ)) H) {i : Nat} (hi : i < 16) (hdg : decode cc pc = .ok (.getfield 52, 3))
    (kk : W p l e R s m args below meth c H locs cells slots Q (F0 m (pc + 3) ls (.int (σ.1 14 i 1) :: rest))) : W p l e R s m args below meth c H locs cells slots Q (F0 m pc ls (.ref (ad (fo_lay 14 i)) :: rest)) :=
  va_get (C := RX1) (T := TX1) (N := 10) (ci := 1) hx hb hT fo_in1 hown hK hP (fo_lay 14 i) (fo_at (by decide) hi) rfl 1 (by decide) (hT _ (fo_tb 99 (by decide +kernel) rfl)) (fun _ h => h) rfl hdg kk
theorem fo_g2_9 (hx : p.tables.exec = Jvm.exec) (hb : c.code = cc) (hT : ∀ w ∈ fo_T, w.before args s = true) (hown : s.vm.findClass RX2 = some m.cls) (hK : va_K D vwCl (fo_tys ca) s) (hP : va_P D vwCl (fo_vx 51 ad (fo_ce ca ad σ)) H) {i : Nat} (hi : i < 2) (hdg : decode cc pc = .ok (.getfield 9, 3))
    (kk : W p l e R s m args below meth c H locs cells slots Q (F0 m (pc + 3) ls (.ref (ad (fo_lay 2 i)) :: rest))) : W p l e R s m args below meth c H locs cells slots Q (F0 m pc ls (.ref (ad (fo_lay 1 i)) :: rest)) :=
  va_get (C := RX2) (T := TX2) (N := 2) (ci := 2) hx hb hT fo_in2 hown hK hP (fo_lay 1 i) (fo_at (by decide) hi) rfl 0 (by decide) (hT _ (fo_tb 26 (by decide +kernel) rfl)) (fun _ h => h) rfl hdg kk
theorem fo_g3_15 (hx : p.tables.exec = Jvm.exec) (hb : c.code = cc) (hT : ∀ w ∈ fo_T, w.before args s = true) (hown : s.vm.findClass RX3 = some m.cls) (hK : va_K D vwCl (fo_tys ca) s) (hP : va_P D vwCl (fo_vx 51 ad (fo_ce ca ad σ)) H) {i : Nat} (hi : i < 2) (hdg : decode cc pc = .ok (.getfield 15, 3))
    (kk : W p l e R s m args below meth c H locs cells slots Q (F0 m (pc + 3) ls (.int (σ.1 5 i 1) :: rest))) : W p l e R s m args below meth c H locs cells slots Q (F0 m pc ls (.ref (ad (fo_lay 5 i)) :: rest)) :=
  va_get (C := RX3) (T := TX3) (N := 2) (ci := 3) hx hb hT fo_in3 hown hK hP (fo_lay 5 i) (fo_at (by decide) hi) rfl 1 (by decide) (hT _ (fo_tb 48 (by decide +kernel) rfl)) (fun _ h => h) rfl hdg kk
theorem fo_g3_9 (hx : p.tables.exec = Jvm.exec) (hb : c.code = cc) (hT : ∀ w ∈ fo_T, w.before args s = true) (hown : s.vm.findClass RX3 = some m.cls) (hK : va_K D vwCl (fo_tys ca) s) (hP : va_P D vwCl (fo_vx 51 ad (fo_ce ca ad σ)) H) {i : Nat} (hi : i < 2) (hdg : decode cc pc = .ok (.getfield 9, 3))
    (kk : W p l e R s m args below meth c H locs cells slots Q (F0 m (pc + 3) ls (.ref (ad (fo_lay 6 i)) :: rest))) : W p l e R s m args below meth c H locs cells slots Q (F0 m pc ls (.ref (ad (fo_lay 5 i)) :: rest)) :=
  va_get (C := RX3) (T := TX3) (N := 2) (ci := 3) hx hb hT fo_in3 hown hK hP (fo_lay 5 i) (fo_at (by decide) hi) rfl 0 (by decide) (hT _ (fo_tb 45 (by decide +kernel) rfl)) (fun _ h => h) rfl hdg kk
theorem fo_g4_23 (hx : p.tables.exec = Jvm.exec) (hb : c.code = cc) (hT : ∀ w ∈ fo_T, w.before args s = true) (hown : s.vm.findClass RX4 = some m.cls) (hK : va_K D vwCl (fo_tys ca) s) (hP : va_P D vwCl (fo_vx 51 ad (fo_ce ca ad σ)) H) {i : Nat} (hi : i < 16) (hdg : decode cc pc = .ok (.getfield 23, 3))
    (kk : W p l e R s m args below meth c H locs cells slots Q (F0 m (pc + 3) ls (.int (σ.1 14 i 4) :: rest))) : W p l e R s m args below meth c H locs cells slots Q (F0 m pc ls (.ref (ad (fo_lay 14 i)) :: rest)) :=
  va_get (C := RX1) (T := TX1) (N := 10) (ci := 1) hx hb hT fo_in1 hown hK hP (fo_lay 14 i) (fo_at (by decide) hi) rfl 4 (by decide) (hT _ (fo_tb 106 (by decide +kernel) rfl)) (fun _ h => h) rfl hdg kk
theorem fo_g4_9 (hx : p.tables.exec = Jvm.exec) (hb : c.code = cc) (hT : ∀ w ∈ fo_T, w.before args s = true) (hown : s.vm.findClass RX4 = some m.cls) (hK : va_K D vwCl (fo_tys ca) s) (hP : va_P D vwCl (fo_vx 51 ad (fo_ce ca ad σ)) H) {i : Nat} (hi : i < 1) (hdg : decode cc pc = .ok (.getfield 9, 3))
    (kk : W p l e R s m args below meth c H locs cells slots Q (F0 m (pc + 3) ls (.ref (ad (fo_lay 9 i)) :: rest))) : W p l e R s m args below meth c H locs cells slots Q (F0 m pc ls (.ref (ad (fo_lay 8 i)) :: rest)) :=
  va_get (C := RX4) (T := TX4) (N := 1) (ci := 4) hx hb hT fo_in4 hown hK hP (fo_lay 8 i) (fo_at (by decide) hi) rfl 0 (by decide) (hT _ (fo_tb 63 (by decide +kernel) rfl)) (fun _ h => h) rfl hdg kk
theorem fo_g5_15 (hx : p.tables.exec = Jvm.exec) (hb : c.code = cc) (hT : ∀ w ∈ fo_T, w.before args s = true) (hown : s.vm.findClass RX5 = some m.cls) (hK : va_K D vwCl (fo_tys ca) s) (hP : va_P D vwCl (fo_vx 51 ad (fo_ce ca ad σ)) H) {i : Nat} (hi : i < 1) (hdg : decode cc pc = .ok (.getfield 15, 3))
    (kk : W p l e R s m args below meth c H locs cells slots Q (F0 m (pc + 3) ls (.ref (ad (fo_lay 12 i)) :: rest))) : W p l e R s m args below meth c H locs cells slots Q (F0 m pc ls (.ref (ad (fo_lay 10 i)) :: rest)) :=
  va_get (C := RX5) (T := TX5) (N := 5) (ci := 5) hx hb hT fo_in5 hown hK hP (fo_lay 10 i) (fo_at (by decide) hi) rfl 1 (by decide) (hT _ (fo_tb 74 (by decide +kernel) rfl)) (fun _ h => h) rfl hdg kk
theorem fo_g5_19 (hx : p.tables.exec = Jvm.exec) (hb : c.code = cc) (hT : ∀ w ∈ fo_T, w.before args s = true) (hown : s.vm.findClass RX5 = some m.cls) (hK : va_K D vwCl (fo_tys ca) s) (hP : va_P D vwCl (fo_vx 51 ad (fo_ce ca ad σ)) H) {i : Nat} (hi : i < 1) (hdg : decode cc pc = .ok (.getfield 19, 3))
    (kk : W p l e R s m args below meth c H locs cells slots Q (F0 m (pc + 3) ls (.ref (ad (fo_lay 13 i)) :: rest))) : W p l e R s m args below meth c H locs cells slots Q (F0 m pc ls (.ref (ad (fo_lay 10 i)) :: rest)) :=
  va_get (C := RX5) (T := TX5) (N := 5) (ci := 5) hx hb hT fo_in5 hown hK hP (fo_lay 10 i) (fo_at (by decide) hi) rfl 2 (by decide) (hT _ (fo_tb 75 (by decide +kernel) rfl)) (fun _ h => h) rfl hdg kk
theorem fo_g5_30 (hx : p.tables.exec = Jvm.exec) (hb : c.code = cc) (hT : ∀ w ∈ fo_T, w.before args s = true) (hown : s.vm.findClass RX5 = some m.cls) (hK : va_K D vwCl (fo_tys ca) s) (hP : va_P D vwCl (fo_vx 51 ad (fo_ce ca ad σ)) H) {i : Nat} (hi : i < 2) (hdg : decode cc pc = .ok (.getfield 30, 3))
    (kk : W p l e R s m args below meth c H locs cells slots Q (F0 m (pc + 3) ls (.int (σ.1 5 i 1) :: rest))) : W p l e R s m args below meth c H locs cells slots Q (F0 m pc ls (.ref (ad (fo_lay 5 i)) :: rest)) :=
  va_get (C := RX3) (T := TX3) (N := 2) (ci := 3) hx hb hT fo_in3 hown hK hP (fo_lay 5 i) (fo_at (by decide) hi) rfl 1 (by decide) (hT _ (fo_tb 49 (by decide +kernel) rfl)) (fun _ h => h) rfl hdg kk
theorem fo_g5_36 (hx : p.tables.exec = Jvm.exec) (hb : c.code = cc) (hT : ∀ w ∈ fo_T, w.before args s = true) (hown : s.vm.findClass RX5 = some m.cls) (hK : va_K D vwCl (fo_tys ca) s) (hP : va_P D vwCl (fo_vx 51 ad (fo_ce ca ad σ)) H) {i : Nat} (hi : i < 2) (hdg : decode cc pc = .ok (.getfield 36, 3))
    (kk : W p l e R s m args below meth c H locs cells slots Q (F0 m (pc + 3) ls (.ref (ad (fo_lay 6 i)) :: rest))) : W p l e R s m args below meth c H locs cells slots Q (F0 m pc ls (.ref (ad (fo_lay 5 i)) :: rest)) :=
  va_get (C := RX3) (T := TX3) (N := 2) (ci := 3) hx hb hT fo_in3 hown hK hP (fo_lay 5 i) (fo_at (by decide) hi) rfl 0 (by decide) (hT _ (fo_tb 46 (by decide +kernel) rfl)) (fun _ h => h) rfl hdg kk
theorem fo_g5_40 (hx : p.tables.exec = Jvm.exec) (hb : c.code = cc) (hT : ∀ w ∈ fo_T, w.before args s = true) (hown : s.vm.findClass RX5 = some m.cls) (hK : va_K D vwCl (fo_tys ca) s) (hP : va_P D vwCl (fo_vx 51 ad (fo_ce ca ad σ)) H) {i : Nat} (hi : i < 16) (hdg : decode cc pc = .ok (.getfield 40, 3))
    (kk : W p l e R s m args below meth c H locs cells slots Q (F0 m (pc + 3) ls (.int (σ.1 14 i 5) :: rest))) : W p l e R s m args below meth c H locs cells slots Q (F0 m pc ls (.ref (ad (fo_lay 14 i)) :: rest)) :=
  va_get (C := RX1) (T := TX1) (N := 10) (ci := 1) hx hb hT fo_in1 hown hK hP (fo_lay 14 i) (fo_at (by decide) hi) rfl 5 (by decide) (hT _ (fo_tb 109 (by decide +kernel) rfl)) (fun _ h => h) rfl hdg kk
theorem fo_g5_49 (hx : p.tables.exec = Jvm.exec) (hb : c.code = cc) (hT : ∀ w ∈ fo_T, w.before args s = true) (hown : s.vm.findClass RX5 = some m.cls) (hK : va_K D vwCl (fo_tys ca) s) (hP : va_P D vwCl (fo_vx 51 ad (fo_ce ca ad σ)) H) {i : Nat} (hi : i < 1) (hdg : decode cc pc = .ok (.getfield 49, 3))
    (kk : W p l e R s m args below meth c H locs cells slots Q (F0 m (pc + 3) ls (.long (σ.2 10 i 3) :: rest))) : W p l e R s m args below meth c H locs cells slots Q (F0 m pc ls (.ref (ad (fo_lay 10 i)) :: rest)) :=
  va_get (C := RX5) (T := TX5) (N := 5) (ci := 5) hx hb hT fo_in5 hown hK hP (fo_lay 10 i) (fo_at (by decide) hi) rfl 3 (by decide) (hT _ (fo_tb 76 (by decide +kernel) rfl)) (fun _ h => h) rfl hdg kk
theorem fo_g5_53 (hx : p.tables.exec = Jvm.exec) (hb : c.code = cc) (hT : ∀ w ∈ fo_T, w.before args s = true) (hown : s.vm.findClass RX5 = some m.cls) (hK : va_K D vwCl (fo_tys ca) s) (hP : va_P D vwCl (fo_vx 51 ad (fo_ce ca ad σ)) H) {i : Nat} (hi : i < 1) (hdg : decode cc pc = .ok (.getfield 53, 3))
    (kk : W p l e R s m args below meth c H locs cells slots Q (F0 m (pc + 3) ls (.long (σ.2 10 i 4) :: rest))) : W p l e R s m args below meth c H locs cells slots Q (F0 m pc ls (.ref (ad (fo_lay 10 i)) :: rest)) :=
  va_get (C := RX5) (T := TX5) (N := 5) (ci := 5) hx hb hT fo_in5 hown hK hP (fo_lay 10 i) (fo_at (by decide) hi) rfl 4 (by decide) (hT _ (fo_tb 77 (by decide +kernel) rfl)) (fun _ h => h) rfl hdg kk
theorem fo_g5_74 (hx : p.tables.exec = Jvm.exec) (hb : c.code = cc) (hT : ∀ w ∈ fo_T, w.before args s = true) (hown : s.vm.findClass RX5 = some m.cls) (hK : va_K D vwCl (fo_tys ca) s) (hP : va_P D vwCl (fo_vx 51 ad (fo_ce ca ad σ)) H) {i : Nat} (hi : i < 16) (hdg : decode cc pc = .ok (.getfield 74, 3))
    (kk : W p l e R s m args below meth c H locs cells slots Q (F0 m (pc + 3) ls (.int (σ.1 14 i 1) :: rest))) : W p l e R s m args below meth c H locs cells slots Q (F0 m pc ls (.ref (ad (fo_lay 14 i)) :: rest)) :=
  va_get (C := RX1) (T := TX1) (N := 10) (ci := 1) hx hb hT fo_in1 hown hK hP (fo_lay 14 i) (fo_at (by decide) hi) rfl 1 (by decide) (hT _ (fo_tb 98 (by decide +kernel) rfl)) (fun _ h => h) rfl hdg kk
theorem fo_g5_77 (hx : p.tables.exec = Jvm.exec) (hb : c.code = cc) (hT : ∀ w ∈ fo_T, w.before args s = true) (hown : s.vm.findClass RX5 = some m.cls) (hK : va_K D vwCl (fo_tys ca) s) (hP : va_P D vwCl (fo_vx 51 ad (fo_ce ca ad σ)) H) {i : Nat} (hi : i < 16) (hdg : decode cc pc = .ok (.getfield 77, 3))
    (kk : W p l e R s m args below meth c H locs cells slots Q (F0 m (pc + 3) ls (.int (σ.1 14 i 7) :: rest))) : W p l e R s m args below meth c H locs cells slots Q (F0 m pc ls (.ref (ad (fo_lay 14 i)) :: rest)) :=
  va_get (C := RX1) (T := TX1) (N := 10) (ci := 1) hx hb hT fo_in1 hown hK hP (fo_lay 14 i) (fo_at (by decide) hi) rfl 7 (by decide) (hT _ (fo_tb 115 (by decide +kernel) rfl)) (fun _ h => h) rfl hdg kk
theorem fo_g5_80 (hx : p.tables.exec = Jvm.exec) (hb : c.code = cc) (hT : ∀ w ∈ fo_T, w.before args s = true) (hown : s.vm.findClass RX5 = some m.cls) (hK : va_K D vwCl (fo_tys ca) s) (hP : va_P D vwCl (fo_vx 51 ad (fo_ce ca ad σ)) H) {i : Nat} (hi : i < 16) (hdg : decode cc pc = .ok (.getfield 80, 3))
    (kk : W p l e R s m args below meth c H locs cells slots Q (F0 m (pc + 3) ls (.int (σ.1 14 i 6) :: rest))) : W p l e R s m args below meth c H locs cells slots Q (F0 m pc ls (.ref (ad (fo_lay 14 i)) :: rest)) :=
  va_get (C := RX1) (T := TX1) (N := 10) (ci := 1) hx hb hT fo_in1 hown hK hP (fo_lay 14 i) (fo_at (by decide) hi) rfl 6 (by decide) (hT _ (fo_tb 112 (by decide +kernel) rfl)) (fun _ h => h) rfl hdg kk
theorem fo_g5_83 (hx : p.tables.exec = Jvm.exec) (hb : c.code = cc) (hT : ∀ w ∈ fo_T, w.before args s = true) (hown : s.vm.findClass RX5 = some m.cls) (hK : va_K D vwCl (fo_tys ca) s) (hP : va_P D vwCl (fo_vx 51 ad (fo_ce ca ad σ)) H) {i : Nat} (hi : i < 2) (hdg : decode cc pc = .ok (.getfield 83, 3))
    (kk : W p l e R s m args below meth c H locs cells slots Q (F0 m (pc + 3) ls (.ref (ad (fo_lay 2 i)) :: rest))) : W p l e R s m args below meth c H locs cells slots Q (F0 m pc ls (.ref (ad (fo_lay 1 i)) :: rest)) :=
  va_get (C := RX2) (T := TX2) (N := 2) (ci := 2) hx hb hT fo_in2 hown hK hP (fo_lay 1 i) (fo_at (by decide) hi) rfl 0 (by decide) (hT _ (fo_tb 27 (by decide +kernel) rfl)) (fun _ h => h) rfl hdg kk
theorem fo_g5_88 (hx : p.tables.exec = Jvm.exec) (hb : c.code = cc) (hT : ∀ w ∈ fo_T, w.before args s = true) (hown : s.vm.findClass RX5 = some m.cls) (hK : va_K D vwCl (fo_tys ca) s) (hP : va_P D vwCl (fo_vx 51 ad (fo_ce ca ad σ)) H) {i : Nat} (hi : i < 2) (hdg : decode cc pc = .ok (.getfield 88, 3))
    (kk : W p l e R s m args below meth c H locs cells slots Q (F0 m (pc + 3) ls (.ref (ad (fo_lay 3 i)) :: rest))) : W p l e R s m args below meth c H locs cells slots Q (F0 m pc ls (.ref (ad (fo_lay 1 i)) :: rest)) :=
  va_get (C := RX2) (T := TX2) (N := 2) (ci := 2) hx hb hT fo_in2 hown hK hP (fo_lay 1 i) (fo_at (by decide) hi) rfl 1 (by decide) (hT _ (fo_tb 30 (by decide +kernel) rfl)) (fun _ h => h) rfl hdg kk
theorem fo_g5_9 (hx : p.tables.exec = Jvm.exec) (hb : c.code = cc) (hT : ∀ w ∈ fo_T, w.before args s = true) (hown : s.vm.findClass RX5 = some m.cls) (hK : va_K D vwCl (fo_tys ca) s) (hP : va_P D vwCl (fo_vx 51 ad (fo_ce ca ad σ)) H) {i : Nat} (hi : i < 1) (hdg : decode cc pc = .ok (.getfield 9, 3))
    (kk : W p l e R s m args below meth c H locs cells slots Q (F0 m (pc + 3) ls (.ref (ad (fo_lay 11 i)) :: rest))) : W p l e R s m args below meth c H locs cells slots Q (F0 m pc ls (.ref (ad (fo_lay 10 i)) :: rest)) :=
  va_get (C := RX5) (T := TX5) (N := 5) (ci := 5) hx hb hT fo_in5 hown hK hP (fo_lay 10 i) (fo_at (by decide) hi) rfl 0 (by decide) (hT _ (fo_tb 73 (by decide +kernel) rfl)) (fun _ h => h) rfl hdg kk
theorem fo_p0_134 (hx : p.tables.exec = Jvm.exec) (hb : c.code = cc) (hT : ∀ w ∈ fo_T, w.before args s = true) (hown : s.vm.findClass RX0 = some m.cls) (hK : va_K D vwCl (fo_tys ca) s) (hP : va_P D vwCl (fo_vx 51 ad (fo_ce ca ad σ)) H) (hD : ∀ e, va_D A (fo_vx 51 ad e)) (hS : va_S A H0 H locs) {i : Nat} (hi : i < 2) {x : Int32} (hdg : decode cc pc = .ok (.putfield 134, 3))
    (kk : ∀ (H1 : Heap) (locs1 : List Loc), va_P D vwCl (fo_vx 51 ad (fo_ce ca ad (fo_pI σ 5 i 1 x))) H1 → va_S A H0 H1 locs1 → W p l e R s m args below meth c H1 locs1 cells slots Q (F0 m (pc + 3) ls rest)) : W p l e R s m args below meth c H locs cells slots Q (F0 m pc ls (.int x :: .ref (ad (fo_lay 5 i)) :: rest)) := by
  refine va_put (C := RX3) (T := TX3) (N := 2) (ci := 3) (ty := .int) hx hb hT fo_in3 tyX3 tyX3_ok nmX3 hown hK hP (hD _) hS (fo_lay 5 i) (fo_at (by decide) hi) rfl 1 (by decide) (hT _ (fo_tb 50 (by decide +kernel) rfl)) (fun _ h => h) rfl (by decide +kernel) rfl rfl (Nat.le_of_ble_eq_true rfl) hdg (fun H1 locs1 hP1 hD1 hS1 => ?_)
  exact kk H1 locs1 (Eq.mp (congrArg (fun w => va_P D vwCl w H1) (fo_setI (ca := ca) (ad := ad) (σ := σ) (k := 5) (i := i) (j := 1) (v := x) (by decide) hi rfl)) hP1) hS1
theorem fo_p0_156 (hx : p.tables.exec = Jvm.exec) (hb : c.code = cc) (hT : ∀ w ∈ fo_T, w.before args s = true) (hown : s.vm.findClass RX0 = some m.cls) (hK : va_K D vwCl (fo_tys ca) s) (hP : va_P D vwCl (fo_vx 51 ad (fo_ce ca ad σ)) H) (hD : ∀ e, va_D A (fo_vx 51 ad e)) (hS : va_S A H0 H locs) {i : Nat} (hi : i < 1) {x : Int32} (hz : narrow .boolean (.int x) = .int x) (hf : fits .boolean (.int x) = true) (hdg : decode cc pc = .ok (.putfield 156, 3))
    (kk : ∀ (H1 : Heap) (locs1 : List Loc), va_P D vwCl (fo_vx 51 ad (fo_ce ca ad (fo_pI σ 0 i 13 x))) H1 → va_S A H0 H1 locs1 → W p l e R s m args below meth c H1 locs1 cells slots Q (F0 m (pc + 3) ls rest)) : W p l e R s m args below meth c H locs cells slots Q (F0 m pc ls (.int x :: .ref (ad (fo_lay 0 i)) :: rest)) := by
  refine va_put (C := RX0) (T := TX0) (N := 15) (ci := 0) (ty := .boolean) hx hb hT fo_in0 tyX0 tyX0_ok nmX0 hown hK hP (hD _) hS (fo_lay 0 i) (fo_at (by decide) hi) rfl 13 (by decide) (hT _ (fo_tb 156 (by decide +kernel) rfl)) (fun _ h => h) rfl (by decide +kernel) hz hf (Nat.le_of_ble_eq_true rfl) hdg (fun H1 locs1 hP1 hD1 hS1 => ?_)
  exact kk H1 locs1 (Eq.mp (congrArg (fun w => va_P D vwCl w H1) (fo_setI (ca := ca) (ad := ad) (σ := σ) (k := 0) (i := i) (j := 13) (v := x) (by decide) hi rfl)) hP1) hS1
theorem fo_p0_179 (hx : p.tables.exec = Jvm.exec) (hb : c.code = cc) (hT : ∀ w ∈ fo_T, w.before args s = true) (hown : s.vm.findClass RX0 = some m.cls) (hK : va_K D vwCl (fo_tys ca) s) (hP : va_P D vwCl (fo_vx 51 ad (fo_ce ca ad σ)) H) (hD : ∀ e, va_D A (fo_vx 51 ad e)) (hS : va_S A H0 H locs) {i : Nat} (hi : i < 1) {x : Int32} (hz : narrow .boolean (.int x) = .int x) (hf : fits .boolean (.int x) = true) (hdg : decode cc pc = .ok (.putfield 179, 3))
    (kk : ∀ (H1 : Heap) (locs1 : List Loc), va_P D vwCl (fo_vx 51 ad (fo_ce ca ad (fo_pI σ 0 i 14 x))) H1 → va_S A H0 H1 locs1 → W p l e R s m args below meth c H1 locs1 cells slots Q (F0 m (pc + 3) ls rest)) : W p l e R s m args below meth c H locs cells slots Q (F0 m pc ls (.int x :: .ref (ad (fo_lay 0 i)) :: rest)) := by
  refine va_put (C := RX0) (T := TX0) (N := 15) (ci := 0) (ty := .boolean) hx hb hT fo_in0 tyX0 tyX0_ok nmX0 hown hK hP (hD _) hS (fo_lay 0 i) (fo_at (by decide) hi) rfl 14 (by decide) (hT _ (fo_tb 157 (by decide +kernel) rfl)) (fun _ h => h) rfl (by decide +kernel) hz hf (Nat.le_of_ble_eq_true rfl) hdg (fun H1 locs1 hP1 hD1 hS1 => ?_)
  exact kk H1 locs1 (Eq.mp (congrArg (fun w => va_P D vwCl w H1) (fo_setI (ca := ca) (ad := ad) (σ := σ) (k := 0) (i := i) (j := 14) (v := x) (by decide) hi rfl)) hP1) hS1
theorem fo_p0_54 (hx : p.tables.exec = Jvm.exec) (hb : c.code = cc) (hT : ∀ w ∈ fo_T, w.before args s = true) (hown : s.vm.findClass RX0 = some m.cls) (hK : va_K D vwCl (fo_tys ca) s) (hP : va_P D vwCl (fo_vx 51 ad (fo_ce ca ad σ)) H) (hD : ∀ e, va_D A (fo_vx 51 ad e)) (hS : va_S A H0 H locs) {i : Nat} (hi : i < 1) {x : Int32} (hdg : decode cc pc = .ok (.putfield 54, 3))
    (kk : ∀ (H1 : Heap) (locs1 : List Loc), va_P D vwCl (fo_vx 51 ad (fo_ce ca ad (fo_pI σ 0 i 8 x))) H1 → va_S A H0 H1 locs1 → W p l e R s m args below meth c H1 locs1 cells slots Q (F0 m (pc + 3) ls rest)) : W p l e R s m args below meth c H locs cells slots Q (F0 m pc ls (.int x :: .ref (ad (fo_lay 0 i)) :: rest)) := by
  refine va_put (C := RX0) (T := TX0) (N := 15) (ci := 0) (ty := .int) hx hb hT fo_in0 tyX0 tyX0_ok nmX0 hown hK hP (hD _) hS (fo_lay 0 i) (fo_at (by decide) hi) rfl 8 (by decide) (hT _ (fo_tb 151 (by decide +kernel) rfl)) (fun _ h => h) rfl (by decide +kernel) rfl rfl (Nat.le_of_ble_eq_true rfl) hdg (fun H1 locs1 hP1 hD1 hS1 => ?_)
  exact kk H1 locs1 (Eq.mp (congrArg (fun w => va_P D vwCl w H1) (fo_setI (ca := ca) (ad := ad) (σ := σ) (k := 0) (i := i) (j := 8) (v := x) (by decide) hi rfl)) hP1) hS1
theorem fo_p0_61 (hx : p.tables.exec = Jvm.exec) (hb : c.code = cc) (hT : ∀ w ∈ fo_T, w.before args s = true) (hown : s.vm.findClass RX0 = some m.cls) (hK : va_K D vwCl (fo_tys ca) s) (hP : va_P D vwCl (fo_vx 51 ad (fo_ce ca ad σ)) H) (hD : ∀ e, va_D A (fo_vx 51 ad e)) (hS : va_S A H0 H locs) {i : Nat} (hi : i < 1) {x : Int64} (hdg : decode cc pc = .ok (.putfield 61, 3))
    (kk : ∀ (H1 : Heap) (locs1 : List Loc), va_P D vwCl (fo_vx 51 ad (fo_ce ca ad (fo_pJ σ 0 i 12 x))) H1 → va_S A H0 H1 locs1 → W p l e R s m args below meth c H1 locs1 cells slots Q (F0 m (pc + 3) ls rest)) : W p l e R s m args below meth c H locs cells slots Q (F0 m pc ls (.long x :: .ref (ad (fo_lay 0 i)) :: rest)) := by
  refine va_put (C := RX0) (T := TX0) (N := 15) (ci := 0) (ty := .long) hx hb hT fo_in0 tyX0 tyX0_ok nmX0 hown hK hP (hD _) hS (fo_lay 0 i) (fo_at (by decide) hi) rfl 12 (by decide) (hT _ (fo_tb 155 (by decide +kernel) rfl)) (fun _ h => h) rfl (by decide +kernel) rfl rfl (Nat.le_of_ble_eq_true rfl) hdg (fun H1 locs1 hP1 hD1 hS1 => ?_)
  exact kk H1 locs1 (Eq.mp (congrArg (fun w => va_P D vwCl w H1) (fo_setJ (ca := ca) (ad := ad) (σ := σ) (k := 0) (i := i) (j := 12) (v := x) (by decide) hi rfl)) hP1) hS1
theorem fo_p0_65 (hx : p.tables.exec = Jvm.exec) (hb : c.code = cc) (hT : ∀ w ∈ fo_T, w.before args s = true) (hown : s.vm.findClass RX0 = some m.cls) (hK : va_K D vwCl (fo_tys ca) s) (hP : va_P D vwCl (fo_vx 51 ad (fo_ce ca ad σ)) H) (hD : ∀ e, va_D A (fo_vx 51 ad e)) (hS : va_S A H0 H locs) {i : Nat} (hi : i < 1) {x : Int32} (hdg : decode cc pc = .ok (.putfield 65, 3))
    (kk : ∀ (H1 : Heap) (locs1 : List Loc), va_P D vwCl (fo_vx 51 ad (fo_ce ca ad (fo_pI σ 0 i 11 x))) H1 → va_S A H0 H1 locs1 → W p l e R s m args below meth c H1 locs1 cells slots Q (F0 m (pc + 3) ls rest)) : W p l e R s m args below meth c H locs cells slots Q (F0 m pc ls (.int x :: .ref (ad (fo_lay 0 i)) :: rest)) := by
  refine va_put (C := RX0) (T := TX0) (N := 15) (ci := 0) (ty := .int) hx hb hT fo_in0 tyX0 tyX0_ok nmX0 hown hK hP (hD _) hS (fo_lay 0 i) (fo_at (by decide) hi) rfl 11 (by decide) (hT _ (fo_tb 154 (by decide +kernel) rfl)) (fun _ h => h) rfl (by decide +kernel) rfl rfl (Nat.le_of_ble_eq_true rfl) hdg (fun H1 locs1 hP1 hD1 hS1 => ?_)
  exact kk H1 locs1 (Eq.mp (congrArg (fun w => va_P D vwCl w H1) (fo_setI (ca := ca) (ad := ad) (σ := σ) (k := 0) (i := i) (j := 11) (v := x) (by decide) hi rfl)) hP1) hS1
theorem fo_p0_93 (hx : p.tables.exec = Jvm.exec) (hb : c.code = cc) (hT : ∀ w ∈ fo_T, w.before args s = true) (hown : s.vm.findClass RX0 = some m.cls) (hK : va_K D vwCl (fo_tys ca) s) (hP : va_P D vwCl (fo_vx 51 ad (fo_ce ca ad σ)) H) (hD : ∀ e, va_D A (fo_vx 51 ad e)) (hS : va_S A H0 H locs) {i : Nat} (hi : i < 1) {x : Int32} (hdg : decode cc pc = .ok (.putfield 93, 3))
    (kk : ∀ (H1 : Heap) (locs1 : List Loc), va_P D vwCl (fo_vx 51 ad (fo_ce ca ad (fo_pI σ 0 i 10 x))) H1 → va_S A H0 H1 locs1 → W p l e R s m args below meth c H1 locs1 cells slots Q (F0 m (pc + 3) ls rest)) : W p l e R s m args below meth c H locs cells slots Q (F0 m pc ls (.int x :: .ref (ad (fo_lay 0 i)) :: rest)) := by
  refine va_put (C := RX0) (T := TX0) (N := 15) (ci := 0) (ty := .int) hx hb hT fo_in0 tyX0 tyX0_ok nmX0 hown hK hP (hD _) hS (fo_lay 0 i) (fo_at (by decide) hi) rfl 10 (by decide) (hT _ (fo_tb 153 (by decide +kernel) rfl)) (fun _ h => h) rfl (by decide +kernel) rfl rfl (Nat.le_of_ble_eq_true rfl) hdg (fun H1 locs1 hP1 hD1 hS1 => ?_)
  exact kk H1 locs1 (Eq.mp (congrArg (fun w => va_P D vwCl w H1) (fo_setI (ca := ca) (ad := ad) (σ := σ) (k := 0) (i := i) (j := 10) (v := x) (by decide) hi rfl)) hP1) hS1
theorem fo_p0_96 (hx : p.tables.exec = Jvm.exec) (hb : c.code = cc) (hT : ∀ w ∈ fo_T, w.before args s = true) (hown : s.vm.findClass RX0 = some m.cls) (hK : va_K D vwCl (fo_tys ca) s) (hP : va_P D vwCl (fo_vx 51 ad (fo_ce ca ad σ)) H) (hD : ∀ e, va_D A (fo_vx 51 ad e)) (hS : va_S A H0 H locs) {i : Nat} (hi : i < 1) {x : Int32} (hdg : decode cc pc = .ok (.putfield 96, 3))
    (kk : ∀ (H1 : Heap) (locs1 : List Loc), va_P D vwCl (fo_vx 51 ad (fo_ce ca ad (fo_pI σ 0 i 9 x))) H1 → va_S A H0 H1 locs1 → W p l e R s m args below meth c H1 locs1 cells slots Q (F0 m (pc + 3) ls rest)) : W p l e R s m args below meth c H locs cells slots Q (F0 m pc ls (.int x :: .ref (ad (fo_lay 0 i)) :: rest)) := by
  refine va_put (C := RX0) (T := TX0) (N := 15) (ci := 0) (ty := .int) hx hb hT fo_in0 tyX0 tyX0_ok nmX0 hown hK hP (hD _) hS (fo_lay 0 i) (fo_at (by decide) hi) rfl 9 (by decide) (hT _ (fo_tb 152 (by decide +kernel) rfl)) (fun _ h => h) rfl (by decide +kernel) rfl rfl (Nat.le_of_ble_eq_true rfl) hdg (fun H1 locs1 hP1 hD1 hS1 => ?_)
  exact kk H1 locs1 (Eq.mp (congrArg (fun w => va_P D vwCl w H1) (fo_setI (ca := ca) (ad := ad) (σ := σ) (k := 0) (i := i) (j := 9) (v := x) (by decide) hi rfl)) hP1) hS1
theorem fo_p1_15 (hx : p.tables.exec = Jvm.exec) (hb : c.code = cc) (hT : ∀ w ∈ fo_T, w.before args s = true) (hown : s.vm.findClass RX1 = some m.cls) (hK : va_K D vwCl (fo_tys ca) s) (hP : va_P D vwCl (fo_vx 51 ad (fo_ce ca ad σ)) H) (hD : ∀ e, va_D A (fo_vx 51 ad e)) (hS : va_S A H0 H locs) {i : Nat} (hi : i < 16) {x : Int32} (hdg : decode cc pc = .ok (.putfield 15, 3))
    (kk : ∀ (H1 : Heap) (locs1 : List Loc), va_P D vwCl (fo_vx 51 ad (fo_ce ca ad (fo_pI σ 14 i 1 x))) H1 → va_S A H0 H1 locs1 → W p l e R s m args below meth c H1 locs1 cells slots Q (F0 m (pc + 3) ls rest)) : W p l e R s m args below meth c H locs cells slots Q (F0 m pc ls (.int x :: .ref (ad (fo_lay 14 i)) :: rest)) := by
  refine va_put (C := RX1) (T := TX1) (N := 10) (ci := 1) (ty := .int) hx hb hT fo_in1 tyX1 tyX1_ok nmX1 hown hK hP (hD _) hS (fo_lay 14 i) (fo_at (by decide) hi) rfl 1 (by decide) (hT _ (fo_tb 97 (by decide +kernel) rfl)) (fun _ h => h) rfl (by decide +kernel) rfl rfl (Nat.le_of_ble_eq_true rfl) hdg (fun H1 locs1 hP1 hD1 hS1 => ?_)
  exact kk H1 locs1 (Eq.mp (congrArg (fun w => va_P D vwCl w H1) (fo_setI (ca := ca) (ad := ad) (σ := σ) (k := 14) (i := i) (j := 1) (v := x) (by decide) hi rfl)) hP1) hS1
theorem fo_p1_19 (hx : p.tables.exec = Jvm.exec) (hb : c.code = cc) (hT : ∀ w ∈ fo_T, w.before args s = true) (hown : s.vm.findClass RX1 = some m.cls) (hK : va_K D vwCl (fo_tys ca) s) (hP : va_P D vwCl (fo_vx 51 ad (fo_ce ca ad σ)) H) (hD : ∀ e, va_D A (fo_vx 51 ad e)) (hS : va_S A H0 H locs) {i : Nat} (hi : i < 16) {x : Int64} (hdg : decode cc pc = .ok (.putfield 19, 3))
    (kk : ∀ (H1 : Heap) (locs1 : List Loc), va_P D vwCl (fo_vx 51 ad (fo_ce ca ad (fo_pJ σ 14 i 2 x))) H1 → va_S A H0 H1 locs1 → W p l e R s m args below meth c H1 locs1 cells slots Q (F0 m (pc + 3) ls rest)) : W p l e R s m args below meth c H locs cells slots Q (F0 m pc ls (.long x :: .ref (ad (fo_lay 14 i)) :: rest)) := by
  refine va_put (C := RX1) (T := TX1) (N := 10) (ci := 1) (ty := .long) hx hb hT fo_in1 tyX1 tyX1_ok nmX1 hown hK hP (hD _) hS (fo_lay 14 i) (fo_at (by decide) hi) rfl 2 (by decide) (hT _ (fo_tb 101 (by decide +kernel) rfl)) (fun _ h => h) rfl (by decide +kernel) rfl rfl (Nat.le_of_ble_eq_true rfl) hdg (fun H1 locs1 hP1 hD1 hS1 => ?_)
  exact kk H1 locs1 (Eq.mp (congrArg (fun w => va_P D vwCl w H1) (fo_setJ (ca := ca) (ad := ad) (σ := σ) (k := 14) (i := i) (j := 2) (v := x) (by decide) hi rfl)) hP1) hS1
theorem fo_p1_23 (hx : p.tables.exec = Jvm.exec) (hb : c.code = cc) (hT : ∀ w ∈ fo_T, w.before args s = true) (hown : s.vm.findClass RX1 = some m.cls) (hK : va_K D vwCl (fo_tys ca) s) (hP : va_P D vwCl (fo_vx 51 ad (fo_ce ca ad σ)) H) (hD : ∀ e, va_D A (fo_vx 51 ad e)) (hS : va_S A H0 H locs) {i : Nat} (hi : i < 16) {x : Int64} (hdg : decode cc pc = .ok (.putfield 23, 3))
    (kk : ∀ (H1 : Heap) (locs1 : List Loc), va_P D vwCl (fo_vx 51 ad (fo_ce ca ad (fo_pJ σ 14 i 3 x))) H1 → va_S A H0 H1 locs1 → W p l e R s m args below meth c H1 locs1 cells slots Q (F0 m (pc + 3) ls rest)) : W p l e R s m args below meth c H locs cells slots Q (F0 m pc ls (.long x :: .ref (ad (fo_lay 14 i)) :: rest)) := by
  refine va_put (C := RX1) (T := TX1) (N := 10) (ci := 1) (ty := .long) hx hb hT fo_in1 tyX1 tyX1_ok nmX1 hown hK hP (hD _) hS (fo_lay 14 i) (fo_at (by decide) hi) rfl 3 (by decide) (hT _ (fo_tb 103 (by decide +kernel) rfl)) (fun _ h => h) rfl (by decide +kernel) rfl rfl (Nat.le_of_ble_eq_true rfl) hdg (fun H1 locs1 hP1 hD1 hS1 => ?_)
  exact kk H1 locs1 (Eq.mp (congrArg (fun w => va_P D vwCl w H1) (fo_setJ (ca := ca) (ad := ad) (σ := σ) (k := 14) (i := i) (j := 3) (v := x) (by decide) hi rfl)) hP1) hS1
theorem fo_p1_26 (hx : p.tables.exec = Jvm.exec) (hb : c.code = cc) (hT : ∀ w ∈ fo_T, w.before args s = true) (hown : s.vm.findClass RX1 = some m.cls) (hK : va_K D vwCl (fo_tys ca) s) (hP : va_P D vwCl (fo_vx 51 ad (fo_ce ca ad σ)) H) (hD : ∀ e, va_D A (fo_vx 51 ad e)) (hS : va_S A H0 H locs) {i : Nat} (hi : i < 16) {x : Int32} (hz : narrow .boolean (.int x) = .int x) (hf : fits .boolean (.int x) = true) (hdg : decode cc pc = .ok (.putfield 26, 3))
    (kk : ∀ (H1 : Heap) (locs1 : List Loc), va_P D vwCl (fo_vx 51 ad (fo_ce ca ad (fo_pI σ 14 i 4 x))) H1 → va_S A H0 H1 locs1 → W p l e R s m args below meth c H1 locs1 cells slots Q (F0 m (pc + 3) ls rest)) : W p l e R s m args below meth c H locs cells slots Q (F0 m pc ls (.int x :: .ref (ad (fo_lay 14 i)) :: rest)) := by
  refine va_put (C := RX1) (T := TX1) (N := 10) (ci := 1) (ty := .boolean) hx hb hT fo_in1 tyX1 tyX1_ok nmX1 hown hK hP (hD _) hS (fo_lay 14 i) (fo_at (by decide) hi) rfl 4 (by decide) (hT _ (fo_tb 105 (by decide +kernel) rfl)) (fun _ h => h) rfl (by decide +kernel) hz hf (Nat.le_of_ble_eq_true rfl) hdg (fun H1 locs1 hP1 hD1 hS1 => ?_)
  exact kk H1 locs1 (Eq.mp (congrArg (fun w => va_P D vwCl w H1) (fo_setI (ca := ca) (ad := ad) (σ := σ) (k := 14) (i := i) (j := 4) (v := x) (by decide) hi rfl)) hP1) hS1
theorem fo_p1_41 (hx : p.tables.exec = Jvm.exec) (hb : c.code = cc) (hT : ∀ w ∈ fo_T, w.before args s = true) (hown : s.vm.findClass RX1 = some m.cls) (hK : va_K D vwCl (fo_tys ca) s) (hP : va_P D vwCl (fo_vx 51 ad (fo_ce ca ad σ)) H) (hD : ∀ e, va_D A (fo_vx 51 ad e)) (hS : va_S A H0 H locs) {i : Nat} (hi : i < 16) {x : Int32} (hdg : decode cc pc = .ok (.putfield 41, 3))
    (kk : ∀ (H1 : Heap) (locs1 : List Loc), va_P D vwCl (fo_vx 51 ad (fo_ce ca ad (fo_pI σ 14 i 5 x))) H1 → va_S A H0 H1 locs1 → W p l e R s m args below meth c H1 locs1 cells slots Q (F0 m (pc + 3) ls rest)) : W p l e R s m args below meth c H locs cells slots Q (F0 m pc ls (.int x :: .ref (ad (fo_lay 14 i)) :: rest)) := by
  refine va_put (C := RX1) (T := TX1) (N := 10) (ci := 1) (ty := .int) hx hb hT fo_in1 tyX1 tyX1_ok nmX1 hown hK hP (hD _) hS (fo_lay 14 i) (fo_at (by decide) hi) rfl 5 (by decide) (hT _ (fo_tb 108 (by decide +kernel) rfl)) (fun _ h => h) rfl (by decide +kernel) rfl rfl (Nat.le_of_ble_eq_true rfl) hdg (fun H1 locs1 hP1 hD1 hS1 => ?_)
  exact kk H1 locs1 (Eq.mp (congrArg (fun w => va_P D vwCl w H1) (fo_setI (ca := ca) (ad := ad) (σ := σ) (k := 14) (i := i) (j := 5) (v := x) (by decide) hi rfl)) hP1) hS1
theorem fo_p1_44 (hx : p.tables.exec = Jvm.exec) (hb : c.code = cc) (hT : ∀ w ∈ fo_T, w.before args s = true) (hown : s.vm.findClass RX1 = some m.cls) (hK : va_K D vwCl (fo_tys ca) s) (hP : va_P D vwCl (fo_vx 51 ad (fo_ce ca ad σ)) H) (hD : ∀ e, va_D A (fo_vx 51 ad e)) (hS : va_S A H0 H locs) {i : Nat} (hi : i < 16) {x : Int32} (hdg : decode cc pc = .ok (.putfield 44, 3))
    (kk : ∀ (H1 : Heap) (locs1 : List Loc), va_P D vwCl (fo_vx 51 ad (fo_ce ca ad (fo_pI σ 14 i 6 x))) H1 → va_S A H0 H1 locs1 → W p l e R s m args below meth c H1 locs1 cells slots Q (F0 m (pc + 3) ls rest)) : W p l e R s m args below meth c H locs cells slots Q (F0 m pc ls (.int x :: .ref (ad (fo_lay 14 i)) :: rest)) := by
  refine va_put (C := RX1) (T := TX1) (N := 10) (ci := 1) (ty := .int) hx hb hT fo_in1 tyX1 tyX1_ok nmX1 hown hK hP (hD _) hS (fo_lay 14 i) (fo_at (by decide) hi) rfl 6 (by decide) (hT _ (fo_tb 111 (by decide +kernel) rfl)) (fun _ h => h) rfl (by decide +kernel) rfl rfl (Nat.le_of_ble_eq_true rfl) hdg (fun H1 locs1 hP1 hD1 hS1 => ?_)
  exact kk H1 locs1 (Eq.mp (congrArg (fun w => va_P D vwCl w H1) (fo_setI (ca := ca) (ad := ad) (σ := σ) (k := 14) (i := i) (j := 6) (v := x) (by decide) hi rfl)) hP1) hS1
theorem fo_p1_47 (hx : p.tables.exec = Jvm.exec) (hb : c.code = cc) (hT : ∀ w ∈ fo_T, w.before args s = true) (hown : s.vm.findClass RX1 = some m.cls) (hK : va_K D vwCl (fo_tys ca) s) (hP : va_P D vwCl (fo_vx 51 ad (fo_ce ca ad σ)) H) (hD : ∀ e, va_D A (fo_vx 51 ad e)) (hS : va_S A H0 H locs) {i : Nat} (hi : i < 16) {x : Int32} (hdg : decode cc pc = .ok (.putfield 47, 3))
    (kk : ∀ (H1 : Heap) (locs1 : List Loc), va_P D vwCl (fo_vx 51 ad (fo_ce ca ad (fo_pI σ 14 i 7 x))) H1 → va_S A H0 H1 locs1 → W p l e R s m args below meth c H1 locs1 cells slots Q (F0 m (pc + 3) ls rest)) : W p l e R s m args below meth c H locs cells slots Q (F0 m pc ls (.int x :: .ref (ad (fo_lay 14 i)) :: rest)) := by
  refine va_put (C := RX1) (T := TX1) (N := 10) (ci := 1) (ty := .int) hx hb hT fo_in1 tyX1 tyX1_ok nmX1 hown hK hP (hD _) hS (fo_lay 14 i) (fo_at (by decide) hi) rfl 7 (by decide) (hT _ (fo_tb 114 (by decide +kernel) rfl)) (fun _ h => h) rfl (by decide +kernel) rfl rfl (Nat.le_of_ble_eq_true rfl) hdg (fun H1 locs1 hP1 hD1 hS1 => ?_)
  exact kk H1 locs1 (Eq.mp (congrArg (fun w => va_P D vwCl w H1) (fo_setI (ca := ca) (ad := ad) (σ := σ) (k := 14) (i := i) (j := 7) (v := x) (by decide) hi rfl)) hP1) hS1
theorem fo_p1_50 (hx : p.tables.exec = Jvm.exec) (hb : c.code = cc) (hT : ∀ w ∈ fo_T, w.before args s = true) (hown : s.vm.findClass RX1 = some m.cls) (hK : va_K D vwCl (fo_tys ca) s) (hP : va_P D vwCl (fo_vx 51 ad (fo_ce ca ad σ)) H) (hD : ∀ e, va_D A (fo_vx 51 ad e)) (hS : va_S A H0 H locs) {i : Nat} (hi : i < 16) {x : Int32} (hdg : decode cc pc = .ok (.putfield 50, 3))
    (kk : ∀ (H1 : Heap) (locs1 : List Loc), va_P D vwCl (fo_vx 51 ad (fo_ce ca ad (fo_pI σ 14 i 8 x))) H1 → va_S A H0 H1 locs1 → W p l e R s m args below meth c H1 locs1 cells slots Q (F0 m (pc + 3) ls rest)) : W p l e R s m args below meth c H locs cells slots Q (F0 m pc ls (.int x :: .ref (ad (fo_lay 14 i)) :: rest)) := by
  refine va_put (C := RX1) (T := TX1) (N := 10) (ci := 1) (ty := .int) hx hb hT fo_in1 tyX1 tyX1_ok nmX1 hown hK hP (hD _) hS (fo_lay 14 i) (fo_at (by decide) hi) rfl 8 (by decide) (hT _ (fo_tb 118 (by decide +kernel) rfl)) (fun _ h => h) rfl (by decide +kernel) rfl rfl (Nat.le_of_ble_eq_true rfl) hdg (fun H1 locs1 hP1 hD1 hS1 => ?_)
  exact kk H1 locs1 (Eq.mp (congrArg (fun w => va_P D vwCl w H1) (fo_setI (ca := ca) (ad := ad) (σ := σ) (k := 14) (i := i) (j := 8) (v := x) (by decide) hi rfl)) hP1) hS1
theorem fo_p1_53 (hx : p.tables.exec = Jvm.exec) (hb : c.code = cc) (hT : ∀ w ∈ fo_T, w.before args s = true) (hown : s.vm.findClass RX1 = some m.cls) (hK : va_K D vwCl (fo_tys ca) s) (hP : va_P D vwCl (fo_vx 51 ad (fo_ce ca ad σ)) H) (hD : ∀ e, va_D A (fo_vx 51 ad e)) (hS : va_S A H0 H locs) {i : Nat} (hi : i < 16) {x : Int64} (hdg : decode cc pc = .ok (.putfield 53, 3))
    (kk : ∀ (H1 : Heap) (locs1 : List Loc), va_P D vwCl (fo_vx 51 ad (fo_ce ca ad (fo_pJ σ 14 i 9 x))) H1 → va_S A H0 H1 locs1 → W p l e R s m args below meth c H1 locs1 cells slots Q (F0 m (pc + 3) ls rest)) : W p l e R s m args below meth c H locs cells slots Q (F0 m pc ls (.long x :: .ref (ad (fo_lay 14 i)) :: rest)) := by
  refine va_put (C := RX1) (T := TX1) (N := 10) (ci := 1) (ty := .long) hx hb hT fo_in1 tyX1 tyX1_ok nmX1 hown hK hP (hD _) hS (fo_lay 14 i) (fo_at (by decide) hi) rfl 9 (by decide) (hT _ (fo_tb 120 (by decide +kernel) rfl)) (fun _ h => h) rfl (by decide +kernel) rfl rfl (Nat.le_of_ble_eq_true rfl) hdg (fun H1 locs1 hP1 hD1 hS1 => ?_)
  exact kk H1 locs1 (Eq.mp (congrArg (fun w => va_P D vwCl w H1) (fo_setJ (ca := ca) (ad := ad) (σ := σ) (k := 14) (i := i) (j := 9) (v := x) (by decide) hi rfl)) hP1) hS1
theorem fo_p3_15 (hx : p.tables.exec = Jvm.exec) (hb : c.code = cc) (hT : ∀ w ∈ fo_T, w.before args s = true) (hown : s.vm.findClass RX3 = some m.cls) (hK : va_K D vwCl (fo_tys ca) s) (hP : va_P D vwCl (fo_vx 51 ad (fo_ce ca ad σ)) H) (hD : ∀ e, va_D A (fo_vx 51 ad e)) (hS : va_S A H0 H locs) {i : Nat} (hi : i < 2) {x : Int32} (hdg : decode cc pc = .ok (.putfield 15, 3))
    (kk : ∀ (H1 : Heap) (locs1 : List Loc), va_P D vwCl (fo_vx 51 ad (fo_ce ca ad (fo_pI σ 5 i 1 x))) H1 → va_S A H0 H1 locs1 → W p l e R s m args below meth c H1 locs1 cells slots Q (F0 m (pc + 3) ls rest)) : W p l e R s m args below meth c H locs cells slots Q (F0 m pc ls (.int x :: .ref (ad (fo_lay 5 i)) :: rest)) := by
  refine va_put (C := RX3) (T := TX3) (N := 2) (ci := 3) (ty := .int) hx hb hT fo_in3 tyX3 tyX3_ok nmX3 hown hK hP (hD _) hS (fo_lay 5 i) (fo_at (by decide) hi) rfl 1 (by decide) (hT _ (fo_tb 48 (by decide +kernel) rfl)) (fun _ h => h) rfl (by decide +kernel) rfl rfl (Nat.le_of_ble_eq_true rfl) hdg (fun H1 locs1 hP1 hD1 hS1 => ?_)
  exact kk H1 locs1 (Eq.mp (congrArg (fun w => va_P D vwCl w H1) (fo_setI (ca := ca) (ad := ad) (σ := σ) (k := 5) (i := i) (j := 1) (v := x) (by decide) hi rfl)) hP1) hS1
theorem fo_p5_49 (hx : p.tables.exec = Jvm.exec) (hb : c.code = cc) (hT : ∀ w ∈ fo_T, w.before args s = true) (hown : s.vm.findClass RX5 = some m.cls) (hK : va_K D vwCl (fo_tys ca) s) (hP : va_P D vwCl (fo_vx 51 ad (fo_ce ca ad σ)) H) (hD : ∀ e, va_D A (fo_vx 51 ad e)) (hS : va_S A H0 H locs) {i : Nat} (hi : i < 1) {x : Int64} (hdg : decode cc pc = .ok (.putfield 49, 3))
    (kk : ∀ (H1 : Heap) (locs1 : List Loc), va_P D vwCl (fo_vx 51 ad (fo_ce ca ad (fo_pJ σ 10 i 3 x))) H1 → va_S A H0 H1 locs1 → W p l e R s m args below meth c H1 locs1 cells slots Q (F0 m (pc + 3) ls rest)) : W p l e R s m args below meth c H locs cells slots Q (F0 m pc ls (.long x :: .ref (ad (fo_lay 10 i)) :: rest)) := by
  refine va_put (C := RX5) (T := TX5) (N := 5) (ci := 5) (ty := .long) hx hb hT fo_in5 tyX5 tyX5_ok nmX5 hown hK hP (hD _) hS (fo_lay 10 i) (fo_at (by decide) hi) rfl 3 (by decide) (hT _ (fo_tb 76 (by decide +kernel) rfl)) (fun _ h => h) rfl (by decide +kernel) rfl rfl (Nat.le_of_ble_eq_true rfl) hdg (fun H1 locs1 hP1 hD1 hS1 => ?_)
  exact kk H1 locs1 (Eq.mp (congrArg (fun w => va_P D vwCl w H1) (fo_setJ (ca := ca) (ad := ad) (σ := σ) (k := 10) (i := i) (j := 3) (v := x) (by decide) hi rfl)) hP1) hS1
theorem fo_p5_53 (hx : p.tables.exec = Jvm.exec) (hb : c.code = cc) (hT : ∀ w ∈ fo_T, w.before args s = true) (hown : s.vm.findClass RX5 = some m.cls) (hK : va_K D vwCl (fo_tys ca) s) (hP : va_P D vwCl (fo_vx 51 ad (fo_ce ca ad σ)) H) (hD : ∀ e, va_D A (fo_vx 51 ad e)) (hS : va_S A H0 H locs) {i : Nat} (hi : i < 1) {x : Int64} (hdg : decode cc pc = .ok (.putfield 53, 3))
    (kk : ∀ (H1 : Heap) (locs1 : List Loc), va_P D vwCl (fo_vx 51 ad (fo_ce ca ad (fo_pJ σ 10 i 4 x))) H1 → va_S A H0 H1 locs1 → W p l e R s m args below meth c H1 locs1 cells slots Q (F0 m (pc + 3) ls rest)) : W p l e R s m args below meth c H locs cells slots Q (F0 m pc ls (.long x :: .ref (ad (fo_lay 10 i)) :: rest)) := by
  refine va_put (C := RX5) (T := TX5) (N := 5) (ci := 5) (ty := .long) hx hb hT fo_in5 tyX5 tyX5_ok nmX5 hown hK hP (hD _) hS (fo_lay 10 i) (fo_at (by decide) hi) rfl 4 (by decide) (hT _ (fo_tb 77 (by decide +kernel) rfl)) (fun _ h => h) rfl (by decide +kernel) rfl rfl (Nat.le_of_ble_eq_true rfl) hdg (fun H1 locs1 hP1 hD1 hS1 => ?_)
  exact kk H1 locs1 (Eq.mp (congrArg (fun w => va_P D vwCl w H1) (fo_setJ (ca := ca) (ad := ad) (σ := σ) (k := 10) (i := i) (j := 4) (v := x) (by decide) hi rfl)) hP1) hS1
end FOM
theorem fo_c0_103 {R : Room} {args : Array Value} {s : State} (hT : ∀ w ∈ fo_T, w.before args s = true) (hR : (rm_q_Call_begin).frames + 1 ≤ R.frames ∧ 8 + (6 + 11) + (rm_q_Call_begin).locals ≤ R.locals) : CallW R s args RX0 RX1 103 yX1_begin cX1_begin 6 none ws_q_Call_begin rm_q_Call_begin 0 0 3 :=
  ⟨callB_of 3 hT (fo_good (fo_tb 246 (by decide +kernel) rfl)) rfl rfl rfl (hT _ (fo_tb 6 (by decide +kernel) rfl)) (hT _ (fo_tb 243 (by decide +kernel) rfl)) ⟨by decide +kernel, by decide +kernel, by decide +kernel⟩ hR, hT _ (fo_tb 244 (by decide +kernel) rfl), hT _ (fo_tb 245 (by decide +kernel) rfl)⟩
theorem fo_c0_106 {R : Room} {args : Array Value} {s : State} (hT : ∀ w ∈ fo_T, w.before args s = true) (hR : (rm_q_FairOrder_isCall).frames + 1 ≤ R.frames ∧ 8 + (2 + 11) + (rm_q_FairOrder_isCall).locals ≤ R.locals) : CallW R s args RX0 RX0 106 yX0_isCall cX0_isCall 2 (some .boolean) ws_q_FairOrder_isCall rm_q_FairOrder_isCall 0 0 1 :=
  ⟨callB_of 1 hT (fo_good (fo_tb 262 (by decide +kernel) rfl)) rfl rfl rfl (hT _ (fo_tb 1 (by decide +kernel) rfl)) (hT _ (fo_tb 259 (by decide +kernel) rfl)) ⟨by decide +kernel, by decide +kernel, by decide +kernel⟩ hR, hT _ (fo_tb 261 (by decide +kernel) rfl), hT _ (fo_ts 2 (by decide +kernel) rfl)⟩
theorem fo_c0_11 {R : Room} {args : Array Value} {s : State} (hT : ∀ w ∈ fo_T, w.before args s = true) (hl : va_Nw (Cond.methodLinkNest RX0 11 yX2_init "FairOrder") s) (hR : (rm_q_Market_init).frames + 1 ≤ R.frames ∧ 8 + (1 + 11) + (rm_q_Market_init).locals ≤ R.locals) : va_CN R s args RX0 11 yX2_init "FairOrder" cX2_init 1 none ws_q_Market_init rm_q_Market_init 2 18 0 ∧ yX2_init.name = "<init>" ∧ (Cond.instanceMethod yX2_init).before args s = true :=
  ⟨va_cnB 0 hT (fo_good (fo_tb 24 (by decide +kernel) rfl)) rfl rfl rfl hl (hT _ (fo_tb 2 (by decide +kernel) rfl)) ⟨by decide +kernel, by decide +kernel, by decide +kernel⟩ hR, rfl, hT _ (fo_tb 23 (by decide +kernel) rfl)⟩
theorem fo_c0_121 {R : Room} {args : Array Value} {s : State} (hT : ∀ w ∈ fo_T, w.before args s = true) (hR : (rm_q_Call_tell).frames + 1 ≤ R.frames ∧ 8 + (4 + 11) + (rm_q_Call_tell).locals ≤ R.locals) : CallW R s args RX0 RX1 121 yX1_tell cX1_tell 4 none ws_q_Call_tell rm_q_Call_tell 0 0 3 :=
  ⟨callB_of 3 hT (fo_good (fo_tb 272 (by decide +kernel) rfl)) rfl rfl rfl (hT _ (fo_tb 6 (by decide +kernel) rfl)) (hT _ (fo_tb 269 (by decide +kernel) rfl)) ⟨by decide +kernel, by decide +kernel, by decide +kernel⟩ hR, hT _ (fo_tb 270 (by decide +kernel) rfl), hT _ (fo_tb 271 (by decide +kernel) rfl)⟩
theorem fo_c0_131 {R : Room} {args : Array Value} {s : State} (hT : ∀ w ∈ fo_T, w.before args s = true) (hR : (rm_q_FairOrder_takeLostDeposits).frames + 1 ≤ R.frames ∧ 8 + (2 + 11) + (rm_q_FairOrder_takeLostDeposits).locals ≤ R.locals) : CallW R s args RX0 RX0 131 yX0_takeLostDeposits cX0_takeLostDeposits 2 none ws_q_FairOrder_takeLostDeposits rm_q_FairOrder_takeLostDeposits 0 0 0 :=
  ⟨callB_of 0 hT (fo_good (fo_tb 280 (by decide +kernel) rfl)) rfl rfl rfl (hT _ (fo_tb 1 (by decide +kernel) rfl)) (hT _ (fo_tb 277 (by decide +kernel) rfl)) ⟨by decide +kernel, by decide +kernel, by decide +kernel⟩ hR, hT _ (fo_tb 279 (by decide +kernel) rfl), hT _ (fo_ts 3 (by decide +kernel) rfl)⟩
theorem fo_c0_137 {R : Room} {args : Array Value} {s : State} (hT : ∀ w ∈ fo_T, w.before args s = true) (hR : (rm_q_Links_find).frames + 1 ≤ R.frames ∧ 8 + (5 + 11) + (rm_q_Links_find).locals ≤ R.locals) : CallW R s args RX0 RX4 137 yX4_find cX4_find 5 none ws_q_Links_find rm_q_Links_find 0 0 2 :=
  ⟨callB_of 2 hT (fo_good (fo_tb 288 (by decide +kernel) rfl)) rfl rfl rfl (hT _ (fo_tb 4 (by decide +kernel) rfl)) (hT _ (fo_tb 285 (by decide +kernel) rfl)) ⟨by decide +kernel, by decide +kernel, by decide +kernel⟩ hR, hT _ (fo_tb 286 (by decide +kernel) rfl), hT _ (fo_tb 287 (by decide +kernel) rfl)⟩
theorem fo_c0_141 {R : Room} {args : Array Value} {s : State} (hT : ∀ w ∈ fo_T, w.before args s = true) (hR : (rm_q_FairOrder_openedSet).frames + 1 ≤ R.frames ∧ 8 + (3 + 11) + (rm_q_FairOrder_openedSet).locals ≤ R.locals) : CallW R s args RX0 RX0 141 yX0_openedSet cX0_openedSet 3 (some .int) ws_q_FairOrder_openedSet rm_q_FairOrder_openedSet 0 0 0 :=
  ⟨callB_of 0 hT (fo_good (fo_tb 310 (by decide +kernel) rfl)) rfl rfl rfl (hT _ (fo_tb 1 (by decide +kernel) rfl)) (hT _ (fo_tb 307 (by decide +kernel) rfl)) ⟨by decide +kernel, by decide +kernel, by decide +kernel⟩ hR, hT _ (fo_tb 309 (by decide +kernel) rfl), hT _ (fo_ts 5 (by decide +kernel) rfl)⟩
theorem fo_c0_145 {R : Room} {args : Array Value} {s : State} (hT : ∀ w ∈ fo_T, w.before args s = true) (hR : (rm_q_Links_addKnots).frames + 1 ≤ R.frames ∧ 8 + (7 + 11) + (rm_q_Links_addKnots).locals ≤ R.locals) : CallW R s args RX0 RX4 145 yX4_addKnots cX4_addKnots 7 none ws_q_Links_addKnots rm_q_Links_addKnots 0 0 3 :=
  ⟨callB_of 3 hT (fo_good (fo_tb 314 (by decide +kernel) rfl)) rfl rfl rfl (hT _ (fo_tb 4 (by decide +kernel) rfl)) (hT _ (fo_tb 311 (by decide +kernel) rfl)) ⟨by decide +kernel, by decide +kernel, by decide +kernel⟩ hR, hT _ (fo_tb 312 (by decide +kernel) rfl), hT _ (fo_tb 313 (by decide +kernel) rfl)⟩
theorem fo_c0_149 {R : Room} {args : Array Value} {s : State} (hT : ∀ w ∈ fo_T, w.before args s = true) (hR : (rm_q_FairOrder_addByNumbers).frames + 1 ≤ R.frames ∧ 8 + (2 + 11) + (rm_q_FairOrder_addByNumbers).locals ≤ R.locals) : CallW R s args RX0 RX0 149 yX0_addByNumbers cX0_addByNumbers 2 none ws_q_FairOrder_addByNumbers rm_q_FairOrder_addByNumbers 0 0 0 :=
  ⟨callB_of 0 hT (fo_good (fo_tb 337 (by decide +kernel) rfl)) rfl rfl rfl (hT _ (fo_tb 1 (by decide +kernel) rfl)) (hT _ (fo_tb 334 (by decide +kernel) rfl)) ⟨by decide +kernel, by decide +kernel, by decide +kernel⟩ hR, hT _ (fo_tb 336 (by decide +kernel) rfl), hT _ (fo_ts 9 (by decide +kernel) rfl)⟩
theorem fo_c0_152 {R : Room} {args : Array Value} {s : State} (hT : ∀ w ∈ fo_T, w.before args s = true) (hR : (rm_q_FairOrder_arrange).frames + 1 ≤ R.frames ∧ 8 + (5 + 11) + (rm_q_FairOrder_arrange).locals ≤ R.locals) : CallW R s args RX0 RX0 152 yX0_arrange cX0_arrange 5 none ws_q_FairOrder_arrange rm_q_FairOrder_arrange 0 0 2 :=
  ⟨callB_of 2 hT (fo_good (fo_tb 342 (by decide +kernel) rfl)) rfl rfl rfl (hT _ (fo_tb 1 (by decide +kernel) rfl)) (hT _ (fo_tb 339 (by decide +kernel) rfl)) ⟨by decide +kernel, by decide +kernel, by decide +kernel⟩ hR, hT _ (fo_tb 341 (by decide +kernel) rfl), hT _ (fo_ts 10 (by decide +kernel) rfl)⟩
theorem fo_c0_159 {R : Room} {args : Array Value} {s : State} (hT : ∀ w ∈ fo_T, w.before args s = true) (hR : (rm_q_Row_hasPlace).frames + 1 ≤ R.frames ∧ 8 + (2 + 11) + (rm_q_Row_hasPlace).locals ≤ R.locals) : CallW R s args RX0 RX3 159 yX3_hasPlace cX3_hasPlace 2 (some .boolean) ws_q_Row_hasPlace rm_q_Row_hasPlace 0 0 1 :=
  ⟨callB_of 1 hT (fo_good (fo_tb 375 (by decide +kernel) rfl)) rfl rfl rfl (hT _ (fo_tb 3 (by decide +kernel) rfl)) (hT _ (fo_tb 372 (by decide +kernel) rfl)) ⟨by decide +kernel, by decide +kernel, by decide +kernel⟩ hR, hT _ (fo_tb 373 (by decide +kernel) rfl), hT _ (fo_tb 374 (by decide +kernel) rfl)⟩
theorem fo_c0_165 {R : Room} {args : Array Value} {s : State} (hT : ∀ w ∈ fo_T, w.before args s = true) (hR : (rm_q_FairOrder_isOpenedCall).frames + 1 ≤ R.frames ∧ 8 + (2 + 11) + (rm_q_FairOrder_isOpenedCall).locals ≤ R.locals) : CallW R s args RX0 RX0 165 yX0_isOpenedCall cX0_isOpenedCall 2 (some .boolean) ws_q_FairOrder_isOpenedCall rm_q_FairOrder_isOpenedCall 0 0 1 :=
  ⟨callB_of 1 hT (fo_good (fo_tb 383 (by decide +kernel) rfl)) rfl rfl rfl (hT _ (fo_tb 1 (by decide +kernel) rfl)) (hT _ (fo_tb 380 (by decide +kernel) rfl)) ⟨by decide +kernel, by decide +kernel, by decide +kernel⟩ hR, hT _ (fo_tb 382 (by decide +kernel) rfl), hT _ (fo_ts 13 (by decide +kernel) rfl)⟩
theorem fo_c0_168 {R : Room} {args : Array Value} {s : State} (hT : ∀ w ∈ fo_T, w.before args s = true) (hR : (rm_q_Links_leads).frames + 1 ≤ R.frames ∧ 8 + (3 + 11) + (rm_q_Links_leads).locals ≤ R.locals) : CallW R s args RX0 RX4 168 yX4_leads cX4_leads 3 (some .boolean) ws_q_Links_leads rm_q_Links_leads 0 0 2 :=
  ⟨callB_of 2 hT (fo_good (fo_tb 303 (by decide +kernel) rfl)) rfl rfl rfl (hT _ (fo_tb 4 (by decide +kernel) rfl)) (hT _ (fo_tb 384 (by decide +kernel) rfl)) ⟨by decide +kernel, by decide +kernel, by decide +kernel⟩ hR, hT _ (fo_tb 301 (by decide +kernel) rfl), hT _ (fo_tb 302 (by decide +kernel) rfl)⟩
theorem fo_c0_172 {R : Room} {args : Array Value} {s : State} (hT : ∀ w ∈ fo_T, w.before args s = true) (hR : (rm_q_Call_thirdTime).frames + 1 ≤ R.frames ∧ 8 + (2 + 11) + (rm_q_Call_thirdTime).locals ≤ R.locals) : CallW R s args RX0 RX1 172 yX1_thirdTime cX1_thirdTime 2 (some .int) ws_q_Call_thirdTime rm_q_Call_thirdTime 0 0 0 :=
  ⟨callB_of 0 hT (fo_good (fo_tb 359 (by decide +kernel) rfl)) rfl rfl rfl (hT _ (fo_tb 6 (by decide +kernel) rfl)) (hT _ (fo_tb 356 (by decide +kernel) rfl)) ⟨by decide +kernel, by decide +kernel, by decide +kernel⟩ hR, hT _ (fo_tb 357 (by decide +kernel) rfl), hT _ (fo_tb 358 (by decide +kernel) rfl)⟩
theorem fo_c0_175 {R : Room} {args : Array Value} {s : State} (hT : ∀ w ∈ fo_T, w.before args s = true) (hR : (rm_q_FairOrder_mayPlay).frames + 1 ≤ R.frames ∧ 8 + (1 + 11) + (rm_q_FairOrder_mayPlay).locals ≤ R.locals) : CallW R s args RX0 RX0 175 yX0_mayPlay cX0_mayPlay 1 (some .boolean) ws_q_FairOrder_mayPlay rm_q_FairOrder_mayPlay 0 0 0 :=
  ⟨callB_of 0 hT (fo_good (fo_tb 396 (by decide +kernel) rfl)) rfl rfl rfl (hT _ (fo_tb 1 (by decide +kernel) rfl)) (hT _ (fo_tb 393 (by decide +kernel) rfl)) ⟨by decide +kernel, by decide +kernel, by decide +kernel⟩ hR, hT _ (fo_tb 395 (by decide +kernel) rfl), hT _ (fo_ts 14 (by decide +kernel) rfl)⟩
theorem fo_c0_182 {R : Room} {args : Array Value} {s : State} (hT : ∀ w ∈ fo_T, w.before args s = true) (hR : (rm_q_Market_trade).frames + 1 ≤ R.frames ∧ 8 + (2 + 11) + (rm_q_Market_trade).locals ≤ R.locals) : CallW R s args RX0 RX2 182 yX2_trade cX2_trade 2 (some .long) ws_q_Market_trade rm_q_Market_trade 0 0 1 :=
  ⟨callB_of 1 hT (fo_good (fo_tb 400 (by decide +kernel) rfl)) rfl rfl rfl (hT _ (fo_tb 2 (by decide +kernel) rfl)) (hT _ (fo_tb 397 (by decide +kernel) rfl)) ⟨by decide +kernel, by decide +kernel, by decide +kernel⟩ hR, hT _ (fo_tb 398 (by decide +kernel) rfl), hT _ (fo_tb 399 (by decide +kernel) rfl)⟩
theorem fo_c0_191 {R : Room} {args : Array Value} {s : State} (hT : ∀ w ∈ fo_T, w.before args s = true) (hR : (rm_q_Call_note).frames + 1 ≤ R.frames ∧ 8 + (4 + 11) + (rm_q_Call_note).locals ≤ R.locals) : CallW R s args RX0 RX1 191 yX1_note cX1_note 4 none ws_q_Call_note rm_q_Call_note 0 0 2 :=
  ⟨callB_of 2 hT (fo_good (fo_tb 254 (by decide +kernel) rfl)) rfl rfl rfl (hT _ (fo_tb 6 (by decide +kernel) rfl)) (hT _ (fo_tb 423 (by decide +kernel) rfl)) ⟨by decide +kernel, by decide +kernel, by decide +kernel⟩ hR, hT _ (fo_tb 252 (by decide +kernel) rfl), hT _ (fo_tb 253 (by decide +kernel) rfl)⟩
theorem fo_c0_194 {R : Room} {args : Array Value} {s : State} (hT : ∀ w ∈ fo_T, w.before args s = true) (hR : (rm_q_Auction_findPrice).frames + 1 ≤ R.frames ∧ 8 + (8 + 11) + (rm_q_Auction_findPrice).locals ≤ R.locals) : CallW R s args RX0 RX5 194 yX5_findPrice cX5_findPrice 8 (some .int) ws_q_Auction_findPrice rm_q_Auction_findPrice 0 0 3 :=
  ⟨callB_of 3 hT (fo_good (fo_tb 431 (by decide +kernel) rfl)) rfl rfl rfl (hT _ (fo_tb 5 (by decide +kernel) rfl)) (hT _ (fo_tb 428 (by decide +kernel) rfl)) ⟨by decide +kernel, by decide +kernel, by decide +kernel⟩ hR, hT _ (fo_tb 429 (by decide +kernel) rfl), hT _ (fo_tb 430 (by decide +kernel) rfl)⟩
theorem fo_c0_198 {R : Room} {args : Array Value} {s : State} (hT : ∀ w ∈ fo_T, w.before args s = true) (hR : (rm_q_Auction_settle).frames + 1 ≤ R.frames ∧ 8 + (11 + 11) + (rm_q_Auction_settle).locals ≤ R.locals) : CallW R s args RX0 RX5 198 yX5_settle cX5_settle 11 none ws_q_Auction_settle rm_q_Auction_settle 0 0 4 :=
  ⟨callB_of 4 hT (fo_good (fo_tb 455 (by decide +kernel) rfl)) rfl rfl rfl (hT _ (fo_tb 5 (by decide +kernel) rfl)) (hT _ (fo_tb 452 (by decide +kernel) rfl)) ⟨by decide +kernel, by decide +kernel, by decide +kernel⟩ hR, hT _ (fo_tb 453 (by decide +kernel) rfl), hT _ (fo_tb 454 (by decide +kernel) rfl)⟩
theorem fo_c0_210 {R : Room} {args : Array Value} {s : State} (hT : ∀ w ∈ fo_T, w.before args s = true) (hR : (rm_q_FairOrder_isHolding).frames + 1 ≤ R.frames ∧ 8 + (1 + 11) + (rm_q_FairOrder_isHolding).locals ≤ R.locals) : CallB R s args RX0 210 yX0_isHolding cX0_isHolding 1 (some .boolean) ws_q_FairOrder_isHolding rm_q_FairOrder_isHolding 0 0 1 ∧ (Cond.static yX0_isHolding).before args s = true :=
  ⟨callB_of 1 hT (fo_good (fo_tb 477 (by decide +kernel) rfl)) rfl rfl rfl (hT _ (fo_tb 1 (by decide +kernel) rfl)) (hT _ (fo_tb 475 (by decide +kernel) rfl)) ⟨by decide +kernel, by decide +kernel, by decide +kernel⟩ hR, hT _ (fo_tb 476 (by decide +kernel) rfl)⟩
theorem fo_c0_213 {R : Room} {args : Array Value} {s : State} (hT : ∀ w ∈ fo_T, w.before args s = true) (hR : (rm_q_Row_copyFrom).frames + 1 ≤ R.frames ∧ 8 + (2 + 11) + (rm_q_Row_copyFrom).locals ≤ R.locals) : CallW R s args RX0 RX3 213 yX3_copyFrom cX3_copyFrom 2 none ws_q_Row_copyFrom rm_q_Row_copyFrom 0 0 1 :=
  ⟨callB_of 1 hT (fo_good (fo_tb 481 (by decide +kernel) rfl)) rfl rfl rfl (hT _ (fo_tb 3 (by decide +kernel) rfl)) (hT _ (fo_tb 478 (by decide +kernel) rfl)) ⟨by decide +kernel, by decide +kernel, by decide +kernel⟩ hR, hT _ (fo_tb 479 (by decide +kernel) rfl), hT _ (fo_tb 480 (by decide +kernel) rfl)⟩
theorem fo_c0_217 {R : Room} {args : Array Value} {s : State} (hT : ∀ w ∈ fo_T, w.before args s = true) (hR : (rm_q_Row_move).frames + 1 ≤ R.frames ∧ 8 + (4 + 11) + (rm_q_Row_move).locals ≤ R.locals) : CallW R s args RX0 RX3 217 yX3_move cX3_move 4 none ws_q_Row_move rm_q_Row_move 0 0 2 :=
  ⟨callB_of 2 hT (fo_good (fo_tb 488 (by decide +kernel) rfl)) rfl rfl rfl (hT _ (fo_tb 3 (by decide +kernel) rfl)) (hT _ (fo_tb 485 (by decide +kernel) rfl)) ⟨by decide +kernel, by decide +kernel, by decide +kernel⟩ hR, hT _ (fo_tb 486 (by decide +kernel) rfl), hT _ (fo_tb 487 (by decide +kernel) rfl)⟩
theorem fo_c0_221 {R : Room} {args : Array Value} {s : State} (hT : ∀ w ∈ fo_T, w.before args s = true) (hR : (rm_q_FairOrder_heldAfterTrial).frames + 1 ≤ R.frames ∧ 8 + (5 + 11) + (rm_q_FairOrder_heldAfterTrial).locals ≤ R.locals) : CallW R s args RX0 RX0 221 yX0_heldAfterTrial cX0_heldAfterTrial 5 (some .long) ws_q_FairOrder_heldAfterTrial rm_q_FairOrder_heldAfterTrial 0 0 3 :=
  ⟨callB_of 3 hT (fo_good (fo_tb 492 (by decide +kernel) rfl)) rfl rfl rfl (hT _ (fo_tb 1 (by decide +kernel) rfl)) (hT _ (fo_tb 489 (by decide +kernel) rfl)) ⟨by decide +kernel, by decide +kernel, by decide +kernel⟩ hR, hT _ (fo_tb 491 (by decide +kernel) rfl), hT _ (fo_ts 21 (by decide +kernel) rfl)⟩
theorem fo_c0_225 {R : Room} {args : Array Value} {s : State} (hT : ∀ w ∈ fo_T, w.before args s = true) (hR : (rm_q_Market_held).frames + 1 ≤ R.frames ∧ 8 + (3 + 11) + (rm_q_Market_held).locals ≤ R.locals) : CallW R s args RX0 RX2 225 yX2_held cX2_held 3 (some .long) ws_q_Market_held rm_q_Market_held 0 0 2 :=
  ⟨callB_of 2 hT (fo_good (fo_tb 501 (by decide +kernel) rfl)) rfl rfl rfl (hT _ (fo_tb 2 (by decide +kernel) rfl)) (hT _ (fo_tb 498 (by decide +kernel) rfl)) ⟨by decide +kernel, by decide +kernel, by decide +kernel⟩ hR, hT _ (fo_tb 499 (by decide +kernel) rfl), hT _ (fo_tb 500 (by decide +kernel) rfl)⟩
theorem fo_c0_229 {R : Room} {args : Array Value} {s : State} (hT : ∀ w ∈ fo_T, w.before args s = true) (hR : (rm_q_Call_term).frames + 1 ≤ R.frames ∧ 8 + (2 + 11) + (rm_q_Call_term).locals ≤ R.locals) : CallW R s args RX0 RX1 229 yX1_term cX1_term 2 (some .int) ws_q_Call_term rm_q_Call_term 0 0 1 :=
  ⟨callB_of 1 hT (fo_good (fo_tb 513 (by decide +kernel) rfl)) rfl rfl rfl (hT _ (fo_tb 6 (by decide +kernel) rfl)) (hT _ (fo_tb 510 (by decide +kernel) rfl)) ⟨by decide +kernel, by decide +kernel, by decide +kernel⟩ hR, hT _ (fo_tb 511 (by decide +kernel) rfl), hT _ (fo_tb 512 (by decide +kernel) rfl)⟩
theorem fo_c0_233 {R : Room} {args : Array Value} {s : State} (hT : ∀ w ∈ fo_T, w.before args s = true) (hR : (rm_q_Integer_bitCount).frames + 1 ≤ R.frames ∧ 8 + (1 + 11) + (rm_q_Integer_bitCount).locals ≤ R.locals) : CallB R s args RX0 233 yX7_bitCount cX7_bitCount 1 (some .int) ws_q_Integer_bitCount rm_q_Integer_bitCount 0 0 1 ∧ (Cond.static yX7_bitCount).before args s = true :=
  ⟨callB_of 1 hT (fo_good (fo_tb 520 (by decide +kernel) rfl)) rfl rfl rfl (hT _ (fo_tb 9 (by decide +kernel) rfl)) (hT _ (fo_tb 518 (by decide +kernel) rfl)) ⟨by decide +kernel, by decide +kernel, by decide +kernel⟩ hR, hT _ (fo_tb 519 (by decide +kernel) rfl)⟩
theorem fo_c0_248 {R : Room} {args : Array Value} {s : State} (hT : ∀ w ∈ fo_T, w.before args s = true) (hR : (rm_q_Row_add).frames + 1 ≤ R.frames ∧ 8 + (2 + 11) + (rm_q_Row_add).locals ≤ R.locals) : CallW R s args RX0 RX3 248 yX3_add cX3_add 2 none ws_q_Row_add rm_q_Row_add 0 0 1 :=
  ⟨callB_of 1 hT (fo_good (fo_tb 333 (by decide +kernel) rfl)) rfl rfl rfl (hT _ (fo_tb 3 (by decide +kernel) rfl)) (hT _ (fo_tb 338 (by decide +kernel) rfl)) ⟨by decide +kernel, by decide +kernel, by decide +kernel⟩ hR, hT _ (fo_tb 331 (by decide +kernel) rfl), hT _ (fo_tb 332 (by decide +kernel) rfl)⟩
theorem fo_c0_252 {R : Room} {args : Array Value} {s : State} (hT : ∀ w ∈ fo_T, w.before args s = true) (hR : (rm_q_Row_shuffle).frames + 1 ≤ R.frames ∧ 8 + (6 + 11) + (rm_q_Row_shuffle).locals ≤ R.locals) : CallW R s args RX0 RX3 252 yX3_shuffle cX3_shuffle 6 none ws_q_Row_shuffle rm_q_Row_shuffle 0 0 1 :=
  ⟨callB_of 1 hT (fo_good (fo_tb 346 (by decide +kernel) rfl)) rfl rfl rfl (hT _ (fo_tb 3 (by decide +kernel) rfl)) (hT _ (fo_tb 343 (by decide +kernel) rfl)) ⟨by decide +kernel, by decide +kernel, by decide +kernel⟩ hR, hT _ (fo_tb 344 (by decide +kernel) rfl), hT _ (fo_tb 345 (by decide +kernel) rfl)⟩
theorem fo_c0_256 {R : Room} {args : Array Value} {s : State} (hT : ∀ w ∈ fo_T, w.before args s = true) (hR : (rm_q_FairOrder_keyOf).frames + 1 ≤ R.frames ∧ 8 + (2 + 11) + (rm_q_FairOrder_keyOf).locals ≤ R.locals) : CallB R s args RX0 256 yX0_keyOf cX0_keyOf 2 (some .int) ws_q_FairOrder_keyOf rm_q_FairOrder_keyOf 0 0 2 ∧ (Cond.static yX0_keyOf).before args s = true :=
  ⟨callB_of 2 hT (fo_good (fo_tb 355 (by decide +kernel) rfl)) rfl rfl rfl (hT _ (fo_tb 1 (by decide +kernel) rfl)) (hT _ (fo_tb 353 (by decide +kernel) rfl)) ⟨by decide +kernel, by decide +kernel, by decide +kernel⟩ hR, hT _ (fo_tb 354 (by decide +kernel) rfl)⟩
theorem fo_c0_260 {R : Room} {args : Array Value} {s : State} (hT : ∀ w ∈ fo_T, w.before args s = true) (hR : (rm_q_Row_sortBy).frames + 1 ≤ R.frames ∧ 8 + (4 + 11) + (rm_q_Row_sortBy).locals ≤ R.locals) : CallW R s args RX0 RX3 260 yX3_sortBy cX3_sortBy 4 none ws_q_Row_sortBy rm_q_Row_sortBy 0 0 1 :=
  ⟨callB_of 1 hT (fo_good (fo_tb 367 (by decide +kernel) rfl)) rfl rfl rfl (hT _ (fo_tb 3 (by decide +kernel) rfl)) (hT _ (fo_tb 364 (by decide +kernel) rfl)) ⟨by decide +kernel, by decide +kernel, by decide +kernel⟩ hR, hT _ (fo_tb 365 (by decide +kernel) rfl), hT _ (fo_tb 366 (by decide +kernel) rfl)⟩
theorem fo_c0_267 {R : Room} {args : Array Value} {s : State} (hT : ∀ w ∈ fo_T, w.before args s = true) (hR : (rm_q_Market_copyFrom).frames + 1 ≤ R.frames ∧ 8 + (2 + 11) + (rm_q_Market_copyFrom).locals ≤ R.locals) : CallW R s args RX0 RX2 267 yX2_copyFrom cX2_copyFrom 2 none ws_q_Market_copyFrom rm_q_Market_copyFrom 0 0 1 :=
  ⟨callB_of 1 hT (fo_good (fo_tb 496 (by decide +kernel) rfl)) rfl rfl rfl (hT _ (fo_tb 2 (by decide +kernel) rfl)) (hT _ (fo_tb 493 (by decide +kernel) rfl)) ⟨by decide +kernel, by decide +kernel, by decide +kernel⟩ hR, hT _ (fo_tb 494 (by decide +kernel) rfl), hT _ (fo_tb 495 (by decide +kernel) rfl)⟩
theorem fo_c0_27 {R : Room} {args : Array Value} {s : State} (hT : ∀ w ∈ fo_T, w.before args s = true) (hl : va_Nw (Cond.methodLinkNest RX0 27 yX3_init "FairOrder") s) (hR : (rm_q_Row_init).frames + 1 ≤ R.frames ∧ 8 + (1 + 11) + (rm_q_Row_init).locals ≤ R.locals) : va_CN R s args RX0 27 yX3_init "FairOrder" cX3_init 1 none ws_q_Row_init rm_q_Row_init 1 16 0 ∧ yX3_init.name = "<init>" ∧ (Cond.instanceMethod yX3_init).before args s = true :=
  ⟨va_cnB 0 hT (fo_good (fo_tb 43 (by decide +kernel) rfl)) rfl rfl rfl hl (hT _ (fo_tb 3 (by decide +kernel) rfl)) ⟨by decide +kernel, by decide +kernel, by decide +kernel⟩ hR, rfl, hT _ (fo_tb 42 (by decide +kernel) rfl)⟩
theorem fo_c0_41 {R : Room} {args : Array Value} {s : State} (hT : ∀ w ∈ fo_T, w.before args s = true) (hl : va_Nw (Cond.methodLinkNest RX0 41 yX4_init "FairOrder") s) (hR : (rm_q_Links_init).frames + 1 ≤ R.frames ∧ 8 + (1 + 11) + (rm_q_Links_init).locals ≤ R.locals) : va_CN R s args RX0 41 yX4_init "FairOrder" cX4_init 1 none ws_q_Links_init rm_q_Links_init 1 16 0 ∧ yX4_init.name = "<init>" ∧ (Cond.instanceMethod yX4_init).before args s = true :=
  ⟨va_cnB 0 hT (fo_good (fo_tb 61 (by decide +kernel) rfl)) rfl rfl rfl hl (hT _ (fo_tb 4 (by decide +kernel) rfl)) ⟨by decide +kernel, by decide +kernel, by decide +kernel⟩ hR, rfl, hT _ (fo_tb 60 (by decide +kernel) rfl)⟩
theorem fo_c0_48 {R : Room} {args : Array Value} {s : State} (hT : ∀ w ∈ fo_T, w.before args s = true) (hl : va_Nw (Cond.methodLinkNest RX0 48 yX5_init "FairOrder") s) (hR : (rm_q_Auction_init).frames + 1 ≤ R.frames ∧ 8 + (1 + 11) + (rm_q_Auction_init).locals ≤ R.locals) : va_CN R s args RX0 48 yX5_init "FairOrder" cX5_init 1 none ws_q_Auction_init rm_q_Auction_init 3 32 0 ∧ yX5_init.name = "<init>" ∧ (Cond.instanceMethod yX5_init).before args s = true :=
  ⟨va_cnB 0 hT (fo_good (fo_tb 71 (by decide +kernel) rfl)) rfl rfl rfl hl (hT _ (fo_tb 5 (by decide +kernel) rfl)) ⟨by decide +kernel, by decide +kernel, by decide +kernel⟩ hR, rfl, hT _ (fo_tb 70 (by decide +kernel) rfl)⟩
theorem fo_c0_53 {R : Room} {args : Array Value} {s : State} (hT : ∀ w ∈ fo_T, w.before args s = true) (hl : va_Nw (Cond.methodLinkNest RX0 53 yX1_init "FairOrder") s) (hR : (rm_q_Call_init).frames + 1 ≤ R.frames ∧ 8 + (1 + 11) + (rm_q_Call_init).locals ≤ R.locals) : va_CN R s args RX0 53 yX1_init "FairOrder" cX1_init 1 none ws_q_Call_init rm_q_Call_init 1 5 0 ∧ yX1_init.name = "<init>" ∧ (Cond.instanceMethod yX1_init).before args s = true :=
  ⟨va_cnB 0 hT (fo_good (fo_tb 93 (by decide +kernel) rfl)) rfl rfl rfl hl (hT _ (fo_tb 6 (by decide +kernel) rfl)) ⟨by decide +kernel, by decide +kernel, by decide +kernel⟩ hR, rfl, hT _ (fo_tb 92 (by decide +kernel) rfl)⟩
theorem fo_c0_58 {R : Room} {args : Array Value} {s : State} (hT : ∀ w ∈ fo_T, w.before args s = true) (hR : (rm_q_Market_makeEmpty).frames + 1 ≤ R.frames ∧ 8 + (1 + 11) + (rm_q_Market_makeEmpty).locals ≤ R.locals) : CallW R s args RX0 RX2 58 yX2_makeEmpty cX2_makeEmpty 1 none ws_q_Market_makeEmpty rm_q_Market_makeEmpty 0 0 0 :=
  ⟨callB_of 0 hT (fo_good (fo_tb 196 (by decide +kernel) rfl)) rfl rfl rfl (hT _ (fo_tb 2 (by decide +kernel) rfl)) (hT _ (fo_tb 193 (by decide +kernel) rfl)) ⟨by decide +kernel, by decide +kernel, by decide +kernel⟩ hR, hT _ (fo_tb 194 (by decide +kernel) rfl), hT _ (fo_tb 195 (by decide +kernel) rfl)⟩
theorem fo_c0_68 {R : Room} {args : Array Value} {s : State} (hT : ∀ w ∈ fo_T, w.before args s = true) (hR : (rm_q_FairOrder_beginBlock).frames + 1 ≤ R.frames ∧ 8 + (1 + 11) + (rm_q_FairOrder_beginBlock).locals ≤ R.locals) : CallW R s args RX0 RX0 68 yX0_beginBlock cX0_beginBlock 1 none ws_q_FairOrder_beginBlock rm_q_FairOrder_beginBlock 0 0 0 :=
  ⟨callB_of 0 hT (fo_good (fo_tb 203 (by decide +kernel) rfl)) rfl rfl rfl (hT _ (fo_tb 1 (by decide +kernel) rfl)) (hT _ (fo_tb 200 (by decide +kernel) rfl)) ⟨by decide +kernel, by decide +kernel, by decide +kernel⟩ hR, hT _ (fo_tb 202 (by decide +kernel) rfl), hT _ (fo_ts 0 (by decide +kernel) rfl)⟩
theorem fo_c0_71 {R : Room} {args : Array Value} {s : State} (hT : ∀ w ∈ fo_T, w.before args s = true) (hR : (rm_q_FairOrder_mayBeginWith).frames + 1 ≤ R.frames ∧ 8 + (2 + 11) + (rm_q_FairOrder_mayBeginWith).locals ≤ R.locals) : CallB R s args RX0 71 yX0_mayBeginWith cX0_mayBeginWith 2 (some .boolean) ws_q_FairOrder_mayBeginWith rm_q_FairOrder_mayBeginWith 0 0 1 ∧ (Cond.static yX0_mayBeginWith).before args s = true :=
  ⟨callB_of 1 hT (fo_good (fo_tb 210 (by decide +kernel) rfl)) rfl rfl rfl (hT _ (fo_tb 1 (by decide +kernel) rfl)) (hT _ (fo_tb 208 (by decide +kernel) rfl)) ⟨by decide +kernel, by decide +kernel, by decide +kernel⟩ hR, hT _ (fo_tb 209 (by decide +kernel) rfl)⟩
theorem fo_c0_75 {R : Room} {args : Array Value} {s : State} (hT : ∀ w ∈ fo_T, w.before args s = true) (hR : (rm_q_Market_put).frames + 1 ≤ R.frames ∧ 8 + (6 + 11) + (rm_q_Market_put).locals ≤ R.locals) : CallW R s args RX0 RX2 75 yX2_put cX2_put 6 none ws_q_Market_put rm_q_Market_put 0 0 3 :=
  ⟨callB_of 3 hT (fo_good (fo_tb 215 (by decide +kernel) rfl)) rfl rfl rfl (hT _ (fo_tb 2 (by decide +kernel) rfl)) (hT _ (fo_tb 212 (by decide +kernel) rfl)) ⟨by decide +kernel, by decide +kernel, by decide +kernel⟩ hR, hT _ (fo_tb 213 (by decide +kernel) rfl), hT _ (fo_tb 214 (by decide +kernel) rfl)⟩
theorem fo_c0_79 {R : Room} {args : Array Value} {s : State} (hT : ∀ w ∈ fo_T, w.before args s = true) (hR : (rm_q_FairOrder_areTerms).frames + 1 ≤ R.frames ∧ 8 + (3 + 11) + (rm_q_FairOrder_areTerms).locals ≤ R.locals) : CallB R s args RX0 79 yX0_areTerms cX0_areTerms 3 (some .boolean) ws_q_FairOrder_areTerms rm_q_FairOrder_areTerms 0 0 3 ∧ (Cond.static yX0_areTerms).before args s = true :=
  ⟨callB_of 3 hT (fo_good (fo_tb 226 (by decide +kernel) rfl)) rfl rfl rfl (hT _ (fo_tb 1 (by decide +kernel) rfl)) (hT _ (fo_tb 224 (by decide +kernel) rfl)) ⟨by decide +kernel, by decide +kernel, by decide +kernel⟩ hR, hT _ (fo_tb 225 (by decide +kernel) rfl)⟩
theorem fo_c0_83 {R : Room} {args : Array Value} {s : State} (hT : ∀ w ∈ fo_T, w.before args s = true) (hR : (rm_q_FairOrder_sealOf).frames + 1 ≤ R.frames ∧ 8 + (6 + 11) + (rm_q_FairOrder_sealOf).locals ≤ R.locals) : CallB R s args RX0 83 yX0_sealOf cX0_sealOf 6 (some .long) ws_q_FairOrder_sealOf rm_q_FairOrder_sealOf 0 0 4 ∧ (Cond.static yX0_sealOf).before args s = true :=
  ⟨callB_of 4 hT (fo_good (fo_tb 229 (by decide +kernel) rfl)) rfl rfl rfl (hT _ (fo_tb 1 (by decide +kernel) rfl)) (hT _ (fo_tb 227 (by decide +kernel) rfl)) ⟨by decide +kernel, by decide +kernel, by decide +kernel⟩ hR, hT _ (fo_tb 228 (by decide +kernel) rfl)⟩
theorem fo_c0_87 {R : Room} {args : Array Value} {s : State} (hT : ∀ w ∈ fo_T, w.before args s = true) (hR : (rm_q_FairOrder_isAccount).frames + 1 ≤ R.frames ∧ 8 + (2 + 11) + (rm_q_FairOrder_isAccount).locals ≤ R.locals) : CallW R s args RX0 RX0 87 yX0_isAccount cX0_isAccount 2 (some .boolean) ws_q_FairOrder_isAccount rm_q_FairOrder_isAccount 0 0 1 :=
  ⟨callB_of 1 hT (fo_good (fo_tb 241 (by decide +kernel) rfl)) rfl rfl rfl (hT _ (fo_tb 1 (by decide +kernel) rfl)) (hT _ (fo_tb 238 (by decide +kernel) rfl)) ⟨by decide +kernel, by decide +kernel, by decide +kernel⟩ hR, hT _ (fo_tb 240 (by decide +kernel) rfl), hT _ (fo_ts 1 (by decide +kernel) rfl)⟩
theorem fo_c1_31 {R : Room} {args : Array Value} {s : State} (hT : ∀ w ∈ fo_T, w.before args s = true) (hR : (rm_q_fillI).frames + 1 ≤ R.frames ∧ 8 + (4 + 11) + (rm_q_fillI).locals ≤ R.locals) : CallB R s args RX1 31 yX8_fillI cX8_fillI 4 none ws_q_fillI rm_q_fillI 0 0 2 ∧ (Cond.static yX8_fillI).before args s = true :=
  ⟨callB_of 2 hT (fo_good (fo_tb 250 (by decide +kernel) rfl)) rfl rfl rfl (hT _ (fo_tb 8 (by decide +kernel) rfl)) (hT _ (fo_tb 248 (by decide +kernel) rfl)) ⟨by decide +kernel, by decide +kernel, by decide +kernel⟩ hR, hT _ (fo_tb 249 (by decide +kernel) rfl)⟩
theorem fo_c1_37 {R : Room} {args : Array Value} {s : State} (hT : ∀ w ∈ fo_T, w.before args s = true) (hR : (rm_q_Call_note).frames + 1 ≤ R.frames ∧ 8 + (4 + 11) + (rm_q_Call_note).locals ≤ R.locals) : CallW R s args RX1 RX1 37 yX1_note cX1_note 4 none ws_q_Call_note rm_q_Call_note 0 0 2 :=
  ⟨callB_of 2 hT (fo_good (fo_tb 254 (by decide +kernel) rfl)) rfl rfl rfl (hT _ (fo_tb 6 (by decide +kernel) rfl)) (hT _ (fo_tb 251 (by decide +kernel) rfl)) ⟨by decide +kernel, by decide +kernel, by decide +kernel⟩ hR, hT _ (fo_tb 252 (by decide +kernel) rfl), hT _ (fo_tb 253 (by decide +kernel) rfl)⟩
theorem fo_c1_56 {R : Room} {args : Array Value} {s : State} (hT : ∀ w ∈ fo_T, w.before args s = true) (hR : (rm_q_Call_nodesBefore).frames + 1 ≤ R.frames ∧ 8 + (4 + 11) + (rm_q_Call_nodesBefore).locals ≤ R.locals) : CallW R s args RX1 RX1 56 yX1_nodesBefore cX1_nodesBefore 4 (some .int) ws_q_Call_nodesBefore rm_q_Call_nodesBefore 0 0 1 :=
  ⟨callB_of 1 hT (fo_good (fo_tb 363 (by decide +kernel) rfl)) rfl rfl rfl (hT _ (fo_tb 6 (by decide +kernel) rfl)) (hT _ (fo_tb 360 (by decide +kernel) rfl)) ⟨by decide +kernel, by decide +kernel, by decide +kernel⟩ hR, hT _ (fo_tb 362 (by decide +kernel) rfl), hT _ (fo_ts 12 (by decide +kernel) rfl)⟩
theorem fo_c1_60 {R : Room} {args : Array Value} {s : State} (hT : ∀ w ∈ fo_T, w.before args s = true) (hR : (rm_q_Integer_compare).frames + 1 ≤ R.frames ∧ 8 + (2 + 11) + (rm_q_Integer_compare).locals ≤ R.locals) : CallB R s args RX1 60 yX7_compare cX7_compare 2 (some .int) ws_q_Integer_compare rm_q_Integer_compare 0 0 2 ∧ (Cond.static yX7_compare).before args s = true :=
  ⟨callB_of 2 hT (fo_good (fo_tb 299 (by decide +kernel) rfl)) rfl rfl rfl (hT _ (fo_tb 9 (by decide +kernel) rfl)) (hT _ (fo_tb 297 (by decide +kernel) rfl)) ⟨by decide +kernel, by decide +kernel, by decide +kernel⟩ hR, hT _ (fo_tb 298 (by decide +kernel) rfl)⟩
theorem fo_c2_18 {R : Room} {args : Array Value} {s : State} (hT : ∀ w ∈ fo_T, w.before args s = true) (hR : (rm_q_fillJ).frames + 1 ≤ R.frames ∧ 8 + (5 + 11) + (rm_q_fillJ).locals ≤ R.locals) : CallB R s args RX2 18 yX8_fillJ cX8_fillJ 5 none ws_q_fillJ rm_q_fillJ 0 0 2 ∧ (Cond.static yX8_fillJ).before args s = true :=
  ⟨callB_of 2 hT (fo_good (fo_tb 199 (by decide +kernel) rfl)) rfl rfl rfl (hT _ (fo_tb 8 (by decide +kernel) rfl)) (hT _ (fo_tb 197 (by decide +kernel) rfl)) ⟨by decide +kernel, by decide +kernel, by decide +kernel⟩ hR, hT _ (fo_tb 198 (by decide +kernel) rfl)⟩
theorem fo_c2_24 {args : Array Value} {s : State} (hT : ∀ w ∈ fo_T, w.before args s = true) : (Cond.methodLink RX2 24 arraycopyName).before args s = true := hT _ (fo_tb 497 (by decide +kernel) rfl)
theorem fo_c2_36 {R : Room} {args : Array Value} {s : State} (hT : ∀ w ∈ fo_T, w.before args s = true) (hR : (rm_q_Market_buyFromPool).frames + 1 ≤ R.frames ∧ 8 + (6 + 11) + (rm_q_Market_buyFromPool).locals ≤ R.locals) : CallW R s args RX2 RX2 36 yX2_buyFromPool cX2_buyFromPool 6 (some .long) ws_q_Market_buyFromPool rm_q_Market_buyFromPool 0 0 1 :=
  ⟨callB_of 1 hT (fo_good (fo_tb 404 (by decide +kernel) rfl)) rfl rfl rfl (hT _ (fo_tb 2 (by decide +kernel) rfl)) (hT _ (fo_tb 401 (by decide +kernel) rfl)) ⟨by decide +kernel, by decide +kernel, by decide +kernel⟩ hR, hT _ (fo_tb 403 (by decide +kernel) rfl), hT _ (fo_ts 15 (by decide +kernel) rfl)⟩
theorem fo_c2_40 {R : Room} {args : Array Value} {s : State} (hT : ∀ w ∈ fo_T, w.before args s = true) (hR : (rm_q_Market_sellToPool).frames + 1 ≤ R.frames ∧ 8 + (6 + 11) + (rm_q_Market_sellToPool).locals ≤ R.locals) : CallW R s args RX2 RX2 40 yX2_sellToPool cX2_sellToPool 6 (some .long) ws_q_Market_sellToPool rm_q_Market_sellToPool 0 0 1 :=
  ⟨callB_of 1 hT (fo_good (fo_tb 421 (by decide +kernel) rfl)) rfl rfl rfl (hT _ (fo_tb 2 (by decide +kernel) rfl)) (hT _ (fo_tb 418 (by decide +kernel) rfl)) ⟨by decide +kernel, by decide +kernel, by decide +kernel⟩ hR, hT _ (fo_tb 420 (by decide +kernel) rfl), hT _ (fo_ts 16 (by decide +kernel) rfl)⟩
theorem fo_c2_48 {R : Room} {args : Array Value} {s : State} (hT : ∀ w ∈ fo_T, w.before args s = true) (hR : (rm_q_Call_limit).frames + 1 ≤ R.frames ∧ 8 + (1 + 11) + (rm_q_Call_limit).locals ≤ R.locals) : CallW R s args RX2 RX1 48 yX1_limit cX1_limit 1 (some .long) ws_q_Call_limit rm_q_Call_limit 0 0 0 :=
  ⟨callB_of 0 hT (fo_good (fo_tb 409 (by decide +kernel) rfl)) rfl rfl rfl (hT _ (fo_tb 6 (by decide +kernel) rfl)) (hT _ (fo_tb 406 (by decide +kernel) rfl)) ⟨by decide +kernel, by decide +kernel, by decide +kernel⟩ hR, hT _ (fo_tb 407 (by decide +kernel) rfl), hT _ (fo_tb 408 (by decide +kernel) rfl)⟩
theorem fo_c2_55 {R : Room} {args : Array Value} {s : State} (hT : ∀ w ∈ fo_T, w.before args s = true) (hR : (rm_q_Market_take).frames + 1 ≤ R.frames ∧ 8 + (6 + 11) + (rm_q_Market_take).locals ≤ R.locals) : CallW R s args RX2 RX2 55 yX2_take cX2_take 6 none ws_q_Market_take rm_q_Market_take 0 0 3 :=
  ⟨callB_of 3 hT (fo_good (fo_tb 413 (by decide +kernel) rfl)) rfl rfl rfl (hT _ (fo_tb 2 (by decide +kernel) rfl)) (hT _ (fo_tb 410 (by decide +kernel) rfl)) ⟨by decide +kernel, by decide +kernel, by decide +kernel⟩ hR, hT _ (fo_tb 411 (by decide +kernel) rfl), hT _ (fo_tb 412 (by decide +kernel) rfl)⟩
theorem fo_c2_59 {R : Room} {args : Array Value} {s : State} (hT : ∀ w ∈ fo_T, w.before args s = true) (hR : (rm_q_Market_give).frames + 1 ≤ R.frames ∧ 8 + (6 + 11) + (rm_q_Market_give).locals ≤ R.locals) : CallW R s args RX2 RX2 59 yX2_give cX2_give 6 none ws_q_Market_give rm_q_Market_give 0 0 3 :=
  ⟨callB_of 3 hT (fo_good (fo_tb 417 (by decide +kernel) rfl)) rfl rfl rfl (hT _ (fo_tb 2 (by decide +kernel) rfl)) (hT _ (fo_tb 414 (by decide +kernel) rfl)) ⟨by decide +kernel, by decide +kernel, by decide +kernel⟩ hR, hT _ (fo_tb 415 (by decide +kernel) rfl), hT _ (fo_tb 416 (by decide +kernel) rfl)⟩
theorem fo_c3_19 {args : Array Value} {s : State} (hT : ∀ w ∈ fo_T, w.before args s = true) : (Cond.methodLink RX3 19 arraycopyName).before args s = true := hT _ (fo_tb 482 (by decide +kernel) rfl)
theorem fo_c3_25 {R : Room} {args : Array Value} {s : State} (hT : ∀ w ∈ fo_T, w.before args s = true) (hR : (rm_q_Row_swap).frames + 1 ≤ R.frames ∧ 8 + (4 + 11) + (rm_q_Row_swap).locals ≤ R.locals) : CallW R s args RX3 RX3 25 yX3_swap cX3_swap 4 none ws_q_Row_swap rm_q_Row_swap 0 0 2 :=
  ⟨callB_of 2 hT (fo_good (fo_tb 352 (by decide +kernel) rfl)) rfl rfl rfl (hT _ (fo_tb 3 (by decide +kernel) rfl)) (hT _ (fo_tb 349 (by decide +kernel) rfl)) ⟨by decide +kernel, by decide +kernel, by decide +kernel⟩ hR, hT _ (fo_tb 351 (by decide +kernel) rfl), hT _ (fo_ts 11 (by decide +kernel) rfl)⟩
theorem fo_c4_15 {R : Room} {args : Array Value} {s : State} (hT : ∀ w ∈ fo_T, w.before args s = true) (hR : (rm_q_Links_setBehind).frames + 1 ≤ R.frames ∧ 8 + (6 + 11) + (rm_q_Links_setBehind).locals ≤ R.locals) : CallW R s args RX4 RX4 15 yX4_setBehind cX4_setBehind 6 (some .int) ws_q_Links_setBehind rm_q_Links_setBehind 0 0 3 :=
  ⟨callB_of 3 hT (fo_good (fo_tb 292 (by decide +kernel) rfl)) rfl rfl rfl (hT _ (fo_tb 4 (by decide +kernel) rfl)) (hT _ (fo_tb 289 (by decide +kernel) rfl)) ⟨by decide +kernel, by decide +kernel, by decide +kernel⟩ hR, hT _ (fo_tb 291 (by decide +kernel) rfl), hT _ (fo_ts 4 (by decide +kernel) rfl)⟩
theorem fo_c4_19 {R : Room} {args : Array Value} {s : State} (hT : ∀ w ∈ fo_T, w.before args s = true) (hR : (rm_q_Links_leads).frames + 1 ≤ R.frames ∧ 8 + (3 + 11) + (rm_q_Links_leads).locals ≤ R.locals) : CallW R s args RX4 RX4 19 yX4_leads cX4_leads 3 (some .boolean) ws_q_Links_leads rm_q_Links_leads 0 0 2 :=
  ⟨callB_of 2 hT (fo_good (fo_tb 303 (by decide +kernel) rfl)) rfl rfl rfl (hT _ (fo_tb 4 (by decide +kernel) rfl)) (hT _ (fo_tb 300 (by decide +kernel) rfl)) ⟨by decide +kernel, by decide +kernel, by decide +kernel⟩ hR, hT _ (fo_tb 301 (by decide +kernel) rfl), hT _ (fo_tb 302 (by decide +kernel) rfl)⟩
theorem fo_c4_29 {R : Room} {args : Array Value} {s : State} (hT : ∀ w ∈ fo_T, w.before args s = true) (hR : (rm_q_Call_isAheadOf).frames + 1 ≤ R.frames ∧ 8 + (4 + 11) + (rm_q_Call_isAheadOf).locals ≤ R.locals) : CallW R s args RX4 RX1 29 yX1_isAheadOf cX1_isAheadOf 4 (some .boolean) ws_q_Call_isAheadOf rm_q_Call_isAheadOf 0 0 1 :=
  ⟨callB_of 1 hT (fo_good (fo_tb 296 (by decide +kernel) rfl)) rfl rfl rfl (hT _ (fo_tb 6 (by decide +kernel) rfl)) (hT _ (fo_tb 293 (by decide +kernel) rfl)) ⟨by decide +kernel, by decide +kernel, by decide +kernel⟩ hR, hT _ (fo_tb 294 (by decide +kernel) rfl), hT _ (fo_tb 295 (by decide +kernel) rfl)⟩
theorem fo_c4_33 {R : Room} {args : Array Value} {s : State} (hT : ∀ w ∈ fo_T, w.before args s = true) (hR : (rm_q_Links_contains).frames + 1 ≤ R.frames ∧ 8 + (2 + 11) + (rm_q_Links_contains).locals ≤ R.locals) : CallB R s args RX4 33 yX4_contains cX4_contains 2 (some .boolean) ws_q_Links_contains rm_q_Links_contains 0 0 2 ∧ (Cond.static yX4_contains).before args s = true :=
  ⟨callB_of 2 hT (fo_good (fo_tb 306 (by decide +kernel) rfl)) rfl rfl rfl (hT _ (fo_tb 4 (by decide +kernel) rfl)) (hT _ (fo_tb 304 (by decide +kernel) rfl)) ⟨by decide +kernel, by decide +kernel, by decide +kernel⟩ hR, hT _ (fo_tb 305 (by decide +kernel) rfl)⟩
theorem fo_c4_36 {R : Room} {args : Array Value} {s : State} (hT : ∀ w ∈ fo_T, w.before args s = true) (hR : (rm_q_Links_firstKnot).frames + 1 ≤ R.frames ∧ 8 + (4 + 11) + (rm_q_Links_firstKnot).locals ≤ R.locals) : CallW R s args RX4 RX4 36 yX4_firstKnot cX4_firstKnot 4 (some .int) ws_q_Links_firstKnot rm_q_Links_firstKnot 0 0 2 :=
  ⟨callB_of 2 hT (fo_good (fo_tb 318 (by decide +kernel) rfl)) rfl rfl rfl (hT _ (fo_tb 4 (by decide +kernel) rfl)) (hT _ (fo_tb 315 (by decide +kernel) rfl)) ⟨by decide +kernel, by decide +kernel, by decide +kernel⟩ hR, hT _ (fo_tb 317 (by decide +kernel) rfl), hT _ (fo_ts 6 (by decide +kernel) rfl)⟩
theorem fo_c4_40 {R : Room} {args : Array Value} {s : State} (hT : ∀ w ∈ fo_T, w.before args s = true) (hR : (rm_q_Links_addSet).frames + 1 ≤ R.frames ∧ 8 + (4 + 11) + (rm_q_Links_addSet).locals ≤ R.locals) : CallB R s args RX4 40 yX4_addSet cX4_addSet 4 none ws_q_Links_addSet rm_q_Links_addSet 0 0 3 ∧ (Cond.static yX4_addSet).before args s = true :=
  ⟨callB_of 3 hT (fo_good (fo_tb 329 (by decide +kernel) rfl)) rfl rfl rfl (hT _ (fo_tb 4 (by decide +kernel) rfl)) (hT _ (fo_tb 327 (by decide +kernel) rfl)) ⟨by decide +kernel, by decide +kernel, by decide +kernel⟩ hR, hT _ (fo_tb 328 (by decide +kernel) rfl)⟩
theorem fo_c4_44 {R : Room} {args : Array Value} {s : State} (hT : ∀ w ∈ fo_T, w.before args s = true) (hR : (rm_q_Links_isFree).frames + 1 ≤ R.frames ∧ 8 + (5 + 11) + (rm_q_Links_isFree).locals ≤ R.locals) : CallW R s args RX4 RX4 44 yX4_isFree cX4_isFree 5 (some .boolean) ws_q_Links_isFree rm_q_Links_isFree 0 0 3 :=
  ⟨callB_of 3 hT (fo_good (fo_tb 322 (by decide +kernel) rfl)) rfl rfl rfl (hT _ (fo_tb 4 (by decide +kernel) rfl)) (hT _ (fo_tb 319 (by decide +kernel) rfl)) ⟨by decide +kernel, by decide +kernel, by decide +kernel⟩ hR, hT _ (fo_tb 321 (by decide +kernel) rfl), hT _ (fo_ts 7 (by decide +kernel) rfl)⟩
theorem fo_c4_48 {R : Room} {args : Array Value} {s : State} (hT : ∀ w ∈ fo_T, w.before args s = true) (hR : (rm_q_Links_knotOf).frames + 1 ≤ R.frames ∧ 8 + (5 + 11) + (rm_q_Links_knotOf).locals ≤ R.locals) : CallW R s args RX4 RX4 48 yX4_knotOf cX4_knotOf 5 (some .int) ws_q_Links_knotOf rm_q_Links_knotOf 0 0 2 :=
  ⟨callB_of 2 hT (fo_good (fo_tb 326 (by decide +kernel) rfl)) rfl rfl rfl (hT _ (fo_tb 4 (by decide +kernel) rfl)) (hT _ (fo_tb 323 (by decide +kernel) rfl)) ⟨by decide +kernel, by decide +kernel, by decide +kernel⟩ hR, hT _ (fo_tb 325 (by decide +kernel) rfl), hT _ (fo_ts 8 (by decide +kernel) rfl)⟩
theorem fo_c4_51 {R : Room} {args : Array Value} {s : State} (hT : ∀ w ∈ fo_T, w.before args s = true) (hR : (rm_q_Row_add).frames + 1 ≤ R.frames ∧ 8 + (2 + 11) + (rm_q_Row_add).locals ≤ R.locals) : CallW R s args RX4 RX3 51 yX3_add cX3_add 2 none ws_q_Row_add rm_q_Row_add 0 0 1 :=
  ⟨callB_of 1 hT (fo_good (fo_tb 333 (by decide +kernel) rfl)) rfl rfl rfl (hT _ (fo_tb 3 (by decide +kernel) rfl)) (hT _ (fo_tb 330 (by decide +kernel) rfl)) ⟨by decide +kernel, by decide +kernel, by decide +kernel⟩ hR, hT _ (fo_tb 331 (by decide +kernel) rfl), hT _ (fo_tb 332 (by decide +kernel) rfl)⟩
theorem fo_c5_22 {R : Room} {args : Array Value} {s : State} (hT : ∀ w ∈ fo_T, w.before args s = true) (hR : (rm_q_Auction_gather).frames + 1 ≤ R.frames ∧ 8 + (7 + 11) + (rm_q_Auction_gather).locals ≤ R.locals) : CallW R s args RX5 RX5 22 yX5_gather cX5_gather 7 none ws_q_Auction_gather rm_q_Auction_gather 0 0 4 :=
  ⟨callB_of 4 hT (fo_good (fo_tb 435 (by decide +kernel) rfl)) rfl rfl rfl (hT _ (fo_tb 5 (by decide +kernel) rfl)) (hT _ (fo_tb 432 (by decide +kernel) rfl)) ⟨by decide +kernel, by decide +kernel, by decide +kernel⟩ hR, hT _ (fo_tb 434 (by decide +kernel) rfl), hT _ (fo_ts 17 (by decide +kernel) rfl)⟩
theorem fo_c5_26 {R : Room} {args : Array Value} {s : State} (hT : ∀ w ∈ fo_T, w.before args s = true) (hR : (rm_q_Auction_volume).frames + 1 ≤ R.frames ∧ 8 + (1 + 11) + (rm_q_Auction_volume).locals ≤ R.locals) : CallW R s args RX5 RX5 26 yX5_volume cX5_volume 1 (some .long) ws_q_Auction_volume rm_q_Auction_volume 0 0 0 :=
  ⟨callB_of 0 hT (fo_good (fo_tb 448 (by decide +kernel) rfl)) rfl rfl rfl (hT _ (fo_tb 5 (by decide +kernel) rfl)) (hT _ (fo_tb 445 (by decide +kernel) rfl)) ⟨by decide +kernel, by decide +kernel, by decide +kernel⟩ hR, hT _ (fo_tb 447 (by decide +kernel) rfl), hT _ (fo_ts 20 (by decide +kernel) rfl)⟩
theorem fo_c5_45 {R : Room} {args : Array Value} {s : State} (hT : ∀ w ∈ fo_T, w.before args s = true) (hR : (rm_q_Auction_fill).frames + 1 ≤ R.frames ∧ 8 + (8 + 11) + (rm_q_Auction_fill).locals ≤ R.locals) : CallB R s args RX5 45 yX5_fill cX5_fill 8 (some .long) ws_q_Auction_fill rm_q_Auction_fill 0 0 4 ∧ (Cond.static yX5_fill).before args s = true :=
  ⟨callB_of 4 hT (fo_good (fo_tb 458 (by decide +kernel) rfl)) rfl rfl rfl (hT _ (fo_tb 5 (by decide +kernel) rfl)) (hT _ (fo_tb 456 (by decide +kernel) rfl)) ⟨by decide +kernel, by decide +kernel, by decide +kernel⟩ hR, hT _ (fo_tb 457 (by decide +kernel) rfl)⟩
theorem fo_c5_56 {args : Array Value} {s : State} (hT : ∀ w ∈ fo_T, w.before args s = true) : (Cond.methodLink RX5 56 Lib.MathLoose.min_long.x).before args s = true := hT _ (fo_tb 449 (by decide +kernel) rfl)
theorem fo_c5_62 {R : Room} {args : Array Value} {s : State} (hT : ∀ w ∈ fo_T, w.before args s = true) (hR : (rm_q_fillJ).frames + 1 ≤ R.frames ∧ 8 + (5 + 11) + (rm_q_fillJ).locals ≤ R.locals) : CallB R s args RX5 62 yX8_fillJ cX8_fillJ 5 none ws_q_fillJ rm_q_fillJ 0 0 2 ∧ (Cond.static yX8_fillJ).before args s = true :=
  ⟨callB_of 2 hT (fo_good (fo_tb 199 (by decide +kernel) rfl)) rfl rfl rfl (hT _ (fo_tb 8 (by decide +kernel) rfl)) (hT _ (fo_tb 436 (by decide +kernel) rfl)) ⟨by decide +kernel, by decide +kernel, by decide +kernel⟩ hR, hT _ (fo_tb 198 (by decide +kernel) rfl)⟩
theorem fo_c5_67 {R : Room} {args : Array Value} {s : State} (hT : ∀ w ∈ fo_T, w.before args s = true) (hR : (rm_q_Auction_joinBuys).frames + 1 ≤ R.frames ∧ 8 + (6 + 11) + (rm_q_Auction_joinBuys).locals ≤ R.locals) : CallW R s args RX5 RX5 67 yX5_joinBuys cX5_joinBuys 6 (some .boolean) ws_q_Auction_joinBuys rm_q_Auction_joinBuys 0 0 3 :=
  ⟨callB_of 3 hT (fo_good (fo_tb 440 (by decide +kernel) rfl)) rfl rfl rfl (hT _ (fo_tb 5 (by decide +kernel) rfl)) (hT _ (fo_tb 437 (by decide +kernel) rfl)) ⟨by decide +kernel, by decide +kernel, by decide +kernel⟩ hR, hT _ (fo_tb 439 (by decide +kernel) rfl), hT _ (fo_ts 18 (by decide +kernel) rfl)⟩
theorem fo_c5_71 {R : Room} {args : Array Value} {s : State} (hT : ∀ w ∈ fo_T, w.before args s = true) (hR : (rm_q_Auction_joinSells).frames + 1 ≤ R.frames ∧ 8 + (6 + 11) + (rm_q_Auction_joinSells).locals ≤ R.locals) : CallW R s args RX5 RX5 71 yX5_joinSells cX5_joinSells 6 (some .boolean) ws_q_Auction_joinSells rm_q_Auction_joinSells 0 0 3 :=
  ⟨callB_of 3 hT (fo_good (fo_tb 444 (by decide +kernel) rfl)) rfl rfl rfl (hT _ (fo_tb 5 (by decide +kernel) rfl)) (hT _ (fo_tb 441 (by decide +kernel) rfl)) ⟨by decide +kernel, by decide +kernel, by decide +kernel⟩ hR, hT _ (fo_tb 443 (by decide +kernel) rfl), hT _ (fo_ts 19 (by decide +kernel) rfl)⟩
theorem fo_c5_91 {R : Room} {args : Array Value} {s : State} (hT : ∀ w ∈ fo_T, w.before args s = true) (hR : (rm_q_Call_note).frames + 1 ≤ R.frames ∧ 8 + (4 + 11) + (rm_q_Call_note).locals ≤ R.locals) : CallW R s args RX5 RX1 91 yX1_note cX1_note 4 none ws_q_Call_note rm_q_Call_note 0 0 2 :=
  ⟨callB_of 2 hT (fo_good (fo_tb 254 (by decide +kernel) rfl)) rfl rfl rfl (hT _ (fo_tb 6 (by decide +kernel) rfl)) (hT _ (fo_tb 459 (by decide +kernel) rfl)) ⟨by decide +kernel, by decide +kernel, by decide +kernel⟩ hR, hT _ (fo_tb 252 (by decide +kernel) rfl), hT _ (fo_tb 253 (by decide +kernel) rfl)⟩
theorem fo_c5_95 {R : Room} {args : Array Value} {s : State} (hT : ∀ w ∈ fo_T, w.before args s = true) (hR : (rm_q_Market_take).frames + 1 ≤ R.frames ∧ 8 + (6 + 11) + (rm_q_Market_take).locals ≤ R.locals) : CallW R s args RX5 RX2 95 yX2_take cX2_take 6 none ws_q_Market_take rm_q_Market_take 0 0 3 :=
  ⟨callB_of 3 hT (fo_good (fo_tb 413 (by decide +kernel) rfl)) rfl rfl rfl (hT _ (fo_tb 2 (by decide +kernel) rfl)) (hT _ (fo_tb 460 (by decide +kernel) rfl)) ⟨by decide +kernel, by decide +kernel, by decide +kernel⟩ hR, hT _ (fo_tb 411 (by decide +kernel) rfl), hT _ (fo_tb 412 (by decide +kernel) rfl)⟩
theorem fo_c5_99 {R : Room} {args : Array Value} {s : State} (hT : ∀ w ∈ fo_T, w.before args s = true) (hR : (rm_q_Market_give).frames + 1 ≤ R.frames ∧ 8 + (6 + 11) + (rm_q_Market_give).locals ≤ R.locals) : CallW R s args RX5 RX2 99 yX2_give cX2_give 6 none ws_q_Market_give rm_q_Market_give 0 0 3 :=
  ⟨callB_of 3 hT (fo_good (fo_tb 417 (by decide +kernel) rfl)) rfl rfl rfl (hT _ (fo_tb 2 (by decide +kernel) rfl)) (hT _ (fo_tb 461 (by decide +kernel) rfl)) ⟨by decide +kernel, by decide +kernel, by decide +kernel⟩ hR, hT _ (fo_tb 415 (by decide +kernel) rfl), hT _ (fo_tb 416 (by decide +kernel) rfl)⟩
end
section
theorem fo_fil_J (σ : fo_S) (k i j : Nat) (v : Int64) : fo_pJ (fo_rJ σ k i (fo_fil (σ.2 k i) j v)) k i j v = fo_rJ σ k i (fo_fil (σ.2 k i) (j + 1) v) := by
  unfold fo_pJ fo_rJ fo_fil
  refine Prod.ext rfl ?_
  funext a b c
  dsimp only
  by_cases h1 : a = k ∧ b = i
  · obtain ⟨rfl, rfl⟩ := h1
    by_cases h2 : c = j
    · subst h2
      simp
    · have h3 : (c < j + 1) ↔ c < j := by omega
      simp [h2, h3]
  · have h2 : ¬ (a = k ∧ b = i ∧ c = j) := fun q => h1 ⟨q.1, q.2.1⟩
    simp only [if_neg h1, if_neg h2]
theorem fo_fil0_J (σ : fo_S) (k i : Nat) (v : Int64) : fo_rJ σ k i (fo_fil (σ.2 k i) 0 v) = σ := by
  unfold fo_rJ fo_fil
  refine Prod.ext rfl ?_
  funext a b c
  dsimp only
  by_cases h1 : a = k ∧ b = i
  · obtain ⟨rfl, rfl⟩ := h1
    simp
  · simp only [if_neg h1]
set_option maxHeartbeats 4000000 in
set_option maxRecDepth 100000 in
theorem b_q_fillJ {p : Program} {l : Launch} {e : Env} {R : Room} {s : State} {m : MethodId} {args : Array Value} {below : List Frame} {meth : Method} {c : Code} {Q : State → Prop} {D : va_G} {ca : Nat → ClassId} {ad : Nat → Nat} (C0 : fo_CX p s m args c cX8_fillJ 5 RX8 D ca ad) {σ : fo_S} {k i n : Nat} (hk : k < 16) (hi : i < fo_cnt k) (hrow : ∀ (I : Nat → Int32) (J : Nat → Int64), fo_row ca ad I J k i = .inl (ca 1, n, .inr (.inl J))) (hn : n < 2 ^ 31) {v : Int64} (kr : ∀ (pc : Nat) (ls : Array Slot) (H : Heap) (locs : List Loc), decode cX8_fillJ pc = .ok (.return_, 1) → va_P D vwCl (fo_vx 51 ad (fo_ce ca ad (fo_rJ σ k i (fo_fil (σ.2 k i) n v)))) H → va_S (fo_A 51 ad s.heap.size) s.heap H locs → W p l e R s m args below meth c H locs 0 0 Q (F0 m pc ls [])) (hP : va_P D vwCl (fo_vx 51 ad (fo_ce ca ad (σ))) s.heap) : W p l e R s m args below meth c s.heap [] 0 0 Q (entryFrame m ([.ref (ad (fo_lay k i)), .long v] : List Value).toArray 5) := by
  obtain ⟨hx, hb, hml, hown, hT, hK, hD⟩ := C0
  have hS : va_S (fo_A 51 ad s.heap.size) s.heap s.heap [] := va_S.rf
  have hl := lv_entry ([.ref (ad (fo_lay k i)), .long v]) (n := 5) (Nat.le_of_ble_eq_true rfl)
  rw [lg_entry_eq]
  generalize (lg_sl ([.ref (ad (fo_lay k i)), .long v]) ++ List.replicate (5 - (lg_sl ([.ref (ad (fo_lay k i)), .long v])).length) Slot.unset).toArray = ls at hl ⊢
  have hl : lv_has ls 5 [(0, .ref (ad (fo_lay k i))), (1, .long v)] := hl
  refine lv_iconst (v := 0) hx hb dX8_fillJ_0 (by decide) ?_
  refine lv_istore_n (lv' := [(3, .int 0), (0, .ref (ad (fo_lay k i))), (1, .long v)]) hx hb dX8_fillJ_1 rfl hl (by decide) rfl (fun ls hl => ?_)
  refine lv_aload_n hx hb dX8_fillJ_2 rfl (lv_at hl 1 rfl) ?_
  refine va_alen (v := nI n) hx hb hK hP (fo_lay k i) 1 (by rw [fo_at hk hi, hrow]) rfl rfl dX8_fillJ_3 ?_
  refine lv_istore (lv' := [(4, .int (nI n)), (3, .int 0), (0, .ref (ad (fo_lay k i))), (1, .long v)]) hx hb dX8_fillJ_4 hl (by decide) rfl (fun ls hl => ?_)
  have lp : ∀ (f j : Nat), j + f = n → ∀ (H : Heap) (locs : List Loc) (ls : Array Slot), va_P D vwCl (fo_vx 51 ad (fo_ce ca ad (fo_rJ σ k i (fo_fil (σ.2 k i) j v)))) H → va_S (fo_A 51 ad s.heap.size) s.heap H locs → lv_has ls 5 [(4, .int (nI n)), (3, .int (nI j)), (0, .ref (ad (fo_lay k i))), (1, .long v)] → W p l e R s m args below meth c H locs 0 0 Q (F0 m 6 ls []) := by
    intro f
    induction f with
    | zero =>
      intro j hj H locs ls hP hS hl
      have hj : j = n := by omega
      subst hj
      refine lv_iload_n hx hb dX8_fillJ_6 rfl (lv_at hl 1 rfl) ?_
      refine lv_iload hx hb dX8_fillJ_7 (lv_at hl 0 rfl) ?_
      refine lv_icmp_ge (tgt := 22) hx hb dX8_fillJ_9 (by decide) (fun _ => ?_) (fun c1 => absurd (Int32.le_refl _) c1)
      exact kr _ ls _ _ dX8_fillJ_22 hP hS
    | succ f ih =>
      intro j hj H locs ls hP hS hl
      have hlt : j < n := by omega
      refine lv_iload_n hx hb dX8_fillJ_6 rfl (lv_at hl 1 rfl) ?_
      refine lv_iload hx hb dX8_fillJ_7 (lv_at hl 0 rfl) ?_
      refine lv_icmp_ge (tgt := 22) hx hb dX8_fillJ_9 (by decide) (fun c1 => absurd c1 (nI_ge hlt hn)) (fun _ => ?_)
      refine lv_aload_n hx hb dX8_fillJ_12 rfl (lv_at hl 2 rfl) ?_
      refine lv_iload_n hx hb dX8_fillJ_13 rfl (lv_at hl 1 rfl) ?_
      refine lv_lload_n hx hb dX8_fillJ_14 rfl (lv_at hl 3 rfl) ?_
      refine fo_last (k := k) (n := n) hx hb hK hP hD hS hk hi hrow (vp_in_nI hlt hn) dX8_fillJ_15 (fun H locs hP hS => ?_)
      rw [nI_clamp (Nat.lt_trans hlt hn), fo_fil_J] at hP
      refine lv_iinc (v := nI (j + 1)) (lv' := [(3, .int (nI (j + 1))), (4, .int (nI n)), (0, .ref (ad (fo_lay k i))), (1, .long v)]) hx hb dX8_fillJ_16 hl (k := 1) rfl (by rw [nI_succ]; rfl) (by decide) rfl (fun ls hl => ?_)
      refine lv_goto (tgt := 6) hx hb dX8_fillJ_19 (by decide) ?_
      exact ih (j + 1) (by omega) H locs ls hP hS (lv_sub hl [1, 0, 2, 3] rfl)
  exact lp n 0 (by omega) _ _ ls (by rw [fo_fil0_J]; exact hP) hS (by rw [nI_0]; exact hl)
theorem c_q_fillJ (l : Launch) (D : va_G) (ca : Nat → ClassId) (ad : Nat → Nat) (sz : Nat) {σ : fo_S} {k i n : Nat} (hk : k < 16) (hi : i < fo_cnt k) (hrow : ∀ (I : Nat → Int32) (J : Nat → Int64), fo_row ca ad I J k i = .inl (ca 1, n, .inr (.inl J))) (hn : n < 2 ^ 31) {v : Int64} : Met l yX8_fillJ ws_q_fillJ rm_q_fillJ (fo_Pre 51 D vwCl (fo_tys ca) ad (fo_ce ca ad σ) sz [.ref (ad (fo_lay k i)), .long v]) (fo_PoV 51 D vwCl (fo_tys ca) ad (fo_ce ca ad (fo_rJ σ k i (fo_fil (σ.2 k i) n v))) sz) 0 0 (fo_A 51 ad sz) :=
  fo_mkV (by decide) (fun C0 kr hP => b_q_fillJ C0 hk hi hrow hn kr hP)
theorem fo_fil_I (σ : fo_S) (k i j : Nat) (v : Int32) : fo_pI (fo_rI σ k i (fo_fil (σ.1 k i) j v)) k i j v = fo_rI σ k i (fo_fil (σ.1 k i) (j + 1) v) := by
  unfold fo_pI fo_rI fo_fil
  refine Prod.ext ?_ rfl
  funext a b c
  dsimp only
  by_cases h1 : a = k ∧ b = i
  · obtain ⟨rfl, rfl⟩ := h1
    by_cases h2 : c = j
    · subst h2
      simp
    · have h3 : (c < j + 1) ↔ c < j := by omega
      simp [h2, h3]
  · have h2 : ¬ (a = k ∧ b = i ∧ c = j) := fun q => h1 ⟨q.1, q.2.1⟩
    simp only [if_neg h1, if_neg h2]
theorem fo_fil0_I (σ : fo_S) (k i : Nat) (v : Int32) : fo_rI σ k i (fo_fil (σ.1 k i) 0 v) = σ := by
  unfold fo_rI fo_fil
  refine Prod.ext ?_ rfl
  funext a b c
  dsimp only
  by_cases h1 : a = k ∧ b = i
  · obtain ⟨rfl, rfl⟩ := h1
    simp
  · simp only [if_neg h1]
set_option maxHeartbeats 4000000 in
set_option maxRecDepth 100000 in
theorem b_q_fillI {p : Program} {l : Launch} {e : Env} {R : Room} {s : State} {m : MethodId} {args : Array Value} {below : List Frame} {meth : Method} {c : Code} {Q : State → Prop} {D : va_G} {ca : Nat → ClassId} {ad : Nat → Nat} (C0 : fo_CX p s m args c cX8_fillI 4 RX8 D ca ad) {σ : fo_S} {k i n : Nat} (hk : k < 16) (hi : i < fo_cnt k) (hrow : ∀ (I : Nat → Int32) (J : Nat → Int64), fo_row ca ad I J k i = .inl (ca 0, n, .inl I)) (hn : n < 2 ^ 31) {v : Int32} (kr : ∀ (pc : Nat) (ls : Array Slot) (H : Heap) (locs : List Loc), decode cX8_fillI pc = .ok (.return_, 1) → va_P D vwCl (fo_vx 51 ad (fo_ce ca ad (fo_rI σ k i (fo_fil (σ.1 k i) n v)))) H → va_S (fo_A 51 ad s.heap.size) s.heap H locs → W p l e R s m args below meth c H locs 0 0 Q (F0 m pc ls [])) (hP : va_P D vwCl (fo_vx 51 ad (fo_ce ca ad (σ))) s.heap) : W p l e R s m args below meth c s.heap [] 0 0 Q (entryFrame m ([.ref (ad (fo_lay k i)), .int v] : List Value).toArray 4) := by
  obtain ⟨hx, hb, hml, hown, hT, hK, hD⟩ := C0
  have hS : va_S (fo_A 51 ad s.heap.size) s.heap s.heap [] := va_S.rf
  have hl := lv_entry ([.ref (ad (fo_lay k i)), .int v]) (n := 4) (Nat.le_of_ble_eq_true rfl)
  rw [lg_entry_eq]
  generalize (lg_sl ([.ref (ad (fo_lay k i)), .int v]) ++ List.replicate (4 - (lg_sl ([.ref (ad (fo_lay k i)), .int v])).length) Slot.unset).toArray = ls at hl ⊢
  have hl : lv_has ls 4 [(0, .ref (ad (fo_lay k i))), (1, .int v)] := hl
  refine lv_iconst (v := 0) hx hb dX8_fillI_0 (by decide) ?_
  refine lv_istore_n (lv' := [(2, .int 0), (0, .ref (ad (fo_lay k i))), (1, .int v)]) hx hb dX8_fillI_1 rfl hl (by decide) rfl (fun ls hl => ?_)
  refine lv_aload_n hx hb dX8_fillI_2 rfl (lv_at hl 1 rfl) ?_
  refine va_alen (v := nI n) hx hb hK hP (fo_lay k i) 0 (by rw [fo_at hk hi, hrow]) rfl rfl dX8_fillI_3 ?_
  refine lv_istore_n (lv' := [(3, .int (nI n)), (2, .int 0), (0, .ref (ad (fo_lay k i))), (1, .int v)]) hx hb dX8_fillI_4 rfl hl (by decide) rfl (fun ls hl => ?_)
  have lp : ∀ (f j : Nat), j + f = n → ∀ (H : Heap) (locs : List Loc) (ls : Array Slot), va_P D vwCl (fo_vx 51 ad (fo_ce ca ad (fo_rI σ k i (fo_fil (σ.1 k i) j v)))) H → va_S (fo_A 51 ad s.heap.size) s.heap H locs → lv_has ls 4 [(3, .int (nI n)), (2, .int (nI j)), (0, .ref (ad (fo_lay k i))), (1, .int v)] → W p l e R s m args below meth c H locs 0 0 Q (F0 m 5 ls []) := by
    intro f
    induction f with
    | zero =>
      intro j hj H locs ls hP hS hl
      have hj : j = n := by omega
      subst hj
      refine lv_iload_n hx hb dX8_fillI_5 rfl (lv_at hl 1 rfl) ?_
      refine lv_iload_n hx hb dX8_fillI_6 rfl (lv_at hl 0 rfl) ?_
      refine lv_icmp_ge (tgt := 20) hx hb dX8_fillI_7 (by decide) (fun _ => ?_) (fun c1 => absurd (Int32.le_refl _) c1)
      exact kr _ ls _ _ dX8_fillI_20 hP hS
    | succ f ih =>
      intro j hj H locs ls hP hS hl
      have hlt : j < n := by omega
      refine lv_iload_n hx hb dX8_fillI_5 rfl (lv_at hl 1 rfl) ?_
      refine lv_iload_n hx hb dX8_fillI_6 rfl (lv_at hl 0 rfl) ?_
      refine lv_icmp_ge (tgt := 20) hx hb dX8_fillI_7 (by decide) (fun c1 => absurd c1 (nI_ge hlt hn)) (fun _ => ?_)
      refine lv_aload_n hx hb dX8_fillI_10 rfl (lv_at hl 2 rfl) ?_
      refine lv_iload_n hx hb dX8_fillI_11 rfl (lv_at hl 1 rfl) ?_
      refine lv_iload_n hx hb dX8_fillI_12 rfl (lv_at hl 3 rfl) ?_
      refine fo_iast (k := k) (n := n) hx hb hK hP hD hS hk hi hrow (vp_in_nI hlt hn) dX8_fillI_13 (fun H locs hP hS => ?_)
      rw [nI_clamp (Nat.lt_trans hlt hn), fo_fil_I] at hP
      refine lv_iinc (v := nI (j + 1)) (lv' := [(2, .int (nI (j + 1))), (3, .int (nI n)), (0, .ref (ad (fo_lay k i))), (1, .int v)]) hx hb dX8_fillI_14 hl (k := 1) rfl (by rw [nI_succ]; rfl) (by decide) rfl (fun ls hl => ?_)
      refine lv_goto (tgt := 5) hx hb dX8_fillI_17 (by decide) ?_
      exact ih (j + 1) (by omega) H locs ls hP hS (lv_sub hl [1, 0, 2, 3] rfl)
  exact lp n 0 (by omega) _ _ ls (by rw [fo_fil0_I]; exact hP) hS (by rw [nI_0]; exact hl)
theorem c_q_fillI (l : Launch) (D : va_G) (ca : Nat → ClassId) (ad : Nat → Nat) (sz : Nat) {σ : fo_S} {k i n : Nat} (hk : k < 16) (hi : i < fo_cnt k) (hrow : ∀ (I : Nat → Int32) (J : Nat → Int64), fo_row ca ad I J k i = .inl (ca 0, n, .inl I)) (hn : n < 2 ^ 31) {v : Int32} : Met l yX8_fillI ws_q_fillI rm_q_fillI (fo_Pre 51 D vwCl (fo_tys ca) ad (fo_ce ca ad σ) sz [.ref (ad (fo_lay k i)), .int v]) (fo_PoV 51 D vwCl (fo_tys ca) ad (fo_ce ca ad (fo_rI σ k i (fo_fil (σ.1 k i) n v))) sz) 0 0 (fo_A 51 ad sz) :=
  fo_mkV (by decide) (fun C0 kr hP => b_q_fillI C0 hk hi hrow hn kr hP)
end
