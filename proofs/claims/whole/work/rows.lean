section
-- ===== PART A: goes FIRST, ahead of the names: the tables' words, and 'selects' of the private methods out of them =====
/-- a private method of a class that the tables say can be made, by its rows of tables_1 -/
def lw_okq (q : MethodName × Nat) : Prop := (q.1.cls ≠ "java/lang/invoke/MethodHandle" ∧ q.1.cls ≠ "java/lang/invoke/VarHandle") ∧ Cond.instantiable q.1.cls q.2 ∈ tables_1 ∧ Cond.privateMethod q.1 ∈ tables_1 ∧ Cond.instanceMethod q.1 ∈ tables_1
theorem lw_p0 : lw_okq (⟨"SignedCalls", "refusal", "(LSignedCalls$Call;I)I"⟩, 8) := ⟨⟨by decide +kernel, by decide +kernel⟩, List.mem_of_getElem? (i := 12) (by decide +kernel), List.mem_of_getElem? (i := 342) (by decide +kernel), List.mem_of_getElem? (i := 343) (by decide +kernel)⟩
theorem lw_p1 : lw_okq (⟨"SignedCalls", "signersOfDraft", "()I"⟩, 8) := ⟨⟨by decide +kernel, by decide +kernel⟩, List.mem_of_getElem? (i := 12) (by decide +kernel), List.mem_of_getElem? (i := 346) (by decide +kernel), List.mem_of_getElem? (i := 347) (by decide +kernel)⟩
theorem lw_p2 : lw_okq (⟨"SignedCalls", "coversStake", "(LSignedCalls$Call;)Z"⟩, 8) := ⟨⟨by decide +kernel, by decide +kernel⟩, List.mem_of_getElem? (i := 12) (by decide +kernel), List.mem_of_getElem? (i := 355) (by decide +kernel), List.mem_of_getElem? (i := 356) (by decide +kernel)⟩
theorem lw_p3 : lw_okq (⟨"SignedCalls", "refusalByRow", "(LSignedCalls$Call;I)I"⟩, 8) := ⟨⟨by decide +kernel, by decide +kernel⟩, List.mem_of_getElem? (i := 12) (by decide +kernel), List.mem_of_getElem? (i := 367) (by decide +kernel), List.mem_of_getElem? (i := 368) (by decide +kernel)⟩
theorem lw_p4 : lw_okq (⟨"SignedCalls", "end", "(II)V"⟩, 8) := ⟨⟨by decide +kernel, by decide +kernel⟩, List.mem_of_getElem? (i := 12) (by decide +kernel), List.mem_of_getElem? (i := 379) (by decide +kernel), List.mem_of_getElem? (i := 380) (by decide +kernel)⟩
theorem lw_p5 : lw_okq (⟨"SignedCalls", "endThoseOver", "()V"⟩, 8) := ⟨⟨by decide +kernel, by decide +kernel⟩, List.mem_of_getElem? (i := 12) (by decide +kernel), List.mem_of_getElem? (i := 412) (by decide +kernel), List.mem_of_getElem? (i := 413) (by decide +kernel)⟩
theorem lw_p6 : lw_okq (⟨"SignedCalls", "dearestReady", "(I)I"⟩, 8) := ⟨⟨by decide +kernel, by decide +kernel⟩, List.mem_of_getElem? (i := 12) (by decide +kernel), List.mem_of_getElem? (i := 416) (by decide +kernel), List.mem_of_getElem? (i := 417) (by decide +kernel)⟩
theorem lw_p7 : lw_okq (⟨"SignedCalls", "isReady", "(LSignedCalls$Call;I)Z"⟩, 8) := ⟨⟨by decide +kernel, by decide +kernel⟩, List.mem_of_getElem? (i := 12) (by decide +kernel), List.mem_of_getElem? (i := 420) (by decide +kernel), List.mem_of_getElem? (i := 421) (by decide +kernel)⟩
theorem lw_p8 : lw_okq (⟨"SignedCalls", "perform", "(LSignedCalls$Call;)I"⟩, 8) := ⟨⟨by decide +kernel, by decide +kernel⟩, List.mem_of_getElem? (i := 12) (by decide +kernel), List.mem_of_getElem? (i := 424) (by decide +kernel), List.mem_of_getElem? (i := 425) (by decide +kernel)⟩
theorem lw_p9 : lw_okq (⟨"SignedCalls", "doActs", "(LSignedCalls$Call;)Z"⟩, 8) := ⟨⟨by decide +kernel, by decide +kernel⟩, List.mem_of_getElem? (i := 12) (by decide +kernel), List.mem_of_getElem? (i := 428) (by decide +kernel), List.mem_of_getElem? (i := 429) (by decide +kernel)⟩
theorem lw_p10 : lw_okq (⟨"SignedCalls", "doAct", "(LSignedCalls$Call;I)Z"⟩, 8) := ⟨⟨by decide +kernel, by decide +kernel⟩, List.mem_of_getElem? (i := 12) (by decide +kernel), List.mem_of_getElem? (i := 432) (by decide +kernel), List.mem_of_getElem? (i := 433) (by decide +kernel)⟩
theorem lw_p11 : lw_okq (⟨"SignedCalls", "undoActs", "(LSignedCalls$Call;I)V"⟩, 8) := ⟨⟨by decide +kernel, by decide +kernel⟩, List.mem_of_getElem? (i := 12) (by decide +kernel), List.mem_of_getElem? (i := 440) (by decide +kernel), List.mem_of_getElem? (i := 441) (by decide +kernel)⟩
theorem lw_p12 : lw_okq (⟨"SignedCallsModel", "isAccount", "(I)Z"⟩, 21) := ⟨⟨by decide +kernel, by decide +kernel⟩, List.mem_of_getElem? (i := 464) (by decide +kernel), List.mem_of_getElem? (i := 550) (by decide +kernel), List.mem_of_getElem? (i := 551) (by decide +kernel)⟩
theorem lw_p13 : lw_okq (⟨"SignedCallsModel", "told", "(IJZ)I"⟩, 21) := ⟨⟨by decide +kernel, by decide +kernel⟩, List.mem_of_getElem? (i := 464) (by decide +kernel), List.mem_of_getElem? (i := 580) (by decide +kernel), List.mem_of_getElem? (i := 581) (by decide +kernel)⟩
theorem lw_p14 : lw_okq (⟨"SignedCallsModel", "sameCall", "()I"⟩, 21) := ⟨⟨by decide +kernel, by decide +kernel⟩, List.mem_of_getElem? (i := 464) (by decide +kernel), List.mem_of_getElem? (i := 611) (by decide +kernel), List.mem_of_getElem? (i := 612) (by decide +kernel)⟩
theorem lw_p15 : lw_okq (⟨"SignedCallsModel", "refusedBy", "(I)I"⟩, 21) := ⟨⟨by decide +kernel, by decide +kernel⟩, List.mem_of_getElem? (i := 464) (by decide +kernel), List.mem_of_getElem? (i := 615) (by decide +kernel), List.mem_of_getElem? (i := 616) (by decide +kernel)⟩
def lw_privs_1 : List (MethodName × Nat) := [(⟨"SignedCalls", "refusal", "(LSignedCalls$Call;I)I"⟩, 8), (⟨"SignedCalls", "signersOfDraft", "()I"⟩, 8), (⟨"SignedCalls", "coversStake", "(LSignedCalls$Call;)Z"⟩, 8), (⟨"SignedCalls", "refusalByRow", "(LSignedCalls$Call;I)I"⟩, 8), (⟨"SignedCalls", "end", "(II)V"⟩, 8), (⟨"SignedCalls", "endThoseOver", "()V"⟩, 8), (⟨"SignedCalls", "dearestReady", "(I)I"⟩, 8), (⟨"SignedCalls", "isReady", "(LSignedCalls$Call;I)Z"⟩, 8), (⟨"SignedCalls", "perform", "(LSignedCalls$Call;)I"⟩, 8), (⟨"SignedCalls", "doActs", "(LSignedCalls$Call;)Z"⟩, 8), (⟨"SignedCalls", "doAct", "(LSignedCalls$Call;I)Z"⟩, 8), (⟨"SignedCalls", "undoActs", "(LSignedCalls$Call;I)V"⟩, 8), (⟨"SignedCallsModel", "isAccount", "(I)Z"⟩, 21), (⟨"SignedCallsModel", "told", "(IJZ)I"⟩, 21), (⟨"SignedCallsModel", "sameCall", "()I"⟩, 21), (⟨"SignedCallsModel", "refusedBy", "(I)I"⟩, 21)]
theorem lw_r1 : ∀ q ∈ lw_privs_1, lw_okq q := List.forall_mem_cons.mpr ⟨lw_p0, List.forall_mem_cons.mpr ⟨lw_p1, List.forall_mem_cons.mpr ⟨lw_p2, List.forall_mem_cons.mpr ⟨lw_p3, List.forall_mem_cons.mpr ⟨lw_p4, List.forall_mem_cons.mpr ⟨lw_p5, List.forall_mem_cons.mpr ⟨lw_p6, List.forall_mem_cons.mpr ⟨lw_p7, List.forall_mem_cons.mpr ⟨lw_p8, List.forall_mem_cons.mpr ⟨lw_p9, List.forall_mem_cons.mpr ⟨lw_p10, List.forall_mem_cons.mpr ⟨lw_p11, List.forall_mem_cons.mpr ⟨lw_p12, List.forall_mem_cons.mpr ⟨lw_p13, List.forall_mem_cons.mpr ⟨lw_p14, List.forall_mem_cons.mpr ⟨lw_p15, fun _ h => absurd h List.not_mem_nil⟩⟩⟩⟩⟩⟩⟩⟩⟩⟩⟩⟩⟩⟩⟩⟩
theorem lw_p16 : lw_okq (⟨"SignedCallsModel", "meets", "(I)Z"⟩, 21) := ⟨⟨by decide +kernel, by decide +kernel⟩, List.mem_of_getElem? (i := 464) (by decide +kernel), List.mem_of_getElem? (i := 619) (by decide +kernel), List.mem_of_getElem? (i := 620) (by decide +kernel)⟩
theorem lw_p17 : lw_okq (⟨"SignedCallsModel", "cheapest", "()I"⟩, 21) := ⟨⟨by decide +kernel, by decide +kernel⟩, List.mem_of_getElem? (i := 464) (by decide +kernel), List.mem_of_getElem? (i := 627) (by decide +kernel), List.mem_of_getElem? (i := 628) (by decide +kernel)⟩
theorem lw_p18 : lw_okq (⟨"SignedCallsModel", "comes", "(III)V"⟩, 21) := ⟨⟨by decide +kernel, by decide +kernel⟩, List.mem_of_getElem? (i := 464) (by decide +kernel), List.mem_of_getElem? (i := 631) (by decide +kernel), List.mem_of_getElem? (i := 632) (by decide +kernel)⟩
theorem lw_p19 : lw_okq (⟨"SignedCallsModel", "takeOut", "(I)V"⟩, 21) := ⟨⟨by decide +kernel, by decide +kernel⟩, List.mem_of_getElem? (i := 464) (by decide +kernel), List.mem_of_getElem? (i := 635) (by decide +kernel), List.mem_of_getElem? (i := 636) (by decide +kernel)⟩
theorem lw_p20 : lw_okq (⟨"SignedCallsModel", "ends", "()V"⟩, 21) := ⟨⟨by decide +kernel, by decide +kernel⟩, List.mem_of_getElem? (i := 464) (by decide +kernel), List.mem_of_getElem? (i := 648) (by decide +kernel), List.mem_of_getElem? (i := 649) (by decide +kernel)⟩
theorem lw_p21 : lw_okq (⟨"SignedCallsModel", "dearest", "()I"⟩, 21) := ⟨⟨by decide +kernel, by decide +kernel⟩, List.mem_of_getElem? (i := 464) (by decide +kernel), List.mem_of_getElem? (i := 652) (by decide +kernel), List.mem_of_getElem? (i := 653) (by decide +kernel)⟩
theorem lw_p22 : lw_okq (⟨"SignedCallsModel", "does", "(I)Z"⟩, 21) := ⟨⟨by decide +kernel, by decide +kernel⟩, List.mem_of_getElem? (i := 464) (by decide +kernel), List.mem_of_getElem? (i := 656) (by decide +kernel), List.mem_of_getElem? (i := 657) (by decide +kernel)⟩
def lw_privs_2 : List (MethodName × Nat) := [(⟨"SignedCallsModel", "meets", "(I)Z"⟩, 21), (⟨"SignedCallsModel", "cheapest", "()I"⟩, 21), (⟨"SignedCallsModel", "comes", "(III)V"⟩, 21), (⟨"SignedCallsModel", "takeOut", "(I)V"⟩, 21), (⟨"SignedCallsModel", "ends", "()V"⟩, 21), (⟨"SignedCallsModel", "dearest", "()I"⟩, 21), (⟨"SignedCallsModel", "does", "(I)Z"⟩, 21)]
theorem lw_r2 : ∀ q ∈ lw_privs_2, lw_okq q := List.forall_mem_cons.mpr ⟨lw_p16, List.forall_mem_cons.mpr ⟨lw_p17, List.forall_mem_cons.mpr ⟨lw_p18, List.forall_mem_cons.mpr ⟨lw_p19, List.forall_mem_cons.mpr ⟨lw_p20, List.forall_mem_cons.mpr ⟨lw_p21, List.forall_mem_cons.mpr ⟨lw_p22, fun _ h => absurd h List.not_mem_nil⟩⟩⟩⟩⟩⟩⟩
def lw_privs : List (MethodName × Nat) := lw_privs_1 ++ (lw_privs_2)
def lw_tbl : List Cond := k2_sels lw_privs ++ tables_1
theorem lw_privs_ok : ∀ q ∈ lw_privs, lw_okq q := by
  show ∀ q ∈ lw_privs_1 ++ (lw_privs_2), lw_okq q
  exact List.forall_mem_append.mpr ⟨lw_r1, lw_r2⟩
-- ===== end of PART A; then your names; then what follows =====
end
section
/-! ===== BEGIN words of one list among another's, by their places ===== -/
theorem goodIn_r {big : List Cond} (ws : List Cond) (ps : List Nat) (hp : ws = ps.filterMap (fun i => big[i]?)) (h : ws.all goodWord = true) : GoodIn big ws := by
  intro w hw
  have h1 := List.all_eq_true.mp h w hw
  rw [hp] at hw
  obtain ⟨i, -, hi⟩ := List.mem_filterMap.mp hw
  have hm : w ∈ big := by first | exact List.mem_of_getElem? hi | exact List.getElem?_mem hi
  exact ⟨hm, good_of_word h1⟩
theorem goodIn_app {big a b : List Cond} (ha : GoodIn big a) (hb : GoodIn big b) : GoodIn big (a ++ b) := fun w h => (List.mem_append.mp h).elim (ha w) (hb w)
theorem goodIn_ca {big a b : List Cond} {c : Cond} (ha : GoodIn big (c :: a)) (hb : GoodIn big b) : GoodIn big (c :: (a ++ b)) := fun w h => (List.mem_cons.mp h).elim (fun e => ha w (List.mem_cons.mpr (Or.inl e))) (fun h => (List.mem_append.mp h).elim (fun h => ha w (List.mem_cons.mpr (Or.inr h))) (hb w))
theorem goodIn_sub {big ws : List Cond} (hm : ∀ w ∈ ws, w ∈ big) (h : ws.all goodWord = true) : GoodIn big ws := fun w hw => ⟨hm w hw, good_of_word (List.all_eq_true.mp h w hw)⟩
/-! ===== END ===== -/

/-! ===== BEGIN printed: names, fields, word lists, decode rows ===== -/
def RX0 : String := "SignedCalls$Accounts"
def TX0 : u_T := fun k => match k with
  | 0 => ("SignedCalls$Accounts", "funds", "[J", true)
  | 1 => ("SignedCalls$Accounts", "nexts", "[I", true)
  | 2 => ("SignedCalls$Accounts", "keys", "[I", true)
  | 3 => ("SignedCalls$Accounts", "thresholds", "[I", true)
  | _ => ("SignedCalls$Accounts", "count", "I", false)
def tyX0 : Nat → FieldType := fun k => match k with
  | 0 => .array .long
  | 1 => .array .int
  | 2 => .array .int
  | 3 => .array .int
  | _ => .int
abbrev wsX00 : List Cond := u_ws RX0 TX0 5
theorem nmX0 : ∀ a, a < 5 → ∀ b, b < 5 → a ≠ b → (TX0 a).2.1 ≠ (TX0 b).2.1 := by decide +kernel
theorem tyX0_ok : ∀ k, k < 5 → parseFieldDescriptor (TX0 k).2.2.1 = some (tyX0 k) := by decide +kernel
abbrev cX0_init : ByteArray := prog_2_method_1_code
def yX0_init : MethodName := ⟨RX0, "<init>", "()V"⟩
abbrev cX0_has : ByteArray := prog_2_method_2_code
def yX0_has : MethodName := ⟨RX0, "has", "(I)Z"⟩
abbrev cX0_open : ByteArray := prog_2_method_3_code
def yX0_open : MethodName := ⟨RX0, "open", "(JII)I"⟩
abbrev cX0_setLock : ByteArray := prog_2_method_4_code
def yX0_setLock : MethodName := ⟨RX0, "setLock", "(III)V"⟩
abbrev cX0_isMet : ByteArray := prog_2_method_5_code
def yX0_isMet : MethodName := ⟨RX0, "isMet", "(II)Z"⟩
abbrev cX0_move : ByteArray := prog_2_method_6_code
def yX0_move : MethodName := ⟨RX0, "move", "(IIJ)V"⟩
def RX1 : String := "SignedCalls$Call"
def TX1 : u_T := fun k => match k with
  | 0 => ("SignedCalls$Call", "receivers", "[I", true)
  | 1 => ("SignedCalls$Call", "amounts", "[J", true)
  | 2 => ("SignedCalls$Call", "acts", "I", false)
  | 3 => ("SignedCalls$Call", "owner", "I", false)
  | 4 => ("SignedCalls$Call", "number", "I", false)
  | 5 => ("SignedCalls$Call", "price", "I", false)
  | 6 => ("SignedCalls$Call", "limit", "I", false)
  | 7 => ("SignedCalls$Call", "end", "I", false)
  | 8 => ("SignedCalls$Call", "start", "I", false)
  | 9 => ("SignedCalls$Call", "sponsor", "I", false)
  | 10 => ("SignedCalls$Call", "ticket", "I", false)
  | _ => ("SignedCalls$Call", "used", "I", false)
def tyX1 : Nat → FieldType := fun k => match k with
  | 0 => .array .int
  | 1 => .array .long
  | 2 => .int
  | 3 => .int
  | 4 => .int
  | 5 => .int
  | 6 => .int
  | 7 => .int
  | 8 => .int
  | 9 => .int
  | 10 => .int
  | _ => .int
abbrev wsX10 : List Cond := u_ws RX1 TX1 12
theorem nmX1 : ∀ a, a < 12 → ∀ b, b < 12 → a ≠ b → (TX1 a).2.1 ≠ (TX1 b).2.1 := by decide +kernel
theorem tyX1_ok : ∀ k, k < 12 → parseFieldDescriptor (TX1 k).2.2.1 = some (tyX1 k) := by decide +kernel
abbrev cX1_init : ByteArray := prog_3_method_1_code
def yX1_init : MethodName := ⟨RX1, "<init>", "()V"⟩
abbrev cX1_begin : ByteArray := prog_3_method_2_code
def yX1_begin : MethodName := ⟨RX1, "begin", "(IIII)V"⟩
abbrev cX1_append : ByteArray := prog_3_method_3_code
def yX1_append : MethodName := ⟨RX1, "append", "(IJ)I"⟩
abbrev cX1_becomeLike : ByteArray := prog_3_method_4_code
def yX1_becomeLike : MethodName := ⟨RX1, "becomeLike", "(LSignedCalls$Call;)V"⟩
abbrev cX1_payer : ByteArray := prog_3_method_5_code
def yX1_payer : MethodName := ⟨RX1, "payer", "()I"⟩
abbrev cX1_stake : ByteArray := prog_3_method_6_code
def yX1_stake : MethodName := ⟨RX1, "stake", "()J"⟩
abbrev cX1_computeDigest : ByteArray := prog_3_method_7_code
def yX1_computeDigest : MethodName := ⟨RX1, "computeDigest", "()J"⟩
def RX2 : String := "SignedCalls$Draft"
def TX2 : u_T := fun k => match k with
  | 0 => ("SignedCalls$Draft", "call", "LSignedCalls$Call;", true)
  | 1 => ("SignedCalls$Draft", "signatures", "[I", true)
  | 2 => ("SignedCalls$Draft", "added", "I", false)
  | _ => ("SignedCalls$Draft", "isThere", "Z", false)
def tyX2 : Nat → FieldType := fun k => match k with
  | 0 => .object "SignedCalls$Call"
  | 1 => .array .int
  | 2 => .int
  | _ => .boolean
abbrev wsX20 : List Cond := u_ws RX2 TX2 4
theorem nmX2 : ∀ a, a < 4 → ∀ b, b < 4 → a ≠ b → (TX2 a).2.1 ≠ (TX2 b).2.1 := by decide +kernel
theorem tyX2_ok : ∀ k, k < 4 → parseFieldDescriptor (TX2 k).2.2.1 = some (tyX2 k) := by decide +kernel
abbrev cX2_init : ByteArray := prog_4_method_1_code
def yX2_init : MethodName := ⟨RX2, "<init>", "()V"⟩
abbrev cX2_begin : ByteArray := prog_4_method_2_code
def yX2_begin : MethodName := ⟨RX2, "begin", "(IIII)V"⟩
abbrev cX2_append : ByteArray := prog_4_method_3_code
def yX2_append : MethodName := ⟨RX2, "append", "(I)I"⟩
def RX3 : String := "SignedCalls$EventLog"
def TX3 : u_T := fun k => match k with
  | 0 => ("SignedCalls$EventLog", "tickets", "[I", true)
  | 1 => ("SignedCalls$EventLog", "whys", "[I", true)
  | 2 => ("SignedCalls$EventLog", "units", "[I", true)
  | 3 => ("SignedCalls$EventLog", "kept", "I", false)
  | 4 => ("SignedCalls$EventLog", "newest", "I", false)
  | _ => ("SignedCalls$EventLog", "inAll", "I", false)
def tyX3 : Nat → FieldType := fun k => match k with
  | 0 => .array .int
  | 1 => .array .int
  | 2 => .array .int
  | 3 => .int
  | 4 => .int
  | _ => .int
abbrev wsX30 : List Cond := u_ws RX3 TX3 6
theorem nmX3 : ∀ a, a < 6 → ∀ b, b < 6 → a ≠ b → (TX3 a).2.1 ≠ (TX3 b).2.1 := by decide +kernel
theorem tyX3_ok : ∀ k, k < 6 → parseFieldDescriptor (TX3 k).2.2.1 = some (tyX3 k) := by decide +kernel
abbrev cX3_init : ByteArray := prog_5_method_1_code
def yX3_init : MethodName := ⟨RX3, "<init>", "()V"⟩
abbrev cX3_note : ByteArray := prog_5_method_2_code
def yX3_note : MethodName := ⟨RX3, "note", "(III)V"⟩
abbrev cX3_placeOf : ByteArray := prog_5_method_3_code
def yX3_placeOf : MethodName := ⟨RX3, "placeOf", "(I)I"⟩
def RX4 : String := "SignedCalls$Signatures"
def TX4 : u_T := fun k => match k with
  | 0 => ("SignedCalls$Signatures", "keys", "[I", true)
  | 1 => ("SignedCalls$Signatures", "digests", "[J", true)
  | _ => ("SignedCalls$Signatures", "count", "I", false)
def tyX4 : Nat → FieldType := fun k => match k with
  | 0 => .array .int
  | 1 => .array .long
  | _ => .int
abbrev wsX40 : List Cond := u_ws RX4 TX4 3
theorem nmX4 : ∀ a, a < 3 → ∀ b, b < 3 → a ≠ b → (TX4 a).2.1 ≠ (TX4 b).2.1 := by decide +kernel
theorem tyX4_ok : ∀ k, k < 3 → parseFieldDescriptor (TX4 k).2.2.1 = some (tyX4 k) := by decide +kernel
abbrev cX4_init : ByteArray := prog_6_method_1_code
def yX4_init : MethodName := ⟨RX4, "<init>", "()V"⟩
abbrev cX4_has : ByteArray := prog_6_method_2_code
def yX4_has : MethodName := ⟨RX4, "has", "(I)Z"⟩
abbrev cX4_keep : ByteArray := prog_6_method_3_code
def yX4_keep : MethodName := ⟨RX4, "keep", "(IJ)I"⟩
def RX5 : String := "SignedCalls$WaitingRow"
def TX5 : u_T := fun k => match k with
  | 0 => ("SignedCalls$WaitingRow", "calls", "[LSignedCalls$Call;", true)
  | 1 => ("SignedCalls$WaitingRow", "count", "I", false)
  | _ => ("SignedCalls$WaitingRow", "ticketsGiven", "I", false)
def tyX5 : Nat → FieldType := fun k => match k with
  | 0 => .array (.object "SignedCalls$Call")
  | 1 => .int
  | _ => .int
abbrev wsX50 : List Cond := u_ws RX5 TX5 3
theorem nmX5 : ∀ a, a < 3 → ∀ b, b < 3 → a ≠ b → (TX5 a).2.1 ≠ (TX5 b).2.1 := by decide +kernel
theorem tyX5_ok : ∀ k, k < 3 → parseFieldDescriptor (TX5 k).2.2.1 = some (tyX5 k) := by decide +kernel
abbrev cX5_init : ByteArray := prog_7_method_1_code
def yX5_init : MethodName := ⟨RX5, "<init>", "()V"⟩
abbrev cX5_isFull : ByteArray := prog_7_method_2_code
def yX5_isFull : MethodName := ⟨RX5, "isFull", "()Z"⟩
abbrev cX5_indexOf : ByteArray := prog_7_method_3_code
def yX5_indexOf : MethodName := ⟨RX5, "indexOf", "(II)I"⟩
abbrev cX5_cheapest : ByteArray := prog_7_method_4_code
def yX5_cheapest : MethodName := ⟨RX5, "cheapest", "()I"⟩
abbrev cX5_append : ByteArray := prog_7_method_5_code
def yX5_append : MethodName := ⟨RX5, "append", "(LSignedCalls$Call;)I"⟩
abbrev cX5_take : ByteArray := prog_7_method_6_code
def yX5_take : MethodName := ⟨RX5, "take", "(I)LSignedCalls$Call;"⟩
def RX6 : String := "SignedCalls"
def TX6 : u_T := fun k => match k with
  | 0 => ("SignedCalls", "accounts", "LSignedCalls$Accounts;", true)
  | 1 => ("SignedCalls", "signatures", "LSignedCalls$Signatures;", true)
  | 2 => ("SignedCalls", "draft", "LSignedCalls$Draft;", true)
  | 3 => ("SignedCalls", "row", "LSignedCalls$WaitingRow;", true)
  | 4 => ("SignedCalls", "log", "LSignedCalls$EventLog;", true)
  | 5 => ("SignedCalls", "priceStep", "I", false)
  | 6 => ("SignedCalls", "height", "I", false)
  | _ => ("SignedCalls", "paidInAll", "J", false)
def tyX6 : Nat → FieldType := fun k => match k with
  | 0 => .object "SignedCalls$Accounts"
  | 1 => .object "SignedCalls$Signatures"
  | 2 => .object "SignedCalls$Draft"
  | 3 => .object "SignedCalls$WaitingRow"
  | 4 => .object "SignedCalls$EventLog"
  | 5 => .int
  | 6 => .int
  | _ => .long
abbrev wsX60 : List Cond := u_ws RX6 TX6 8
theorem nmX6 : ∀ a, a < 8 → ∀ b, b < 8 → a ≠ b → (TX6 a).2.1 ≠ (TX6 b).2.1 := by decide +kernel
theorem tyX6_ok : ∀ k, k < 8 → parseFieldDescriptor (TX6 k).2.2.1 = some (tyX6 k) := by decide +kernel
abbrev cX6_init : ByteArray := prog_1_method_1_code
def yX6_init : MethodName := ⟨RX6, "<init>", "()V"⟩
abbrev cX6_account : ByteArray := prog_1_method_2_code
def yX6_account : MethodName := ⟨RX6, "account", "(JII)I"⟩
abbrev cX6_lock : ByteArray := prog_1_method_3_code
def yX6_lock : MethodName := ⟨RX6, "lock", "(III)I"⟩
abbrev cX6_funds : ByteArray := prog_1_method_4_code
def yX6_funds : MethodName := ⟨RX6, "funds", "(I)J"⟩
abbrev cX6_next : ByteArray := prog_1_method_5_code
def yX6_next : MethodName := ⟨RX6, "next", "(I)I"⟩
abbrev cX6_sign : ByteArray := prog_1_method_6_code
def yX6_sign : MethodName := ⟨RX6, "sign", "(IJ)I"⟩
abbrev cX6_draft : ByteArray := prog_1_method_7_code
def yX6_draft : MethodName := ⟨RX6, "draft", "(IIII)I"⟩
abbrev cX6_until : ByteArray := prog_1_method_8_code
def yX6_until : MethodName := ⟨RX6, "until", "(I)I"⟩
abbrev cX6_from : ByteArray := prog_1_method_9_code
def yX6_from : MethodName := ⟨RX6, "from", "(I)I"⟩
abbrev cX6_sponsor : ByteArray := prog_1_method_10_code
def yX6_sponsor : MethodName := ⟨RX6, "sponsor", "(I)I"⟩
abbrev cX6_act : ByteArray := prog_1_method_11_code
def yX6_act : MethodName := ⟨RX6, "act", "(IJ)I"⟩
abbrev cX6_add : ByteArray := prog_1_method_12_code
def yX6_add : MethodName := ⟨RX6, "add", "(I)I"⟩
abbrev cX6_digest : ByteArray := prog_1_method_13_code
def yX6_digest : MethodName := ⟨RX6, "digest", "()J"⟩
abbrev cX6_offer : ByteArray := prog_1_method_14_code
def yX6_offer : MethodName := ⟨RX6, "offer", "()I"⟩
abbrev cX6_step : ByteArray := prog_1_method_15_code
def yX6_step : MethodName := ⟨RX6, "step", "(I)I"⟩
abbrev cX6_block : ByteArray := prog_1_method_16_code
def yX6_block : MethodName := ⟨RX6, "block", "(I)I"⟩
abbrev cX6_waiting : ByteArray := prog_1_method_17_code
def yX6_waiting : MethodName := ⟨RX6, "waiting", "(II)I"⟩
abbrev cX6_event : ByteArray := prog_1_method_18_code
def yX6_event : MethodName := ⟨RX6, "event", "(II)I"⟩
abbrev cX6_paid : ByteArray := prog_1_method_19_code
def yX6_paid : MethodName := ⟨RX6, "paid", "()J"⟩
abbrev cX6_told : ByteArray := prog_1_method_20_code
def yX6_told : MethodName := ⟨RX6, "told", "(I)I"⟩
abbrev cX6_isAmount : ByteArray := prog_1_method_21_code
def yX6_isAmount : MethodName := ⟨RX6, "isAmount", "(J)Z"⟩
abbrev cX6_isHeight : ByteArray := prog_1_method_22_code
def yX6_isHeight : MethodName := ⟨RX6, "isHeight", "(I)Z"⟩
abbrev cX6_isLock : ByteArray := prog_1_method_23_code
def yX6_isLock : MethodName := ⟨RX6, "isLock", "(II)Z"⟩
abbrev cX6_refusal : ByteArray := prog_1_method_24_code
def yX6_refusal : MethodName := ⟨RX6, "refusal", "(LSignedCalls$Call;I)I"⟩
abbrev cX6_refusalByRow : ByteArray := prog_1_method_25_code
def yX6_refusalByRow : MethodName := ⟨RX6, "refusalByRow", "(LSignedCalls$Call;I)I"⟩
abbrev cX6_signersOfDraft : ByteArray := prog_1_method_26_code
def yX6_signersOfDraft : MethodName := ⟨RX6, "signersOfDraft", "()I"⟩
abbrev cX6_coversStake : ByteArray := prog_1_method_27_code
def yX6_coversStake : MethodName := ⟨RX6, "coversStake", "(LSignedCalls$Call;)Z"⟩
abbrev cX6_end : ByteArray := prog_1_method_28_code
def yX6_end : MethodName := ⟨RX6, "end", "(II)V"⟩
abbrev cX6_endThoseOver : ByteArray := prog_1_method_29_code
def yX6_endThoseOver : MethodName := ⟨RX6, "endThoseOver", "()V"⟩
abbrev cX6_dearestReady : ByteArray := prog_1_method_30_code
def yX6_dearestReady : MethodName := ⟨RX6, "dearestReady", "(I)I"⟩
abbrev cX6_isReady : ByteArray := prog_1_method_31_code
def yX6_isReady : MethodName := ⟨RX6, "isReady", "(LSignedCalls$Call;I)Z"⟩
abbrev cX6_perform : ByteArray := prog_1_method_32_code
def yX6_perform : MethodName := ⟨RX6, "perform", "(LSignedCalls$Call;)I"⟩
abbrev cX6_doActs : ByteArray := prog_1_method_33_code
def yX6_doActs : MethodName := ⟨RX6, "doActs", "(LSignedCalls$Call;)Z"⟩
abbrev cX6_doAct : ByteArray := prog_1_method_34_code
def yX6_doAct : MethodName := ⟨RX6, "doAct", "(LSignedCalls$Call;I)Z"⟩
abbrev cX6_undoActs : ByteArray := prog_1_method_35_code
def yX6_undoActs : MethodName := ⟨RX6, "undoActs", "(LSignedCalls$Call;I)V"⟩
def RX7 : String := "SignedCallsModel"
def TX7 : u_T := fun k => match k with
  | 0 => ("SignedCallsModel", "accounts", "I", false)
  | 1 => ("SignedCallsModel", "funds", "[J", true)
  | 2 => ("SignedCallsModel", "next", "[I", true)
  | 3 => ("SignedCallsModel", "keys", "[I", true)
  | 4 => ("SignedCallsModel", "threshold", "[I", true)
  | 5 => ("SignedCallsModel", "signatures", "I", false)
  | 6 => ("SignedCallsModel", "keyOf", "[I", true)
  | 7 => ("SignedCallsModel", "digestOf", "[J", true)
  | 8 => ("SignedCallsModel", "call", "[J", true)
  | 9 => ("SignedCallsModel", "drafted", "Z", false)
  | 10 => ("SignedCallsModel", "mine", "[I", true)
  | 11 => ("SignedCallsModel", "mineMany", "I", false)
  | 12 => ("SignedCallsModel", "waits", "I", false)
  | 13 => ("SignedCallsModel", "tickets", "I", false)
  | 14 => ("SignedCallsModel", "stepOf", "I", false)
  | 15 => ("SignedCallsModel", "height", "I", false)
  | 16 => ("SignedCallsModel", "paid", "J", false)
  | 17 => ("SignedCallsModel", "events", "I", false)
  | 18 => ("SignedCallsModel", "eventRow", "[I", true)
  | 19 => ("SignedCallsModel", "roomLeft", "I", false)
  | _ => ("SignedCallsModel", "before", "[J", true)
def tyX7 : Nat → FieldType := fun k => match k with
  | 0 => .int
  | 1 => .array .long
  | 2 => .array .int
  | 3 => .array .int
  | 4 => .array .int
  | 5 => .int
  | 6 => .array .int
  | 7 => .array .long
  | 8 => .array .long
  | 9 => .boolean
  | 10 => .array .int
  | 11 => .int
  | 12 => .int
  | 13 => .int
  | 14 => .int
  | 15 => .int
  | 16 => .long
  | 17 => .int
  | 18 => .array .int
  | 19 => .int
  | _ => .array .long
abbrev wsX70 : List Cond := u_ws RX7 TX7 21
theorem nmX7 : ∀ a, a < 21 → ∀ b, b < 21 → a ≠ b → (TX7 a).2.1 ≠ (TX7 b).2.1 := by decide +kernel
theorem tyX7_ok : ∀ k, k < 21 → parseFieldDescriptor (TX7 k).2.2.1 = some (tyX7 k) := by decide +kernel
abbrev cX7_init : ByteArray := prog_9_method_1_code
def yX7_init : MethodName := ⟨RX7, "<init>", "()V"⟩
abbrev cX7_in : ByteArray := prog_9_method_2_code
def yX7_in : MethodName := ⟨RX7, "in", "(JJJ)Z"⟩
abbrev cX7_isAccount : ByteArray := prog_9_method_3_code
def yX7_isAccount : MethodName := ⟨RX7, "isAccount", "(I)Z"⟩
abbrev cX7_isLock : ByteArray := prog_9_method_4_code
def yX7_isLock : MethodName := ⟨RX7, "isLock", "(II)Z"⟩
abbrev cX7_account : ByteArray := prog_9_method_5_code
def yX7_account : MethodName := ⟨RX7, "account", "(JII)I"⟩
abbrev cX7_lock : ByteArray := prog_9_method_6_code
def yX7_lock : MethodName := ⟨RX7, "lock", "(III)I"⟩
abbrev cX7_funds : ByteArray := prog_9_method_7_code
def yX7_funds : MethodName := ⟨RX7, "funds", "(I)J"⟩
abbrev cX7_next : ByteArray := prog_9_method_8_code
def yX7_next : MethodName := ⟨RX7, "next", "(I)I"⟩
abbrev cX7_sign : ByteArray := prog_9_method_9_code
def yX7_sign : MethodName := ⟨RX7, "sign", "(IJ)I"⟩
abbrev cX7_draft : ByteArray := prog_9_method_10_code
def yX7_draft : MethodName := ⟨RX7, "draft", "(IIII)I"⟩
abbrev cX7_told : ByteArray := prog_9_method_11_code
def yX7_told : MethodName := ⟨RX7, "told", "(IJZ)I"⟩
abbrev cX7_until : ByteArray := prog_9_method_12_code
def yX7_until : MethodName := ⟨RX7, "until", "(I)I"⟩
abbrev cX7_from : ByteArray := prog_9_method_13_code
def yX7_from : MethodName := ⟨RX7, "from", "(I)I"⟩
abbrev cX7_sponsor : ByteArray := prog_9_method_14_code
def yX7_sponsor : MethodName := ⟨RX7, "sponsor", "(I)I"⟩
abbrev cX7_act : ByteArray := prog_9_method_15_code
def yX7_act : MethodName := ⟨RX7, "act", "(IJ)I"⟩
abbrev cX7_add : ByteArray := prog_9_method_16_code
def yX7_add : MethodName := ⟨RX7, "add", "(I)I"⟩
abbrev cX7_digest : ByteArray := prog_9_method_17_code
def yX7_digest : MethodName := ⟨RX7, "digest", "()J"⟩
abbrev cX7_meets : ByteArray := prog_9_method_18_code
def yX7_meets : MethodName := ⟨RX7, "meets", "(I)Z"⟩
abbrev cX7_payer : ByteArray := prog_9_method_19_code
def yX7_payer : MethodName := ⟨RX7, "payer", "(JJ)I"⟩
abbrev cX7_sameCall : ByteArray := prog_9_method_20_code
def yX7_sameCall : MethodName := ⟨RX7, "sameCall", "()I"⟩
abbrev cX7_cheapest : ByteArray := prog_9_method_21_code
def yX7_cheapest : MethodName := ⟨RX7, "cheapest", "()I"⟩
abbrev cX7_refusedBy : ByteArray := prog_9_method_22_code
def yX7_refusedBy : MethodName := ⟨RX7, "refusedBy", "(I)I"⟩
abbrev cX7_takeOut : ByteArray := prog_9_method_23_code
def yX7_takeOut : MethodName := ⟨RX7, "takeOut", "(I)V"⟩
abbrev cX7_comes : ByteArray := prog_9_method_24_code
def yX7_comes : MethodName := ⟨RX7, "comes", "(III)V"⟩
abbrev cX7_offer : ByteArray := prog_9_method_25_code
def yX7_offer : MethodName := ⟨RX7, "offer", "()I"⟩
abbrev cX7_step : ByteArray := prog_9_method_26_code
def yX7_step : MethodName := ⟨RX7, "step", "(I)I"⟩
abbrev cX7_ends : ByteArray := prog_9_method_27_code
def yX7_ends : MethodName := ⟨RX7, "ends", "()V"⟩
abbrev cX7_dearest : ByteArray := prog_9_method_28_code
def yX7_dearest : MethodName := ⟨RX7, "dearest", "()I"⟩
abbrev cX7_does : ByteArray := prog_9_method_29_code
def yX7_does : MethodName := ⟨RX7, "does", "(I)Z"⟩
abbrev cX7_block : ByteArray := prog_9_method_30_code
def yX7_block : MethodName := ⟨RX7, "block", "(I)I"⟩
abbrev cX7_waiting : ByteArray := prog_9_method_31_code
def yX7_waiting : MethodName := ⟨RX7, "waiting", "(II)I"⟩
abbrev cX7_event : ByteArray := prog_9_method_32_code
def yX7_event : MethodName := ⟨RX7, "event", "(II)I"⟩
abbrev cX7_paid : ByteArray := prog_9_method_33_code
def yX7_paid : MethodName := ⟨RX7, "paid", "()J"⟩
abbrev cX7_told_ : ByteArray := prog_9_method_34_code
def yX7_told_ : MethodName := ⟨RX7, "told", "(I)I"⟩
def RJ6 : String := "java/lang/Integer"
def TJ6 : u_T := fun k => match k with
  | _ => ("", "", "", false)
def tyJ6 : Nat → FieldType := fun k => match k with
  | _ => .int
abbrev wsJ60 : List Cond := u_ws RJ6 TJ6 0
theorem nmJ6 : ∀ a, a < 0 → ∀ b, b < 0 → a ≠ b → (TJ6 a).2.1 ≠ (TJ6 b).2.1 := by decide +kernel
theorem tyJ6_ok : ∀ k, k < 0 → parseFieldDescriptor (TJ6 k).2.2.1 = some (tyJ6 k) := by decide +kernel
abbrev cJ6_bitCount_0f7a4 : ByteArray := prog_10_method_49_code
def yJ6_bitCount_0f7a4 : MethodName := ⟨RJ6, "bitCount", "(I)I"⟩
def RJ9 : String := "java/lang/Math"
def TJ9 : u_T := fun k => match k with
  | _ => ("", "", "", false)
def tyJ9 : Nat → FieldType := fun k => match k with
  | _ => .int
abbrev wsJ90 : List Cond := u_ws RJ9 TJ9 0
theorem nmJ9 : ∀ a, a < 0 → ∀ b, b < 0 → a ≠ b → (TJ9 a).2.1 ≠ (TJ9 b).2.1 := by decide +kernel
theorem tyJ9_ok : ∀ k, k < 0 → parseFieldDescriptor (TJ9 k).2.2.1 = some (tyJ9 k) := by decide +kernel
abbrev cJ9_min_7cf53 : ByteArray := prog_11_method_69_code
def yJ9_min_7cf53 : MethodName := ⟨RJ9, "min", "(II)I"⟩
def RL : String := "SignedCallsLaw"
abbrev cL_law : ByteArray := code
def yL_law : MethodName := ⟨RL, "law", "([I)Z"⟩
def wsX0_init : List Cond := .code yX0_init cX0_init 1 none :: ([.methodLink RX0 3 objectInit, .instanceMethod objectInit, .code objectInit ⟨#[0xb1]⟩ 1 none, .arrayClass .long, .fieldLink RX0 9 "SignedCalls$Accounts" "funds" "[J", .arrayClass .int, .fieldLink RX0 15 "SignedCalls$Accounts" "nexts" "[I", .fieldLink RX0 19 "SignedCalls$Accounts" "keys" "[I", .fieldLink RX0 22 "SignedCalls$Accounts" "thresholds" "[I"] ++ wsX00)
def wsX0_has : List Cond := .code yX0_has cX0_has 2 (some .boolean) :: ([.fieldLink RX0 25 "SignedCalls$Accounts" "count" "I"] ++ wsX00)
def wsX0_setLock : List Cond := .code yX0_setLock cX0_setLock 4 none :: ([.fieldLink RX0 19 "SignedCalls$Accounts" "keys" "[I", .fieldLink RX0 22 "SignedCalls$Accounts" "thresholds" "[I"] ++ wsX00)
def wsX0_open : List Cond := .code yX0_open cX0_open 6 (some .int) :: ([.fieldLink RX0 25 "SignedCalls$Accounts" "count" "I", .fieldLink RX0 9 "SignedCalls$Accounts" "funds" "[J", .methodLink RX0 29 yX0_setLock, .instanceMethod yX0_setLock, .selects RX0 yX0_setLock yX0_setLock, .initialized RX0, .code yX0_setLock cX0_setLock 4 none, .fieldLink RX0 19 "SignedCalls$Accounts" "keys" "[I", .fieldLink RX0 22 "SignedCalls$Accounts" "thresholds" "[I"] ++ wsX00)
def wsJ6_bitCount_0f7a4 : List Cond := .code yJ6_bitCount_0f7a4 cJ6_bitCount_0f7a4 1 (some .int) :: ([.constant RJ6 265 (1431655765), .constant RJ6 266 (858993459), .constant RJ6 267 (252645135)])
def wsX0_isMet : List Cond := .code yX0_isMet cX0_isMet 3 (some .boolean) :: ([.fieldLink RX0 19 "SignedCalls$Accounts" "keys" "[I", .fieldLink RX0 22 "SignedCalls$Accounts" "thresholds" "[I", .methodLink RX0 33 yJ6_bitCount_0f7a4, .static yJ6_bitCount_0f7a4, .initialized RJ6, .code yJ6_bitCount_0f7a4 cJ6_bitCount_0f7a4 1 (some .int), .constant RJ6 265 (1431655765), .constant RJ6 266 (858993459), .constant RJ6 267 (252645135)] ++ wsX00)
def wsX0_move : List Cond := .code yX0_move cX0_move 5 none :: ([.fieldLink RX0 9 "SignedCalls$Accounts" "funds" "[J"] ++ wsX00)
def wsX1_init : List Cond := .code yX1_init cX1_init 1 none :: ([.methodLink RX1 3 objectInit, .instanceMethod objectInit, .code objectInit ⟨#[0xb1]⟩ 1 none, .arrayClass .int, .fieldLink RX1 9 "SignedCalls$Call" "receivers" "[I", .arrayClass .long, .fieldLink RX1 15 "SignedCalls$Call" "amounts" "[J"] ++ wsX10)
def wsX1_begin : List Cond := .code yX1_begin cX1_begin 5 none :: ([.fieldLink RX1 19 "SignedCalls$Call" "owner" "I", .fieldLink RX1 23 "SignedCalls$Call" "number" "I", .fieldLink RX1 26 "SignedCalls$Call" "price" "I", .fieldLink RX1 29 "SignedCalls$Call" "limit" "I", .constant RX1 32 (1000000), .fieldLink RX1 33 "SignedCalls$Call" "end" "I", .fieldLink RX1 36 "SignedCalls$Call" "start" "I", .fieldLink RX1 39 "SignedCalls$Call" "sponsor" "I", .fieldLink RX1 42 "SignedCalls$Call" "acts" "I"] ++ wsX10)
def wsX1_append : List Cond := .code yX1_append cX1_append 4 (some .int) :: ([.fieldLink RX1 9 "SignedCalls$Call" "receivers" "[I", .fieldLink RX1 42 "SignedCalls$Call" "acts" "I", .fieldLink RX1 15 "SignedCalls$Call" "amounts" "[J"] ++ wsX10)
def wsX1_becomeLike : List Cond := .code yX1_becomeLike cX1_becomeLike 3 none :: ([.fieldLink RX1 19 "SignedCalls$Call" "owner" "I", .fieldLink RX1 23 "SignedCalls$Call" "number" "I", .fieldLink RX1 26 "SignedCalls$Call" "price" "I", .fieldLink RX1 29 "SignedCalls$Call" "limit" "I", .fieldLink RX1 33 "SignedCalls$Call" "end" "I", .fieldLink RX1 36 "SignedCalls$Call" "start" "I", .fieldLink RX1 39 "SignedCalls$Call" "sponsor" "I", .fieldLink RX1 42 "SignedCalls$Call" "acts" "I", .fieldLink RX1 9 "SignedCalls$Call" "receivers" "[I", .fieldLink RX1 15 "SignedCalls$Call" "amounts" "[J", .methodLink RX1 45 yX1_begin, .instanceMethod yX1_begin, .selects RX1 yX1_begin yX1_begin, .initialized RX1, .code yX1_begin cX1_begin 5 none, .constant RX1 32 (1000000), .methodLink RX1 49 yX1_append, .instanceMethod yX1_append, .selects RX1 yX1_append yX1_append, .code yX1_append cX1_append 4 (some .int)] ++ wsX10)
def wsX1_payer : List Cond := .code yX1_payer cX1_payer 1 (some .int) :: ([.fieldLink RX1 39 "SignedCalls$Call" "sponsor" "I", .fieldLink RX1 19 "SignedCalls$Call" "owner" "I"] ++ wsX10)
def wsX1_stake : List Cond := .code yX1_stake cX1_stake 1 (some .long) :: ([.fieldLink RX1 26 "SignedCalls$Call" "price" "I", .fieldLink RX1 29 "SignedCalls$Call" "limit" "I"] ++ wsX10)
def wsX1_computeDigest : List Cond := .code yX1_computeDigest cX1_computeDigest 4 (some .long) :: ([.constantLong RX1 53 (17), .constantLong RX1 55 (31), .fieldLink RX1 19 "SignedCalls$Call" "owner" "I", .fieldLink RX1 23 "SignedCalls$Call" "number" "I", .fieldLink RX1 26 "SignedCalls$Call" "price" "I", .fieldLink RX1 29 "SignedCalls$Call" "limit" "I", .fieldLink RX1 33 "SignedCalls$Call" "end" "I", .fieldLink RX1 36 "SignedCalls$Call" "start" "I", .fieldLink RX1 39 "SignedCalls$Call" "sponsor" "I", .fieldLink RX1 42 "SignedCalls$Call" "acts" "I", .fieldLink RX1 9 "SignedCalls$Call" "receivers" "[I", .fieldLink RX1 15 "SignedCalls$Call" "amounts" "[J"] ++ wsX10)
def wsX2_init : List Cond := .code yX2_init cX2_init 1 none :: ([.methodLink RX2 3 objectInit, .instanceMethod objectInit, .code objectInit ⟨#[0xb1]⟩ 1 none, .classLink RX2 9 RX1, .instantiable RX1 12, .initialized RX1, .fieldLink RX2 12 "SignedCalls$Draft" "call" "LSignedCalls$Call;", .arrayClass .int, .fieldLink RX2 18 "SignedCalls$Draft" "signatures" "[I", .instanceMethod yX1_init, .code yX1_init cX1_init 1 none, .methodLink RX1 3 objectInit, .fieldLink RX1 9 "SignedCalls$Call" "receivers" "[I", .arrayClass .long, .fieldLink RX1 15 "SignedCalls$Call" "amounts" "[J"] ++ wsX10 ++ wsX20)
def wsX2_begin : List Cond := .code yX2_begin cX2_begin 5 none :: ([.fieldLink RX2 12 "SignedCalls$Draft" "call" "LSignedCalls$Call;", .fieldLink RX2 26 "SignedCalls$Draft" "added" "I", .fieldLink RX2 30 "SignedCalls$Draft" "isThere" "Z", .methodLink RX2 22 yX1_begin, .instanceMethod yX1_begin, .selects RX1 yX1_begin yX1_begin, .initialized RX1, .code yX1_begin cX1_begin 5 none, .fieldLink RX1 19 "SignedCalls$Call" "owner" "I", .fieldLink RX1 23 "SignedCalls$Call" "number" "I", .fieldLink RX1 26 "SignedCalls$Call" "price" "I", .fieldLink RX1 29 "SignedCalls$Call" "limit" "I", .constant RX1 32 (1000000), .fieldLink RX1 33 "SignedCalls$Call" "end" "I", .fieldLink RX1 36 "SignedCalls$Call" "start" "I", .fieldLink RX1 39 "SignedCalls$Call" "sponsor" "I", .fieldLink RX1 42 "SignedCalls$Call" "acts" "I"] ++ wsX20 ++ wsX10)
def wsX2_append : List Cond := .code yX2_append cX2_append 2 (some .int) :: ([.fieldLink RX2 18 "SignedCalls$Draft" "signatures" "[I", .fieldLink RX2 26 "SignedCalls$Draft" "added" "I"] ++ wsX20)
def wsX3_init : List Cond := .code yX3_init cX3_init 1 none :: ([.methodLink RX3 3 objectInit, .instanceMethod objectInit, .code objectInit ⟨#[0xb1]⟩ 1 none, .arrayClass .int, .fieldLink RX3 9 "SignedCalls$EventLog" "tickets" "[I", .fieldLink RX3 15 "SignedCalls$EventLog" "whys" "[I", .fieldLink RX3 18 "SignedCalls$EventLog" "units" "[I", .fieldLink RX3 21 "SignedCalls$EventLog" "newest" "I"] ++ wsX30)
def wsX3_note : List Cond := .code yX3_note cX3_note 4 none :: ([.fieldLink RX3 21 "SignedCalls$EventLog" "newest" "I", .fieldLink RX3 9 "SignedCalls$EventLog" "tickets" "[I", .fieldLink RX3 15 "SignedCalls$EventLog" "whys" "[I", .fieldLink RX3 18 "SignedCalls$EventLog" "units" "[I", .fieldLink RX3 25 "SignedCalls$EventLog" "kept" "I", .methodLink RX3 28 Lib.Math.min.name, .static Lib.Math.min.name, .initialized "java/lang/Math", .code Lib.Math.min.name Lib.Math.min.code 2 (some .int), .fieldLink RX3 34 "SignedCalls$EventLog" "inAll" "I"] ++ wsX30)
def wsX3_placeOf : List Cond := .code yX3_placeOf cX3_placeOf 3 (some .int) :: ([.fieldLink RX3 21 "SignedCalls$EventLog" "newest" "I"] ++ wsX30)
def wsX4_init : List Cond := .code yX4_init cX4_init 1 none :: ([.methodLink RX4 3 objectInit, .instanceMethod objectInit, .code objectInit ⟨#[0xb1]⟩ 1 none, .arrayClass .int, .fieldLink RX4 9 "SignedCalls$Signatures" "keys" "[I", .arrayClass .long, .fieldLink RX4 15 "SignedCalls$Signatures" "digests" "[J"] ++ wsX40)
def wsX4_has : List Cond := .code yX4_has cX4_has 2 (some .boolean) :: ([.fieldLink RX4 19 "SignedCalls$Signatures" "count" "I"] ++ wsX40)
def wsX4_keep : List Cond := .code yX4_keep cX4_keep 5 (some .int) :: ([.fieldLink RX4 19 "SignedCalls$Signatures" "count" "I", .fieldLink RX4 9 "SignedCalls$Signatures" "keys" "[I", .fieldLink RX4 15 "SignedCalls$Signatures" "digests" "[J"] ++ wsX40)
def wsX5_init : List Cond := .code yX5_init cX5_init 2 none :: ([.methodLink RX5 3 objectInit, .instanceMethod objectInit, .code objectInit ⟨#[0xb1]⟩ 1 none, .classLink RX5 9 RX1, .fieldLink RX5 11 "SignedCalls$WaitingRow" "calls" "[LSignedCalls$Call;", .instantiable RX1 12, .initialized RX1, .instanceMethod yX1_init, .code yX1_init cX1_init 1 none, .methodLink RX1 3 objectInit, .arrayClass .int, .fieldLink RX1 9 "SignedCalls$Call" "receivers" "[I", .arrayClass .long, .fieldLink RX1 15 "SignedCalls$Call" "amounts" "[J"] ++ wsX50 ++ wsX10)
def wsX5_isFull : List Cond := .code yX5_isFull cX5_isFull 1 (some .boolean) :: ([.fieldLink RX5 18 "SignedCalls$WaitingRow" "count" "I"] ++ wsX50)
def wsX5_indexOf : List Cond := .code yX5_indexOf cX5_indexOf 4 (some .int) :: ([.fieldLink RX5 18 "SignedCalls$WaitingRow" "count" "I", .fieldLink RX5 11 "SignedCalls$WaitingRow" "calls" "[LSignedCalls$Call;", .fieldLink RX5 22 "SignedCalls$Call" "owner" "I", .fieldLink RX5 25 "SignedCalls$Call" "number" "I"] ++ wsX50 ++ wsX10)
def wsX5_cheapest : List Cond := .code yX5_cheapest cX5_cheapest 3 (some .int) :: ([.fieldLink RX5 18 "SignedCalls$WaitingRow" "count" "I", .fieldLink RX5 11 "SignedCalls$WaitingRow" "calls" "[LSignedCalls$Call;", .fieldLink RX5 28 "SignedCalls$Call" "price" "I"] ++ wsX50 ++ wsX10)
def wsX5_append_r1 : List Cond := [Cond.fieldLink RX5 11 "SignedCalls$WaitingRow" "calls" "[LSignedCalls$Call;", Cond.fieldLink RX5 18 "SignedCalls$WaitingRow" "count" "I", Cond.fieldLink RX5 35 "SignedCalls$WaitingRow" "ticketsGiven" "I", Cond.fieldLink RX5 38 "SignedCalls$Call" "ticket" "I", Cond.methodLink RX5 31 yX1_becomeLike, Cond.instanceMethod yX1_becomeLike, Cond.selects RX1 yX1_becomeLike yX1_becomeLike, Cond.initialized RX1, Cond.code yX1_becomeLike cX1_becomeLike 3 none, Cond.fieldLink RX1 19 "SignedCalls$Call" "owner" "I", Cond.fieldLink RX1 23 "SignedCalls$Call" "number" "I", Cond.fieldLink RX1 26 "SignedCalls$Call" "price" "I", Cond.fieldLink RX1 29 "SignedCalls$Call" "limit" "I", Cond.fieldLink RX1 33 "SignedCalls$Call" "end" "I", Cond.fieldLink RX1 36 "SignedCalls$Call" "start" "I", Cond.fieldLink RX1 39 "SignedCalls$Call" "sponsor" "I", Cond.fieldLink RX1 42 "SignedCalls$Call" "acts" "I", Cond.fieldLink RX1 9 "SignedCalls$Call" "receivers" "[I", Cond.fieldLink RX1 15 "SignedCalls$Call" "amounts" "[J", Cond.methodLink RX1 45 yX1_begin, Cond.instanceMethod yX1_begin, Cond.selects RX1 yX1_begin yX1_begin, Cond.code yX1_begin cX1_begin 5 none, Cond.constant RX1 32 (1000000)]
def wsX5_append_r2 : List Cond := [Cond.methodLink RX1 49 yX1_append, Cond.instanceMethod yX1_append, Cond.selects RX1 yX1_append yX1_append, Cond.code yX1_append cX1_append 4 (some .int)]
def wsX5_append : List Cond := .code yX5_append cX5_append 3 (some .int) :: ((wsX5_append_r1 ++ wsX5_append_r2) ++ wsX50 ++ wsX10)
def wsX5_take : List Cond := .code yX5_take cX5_take 4 (some (.object "SignedCalls$Call")) :: ([.fieldLink RX5 11 "SignedCalls$WaitingRow" "calls" "[LSignedCalls$Call;", .fieldLink RX5 18 "SignedCalls$WaitingRow" "count" "I"] ++ wsX50)
def wsX6_init_r1 : List Cond := [Cond.methodLink RX6 1 objectInit, Cond.instanceMethod objectInit, Cond.code objectInit ⟨#[0xb1]⟩ 1 none, Cond.classLink RX6 7 RX0, Cond.instantiable RX0 5, Cond.initialized RX0, Cond.fieldLink RX6 10 "SignedCalls" "accounts" "LSignedCalls$Accounts;", Cond.classLink RX6 16 RX4, Cond.instantiable RX4 3, Cond.initialized RX4, Cond.fieldLink RX6 19 "SignedCalls" "signatures" "LSignedCalls$Signatures;", Cond.classLink RX6 23 RX2, Cond.instantiable RX2 4, Cond.initialized RX2, Cond.fieldLink RX6 26 "SignedCalls" "draft" "LSignedCalls$Draft;", Cond.classLink RX6 30 RX5, Cond.instantiable RX5 3, Cond.initialized RX5, Cond.fieldLink RX6 33 "SignedCalls" "row" "LSignedCalls$WaitingRow;", Cond.classLink RX6 37 RX3, Cond.instantiable RX3 6, Cond.initialized RX3, Cond.fieldLink RX6 40 "SignedCalls" "log" "LSignedCalls$EventLog;", Cond.fieldLink RX6 44 "SignedCalls" "priceStep" "I"]
def wsX6_init_r2 : List Cond := [Cond.instanceMethod yX0_init, Cond.code yX0_init cX0_init 1 none, Cond.methodLink RX0 3 objectInit, Cond.arrayClass .long, Cond.fieldLink RX0 9 "SignedCalls$Accounts" "funds" "[J", Cond.arrayClass .int, Cond.fieldLink RX0 15 "SignedCalls$Accounts" "nexts" "[I", Cond.fieldLink RX0 19 "SignedCalls$Accounts" "keys" "[I", Cond.fieldLink RX0 22 "SignedCalls$Accounts" "thresholds" "[I", Cond.instanceMethod yX4_init, Cond.code yX4_init cX4_init 1 none, Cond.methodLink RX4 3 objectInit, Cond.fieldLink RX4 9 "SignedCalls$Signatures" "keys" "[I", Cond.fieldLink RX4 15 "SignedCalls$Signatures" "digests" "[J", Cond.instanceMethod yX2_init, Cond.code yX2_init cX2_init 1 none, Cond.methodLink RX2 3 objectInit, Cond.classLink RX2 9 RX1, Cond.instantiable RX1 12, Cond.initialized RX1, Cond.fieldLink RX2 12 "SignedCalls$Draft" "call" "LSignedCalls$Call;", Cond.fieldLink RX2 18 "SignedCalls$Draft" "signatures" "[I", Cond.instanceMethod yX1_init, Cond.code yX1_init cX1_init 1 none]
def wsX6_init_r3 : List Cond := [Cond.methodLink RX1 3 objectInit, Cond.fieldLink RX1 9 "SignedCalls$Call" "receivers" "[I", Cond.fieldLink RX1 15 "SignedCalls$Call" "amounts" "[J", Cond.methodLink RX6 32 yX5_init, Cond.instanceMethod yX5_init, Cond.code yX5_init cX5_init 2 none, Cond.methodLink RX5 3 objectInit, Cond.classLink RX5 9 RX1, Cond.fieldLink RX5 11 "SignedCalls$WaitingRow" "calls" "[LSignedCalls$Call;", Cond.instanceMethod yX3_init, Cond.code yX3_init cX3_init 1 none, Cond.methodLink RX3 3 objectInit, Cond.fieldLink RX3 9 "SignedCalls$EventLog" "tickets" "[I", Cond.fieldLink RX3 15 "SignedCalls$EventLog" "whys" "[I", Cond.fieldLink RX3 18 "SignedCalls$EventLog" "units" "[I", Cond.fieldLink RX3 21 "SignedCalls$EventLog" "newest" "I"]
def wsX6_init : List Cond := .code yX6_init cX6_init 1 none :: ((wsX6_init_r1 ++ (wsX6_init_r2 ++ wsX6_init_r3)) ++ wsX00 ++ wsX60 ++ wsX40 ++ wsX20 ++ wsX50 ++ wsX30 ++ wsX10)
def wsX6_isAmount : List Cond := .code yX6_isAmount cX6_isAmount 2 (some .boolean) :: ([.constantLong RX6 216 (1000000000000)])
def wsX6_isLock : List Cond := .code yX6_isLock cX6_isLock 2 (some .boolean) :: ([.constant RX6 218 (65536), .methodLink RX6 219 yJ6_bitCount_0f7a4, .static yJ6_bitCount_0f7a4, .initialized RJ6, .code yJ6_bitCount_0f7a4 cJ6_bitCount_0f7a4 1 (some .int), .constant RJ6 265 (1431655765), .constant RJ6 266 (858993459), .constant RJ6 267 (252645135)])
def wsX6_account_r1 : List Cond := [Cond.fieldLink RX6 10 "SignedCalls" "accounts" "LSignedCalls$Accounts;", Cond.fieldLink RX6 56 "SignedCalls$Accounts" "count" "I", Cond.methodLink RX6 48 yX6_isAmount, Cond.static yX6_isAmount, Cond.initialized RX6, Cond.code yX6_isAmount cX6_isAmount 2 (some .boolean), Cond.constantLong RX6 216 (1000000000000), Cond.methodLink RX6 52 yX6_isLock, Cond.static yX6_isLock, Cond.code yX6_isLock cX6_isLock 2 (some .boolean), Cond.constant RX6 218 (65536), Cond.methodLink RX6 219 yJ6_bitCount_0f7a4, Cond.static yJ6_bitCount_0f7a4, Cond.initialized RJ6, Cond.code yJ6_bitCount_0f7a4 cJ6_bitCount_0f7a4 1 (some .int), Cond.constant RJ6 265 (1431655765), Cond.constant RJ6 266 (858993459), Cond.constant RJ6 267 (252645135), Cond.methodLink RX6 59 yX0_open, Cond.instanceMethod yX0_open, Cond.selects RX0 yX0_open yX0_open, Cond.initialized RX0, Cond.code yX0_open cX0_open 6 (some .int), Cond.fieldLink RX0 25 "SignedCalls$Accounts" "count" "I"]
def wsX6_account_r2 : List Cond := [Cond.fieldLink RX0 9 "SignedCalls$Accounts" "funds" "[J", Cond.methodLink RX0 29 yX0_setLock, Cond.instanceMethod yX0_setLock, Cond.selects RX0 yX0_setLock yX0_setLock, Cond.code yX0_setLock cX0_setLock 4 none, Cond.fieldLink RX0 19 "SignedCalls$Accounts" "keys" "[I", Cond.fieldLink RX0 22 "SignedCalls$Accounts" "thresholds" "[I"]
def wsX6_account : List Cond := .code yX6_account cX6_account 5 (some .int) :: ((wsX6_account_r1 ++ wsX6_account_r2) ++ wsX60 ++ wsX00)
def wsX6_lock_r1 : List Cond := [Cond.fieldLink RX6 10 "SignedCalls" "accounts" "LSignedCalls$Accounts;", Cond.methodLink RX6 63 yX0_has, Cond.instanceMethod yX0_has, Cond.selects RX0 yX0_has yX0_has, Cond.initialized RX0, Cond.code yX0_has cX0_has 2 (some .boolean), Cond.fieldLink RX0 25 "SignedCalls$Accounts" "count" "I", Cond.methodLink RX6 52 yX6_isLock, Cond.static yX6_isLock, Cond.initialized RX6, Cond.code yX6_isLock cX6_isLock 2 (some .boolean), Cond.constant RX6 218 (65536), Cond.methodLink RX6 219 yJ6_bitCount_0f7a4, Cond.static yJ6_bitCount_0f7a4, Cond.initialized RJ6, Cond.code yJ6_bitCount_0f7a4 cJ6_bitCount_0f7a4 1 (some .int), Cond.constant RJ6 265 (1431655765), Cond.constant RJ6 266 (858993459), Cond.constant RJ6 267 (252645135), Cond.methodLink RX6 67 yX0_setLock, Cond.instanceMethod yX0_setLock, Cond.selects RX0 yX0_setLock yX0_setLock, Cond.code yX0_setLock cX0_setLock 4 none, Cond.fieldLink RX0 19 "SignedCalls$Accounts" "keys" "[I"]
def wsX6_lock_r2 : List Cond := [Cond.fieldLink RX0 22 "SignedCalls$Accounts" "thresholds" "[I"]
def wsX6_lock : List Cond := .code yX6_lock cX6_lock 4 (some .int) :: ((wsX6_lock_r1 ++ wsX6_lock_r2) ++ wsX60 ++ wsX00)
def wsX6_funds : List Cond := .code yX6_funds cX6_funds 2 (some .long) :: ([.fieldLink RX6 10 "SignedCalls" "accounts" "LSignedCalls$Accounts;", .fieldLink RX6 71 "SignedCalls$Accounts" "funds" "[J", .constantLong RX6 75 (-1), .methodLink RX6 63 yX0_has, .instanceMethod yX0_has, .selects RX0 yX0_has yX0_has, .initialized RX0, .code yX0_has cX0_has 2 (some .boolean), .fieldLink RX0 25 "SignedCalls$Accounts" "count" "I"] ++ wsX60 ++ wsX00)
def wsX6_next : List Cond := .code yX6_next cX6_next 2 (some .int) :: ([.fieldLink RX6 10 "SignedCalls" "accounts" "LSignedCalls$Accounts;", .fieldLink RX6 77 "SignedCalls$Accounts" "nexts" "[I", .methodLink RX6 63 yX0_has, .instanceMethod yX0_has, .selects RX0 yX0_has yX0_has, .initialized RX0, .code yX0_has cX0_has 2 (some .boolean), .fieldLink RX0 25 "SignedCalls$Accounts" "count" "I"] ++ wsX60 ++ wsX00)
def wsX6_sign : List Cond := .code yX6_sign cX6_sign 4 (some .int) :: ([.fieldLink RX6 19 "SignedCalls" "signatures" "LSignedCalls$Signatures;", .fieldLink RX6 81 "SignedCalls$Signatures" "count" "I", .methodLink RX6 82 yX4_keep, .instanceMethod yX4_keep, .selects RX4 yX4_keep yX4_keep, .initialized RX4, .code yX4_keep cX4_keep 5 (some .int), .fieldLink RX4 19 "SignedCalls$Signatures" "count" "I", .fieldLink RX4 9 "SignedCalls$Signatures" "keys" "[I", .fieldLink RX4 15 "SignedCalls$Signatures" "digests" "[J"] ++ wsX60 ++ wsX40)
def wsX6_draft_r1 : List Cond := [Cond.fieldLink RX6 10 "SignedCalls" "accounts" "LSignedCalls$Accounts;", Cond.constant RX6 86 (1000000), Cond.fieldLink RX6 26 "SignedCalls" "draft" "LSignedCalls$Draft;", Cond.methodLink RX6 63 yX0_has, Cond.instanceMethod yX0_has, Cond.selects RX0 yX0_has yX0_has, Cond.initialized RX0, Cond.code yX0_has cX0_has 2 (some .boolean), Cond.fieldLink RX0 25 "SignedCalls$Accounts" "count" "I", Cond.methodLink RX6 87 yX2_begin, Cond.instanceMethod yX2_begin, Cond.selects RX2 yX2_begin yX2_begin, Cond.initialized RX2, Cond.code yX2_begin cX2_begin 5 none, Cond.fieldLink RX2 12 "SignedCalls$Draft" "call" "LSignedCalls$Call;", Cond.fieldLink RX2 26 "SignedCalls$Draft" "added" "I", Cond.fieldLink RX2 30 "SignedCalls$Draft" "isThere" "Z", Cond.methodLink RX2 22 yX1_begin, Cond.instanceMethod yX1_begin, Cond.selects RX1 yX1_begin yX1_begin, Cond.initialized RX1, Cond.code yX1_begin cX1_begin 5 none, Cond.fieldLink RX1 19 "SignedCalls$Call" "owner" "I", Cond.fieldLink RX1 23 "SignedCalls$Call" "number" "I"]
def wsX6_draft_r2 : List Cond := [Cond.fieldLink RX1 26 "SignedCalls$Call" "price" "I", Cond.fieldLink RX1 29 "SignedCalls$Call" "limit" "I", Cond.constant RX1 32 (1000000), Cond.fieldLink RX1 33 "SignedCalls$Call" "end" "I", Cond.fieldLink RX1 36 "SignedCalls$Call" "start" "I", Cond.fieldLink RX1 39 "SignedCalls$Call" "sponsor" "I", Cond.fieldLink RX1 42 "SignedCalls$Call" "acts" "I"]
def wsX6_draft : List Cond := .code yX6_draft cX6_draft 5 (some .int) :: ((wsX6_draft_r1 ++ wsX6_draft_r2) ++ wsX60 ++ wsX00 ++ wsX20 ++ wsX10)
def wsX6_isHeight : List Cond := .code yX6_isHeight cX6_isHeight 1 (some .boolean) :: ([.constant RX6 86 (1000000)])
def wsX6_until : List Cond := .code yX6_until cX6_until 2 (some .int) :: ([.fieldLink RX6 26 "SignedCalls" "draft" "LSignedCalls$Draft;", .fieldLink RX6 94 "SignedCalls$Draft" "isThere" "Z", .fieldLink RX6 98 "SignedCalls$Draft" "call" "LSignedCalls$Call;", .fieldLink RX6 102 "SignedCalls$Call" "end" "I", .methodLink RX6 91 yX6_isHeight, .static yX6_isHeight, .initialized RX6, .code yX6_isHeight cX6_isHeight 1 (some .boolean), .constant RX6 86 (1000000)] ++ wsX60 ++ wsX20 ++ wsX10)
def wsX6_from : List Cond := .code yX6_from cX6_from 2 (some .int) :: ([.fieldLink RX6 26 "SignedCalls" "draft" "LSignedCalls$Draft;", .fieldLink RX6 94 "SignedCalls$Draft" "isThere" "Z", .fieldLink RX6 98 "SignedCalls$Draft" "call" "LSignedCalls$Call;", .fieldLink RX6 107 "SignedCalls$Call" "start" "I", .methodLink RX6 91 yX6_isHeight, .static yX6_isHeight, .initialized RX6, .code yX6_isHeight cX6_isHeight 1 (some .boolean), .constant RX6 86 (1000000)] ++ wsX60 ++ wsX20 ++ wsX10)
def wsX6_sponsor : List Cond := .code yX6_sponsor cX6_sponsor 2 (some .int) :: ([.fieldLink RX6 10 "SignedCalls" "accounts" "LSignedCalls$Accounts;", .fieldLink RX6 26 "SignedCalls" "draft" "LSignedCalls$Draft;", .fieldLink RX6 94 "SignedCalls$Draft" "isThere" "Z", .fieldLink RX6 98 "SignedCalls$Draft" "call" "LSignedCalls$Call;", .fieldLink RX6 110 "SignedCalls$Call" "sponsor" "I", .methodLink RX6 63 yX0_has, .instanceMethod yX0_has, .selects RX0 yX0_has yX0_has, .initialized RX0, .code yX0_has cX0_has 2 (some .boolean), .fieldLink RX0 25 "SignedCalls$Accounts" "count" "I"] ++ wsX60 ++ wsX20 ++ wsX10 ++ wsX00)
def wsX6_act : List Cond := .code yX6_act cX6_act 4 (some .int) :: ([.fieldLink RX6 10 "SignedCalls" "accounts" "LSignedCalls$Accounts;", .fieldLink RX6 26 "SignedCalls" "draft" "LSignedCalls$Draft;", .fieldLink RX6 94 "SignedCalls$Draft" "isThere" "Z", .fieldLink RX6 98 "SignedCalls$Draft" "call" "LSignedCalls$Call;", .fieldLink RX6 113 "SignedCalls$Call" "acts" "I", .methodLink RX6 63 yX0_has, .instanceMethod yX0_has, .selects RX0 yX0_has yX0_has, .initialized RX0, .code yX0_has cX0_has 2 (some .boolean), .fieldLink RX0 25 "SignedCalls$Accounts" "count" "I", .methodLink RX6 48 yX6_isAmount, .static yX6_isAmount, .initialized RX6, .code yX6_isAmount cX6_isAmount 2 (some .boolean), .constantLong RX6 216 (1000000000000), .methodLink RX6 116 yX1_append, .instanceMethod yX1_append, .selects RX1 yX1_append yX1_append, .initialized RX1, .code yX1_append cX1_append 4 (some .int), .fieldLink RX1 9 "SignedCalls$Call" "receivers" "[I", .fieldLink RX1 42 "SignedCalls$Call" "acts" "I", .fieldLink RX1 15 "SignedCalls$Call" "amounts" "[J"] ++ wsX60 ++ wsX20 ++ wsX10 ++ wsX00)
def wsX6_add : List Cond := .code yX6_add cX6_add 2 (some .int) :: ([.fieldLink RX6 19 "SignedCalls" "signatures" "LSignedCalls$Signatures;", .fieldLink RX6 26 "SignedCalls" "draft" "LSignedCalls$Draft;", .fieldLink RX6 94 "SignedCalls$Draft" "isThere" "Z", .fieldLink RX6 120 "SignedCalls$Draft" "added" "I", .methodLink RX6 119 yX4_has, .instanceMethod yX4_has, .selects RX4 yX4_has yX4_has, .initialized RX4, .code yX4_has cX4_has 2 (some .boolean), .fieldLink RX4 19 "SignedCalls$Signatures" "count" "I", .methodLink RX6 123 yX2_append, .instanceMethod yX2_append, .selects RX2 yX2_append yX2_append, .initialized RX2, .code yX2_append cX2_append 2 (some .int), .fieldLink RX2 18 "SignedCalls$Draft" "signatures" "[I", .fieldLink RX2 26 "SignedCalls$Draft" "added" "I"] ++ wsX60 ++ wsX20 ++ wsX40)
def wsX6_digest : List Cond := .code yX6_digest cX6_digest 1 (some .long) :: ([.fieldLink RX6 26 "SignedCalls" "draft" "LSignedCalls$Draft;", .fieldLink RX6 94 "SignedCalls$Draft" "isThere" "Z", .fieldLink RX6 98 "SignedCalls$Draft" "call" "LSignedCalls$Call;", .methodLink RX6 126 yX1_computeDigest, .instanceMethod yX1_computeDigest, .selects RX1 yX1_computeDigest yX1_computeDigest, .initialized RX1, .code yX1_computeDigest cX1_computeDigest 4 (some .long), .constantLong RX1 53 (17), .constantLong RX1 55 (31), .fieldLink RX1 19 "SignedCalls$Call" "owner" "I", .fieldLink RX1 23 "SignedCalls$Call" "number" "I", .fieldLink RX1 26 "SignedCalls$Call" "price" "I", .fieldLink RX1 29 "SignedCalls$Call" "limit" "I", .fieldLink RX1 33 "SignedCalls$Call" "end" "I", .fieldLink RX1 36 "SignedCalls$Call" "start" "I", .fieldLink RX1 39 "SignedCalls$Call" "sponsor" "I", .fieldLink RX1 42 "SignedCalls$Call" "acts" "I", .fieldLink RX1 9 "SignedCalls$Call" "receivers" "[I", .fieldLink RX1 15 "SignedCalls$Call" "amounts" "[J"] ++ wsX60 ++ wsX20 ++ wsX10)
def wsX6_signersOfDraft : List Cond := .code yX6_signersOfDraft cX6_signersOfDraft 6 (some .int) :: ([.fieldLink RX6 26 "SignedCalls" "draft" "LSignedCalls$Draft;", .fieldLink RX6 98 "SignedCalls$Draft" "call" "LSignedCalls$Call;", .fieldLink RX6 120 "SignedCalls$Draft" "added" "I", .fieldLink RX6 237 "SignedCalls$Draft" "signatures" "[I", .fieldLink RX6 19 "SignedCalls" "signatures" "LSignedCalls$Signatures;", .fieldLink RX6 239 "SignedCalls$Signatures" "digests" "[J", .fieldLink RX6 242 "SignedCalls$Signatures" "keys" "[I", .methodLink RX6 126 yX1_computeDigest, .instanceMethod yX1_computeDigest, .selects RX1 yX1_computeDigest yX1_computeDigest, .initialized RX1, .code yX1_computeDigest cX1_computeDigest 4 (some .long), .constantLong RX1 53 (17), .constantLong RX1 55 (31), .fieldLink RX1 19 "SignedCalls$Call" "owner" "I", .fieldLink RX1 23 "SignedCalls$Call" "number" "I", .fieldLink RX1 26 "SignedCalls$Call" "price" "I", .fieldLink RX1 29 "SignedCalls$Call" "limit" "I", .fieldLink RX1 33 "SignedCalls$Call" "end" "I", .fieldLink RX1 36 "SignedCalls$Call" "start" "I", .fieldLink RX1 39 "SignedCalls$Call" "sponsor" "I", .fieldLink RX1 42 "SignedCalls$Call" "acts" "I", .fieldLink RX1 9 "SignedCalls$Call" "receivers" "[I", .fieldLink RX1 15 "SignedCalls$Call" "amounts" "[J"] ++ wsX60 ++ wsX20 ++ wsX40 ++ wsX10)
def wsX6_coversStake : List Cond := .code yX6_coversStake cX6_coversStake 2 (some .boolean) :: ([.fieldLink RX6 10 "SignedCalls" "accounts" "LSignedCalls$Accounts;", .fieldLink RX6 71 "SignedCalls$Accounts" "funds" "[J", .methodLink RX6 245 yX1_payer, .instanceMethod yX1_payer, .selects RX1 yX1_payer yX1_payer, .initialized RX1, .code yX1_payer cX1_payer 1 (some .int), .fieldLink RX1 39 "SignedCalls$Call" "sponsor" "I", .fieldLink RX1 19 "SignedCalls$Call" "owner" "I", .methodLink RX6 248 yX1_stake, .instanceMethod yX1_stake, .selects RX1 yX1_stake yX1_stake, .code yX1_stake cX1_stake 1 (some .long), .fieldLink RX1 26 "SignedCalls$Call" "price" "I", .fieldLink RX1 29 "SignedCalls$Call" "limit" "I"] ++ wsX60 ++ wsX00 ++ wsX10)
def wsX6_refusalByRow : List Cond := .code yX6_refusalByRow cX6_refusalByRow 3 (some .int) :: ([.fieldLink RX6 188 "SignedCalls$Call" "price" "I", .fieldLink RX6 33 "SignedCalls" "row" "LSignedCalls$WaitingRow;", .fieldLink RX6 184 "SignedCalls$WaitingRow" "calls" "[LSignedCalls$Call;", .fieldLink RX6 44 "SignedCalls" "priceStep" "I", .methodLink RX6 147 yX5_isFull, .instanceMethod yX5_isFull, .selects RX5 yX5_isFull yX5_isFull, .initialized RX5, .code yX5_isFull cX5_isFull 1 (some .boolean), .fieldLink RX5 18 "SignedCalls$WaitingRow" "count" "I", .methodLink RX6 151 yX5_cheapest, .instanceMethod yX5_cheapest, .selects RX5 yX5_cheapest yX5_cheapest, .code yX5_cheapest cX5_cheapest 3 (some .int), .fieldLink RX5 11 "SignedCalls$WaitingRow" "calls" "[LSignedCalls$Call;", .fieldLink RX5 28 "SignedCalls$Call" "price" "I"] ++ wsX10 ++ wsX60 ++ wsX50)
def wsX6_refusal_r1 : List Cond := [Cond.fieldLink RX6 113 "SignedCalls$Call" "acts" "I", Cond.fieldLink RX6 102 "SignedCalls$Call" "end" "I", Cond.fieldLink RX6 158 "SignedCalls" "height" "I", Cond.fieldLink RX6 133 "SignedCalls$Call" "number" "I", Cond.fieldLink RX6 10 "SignedCalls" "accounts" "LSignedCalls$Accounts;", Cond.fieldLink RX6 77 "SignedCalls$Accounts" "nexts" "[I", Cond.fieldLink RX6 130 "SignedCalls$Call" "owner" "I", Cond.fieldLink RX6 110 "SignedCalls$Call" "sponsor" "I", Cond.methodLink RX6 224 yX6_signersOfDraft, Cond.instanceMethod yX6_signersOfDraft, Cond.selects RX6 yX6_signersOfDraft yX6_signersOfDraft, Cond.initialized RX6, Cond.code yX6_signersOfDraft cX6_signersOfDraft 6 (some .int), Cond.fieldLink RX6 26 "SignedCalls" "draft" "LSignedCalls$Draft;", Cond.fieldLink RX6 98 "SignedCalls$Draft" "call" "LSignedCalls$Call;", Cond.fieldLink RX6 120 "SignedCalls$Draft" "added" "I", Cond.fieldLink RX6 237 "SignedCalls$Draft" "signatures" "[I", Cond.fieldLink RX6 19 "SignedCalls" "signatures" "LSignedCalls$Signatures;", Cond.fieldLink RX6 239 "SignedCalls$Signatures" "digests" "[J", Cond.fieldLink RX6 242 "SignedCalls$Signatures" "keys" "[I", Cond.methodLink RX6 126 yX1_computeDigest, Cond.instanceMethod yX1_computeDigest, Cond.selects RX1 yX1_computeDigest yX1_computeDigest, Cond.initialized RX1]
def wsX6_refusal_r2 : List Cond := [Cond.code yX1_computeDigest cX1_computeDigest 4 (some .long), Cond.constantLong RX1 53 (17), Cond.constantLong RX1 55 (31), Cond.fieldLink RX1 19 "SignedCalls$Call" "owner" "I", Cond.fieldLink RX1 23 "SignedCalls$Call" "number" "I", Cond.fieldLink RX1 26 "SignedCalls$Call" "price" "I", Cond.fieldLink RX1 29 "SignedCalls$Call" "limit" "I", Cond.fieldLink RX1 33 "SignedCalls$Call" "end" "I", Cond.fieldLink RX1 36 "SignedCalls$Call" "start" "I", Cond.fieldLink RX1 39 "SignedCalls$Call" "sponsor" "I", Cond.fieldLink RX1 42 "SignedCalls$Call" "acts" "I", Cond.fieldLink RX1 9 "SignedCalls$Call" "receivers" "[I", Cond.fieldLink RX1 15 "SignedCalls$Call" "amounts" "[J", Cond.methodLink RX6 227 yX0_isMet, Cond.instanceMethod yX0_isMet, Cond.selects RX0 yX0_isMet yX0_isMet, Cond.initialized RX0, Cond.code yX0_isMet cX0_isMet 3 (some .boolean), Cond.fieldLink RX0 19 "SignedCalls$Accounts" "keys" "[I", Cond.fieldLink RX0 22 "SignedCalls$Accounts" "thresholds" "[I", Cond.methodLink RX0 33 yJ6_bitCount_0f7a4, Cond.static yJ6_bitCount_0f7a4, Cond.initialized RJ6, Cond.code yJ6_bitCount_0f7a4 cJ6_bitCount_0f7a4 1 (some .int)]
def wsX6_refusal_r3 : List Cond := [Cond.constant RJ6 265 (1431655765), Cond.constant RJ6 266 (858993459), Cond.constant RJ6 267 (252645135), Cond.methodLink RX6 230 yX6_coversStake, Cond.instanceMethod yX6_coversStake, Cond.selects RX6 yX6_coversStake yX6_coversStake, Cond.code yX6_coversStake cX6_coversStake 2 (some .boolean), Cond.fieldLink RX6 71 "SignedCalls$Accounts" "funds" "[J", Cond.methodLink RX6 245 yX1_payer, Cond.instanceMethod yX1_payer, Cond.selects RX1 yX1_payer yX1_payer, Cond.code yX1_payer cX1_payer 1 (some .int), Cond.methodLink RX6 248 yX1_stake, Cond.instanceMethod yX1_stake, Cond.selects RX1 yX1_stake yX1_stake, Cond.code yX1_stake cX1_stake 1 (some .long), Cond.methodLink RX6 234 yX6_refusalByRow, Cond.instanceMethod yX6_refusalByRow, Cond.selects RX6 yX6_refusalByRow yX6_refusalByRow, Cond.code yX6_refusalByRow cX6_refusalByRow 3 (some .int), Cond.fieldLink RX6 188 "SignedCalls$Call" "price" "I", Cond.fieldLink RX6 33 "SignedCalls" "row" "LSignedCalls$WaitingRow;", Cond.fieldLink RX6 184 "SignedCalls$WaitingRow" "calls" "[LSignedCalls$Call;", Cond.fieldLink RX6 44 "SignedCalls" "priceStep" "I"]
def wsX6_refusal_r4 : List Cond := [Cond.methodLink RX6 147 yX5_isFull, Cond.instanceMethod yX5_isFull, Cond.selects RX5 yX5_isFull yX5_isFull, Cond.initialized RX5, Cond.code yX5_isFull cX5_isFull 1 (some .boolean), Cond.fieldLink RX5 18 "SignedCalls$WaitingRow" "count" "I", Cond.methodLink RX6 151 yX5_cheapest, Cond.instanceMethod yX5_cheapest, Cond.selects RX5 yX5_cheapest yX5_cheapest, Cond.code yX5_cheapest cX5_cheapest 3 (some .int), Cond.fieldLink RX5 11 "SignedCalls$WaitingRow" "calls" "[LSignedCalls$Call;", Cond.fieldLink RX5 28 "SignedCalls$Call" "price" "I"]
def wsX6_refusal : List Cond := .code yX6_refusal cX6_refusal 4 (some .int) :: ((wsX6_refusal_r1 ++ (wsX6_refusal_r2 ++ (wsX6_refusal_r3 ++ wsX6_refusal_r4))) ++ wsX10 ++ wsX60 ++ wsX00 ++ wsX20 ++ wsX40 ++ wsX50)
def wsX6_end_r1 : List Cond := [Cond.fieldLink RX6 33 "SignedCalls" "row" "LSignedCalls$WaitingRow;", Cond.fieldLink RX6 40 "SignedCalls" "log" "LSignedCalls$EventLog;", Cond.fieldLink RX6 174 "SignedCalls$Call" "ticket" "I", Cond.methodLink RX6 167 yX5_take, Cond.instanceMethod yX5_take, Cond.selects RX5 yX5_take yX5_take, Cond.initialized RX5, Cond.code yX5_take cX5_take 4 (some (.object "SignedCalls$Call")), Cond.fieldLink RX5 11 "SignedCalls$WaitingRow" "calls" "[LSignedCalls$Call;", Cond.fieldLink RX5 18 "SignedCalls$WaitingRow" "count" "I", Cond.methodLink RX6 180 yX3_note, Cond.instanceMethod yX3_note, Cond.selects RX3 yX3_note yX3_note, Cond.initialized RX3, Cond.code yX3_note cX3_note 4 none, Cond.fieldLink RX3 21 "SignedCalls$EventLog" "newest" "I", Cond.fieldLink RX3 9 "SignedCalls$EventLog" "tickets" "[I", Cond.fieldLink RX3 15 "SignedCalls$EventLog" "whys" "[I", Cond.fieldLink RX3 18 "SignedCalls$EventLog" "units" "[I", Cond.fieldLink RX3 25 "SignedCalls$EventLog" "kept" "I", Cond.methodLink RX3 28 Lib.Math.min.name, Cond.static Lib.Math.min.name, Cond.initialized "java/lang/Math", Cond.code Lib.Math.min.name Lib.Math.min.code 2 (some .int)]
def wsX6_end_r2 : List Cond := [Cond.fieldLink RX3 34 "SignedCalls$EventLog" "inAll" "I"]
def wsX6_end : List Cond := .code yX6_end cX6_end 4 none :: ((wsX6_end_r1 ++ wsX6_end_r2) ++ wsX60 ++ wsX10 ++ wsX50 ++ wsX30)
def wsX6_offer_r1 : List Cond := [Cond.fieldLink RX6 26 "SignedCalls" "draft" "LSignedCalls$Draft;", Cond.fieldLink RX6 94 "SignedCalls$Draft" "isThere" "Z", Cond.fieldLink RX6 98 "SignedCalls$Draft" "call" "LSignedCalls$Call;", Cond.fieldLink RX6 33 "SignedCalls" "row" "LSignedCalls$WaitingRow;", Cond.fieldLink RX6 130 "SignedCalls$Call" "owner" "I", Cond.fieldLink RX6 133 "SignedCalls$Call" "number" "I", Cond.methodLink RX6 136 yX5_indexOf, Cond.instanceMethod yX5_indexOf, Cond.selects RX5 yX5_indexOf yX5_indexOf, Cond.initialized RX5, Cond.code yX5_indexOf cX5_indexOf 4 (some .int), Cond.fieldLink RX5 18 "SignedCalls$WaitingRow" "count" "I", Cond.fieldLink RX5 11 "SignedCalls$WaitingRow" "calls" "[LSignedCalls$Call;", Cond.fieldLink RX5 22 "SignedCalls$Call" "owner" "I", Cond.fieldLink RX5 25 "SignedCalls$Call" "number" "I", Cond.methodLink RX6 140 yX6_refusal, Cond.instanceMethod yX6_refusal, Cond.selects RX6 yX6_refusal yX6_refusal, Cond.initialized RX6, Cond.code yX6_refusal cX6_refusal 4 (some .int), Cond.fieldLink RX6 113 "SignedCalls$Call" "acts" "I", Cond.fieldLink RX6 102 "SignedCalls$Call" "end" "I", Cond.fieldLink RX6 158 "SignedCalls" "height" "I", Cond.fieldLink RX6 10 "SignedCalls" "accounts" "LSignedCalls$Accounts;"]
def wsX6_offer_r2 : List Cond := [Cond.fieldLink RX6 77 "SignedCalls$Accounts" "nexts" "[I", Cond.fieldLink RX6 110 "SignedCalls$Call" "sponsor" "I", Cond.methodLink RX6 224 yX6_signersOfDraft, Cond.instanceMethod yX6_signersOfDraft, Cond.selects RX6 yX6_signersOfDraft yX6_signersOfDraft, Cond.code yX6_signersOfDraft cX6_signersOfDraft 6 (some .int), Cond.fieldLink RX6 120 "SignedCalls$Draft" "added" "I", Cond.fieldLink RX6 237 "SignedCalls$Draft" "signatures" "[I", Cond.fieldLink RX6 19 "SignedCalls" "signatures" "LSignedCalls$Signatures;", Cond.fieldLink RX6 239 "SignedCalls$Signatures" "digests" "[J", Cond.fieldLink RX6 242 "SignedCalls$Signatures" "keys" "[I", Cond.methodLink RX6 126 yX1_computeDigest, Cond.instanceMethod yX1_computeDigest, Cond.selects RX1 yX1_computeDigest yX1_computeDigest, Cond.initialized RX1, Cond.code yX1_computeDigest cX1_computeDigest 4 (some .long), Cond.constantLong RX1 53 (17), Cond.constantLong RX1 55 (31), Cond.fieldLink RX1 19 "SignedCalls$Call" "owner" "I", Cond.fieldLink RX1 23 "SignedCalls$Call" "number" "I", Cond.fieldLink RX1 26 "SignedCalls$Call" "price" "I", Cond.fieldLink RX1 29 "SignedCalls$Call" "limit" "I", Cond.fieldLink RX1 33 "SignedCalls$Call" "end" "I", Cond.fieldLink RX1 36 "SignedCalls$Call" "start" "I"]
def wsX6_offer_r3 : List Cond := [Cond.fieldLink RX1 39 "SignedCalls$Call" "sponsor" "I", Cond.fieldLink RX1 42 "SignedCalls$Call" "acts" "I", Cond.fieldLink RX1 9 "SignedCalls$Call" "receivers" "[I", Cond.fieldLink RX1 15 "SignedCalls$Call" "amounts" "[J", Cond.methodLink RX6 227 yX0_isMet, Cond.instanceMethod yX0_isMet, Cond.selects RX0 yX0_isMet yX0_isMet, Cond.initialized RX0, Cond.code yX0_isMet cX0_isMet 3 (some .boolean), Cond.fieldLink RX0 19 "SignedCalls$Accounts" "keys" "[I", Cond.fieldLink RX0 22 "SignedCalls$Accounts" "thresholds" "[I", Cond.methodLink RX0 33 yJ6_bitCount_0f7a4, Cond.static yJ6_bitCount_0f7a4, Cond.initialized RJ6, Cond.code yJ6_bitCount_0f7a4 cJ6_bitCount_0f7a4 1 (some .int), Cond.constant RJ6 265 (1431655765), Cond.constant RJ6 266 (858993459), Cond.constant RJ6 267 (252645135), Cond.methodLink RX6 230 yX6_coversStake, Cond.instanceMethod yX6_coversStake, Cond.selects RX6 yX6_coversStake yX6_coversStake, Cond.code yX6_coversStake cX6_coversStake 2 (some .boolean), Cond.fieldLink RX6 71 "SignedCalls$Accounts" "funds" "[J", Cond.methodLink RX6 245 yX1_payer]
def wsX6_offer_r4 : List Cond := [Cond.instanceMethod yX1_payer, Cond.selects RX1 yX1_payer yX1_payer, Cond.code yX1_payer cX1_payer 1 (some .int), Cond.methodLink RX6 248 yX1_stake, Cond.instanceMethod yX1_stake, Cond.selects RX1 yX1_stake yX1_stake, Cond.code yX1_stake cX1_stake 1 (some .long), Cond.methodLink RX6 234 yX6_refusalByRow, Cond.instanceMethod yX6_refusalByRow, Cond.selects RX6 yX6_refusalByRow yX6_refusalByRow, Cond.code yX6_refusalByRow cX6_refusalByRow 3 (some .int), Cond.fieldLink RX6 188 "SignedCalls$Call" "price" "I", Cond.fieldLink RX6 184 "SignedCalls$WaitingRow" "calls" "[LSignedCalls$Call;", Cond.fieldLink RX6 44 "SignedCalls" "priceStep" "I", Cond.methodLink RX6 147 yX5_isFull, Cond.instanceMethod yX5_isFull, Cond.selects RX5 yX5_isFull yX5_isFull, Cond.code yX5_isFull cX5_isFull 1 (some .boolean), Cond.methodLink RX6 151 yX5_cheapest, Cond.instanceMethod yX5_cheapest, Cond.selects RX5 yX5_cheapest yX5_cheapest, Cond.code yX5_cheapest cX5_cheapest 3 (some .int), Cond.fieldLink RX5 28 "SignedCalls$Call" "price" "I", Cond.methodLink RX6 144 yX6_end]
def wsX6_offer_r5 : List Cond := [Cond.instanceMethod yX6_end, Cond.selects RX6 yX6_end yX6_end, Cond.code yX6_end cX6_end 4 none, Cond.fieldLink RX6 40 "SignedCalls" "log" "LSignedCalls$EventLog;", Cond.fieldLink RX6 174 "SignedCalls$Call" "ticket" "I", Cond.methodLink RX6 167 yX5_take, Cond.instanceMethod yX5_take, Cond.selects RX5 yX5_take yX5_take, Cond.code yX5_take cX5_take 4 (some (.object "SignedCalls$Call")), Cond.methodLink RX6 180 yX3_note, Cond.instanceMethod yX3_note, Cond.selects RX3 yX3_note yX3_note, Cond.initialized RX3, Cond.code yX3_note cX3_note 4 none, Cond.fieldLink RX3 21 "SignedCalls$EventLog" "newest" "I", Cond.fieldLink RX3 9 "SignedCalls$EventLog" "tickets" "[I", Cond.fieldLink RX3 15 "SignedCalls$EventLog" "whys" "[I", Cond.fieldLink RX3 18 "SignedCalls$EventLog" "units" "[I", Cond.fieldLink RX3 25 "SignedCalls$EventLog" "kept" "I", Cond.methodLink RX3 28 Lib.Math.min.name, Cond.static Lib.Math.min.name, Cond.initialized "java/lang/Math", Cond.code Lib.Math.min.name Lib.Math.min.code 2 (some .int), Cond.fieldLink RX3 34 "SignedCalls$EventLog" "inAll" "I"]
def wsX6_offer_r6 : List Cond := [Cond.methodLink RX6 155 yX5_append, Cond.instanceMethod yX5_append, Cond.selects RX5 yX5_append yX5_append, Cond.code yX5_append cX5_append 3 (some .int), Cond.fieldLink RX5 35 "SignedCalls$WaitingRow" "ticketsGiven" "I", Cond.fieldLink RX5 38 "SignedCalls$Call" "ticket" "I", Cond.methodLink RX5 31 yX1_becomeLike, Cond.instanceMethod yX1_becomeLike, Cond.selects RX1 yX1_becomeLike yX1_becomeLike, Cond.code yX1_becomeLike cX1_becomeLike 3 none, Cond.methodLink RX1 45 yX1_begin, Cond.instanceMethod yX1_begin, Cond.selects RX1 yX1_begin yX1_begin, Cond.code yX1_begin cX1_begin 5 none, Cond.constant RX1 32 (1000000), Cond.methodLink RX1 49 yX1_append, Cond.instanceMethod yX1_append, Cond.selects RX1 yX1_append yX1_append, Cond.code yX1_append cX1_append 4 (some .int)]
def wsX6_offer : List Cond := .code yX6_offer cX6_offer 4 (some .int) :: ((wsX6_offer_r1 ++ (wsX6_offer_r2 ++ (wsX6_offer_r3 ++ (wsX6_offer_r4 ++ (wsX6_offer_r5 ++ wsX6_offer_r6))))) ++ wsX60 ++ wsX20 ++ wsX10 ++ wsX50 ++ wsX00 ++ wsX40 ++ wsX30)
def wsX6_step : List Cond := .code yX6_step cX6_step 3 (some .int) :: ([.fieldLink RX6 44 "SignedCalls" "priceStep" "I"] ++ wsX60)
def wsX6_endThoseOver_r1 : List Cond := [Cond.fieldLink RX6 33 "SignedCalls" "row" "LSignedCalls$WaitingRow;", Cond.fieldLink RX6 183 "SignedCalls$WaitingRow" "count" "I", Cond.fieldLink RX6 184 "SignedCalls$WaitingRow" "calls" "[LSignedCalls$Call;", Cond.fieldLink RX6 102 "SignedCalls$Call" "end" "I", Cond.fieldLink RX6 158 "SignedCalls" "height" "I", Cond.methodLink RX6 144 yX6_end, Cond.instanceMethod yX6_end, Cond.selects RX6 yX6_end yX6_end, Cond.initialized RX6, Cond.code yX6_end cX6_end 4 none, Cond.fieldLink RX6 40 "SignedCalls" "log" "LSignedCalls$EventLog;", Cond.fieldLink RX6 174 "SignedCalls$Call" "ticket" "I", Cond.methodLink RX6 167 yX5_take, Cond.instanceMethod yX5_take, Cond.selects RX5 yX5_take yX5_take, Cond.initialized RX5, Cond.code yX5_take cX5_take 4 (some (.object "SignedCalls$Call")), Cond.fieldLink RX5 11 "SignedCalls$WaitingRow" "calls" "[LSignedCalls$Call;", Cond.fieldLink RX5 18 "SignedCalls$WaitingRow" "count" "I", Cond.methodLink RX6 180 yX3_note, Cond.instanceMethod yX3_note, Cond.selects RX3 yX3_note yX3_note, Cond.initialized RX3, Cond.code yX3_note cX3_note 4 none]
def wsX6_endThoseOver_r2 : List Cond := [Cond.fieldLink RX3 21 "SignedCalls$EventLog" "newest" "I", Cond.fieldLink RX3 9 "SignedCalls$EventLog" "tickets" "[I", Cond.fieldLink RX3 15 "SignedCalls$EventLog" "whys" "[I", Cond.fieldLink RX3 18 "SignedCalls$EventLog" "units" "[I", Cond.fieldLink RX3 25 "SignedCalls$EventLog" "kept" "I", Cond.methodLink RX3 28 Lib.Math.min.name, Cond.static Lib.Math.min.name, Cond.initialized "java/lang/Math", Cond.code Lib.Math.min.name Lib.Math.min.code 2 (some .int), Cond.fieldLink RX3 34 "SignedCalls$EventLog" "inAll" "I"]
def wsX6_endThoseOver : List Cond := .code yX6_endThoseOver cX6_endThoseOver 3 none :: ((wsX6_endThoseOver_r1 ++ wsX6_endThoseOver_r2) ++ wsX60 ++ wsX50 ++ wsX10 ++ wsX30)
def wsX6_isReady : List Cond := .code yX6_isReady cX6_isReady 3 (some .boolean) :: ([.fieldLink RX6 133 "SignedCalls$Call" "number" "I", .fieldLink RX6 10 "SignedCalls" "accounts" "LSignedCalls$Accounts;", .fieldLink RX6 77 "SignedCalls$Accounts" "nexts" "[I", .fieldLink RX6 130 "SignedCalls$Call" "owner" "I", .fieldLink RX6 107 "SignedCalls$Call" "start" "I", .fieldLink RX6 158 "SignedCalls" "height" "I", .fieldLink RX6 255 "SignedCalls$Call" "limit" "I"] ++ wsX10 ++ wsX60 ++ wsX00)
def wsX6_dearestReady : List Cond := .code yX6_dearestReady cX6_dearestReady 4 (some .int) :: ([.fieldLink RX6 33 "SignedCalls" "row" "LSignedCalls$WaitingRow;", .fieldLink RX6 183 "SignedCalls$WaitingRow" "count" "I", .fieldLink RX6 184 "SignedCalls$WaitingRow" "calls" "[LSignedCalls$Call;", .fieldLink RX6 188 "SignedCalls$Call" "price" "I", .methodLink RX6 251 yX6_isReady, .instanceMethod yX6_isReady, .selects RX6 yX6_isReady yX6_isReady, .initialized RX6, .code yX6_isReady cX6_isReady 3 (some .boolean), .fieldLink RX6 133 "SignedCalls$Call" "number" "I", .fieldLink RX6 10 "SignedCalls" "accounts" "LSignedCalls$Accounts;", .fieldLink RX6 77 "SignedCalls$Accounts" "nexts" "[I", .fieldLink RX6 130 "SignedCalls$Call" "owner" "I", .fieldLink RX6 107 "SignedCalls$Call" "start" "I", .fieldLink RX6 158 "SignedCalls" "height" "I", .fieldLink RX6 255 "SignedCalls$Call" "limit" "I"] ++ wsX60 ++ wsX50 ++ wsX10 ++ wsX00)
def wsX6_doAct : List Cond := .code yX6_doAct cX6_doAct 3 (some .boolean) :: ([.fieldLink RX6 177 "SignedCalls$Call" "used" "I", .fieldLink RX6 255 "SignedCalls$Call" "limit" "I", .fieldLink RX6 10 "SignedCalls" "accounts" "LSignedCalls$Accounts;", .fieldLink RX6 71 "SignedCalls$Accounts" "funds" "[J", .fieldLink RX6 130 "SignedCalls$Call" "owner" "I", .fieldLink RX6 268 "SignedCalls$Call" "amounts" "[J", .fieldLink RX6 271 "SignedCalls$Call" "receivers" "[I", .methodLink RX6 274 yX0_move, .instanceMethod yX0_move, .selects RX0 yX0_move yX0_move, .initialized RX0, .code yX0_move cX0_move 5 none, .fieldLink RX0 9 "SignedCalls$Accounts" "funds" "[J"] ++ wsX10 ++ wsX60 ++ wsX00)
def wsX6_undoActs : List Cond := .code yX6_undoActs cX6_undoActs 4 none :: ([.fieldLink RX6 10 "SignedCalls" "accounts" "LSignedCalls$Accounts;", .fieldLink RX6 271 "SignedCalls$Call" "receivers" "[I", .fieldLink RX6 130 "SignedCalls$Call" "owner" "I", .fieldLink RX6 268 "SignedCalls$Call" "amounts" "[J", .methodLink RX6 274 yX0_move, .instanceMethod yX0_move, .selects RX0 yX0_move yX0_move, .initialized RX0, .code yX0_move cX0_move 5 none, .fieldLink RX0 9 "SignedCalls$Accounts" "funds" "[J"] ++ wsX60 ++ wsX10 ++ wsX00)
def wsX6_doActs : List Cond := .code yX6_doActs cX6_doActs 3 (some .boolean) :: ([.fieldLink RX6 113 "SignedCalls$Call" "acts" "I", .methodLink RX6 261 yX6_doAct, .instanceMethod yX6_doAct, .selects RX6 yX6_doAct yX6_doAct, .initialized RX6, .code yX6_doAct cX6_doAct 3 (some .boolean), .fieldLink RX6 177 "SignedCalls$Call" "used" "I", .fieldLink RX6 255 "SignedCalls$Call" "limit" "I", .fieldLink RX6 10 "SignedCalls" "accounts" "LSignedCalls$Accounts;", .fieldLink RX6 71 "SignedCalls$Accounts" "funds" "[J", .fieldLink RX6 130 "SignedCalls$Call" "owner" "I", .fieldLink RX6 268 "SignedCalls$Call" "amounts" "[J", .fieldLink RX6 271 "SignedCalls$Call" "receivers" "[I", .methodLink RX6 274 yX0_move, .instanceMethod yX0_move, .selects RX0 yX0_move yX0_move, .initialized RX0, .code yX0_move cX0_move 5 none, .fieldLink RX0 9 "SignedCalls$Accounts" "funds" "[J", .methodLink RX6 264 yX6_undoActs, .instanceMethod yX6_undoActs, .selects RX6 yX6_undoActs yX6_undoActs, .code yX6_undoActs cX6_undoActs 4 none] ++ wsX10 ++ wsX60 ++ wsX00)
def wsX6_perform_r1 : List Cond := [Cond.fieldLink RX6 177 "SignedCalls$Call" "used" "I", Cond.fieldLink RX6 10 "SignedCalls" "accounts" "LSignedCalls$Accounts;", Cond.fieldLink RX6 71 "SignedCalls$Accounts" "funds" "[J", Cond.fieldLink RX6 77 "SignedCalls$Accounts" "nexts" "[I", Cond.fieldLink RX6 130 "SignedCalls$Call" "owner" "I", Cond.fieldLink RX6 188 "SignedCalls$Call" "price" "I", Cond.fieldLink RX6 206 "SignedCalls" "paidInAll" "J", Cond.methodLink RX6 230 yX6_coversStake, Cond.instanceMethod yX6_coversStake, Cond.selects RX6 yX6_coversStake yX6_coversStake, Cond.initialized RX6, Cond.code yX6_coversStake cX6_coversStake 2 (some .boolean), Cond.methodLink RX6 245 yX1_payer, Cond.instanceMethod yX1_payer, Cond.selects RX1 yX1_payer yX1_payer, Cond.initialized RX1, Cond.code yX1_payer cX1_payer 1 (some .int), Cond.fieldLink RX1 39 "SignedCalls$Call" "sponsor" "I", Cond.fieldLink RX1 19 "SignedCalls$Call" "owner" "I", Cond.methodLink RX6 248 yX1_stake, Cond.instanceMethod yX1_stake, Cond.selects RX1 yX1_stake yX1_stake, Cond.code yX1_stake cX1_stake 1 (some .long), Cond.fieldLink RX1 26 "SignedCalls$Call" "price" "I"]
def wsX6_perform_r2 : List Cond := [Cond.fieldLink RX1 29 "SignedCalls$Call" "limit" "I", Cond.methodLink RX6 258 yX6_doActs, Cond.instanceMethod yX6_doActs, Cond.selects RX6 yX6_doActs yX6_doActs, Cond.code yX6_doActs cX6_doActs 3 (some .boolean), Cond.fieldLink RX6 113 "SignedCalls$Call" "acts" "I", Cond.methodLink RX6 261 yX6_doAct, Cond.instanceMethod yX6_doAct, Cond.selects RX6 yX6_doAct yX6_doAct, Cond.code yX6_doAct cX6_doAct 3 (some .boolean), Cond.fieldLink RX6 255 "SignedCalls$Call" "limit" "I", Cond.fieldLink RX6 268 "SignedCalls$Call" "amounts" "[J", Cond.fieldLink RX6 271 "SignedCalls$Call" "receivers" "[I", Cond.methodLink RX6 274 yX0_move, Cond.instanceMethod yX0_move, Cond.selects RX0 yX0_move yX0_move, Cond.initialized RX0, Cond.code yX0_move cX0_move 5 none, Cond.fieldLink RX0 9 "SignedCalls$Accounts" "funds" "[J", Cond.methodLink RX6 264 yX6_undoActs, Cond.instanceMethod yX6_undoActs, Cond.selects RX6 yX6_undoActs yX6_undoActs, Cond.code yX6_undoActs cX6_undoActs 4 none]
def wsX6_perform : List Cond := .code yX6_perform cX6_perform 6 (some .int) :: ((wsX6_perform_r1 ++ wsX6_perform_r2) ++ wsX10 ++ wsX60 ++ wsX00)
def wsX6_block_r1 : List Cond := [Cond.fieldLink RX6 158 "SignedCalls" "height" "I", Cond.fieldLink RX6 33 "SignedCalls" "row" "LSignedCalls$WaitingRow;", Cond.fieldLink RX6 40 "SignedCalls" "log" "LSignedCalls$EventLog;", Cond.fieldLink RX6 174 "SignedCalls$Call" "ticket" "I", Cond.fieldLink RX6 177 "SignedCalls$Call" "used" "I", Cond.methodLink RX6 161 yX6_endThoseOver, Cond.instanceMethod yX6_endThoseOver, Cond.selects RX6 yX6_endThoseOver yX6_endThoseOver, Cond.initialized RX6, Cond.code yX6_endThoseOver cX6_endThoseOver 3 none, Cond.fieldLink RX6 183 "SignedCalls$WaitingRow" "count" "I", Cond.fieldLink RX6 184 "SignedCalls$WaitingRow" "calls" "[LSignedCalls$Call;", Cond.fieldLink RX6 102 "SignedCalls$Call" "end" "I", Cond.methodLink RX6 144 yX6_end, Cond.instanceMethod yX6_end, Cond.selects RX6 yX6_end yX6_end, Cond.code yX6_end cX6_end 4 none, Cond.methodLink RX6 167 yX5_take, Cond.instanceMethod yX5_take, Cond.selects RX5 yX5_take yX5_take, Cond.initialized RX5, Cond.code yX5_take cX5_take 4 (some (.object "SignedCalls$Call")), Cond.fieldLink RX5 11 "SignedCalls$WaitingRow" "calls" "[LSignedCalls$Call;", Cond.fieldLink RX5 18 "SignedCalls$WaitingRow" "count" "I"]
def wsX6_block_r2 : List Cond := [Cond.methodLink RX6 180 yX3_note, Cond.instanceMethod yX3_note, Cond.selects RX3 yX3_note yX3_note, Cond.initialized RX3, Cond.code yX3_note cX3_note 4 none, Cond.fieldLink RX3 21 "SignedCalls$EventLog" "newest" "I", Cond.fieldLink RX3 9 "SignedCalls$EventLog" "tickets" "[I", Cond.fieldLink RX3 15 "SignedCalls$EventLog" "whys" "[I", Cond.fieldLink RX3 18 "SignedCalls$EventLog" "units" "[I", Cond.fieldLink RX3 25 "SignedCalls$EventLog" "kept" "I", Cond.methodLink RX3 28 Lib.Math.min.name, Cond.static Lib.Math.min.name, Cond.initialized "java/lang/Math", Cond.code Lib.Math.min.name Lib.Math.min.code 2 (some .int), Cond.fieldLink RX3 34 "SignedCalls$EventLog" "inAll" "I", Cond.methodLink RX6 164 yX6_dearestReady, Cond.instanceMethod yX6_dearestReady, Cond.selects RX6 yX6_dearestReady yX6_dearestReady, Cond.code yX6_dearestReady cX6_dearestReady 4 (some .int), Cond.fieldLink RX6 188 "SignedCalls$Call" "price" "I", Cond.methodLink RX6 251 yX6_isReady, Cond.instanceMethod yX6_isReady, Cond.selects RX6 yX6_isReady yX6_isReady, Cond.code yX6_isReady cX6_isReady 3 (some .boolean)]
def wsX6_block_r3 : List Cond := [Cond.fieldLink RX6 133 "SignedCalls$Call" "number" "I", Cond.fieldLink RX6 10 "SignedCalls" "accounts" "LSignedCalls$Accounts;", Cond.fieldLink RX6 77 "SignedCalls$Accounts" "nexts" "[I", Cond.fieldLink RX6 130 "SignedCalls$Call" "owner" "I", Cond.fieldLink RX6 107 "SignedCalls$Call" "start" "I", Cond.fieldLink RX6 255 "SignedCalls$Call" "limit" "I", Cond.methodLink RX6 171 yX6_perform, Cond.instanceMethod yX6_perform, Cond.selects RX6 yX6_perform yX6_perform, Cond.code yX6_perform cX6_perform 6 (some .int), Cond.fieldLink RX6 71 "SignedCalls$Accounts" "funds" "[J", Cond.fieldLink RX6 206 "SignedCalls" "paidInAll" "J", Cond.methodLink RX6 230 yX6_coversStake, Cond.instanceMethod yX6_coversStake, Cond.selects RX6 yX6_coversStake yX6_coversStake, Cond.code yX6_coversStake cX6_coversStake 2 (some .boolean), Cond.methodLink RX6 245 yX1_payer, Cond.instanceMethod yX1_payer, Cond.selects RX1 yX1_payer yX1_payer, Cond.initialized RX1, Cond.code yX1_payer cX1_payer 1 (some .int), Cond.fieldLink RX1 39 "SignedCalls$Call" "sponsor" "I", Cond.fieldLink RX1 19 "SignedCalls$Call" "owner" "I", Cond.methodLink RX6 248 yX1_stake]
def wsX6_block_r4 : List Cond := [Cond.instanceMethod yX1_stake, Cond.selects RX1 yX1_stake yX1_stake, Cond.code yX1_stake cX1_stake 1 (some .long), Cond.fieldLink RX1 26 "SignedCalls$Call" "price" "I", Cond.fieldLink RX1 29 "SignedCalls$Call" "limit" "I", Cond.methodLink RX6 258 yX6_doActs, Cond.instanceMethod yX6_doActs, Cond.selects RX6 yX6_doActs yX6_doActs, Cond.code yX6_doActs cX6_doActs 3 (some .boolean), Cond.fieldLink RX6 113 "SignedCalls$Call" "acts" "I", Cond.methodLink RX6 261 yX6_doAct, Cond.instanceMethod yX6_doAct, Cond.selects RX6 yX6_doAct yX6_doAct, Cond.code yX6_doAct cX6_doAct 3 (some .boolean), Cond.fieldLink RX6 268 "SignedCalls$Call" "amounts" "[J", Cond.fieldLink RX6 271 "SignedCalls$Call" "receivers" "[I", Cond.methodLink RX6 274 yX0_move, Cond.instanceMethod yX0_move, Cond.selects RX0 yX0_move yX0_move, Cond.initialized RX0, Cond.code yX0_move cX0_move 5 none, Cond.fieldLink RX0 9 "SignedCalls$Accounts" "funds" "[J", Cond.methodLink RX6 264 yX6_undoActs, Cond.instanceMethod yX6_undoActs]
def wsX6_block_r5 : List Cond := [Cond.selects RX6 yX6_undoActs yX6_undoActs, Cond.code yX6_undoActs cX6_undoActs 4 none]
def wsX6_block : List Cond := .code yX6_block cX6_block 8 (some .int) :: ((wsX6_block_r1 ++ (wsX6_block_r2 ++ (wsX6_block_r3 ++ (wsX6_block_r4 ++ wsX6_block_r5)))) ++ wsX60 ++ wsX10 ++ wsX50 ++ wsX30 ++ wsX00)
def wsX6_waiting : List Cond := .code yX6_waiting cX6_waiting 4 (some .int) :: ([.fieldLink RX6 33 "SignedCalls" "row" "LSignedCalls$WaitingRow;", .fieldLink RX6 183 "SignedCalls$WaitingRow" "count" "I", .fieldLink RX6 184 "SignedCalls$WaitingRow" "calls" "[LSignedCalls$Call;", .fieldLink RX6 174 "SignedCalls$Call" "ticket" "I", .fieldLink RX6 130 "SignedCalls$Call" "owner" "I", .fieldLink RX6 133 "SignedCalls$Call" "number" "I", .fieldLink RX6 188 "SignedCalls$Call" "price" "I"] ++ wsX60 ++ wsX50 ++ wsX10)
def wsX6_event : List Cond := .code yX6_event cX6_event 4 (some .int) :: ([.fieldLink RX6 40 "SignedCalls" "log" "LSignedCalls$EventLog;", .fieldLink RX6 191 "SignedCalls$EventLog" "kept" "I", .fieldLink RX6 197 "SignedCalls$EventLog" "tickets" "[I", .fieldLink RX6 200 "SignedCalls$EventLog" "whys" "[I", .fieldLink RX6 203 "SignedCalls$EventLog" "units" "[I", .methodLink RX6 194 yX3_placeOf, .instanceMethod yX3_placeOf, .selects RX3 yX3_placeOf yX3_placeOf, .initialized RX3, .code yX3_placeOf cX3_placeOf 3 (some .int), .fieldLink RX3 21 "SignedCalls$EventLog" "newest" "I"] ++ wsX60 ++ wsX30)
def wsX6_paid : List Cond := .code yX6_paid cX6_paid 1 (some .long) :: ([.fieldLink RX6 206 "SignedCalls" "paidInAll" "J"] ++ wsX60)
def wsX6_told : List Cond := .code yX6_told cX6_told 2 (some .int) :: ([.fieldLink RX6 10 "SignedCalls" "accounts" "LSignedCalls$Accounts;", .fieldLink RX6 56 "SignedCalls$Accounts" "count" "I", .fieldLink RX6 19 "SignedCalls" "signatures" "LSignedCalls$Signatures;", .fieldLink RX6 81 "SignedCalls$Signatures" "count" "I", .fieldLink RX6 33 "SignedCalls" "row" "LSignedCalls$WaitingRow;", .fieldLink RX6 183 "SignedCalls$WaitingRow" "count" "I", .fieldLink RX6 210 "SignedCalls$WaitingRow" "ticketsGiven" "I", .fieldLink RX6 40 "SignedCalls" "log" "LSignedCalls$EventLog;", .fieldLink RX6 213 "SignedCalls$EventLog" "inAll" "I", .fieldLink RX6 158 "SignedCalls" "height" "I"] ++ wsX60 ++ wsX00 ++ wsX40 ++ wsX50 ++ wsX30)
def wsX7_init : List Cond := .code yX7_init cX7_init 1 none :: ([.methodLink RX7 1 objectInit, .instanceMethod objectInit, .code objectInit ⟨#[0xb1]⟩ 1 none, .arrayClass .long, .fieldLink RX7 7 "SignedCallsModel" "funds" "[J", .arrayClass .int, .fieldLink RX7 13 "SignedCallsModel" "next" "[I", .fieldLink RX7 17 "SignedCallsModel" "keys" "[I", .fieldLink RX7 20 "SignedCallsModel" "threshold" "[I", .fieldLink RX7 23 "SignedCallsModel" "keyOf" "[I", .fieldLink RX7 26 "SignedCallsModel" "digestOf" "[J", .fieldLink RX7 29 "SignedCallsModel" "call" "[J", .fieldLink RX7 32 "SignedCallsModel" "mine" "[I", .fieldLink RX7 35 "SignedCallsModel" "stepOf" "I", .fieldLink RX7 39 "SignedCallsModel" "eventRow" "[I", .fieldLink RX7 42 "SignedCallsModel" "before" "[J"] ++ wsX70)
def wsX7_in : List Cond := .code yX7_in cX7_in 6 (some .boolean) :: ([])
def wsX7_isAccount : List Cond := .code yX7_isAccount cX7_isAccount 2 (some .boolean) :: ([.fieldLink RX7 45 "SignedCallsModel" "accounts" "I", .methodLink RX7 48 yX7_in, .static yX7_in, .initialized RX7, .code yX7_in cX7_in 6 (some .boolean)] ++ wsX70)
def wsX7_isLock : List Cond := .code yX7_isLock cX7_isLock 4 (some .boolean) :: ([.constantLong RX7 52 (65535), .methodLink RX7 48 yX7_in, .static yX7_in, .initialized RX7, .code yX7_in cX7_in 6 (some .boolean)])
def wsX7_account : List Cond := .code yX7_account cX7_account 5 (some .int) :: ([.constantLong RX7 54 (1000000000000), .fieldLink RX7 45 "SignedCallsModel" "accounts" "I", .fieldLink RX7 7 "SignedCallsModel" "funds" "[J", .fieldLink RX7 17 "SignedCallsModel" "keys" "[I", .fieldLink RX7 20 "SignedCallsModel" "threshold" "[I", .methodLink RX7 48 yX7_in, .static yX7_in, .initialized RX7, .code yX7_in cX7_in 6 (some .boolean), .methodLink RX7 56 yX7_isLock, .static yX7_isLock, .code yX7_isLock cX7_isLock 4 (some .boolean), .constantLong RX7 52 (65535)] ++ wsX70)
def wsX7_lock : List Cond := .code yX7_lock cX7_lock 4 (some .int) :: ([.fieldLink RX7 17 "SignedCallsModel" "keys" "[I", .fieldLink RX7 20 "SignedCallsModel" "threshold" "[I", .methodLink RX7 60 yX7_isAccount, .instanceMethod yX7_isAccount, .selects RX7 yX7_isAccount yX7_isAccount, .initialized RX7, .code yX7_isAccount cX7_isAccount 2 (some .boolean), .fieldLink RX7 45 "SignedCallsModel" "accounts" "I", .methodLink RX7 48 yX7_in, .static yX7_in, .code yX7_in cX7_in 6 (some .boolean), .methodLink RX7 56 yX7_isLock, .static yX7_isLock, .code yX7_isLock cX7_isLock 4 (some .boolean), .constantLong RX7 52 (65535)] ++ wsX70)
def wsX7_funds : List Cond := .code yX7_funds cX7_funds 2 (some .long) :: ([.fieldLink RX7 7 "SignedCallsModel" "funds" "[J", .constantLong RX7 64 (-1), .methodLink RX7 60 yX7_isAccount, .instanceMethod yX7_isAccount, .selects RX7 yX7_isAccount yX7_isAccount, .initialized RX7, .code yX7_isAccount cX7_isAccount 2 (some .boolean), .fieldLink RX7 45 "SignedCallsModel" "accounts" "I", .methodLink RX7 48 yX7_in, .static yX7_in, .code yX7_in cX7_in 6 (some .boolean)] ++ wsX70)
def wsX7_next : List Cond := .code yX7_next cX7_next 2 (some .int) :: ([.fieldLink RX7 13 "SignedCallsModel" "next" "[I", .methodLink RX7 60 yX7_isAccount, .instanceMethod yX7_isAccount, .selects RX7 yX7_isAccount yX7_isAccount, .initialized RX7, .code yX7_isAccount cX7_isAccount 2 (some .boolean), .fieldLink RX7 45 "SignedCallsModel" "accounts" "I", .methodLink RX7 48 yX7_in, .static yX7_in, .code yX7_in cX7_in 6 (some .boolean)] ++ wsX70)
def wsX7_sign : List Cond := .code yX7_sign cX7_sign 4 (some .int) :: ([.constantLong RX7 66 (15), .fieldLink RX7 68 "SignedCallsModel" "signatures" "I", .fieldLink RX7 23 "SignedCallsModel" "keyOf" "[I", .fieldLink RX7 26 "SignedCallsModel" "digestOf" "[J", .methodLink RX7 48 yX7_in, .static yX7_in, .initialized RX7, .code yX7_in cX7_in 6 (some .boolean)] ++ wsX70)
def wsX7_draft : List Cond := .code yX7_draft cX7_draft 5 (some .int) :: ([.constantLong RX7 71 (999), .constantLong RX7 73 (1000000), .constantLong RX7 75 (10), .constantLong RX7 77 (1000), .fieldLink RX7 29 "SignedCallsModel" "call" "[J", .constantLong RX7 64 (-1), .fieldLink RX7 79 "SignedCallsModel" "mineMany" "I", .fieldLink RX7 82 "SignedCallsModel" "drafted" "Z", .methodLink RX7 60 yX7_isAccount, .instanceMethod yX7_isAccount, .selects RX7 yX7_isAccount yX7_isAccount, .initialized RX7, .code yX7_isAccount cX7_isAccount 2 (some .boolean), .fieldLink RX7 45 "SignedCallsModel" "accounts" "I", .methodLink RX7 48 yX7_in, .static yX7_in, .code yX7_in cX7_in 6 (some .boolean)] ++ wsX70)
def wsX7_told : List Cond := .code yX7_told cX7_told 5 (some .int) :: ([.fieldLink RX7 82 "SignedCallsModel" "drafted" "Z", .fieldLink RX7 29 "SignedCallsModel" "call" "[J"] ++ wsX70)
def wsX7_until : List Cond := .code yX7_until cX7_until 2 (some .int) :: ([.constantLong RX7 73 (1000000), .methodLink RX7 48 yX7_in, .static yX7_in, .initialized RX7, .code yX7_in cX7_in 6 (some .boolean), .methodLink RX7 86 yX7_told, .instanceMethod yX7_told, .selects RX7 yX7_told yX7_told, .code yX7_told cX7_told 5 (some .int), .fieldLink RX7 82 "SignedCallsModel" "drafted" "Z", .fieldLink RX7 29 "SignedCallsModel" "call" "[J"] ++ wsX70)
def wsX7_from : List Cond := .code yX7_from cX7_from 2 (some .int) :: ([.constantLong RX7 73 (1000000), .methodLink RX7 48 yX7_in, .static yX7_in, .initialized RX7, .code yX7_in cX7_in 6 (some .boolean), .methodLink RX7 86 yX7_told, .instanceMethod yX7_told, .selects RX7 yX7_told yX7_told, .code yX7_told cX7_told 5 (some .int), .fieldLink RX7 82 "SignedCallsModel" "drafted" "Z", .fieldLink RX7 29 "SignedCallsModel" "call" "[J"] ++ wsX70)
def wsX7_sponsor : List Cond := .code yX7_sponsor cX7_sponsor 2 (some .int) :: ([.methodLink RX7 60 yX7_isAccount, .instanceMethod yX7_isAccount, .selects RX7 yX7_isAccount yX7_isAccount, .initialized RX7, .code yX7_isAccount cX7_isAccount 2 (some .boolean), .fieldLink RX7 45 "SignedCallsModel" "accounts" "I", .methodLink RX7 48 yX7_in, .static yX7_in, .code yX7_in cX7_in 6 (some .boolean), .methodLink RX7 86 yX7_told, .instanceMethod yX7_told, .selects RX7 yX7_told yX7_told, .code yX7_told cX7_told 5 (some .int), .fieldLink RX7 82 "SignedCallsModel" "drafted" "Z", .fieldLink RX7 29 "SignedCallsModel" "call" "[J"] ++ wsX70)
def wsX7_act : List Cond := .code yX7_act cX7_act 5 (some .int) :: ([.constantLong RX7 54 (1000000000000), .fieldLink RX7 82 "SignedCallsModel" "drafted" "Z", .fieldLink RX7 29 "SignedCallsModel" "call" "[J", .methodLink RX7 60 yX7_isAccount, .instanceMethod yX7_isAccount, .selects RX7 yX7_isAccount yX7_isAccount, .initialized RX7, .code yX7_isAccount cX7_isAccount 2 (some .boolean), .fieldLink RX7 45 "SignedCallsModel" "accounts" "I", .methodLink RX7 48 yX7_in, .static yX7_in, .code yX7_in cX7_in 6 (some .boolean)] ++ wsX70)
def wsX7_add : List Cond := .code yX7_add cX7_add 2 (some .int) :: ([.fieldLink RX7 68 "SignedCallsModel" "signatures" "I", .fieldLink RX7 82 "SignedCallsModel" "drafted" "Z", .fieldLink RX7 79 "SignedCallsModel" "mineMany" "I", .fieldLink RX7 32 "SignedCallsModel" "mine" "[I", .methodLink RX7 48 yX7_in, .static yX7_in, .initialized RX7, .code yX7_in cX7_in 6 (some .boolean)] ++ wsX70)
def wsX7_digest : List Cond := .code yX7_digest cX7_digest 4 (some .long) :: ([.fieldLink RX7 82 "SignedCallsModel" "drafted" "Z", .constantLong RX7 90 (17), .constantLong RX7 92 (31), .fieldLink RX7 29 "SignedCallsModel" "call" "[J", .constantLong RX7 94 (2)] ++ wsX70)
def wsX7_meets : List Cond := .code yX7_meets cX7_meets 7 (some .boolean) :: ([.fieldLink RX7 79 "SignedCallsModel" "mineMany" "I", .fieldLink RX7 26 "SignedCallsModel" "digestOf" "[J", .fieldLink RX7 32 "SignedCallsModel" "mine" "[I", .fieldLink RX7 23 "SignedCallsModel" "keyOf" "[I", .fieldLink RX7 17 "SignedCallsModel" "keys" "[I", .fieldLink RX7 20 "SignedCallsModel" "threshold" "[I", .methodLink RX7 96 yX7_digest, .instanceMethod yX7_digest, .selects RX7 yX7_digest yX7_digest, .initialized RX7, .code yX7_digest cX7_digest 4 (some .long), .fieldLink RX7 82 "SignedCallsModel" "drafted" "Z", .constantLong RX7 90 (17), .constantLong RX7 92 (31), .fieldLink RX7 29 "SignedCallsModel" "call" "[J", .constantLong RX7 94 (2)] ++ wsX70)
def wsX7_payer : List Cond := .code yX7_payer cX7_payer 4 (some .int) :: ([])
def wsX7_sameCall : List Cond := .code yX7_sameCall cX7_sameCall 3 (some .int) :: ([.fieldLink RX7 100 "SignedCallsModel" "waits" "I", .fieldLink RX7 29 "SignedCallsModel" "call" "[J"] ++ wsX70)
def wsX7_cheapest : List Cond := .code yX7_cheapest cX7_cheapest 3 (some .int) :: ([.fieldLink RX7 100 "SignedCallsModel" "waits" "I", .fieldLink RX7 29 "SignedCallsModel" "call" "[J"] ++ wsX70)
def wsX7_refusedBy_r1 : List Cond := [Cond.fieldLink RX7 29 "SignedCallsModel" "call" "[J", Cond.fieldLink RX7 103 "SignedCallsModel" "height" "I", Cond.fieldLink RX7 13 "SignedCallsModel" "next" "[I", Cond.fieldLink RX7 7 "SignedCallsModel" "funds" "[J", Cond.fieldLink RX7 35 "SignedCallsModel" "stepOf" "I", Cond.fieldLink RX7 100 "SignedCallsModel" "waits" "I", Cond.methodLink RX7 106 yX7_meets, Cond.instanceMethod yX7_meets, Cond.selects RX7 yX7_meets yX7_meets, Cond.initialized RX7, Cond.code yX7_meets cX7_meets 7 (some .boolean), Cond.fieldLink RX7 79 "SignedCallsModel" "mineMany" "I", Cond.fieldLink RX7 26 "SignedCallsModel" "digestOf" "[J", Cond.fieldLink RX7 32 "SignedCallsModel" "mine" "[I", Cond.fieldLink RX7 23 "SignedCallsModel" "keyOf" "[I", Cond.fieldLink RX7 17 "SignedCallsModel" "keys" "[I", Cond.fieldLink RX7 20 "SignedCallsModel" "threshold" "[I", Cond.methodLink RX7 96 yX7_digest, Cond.instanceMethod yX7_digest, Cond.selects RX7 yX7_digest yX7_digest, Cond.code yX7_digest cX7_digest 4 (some .long), Cond.fieldLink RX7 82 "SignedCallsModel" "drafted" "Z", Cond.constantLong RX7 90 (17), Cond.constantLong RX7 92 (31)]
def wsX7_refusedBy_r2 : List Cond := [Cond.constantLong RX7 94 (2), Cond.methodLink RX7 109 yX7_payer, Cond.static yX7_payer, Cond.code yX7_payer cX7_payer 4 (some .int), Cond.methodLink RX7 113 yX7_cheapest, Cond.instanceMethod yX7_cheapest, Cond.selects RX7 yX7_cheapest yX7_cheapest, Cond.code yX7_cheapest cX7_cheapest 3 (some .int)]
def wsX7_refusedBy : List Cond := .code yX7_refusedBy cX7_refusedBy 4 (some .int) :: ((wsX7_refusedBy_r1 ++ wsX7_refusedBy_r2) ++ wsX70)
def wsX7_takeOut : List Cond := .code yX7_takeOut cX7_takeOut 3 none :: ([.fieldLink RX7 100 "SignedCallsModel" "waits" "I", .fieldLink RX7 29 "SignedCallsModel" "call" "[J"] ++ wsX70)
def wsX7_comes : List Cond := .code yX7_comes cX7_comes 5 none :: ([.fieldLink RX7 117 "SignedCallsModel" "events" "I", .fieldLink RX7 39 "SignedCallsModel" "eventRow" "[I"] ++ wsX70)
def wsX7_offer_r1 : List Cond := [Cond.fieldLink RX7 82 "SignedCallsModel" "drafted" "Z", Cond.fieldLink RX7 100 "SignedCallsModel" "waits" "I", Cond.fieldLink RX7 29 "SignedCallsModel" "call" "[J", Cond.fieldLink RX7 135 "SignedCallsModel" "tickets" "I", Cond.methodLink RX7 120 yX7_sameCall, Cond.instanceMethod yX7_sameCall, Cond.selects RX7 yX7_sameCall yX7_sameCall, Cond.initialized RX7, Cond.code yX7_sameCall cX7_sameCall 3 (some .int), Cond.methodLink RX7 123 yX7_refusedBy, Cond.instanceMethod yX7_refusedBy, Cond.selects RX7 yX7_refusedBy yX7_refusedBy, Cond.code yX7_refusedBy cX7_refusedBy 4 (some .int), Cond.fieldLink RX7 103 "SignedCallsModel" "height" "I", Cond.fieldLink RX7 13 "SignedCallsModel" "next" "[I", Cond.fieldLink RX7 7 "SignedCallsModel" "funds" "[J", Cond.fieldLink RX7 35 "SignedCallsModel" "stepOf" "I", Cond.methodLink RX7 106 yX7_meets, Cond.instanceMethod yX7_meets, Cond.selects RX7 yX7_meets yX7_meets, Cond.code yX7_meets cX7_meets 7 (some .boolean), Cond.fieldLink RX7 79 "SignedCallsModel" "mineMany" "I", Cond.fieldLink RX7 26 "SignedCallsModel" "digestOf" "[J", Cond.fieldLink RX7 32 "SignedCallsModel" "mine" "[I"]
def wsX7_offer_r2 : List Cond := [Cond.fieldLink RX7 23 "SignedCallsModel" "keyOf" "[I", Cond.fieldLink RX7 17 "SignedCallsModel" "keys" "[I", Cond.fieldLink RX7 20 "SignedCallsModel" "threshold" "[I", Cond.methodLink RX7 96 yX7_digest, Cond.instanceMethod yX7_digest, Cond.selects RX7 yX7_digest yX7_digest, Cond.code yX7_digest cX7_digest 4 (some .long), Cond.constantLong RX7 90 (17), Cond.constantLong RX7 92 (31), Cond.constantLong RX7 94 (2), Cond.methodLink RX7 109 yX7_payer, Cond.static yX7_payer, Cond.code yX7_payer cX7_payer 4 (some .int), Cond.methodLink RX7 113 yX7_cheapest, Cond.instanceMethod yX7_cheapest, Cond.selects RX7 yX7_cheapest yX7_cheapest, Cond.code yX7_cheapest cX7_cheapest 3 (some .int), Cond.methodLink RX7 127 yX7_comes, Cond.instanceMethod yX7_comes, Cond.selects RX7 yX7_comes yX7_comes, Cond.code yX7_comes cX7_comes 5 none, Cond.fieldLink RX7 117 "SignedCallsModel" "events" "I", Cond.fieldLink RX7 39 "SignedCallsModel" "eventRow" "[I", Cond.methodLink RX7 131 yX7_takeOut]
def wsX7_offer_r3 : List Cond := [Cond.instanceMethod yX7_takeOut, Cond.selects RX7 yX7_takeOut yX7_takeOut, Cond.code yX7_takeOut cX7_takeOut 3 none]
def wsX7_offer : List Cond := .code yX7_offer cX7_offer 4 (some .int) :: ((wsX7_offer_r1 ++ (wsX7_offer_r2 ++ wsX7_offer_r3)) ++ wsX70)
def wsX7_step : List Cond := .code yX7_step cX7_step 3 (some .int) :: ([.constantLong RX7 77 (1000), .fieldLink RX7 35 "SignedCallsModel" "stepOf" "I", .methodLink RX7 48 yX7_in, .static yX7_in, .initialized RX7, .code yX7_in cX7_in 6 (some .boolean)] ++ wsX70)
def wsX7_ends : List Cond := .code yX7_ends cX7_ends 2 none :: ([.fieldLink RX7 100 "SignedCallsModel" "waits" "I", .fieldLink RX7 29 "SignedCallsModel" "call" "[J", .fieldLink RX7 103 "SignedCallsModel" "height" "I", .methodLink RX7 127 yX7_comes, .instanceMethod yX7_comes, .selects RX7 yX7_comes yX7_comes, .initialized RX7, .code yX7_comes cX7_comes 5 none, .fieldLink RX7 117 "SignedCallsModel" "events" "I", .fieldLink RX7 39 "SignedCallsModel" "eventRow" "[I", .methodLink RX7 131 yX7_takeOut, .instanceMethod yX7_takeOut, .selects RX7 yX7_takeOut yX7_takeOut, .code yX7_takeOut cX7_takeOut 3 none] ++ wsX70)
def wsX7_dearest : List Cond := .code yX7_dearest cX7_dearest 5 (some .int) :: ([.fieldLink RX7 100 "SignedCallsModel" "waits" "I", .fieldLink RX7 29 "SignedCallsModel" "call" "[J", .fieldLink RX7 13 "SignedCallsModel" "next" "[I", .fieldLink RX7 103 "SignedCallsModel" "height" "I", .fieldLink RX7 138 "SignedCallsModel" "roomLeft" "I"] ++ wsX70)
def wsX7_does : List Cond := .code yX7_does cX7_does 16 (some .boolean) :: ([.fieldLink RX7 29 "SignedCallsModel" "call" "[J", .fieldLink RX7 7 "SignedCallsModel" "funds" "[J", .fieldLink RX7 13 "SignedCallsModel" "next" "[I", .fieldLink RX7 42 "SignedCallsModel" "before" "[J", .fieldLink RX7 138 "SignedCallsModel" "roomLeft" "I", .fieldLink RX7 141 "SignedCallsModel" "paid" "J", .methodLink RX7 109 yX7_payer, .static yX7_payer, .initialized RX7, .code yX7_payer cX7_payer 4 (some .int), .methodLink RX7 127 yX7_comes, .instanceMethod yX7_comes, .selects RX7 yX7_comes yX7_comes, .code yX7_comes cX7_comes 5 none, .fieldLink RX7 117 "SignedCallsModel" "events" "I", .fieldLink RX7 39 "SignedCallsModel" "eventRow" "[I", .methodLink RX7 131 yX7_takeOut, .instanceMethod yX7_takeOut, .selects RX7 yX7_takeOut yX7_takeOut, .code yX7_takeOut cX7_takeOut 3 none, .fieldLink RX7 100 "SignedCallsModel" "waits" "I"] ++ wsX70)
def wsX7_block_r1 : List Cond := [Cond.constantLong RX7 145 (10000), Cond.fieldLink RX7 103 "SignedCallsModel" "height" "I", Cond.fieldLink RX7 138 "SignedCallsModel" "roomLeft" "I", Cond.methodLink RX7 48 yX7_in, Cond.static yX7_in, Cond.initialized RX7, Cond.code yX7_in cX7_in 6 (some .boolean), Cond.methodLink RX7 147 yX7_ends, Cond.instanceMethod yX7_ends, Cond.selects RX7 yX7_ends yX7_ends, Cond.code yX7_ends cX7_ends 2 none, Cond.fieldLink RX7 100 "SignedCallsModel" "waits" "I", Cond.fieldLink RX7 29 "SignedCallsModel" "call" "[J", Cond.methodLink RX7 127 yX7_comes, Cond.instanceMethod yX7_comes, Cond.selects RX7 yX7_comes yX7_comes, Cond.code yX7_comes cX7_comes 5 none, Cond.fieldLink RX7 117 "SignedCallsModel" "events" "I", Cond.fieldLink RX7 39 "SignedCallsModel" "eventRow" "[I", Cond.methodLink RX7 131 yX7_takeOut, Cond.instanceMethod yX7_takeOut, Cond.selects RX7 yX7_takeOut yX7_takeOut, Cond.code yX7_takeOut cX7_takeOut 3 none, Cond.methodLink RX7 150 yX7_dearest]
def wsX7_block_r2 : List Cond := [Cond.instanceMethod yX7_dearest, Cond.selects RX7 yX7_dearest yX7_dearest, Cond.code yX7_dearest cX7_dearest 5 (some .int), Cond.fieldLink RX7 13 "SignedCallsModel" "next" "[I", Cond.methodLink RX7 153 yX7_does, Cond.instanceMethod yX7_does, Cond.selects RX7 yX7_does yX7_does, Cond.code yX7_does cX7_does 16 (some .boolean), Cond.fieldLink RX7 7 "SignedCallsModel" "funds" "[J", Cond.fieldLink RX7 42 "SignedCallsModel" "before" "[J", Cond.fieldLink RX7 141 "SignedCallsModel" "paid" "J", Cond.methodLink RX7 109 yX7_payer, Cond.static yX7_payer, Cond.code yX7_payer cX7_payer 4 (some .int)]
def wsX7_block : List Cond := .code yX7_block cX7_block 4 (some .int) :: ((wsX7_block_r1 ++ wsX7_block_r2) ++ wsX70)
def wsX7_waiting : List Cond := .code yX7_waiting cX7_waiting 3 (some .int) :: ([.fieldLink RX7 100 "SignedCallsModel" "waits" "I", .constantLong RX7 156 (3), .fieldLink RX7 29 "SignedCallsModel" "call" "[J", .methodLink RX7 48 yX7_in, .static yX7_in, .initialized RX7, .code yX7_in cX7_in 6 (some .boolean)] ++ wsX70)
def wsX7_event : List Cond := .code yX7_event cX7_event 3 (some .int) :: ([.fieldLink RX7 117 "SignedCallsModel" "events" "I", .constantLong RX7 94 (2), .fieldLink RX7 39 "SignedCallsModel" "eventRow" "[I", .methodLink RX7 48 yX7_in, .static yX7_in, .initialized RX7, .code yX7_in cX7_in 6 (some .boolean)] ++ wsX70)
def wsX7_paid : List Cond := .code yX7_paid cX7_paid 1 (some .long) :: ([.fieldLink RX7 141 "SignedCallsModel" "paid" "J"] ++ wsX70)
def wsX7_told_ : List Cond := .code yX7_told_ cX7_told_ 2 (some .int) :: ([.fieldLink RX7 45 "SignedCallsModel" "accounts" "I", .fieldLink RX7 68 "SignedCallsModel" "signatures" "I", .fieldLink RX7 100 "SignedCallsModel" "waits" "I", .fieldLink RX7 135 "SignedCallsModel" "tickets" "I", .fieldLink RX7 117 "SignedCallsModel" "events" "I", .fieldLink RX7 103 "SignedCallsModel" "height" "I"] ++ wsX70)
def wsJ9_min_7cf53 : List Cond := .code yJ9_min_7cf53 cJ9_min_7cf53 2 (some .int) :: ([])
abbrev vwCl : List vw_C := [(RX0, TX0, 5), (RX1, TX1, 12), (RX2, TX2, 4), (RX3, TX3, 6), (RX4, TX4, 3), (RX5, TX5, 3), (RX6, TX6, 8), (RX7, TX7, 21)]
end
section
theorem dX0_init_0 : decode cX0_init 0 = .ok (.aload_n 0, 1) := by decide +kernel
theorem dX0_init_1 : decode cX0_init 1 = .ok (.invokespecial 3, 3) := by decide +kernel
theorem dX0_init_4 : decode cX0_init 4 = .ok (.aload_n 0, 1) := by decide +kernel
theorem dX0_init_5 : decode cX0_init 5 = .ok (.bipush 12, 2) := by decide +kernel
theorem dX0_init_7 : decode cX0_init 7 = .ok (.newarray .long, 2) := by decide +kernel
theorem dX0_init_9 : decode cX0_init 9 = .ok (.putfield 9, 3) := by decide +kernel
theorem dX0_init_12 : decode cX0_init 12 = .ok (.aload_n 0, 1) := by decide +kernel
theorem dX0_init_13 : decode cX0_init 13 = .ok (.bipush 12, 2) := by decide +kernel
theorem dX0_init_15 : decode cX0_init 15 = .ok (.newarray .int, 2) := by decide +kernel
theorem dX0_init_17 : decode cX0_init 17 = .ok (.putfield 15, 3) := by decide +kernel
theorem dX0_init_20 : decode cX0_init 20 = .ok (.aload_n 0, 1) := by decide +kernel
theorem dX0_init_21 : decode cX0_init 21 = .ok (.bipush 12, 2) := by decide +kernel
theorem dX0_init_23 : decode cX0_init 23 = .ok (.newarray .int, 2) := by decide +kernel
theorem dX0_init_25 : decode cX0_init 25 = .ok (.putfield 19, 3) := by decide +kernel
theorem dX0_init_28 : decode cX0_init 28 = .ok (.aload_n 0, 1) := by decide +kernel
theorem dX0_init_29 : decode cX0_init 29 = .ok (.bipush 12, 2) := by decide +kernel
theorem dX0_init_31 : decode cX0_init 31 = .ok (.newarray .int, 2) := by decide +kernel
theorem dX0_init_33 : decode cX0_init 33 = .ok (.putfield 22, 3) := by decide +kernel
theorem dX0_init_36 : decode cX0_init 36 = .ok (.return_, 1) := by decide +kernel
theorem dX0_has_0 : decode cX0_has 0 = .ok (.iload_n 1, 1) := by decide +kernel
theorem dX0_has_1 : decode cX0_has 1 = .ok (.ifCond .lt 15, 3) := by decide +kernel
theorem dX0_has_4 : decode cX0_has 4 = .ok (.iload_n 1, 1) := by decide +kernel
theorem dX0_has_5 : decode cX0_has 5 = .ok (.aload_n 0, 1) := by decide +kernel
theorem dX0_has_6 : decode cX0_has 6 = .ok (.getfield 25, 3) := by decide +kernel
theorem dX0_has_9 : decode cX0_has 9 = .ok (.if_icmp .ge 7, 3) := by decide +kernel
theorem dX0_has_12 : decode cX0_has 12 = .ok (.iconst 1, 1) := by decide +kernel
theorem dX0_has_13 : decode cX0_has 13 = .ok (.goto 4, 3) := by decide +kernel
theorem dX0_has_16 : decode cX0_has 16 = .ok (.iconst 0, 1) := by decide +kernel
theorem dX0_has_17 : decode cX0_has 17 = .ok (.ireturn, 1) := by decide +kernel
set_option maxRecDepth 20000 in
theorem ggX0_open_X0_setLock : GoodIn wsX0_open wsX0_setLock := goodIn_r _ [7, 8, 9, 10, 11, 12, 13, 14] (by decide +kernel) (by decide +kernel)
set_option maxRecDepth 20000 in
theorem gX0_open_X0_setLock : GoodIn wsX0_open (wsV RX0 29 RX0 yX0_setLock wsX0_setLock) := goodIn_app (goodIn_of _ (by decide +kernel)) ggX0_open_X0_setLock
theorem dX0_open_0 : decode cX0_open 0 = .ok (.aload_n 0, 1) := by decide +kernel
theorem dX0_open_1 : decode cX0_open 1 = .ok (.getfield 25, 3) := by decide +kernel
theorem dX0_open_4 : decode cX0_open 4 = .ok (.istore 5, 2) := by decide +kernel
theorem dX0_open_6 : decode cX0_open 6 = .ok (.aload_n 0, 1) := by decide +kernel
theorem dX0_open_7 : decode cX0_open 7 = .ok (.dup, 1) := by decide +kernel
theorem dX0_open_8 : decode cX0_open 8 = .ok (.getfield 25, 3) := by decide +kernel
theorem dX0_open_11 : decode cX0_open 11 = .ok (.iconst 1, 1) := by decide +kernel
theorem dX0_open_12 : decode cX0_open 12 = .ok (.iadd, 1) := by decide +kernel
theorem dX0_open_13 : decode cX0_open 13 = .ok (.putfield 25, 3) := by decide +kernel
theorem dX0_open_16 : decode cX0_open 16 = .ok (.aload_n 0, 1) := by decide +kernel
theorem dX0_open_17 : decode cX0_open 17 = .ok (.getfield 9, 3) := by decide +kernel
theorem dX0_open_20 : decode cX0_open 20 = .ok (.iload 5, 2) := by decide +kernel
theorem dX0_open_22 : decode cX0_open 22 = .ok (.lload_n 1, 1) := by decide +kernel
theorem dX0_open_23 : decode cX0_open 23 = .ok (.lastore, 1) := by decide +kernel
theorem dX0_open_24 : decode cX0_open 24 = .ok (.aload_n 0, 1) := by decide +kernel
theorem dX0_open_25 : decode cX0_open 25 = .ok (.iload 5, 2) := by decide +kernel
theorem dX0_open_27 : decode cX0_open 27 = .ok (.iload_n 3, 1) := by decide +kernel
theorem dX0_open_28 : decode cX0_open 28 = .ok (.iload 4, 2) := by decide +kernel
theorem dX0_open_30 : decode cX0_open 30 = .ok (.invokevirtual 29, 3) := by decide +kernel
theorem dX0_open_33 : decode cX0_open 33 = .ok (.iload 5, 2) := by decide +kernel
theorem dX0_open_35 : decode cX0_open 35 = .ok (.ireturn, 1) := by decide +kernel
theorem dX0_setLock_0 : decode cX0_setLock 0 = .ok (.aload_n 0, 1) := by decide +kernel
theorem dX0_setLock_1 : decode cX0_setLock 1 = .ok (.getfield 19, 3) := by decide +kernel
theorem dX0_setLock_4 : decode cX0_setLock 4 = .ok (.iload_n 1, 1) := by decide +kernel
theorem dX0_setLock_5 : decode cX0_setLock 5 = .ok (.iload_n 2, 1) := by decide +kernel
theorem dX0_setLock_6 : decode cX0_setLock 6 = .ok (.iastore, 1) := by decide +kernel
theorem dX0_setLock_7 : decode cX0_setLock 7 = .ok (.aload_n 0, 1) := by decide +kernel
theorem dX0_setLock_8 : decode cX0_setLock 8 = .ok (.getfield 22, 3) := by decide +kernel
theorem dX0_setLock_11 : decode cX0_setLock 11 = .ok (.iload_n 1, 1) := by decide +kernel
theorem dX0_setLock_12 : decode cX0_setLock 12 = .ok (.iload_n 3, 1) := by decide +kernel
theorem dX0_setLock_13 : decode cX0_setLock 13 = .ok (.iastore, 1) := by decide +kernel
theorem dX0_setLock_14 : decode cX0_setLock 14 = .ok (.return_, 1) := by decide +kernel
set_option maxRecDepth 20000 in
theorem ggX0_isMet_J6_bitCount_0f7a4 : GoodIn wsX0_isMet wsJ6_bitCount_0f7a4 := goodIn_r _ [6, 7, 8, 9] (by decide +kernel) (by decide +kernel)
set_option maxRecDepth 20000 in
theorem gX0_isMet_J6_bitCount_0f7a4 : GoodIn wsX0_isMet (va_wsS RX0 33 yJ6_bitCount_0f7a4 wsJ6_bitCount_0f7a4) := goodIn_app (goodIn_of _ (by decide +kernel)) ggX0_isMet_J6_bitCount_0f7a4
theorem dX0_isMet_0 : decode cX0_isMet 0 = .ok (.aload_n 0, 1) := by decide +kernel
theorem dX0_isMet_1 : decode cX0_isMet 1 = .ok (.getfield 19, 3) := by decide +kernel
theorem dX0_isMet_4 : decode cX0_isMet 4 = .ok (.iload_n 1, 1) := by decide +kernel
theorem dX0_isMet_5 : decode cX0_isMet 5 = .ok (.iaload, 1) := by decide +kernel
theorem dX0_isMet_6 : decode cX0_isMet 6 = .ok (.iload_n 2, 1) := by decide +kernel
theorem dX0_isMet_7 : decode cX0_isMet 7 = .ok (.iand, 1) := by decide +kernel
theorem dX0_isMet_8 : decode cX0_isMet 8 = .ok (.invokestatic 33, 3) := by decide +kernel
theorem dX0_isMet_11 : decode cX0_isMet 11 = .ok (.aload_n 0, 1) := by decide +kernel
theorem dX0_isMet_12 : decode cX0_isMet 12 = .ok (.getfield 22, 3) := by decide +kernel
theorem dX0_isMet_15 : decode cX0_isMet 15 = .ok (.iload_n 1, 1) := by decide +kernel
theorem dX0_isMet_16 : decode cX0_isMet 16 = .ok (.iaload, 1) := by decide +kernel
theorem dX0_isMet_17 : decode cX0_isMet 17 = .ok (.if_icmp .lt 7, 3) := by decide +kernel
theorem dX0_isMet_20 : decode cX0_isMet 20 = .ok (.iconst 1, 1) := by decide +kernel
theorem dX0_isMet_21 : decode cX0_isMet 21 = .ok (.goto 4, 3) := by decide +kernel
theorem dX0_isMet_24 : decode cX0_isMet 24 = .ok (.iconst 0, 1) := by decide +kernel
theorem dX0_isMet_25 : decode cX0_isMet 25 = .ok (.ireturn, 1) := by decide +kernel
theorem dX0_move_0 : decode cX0_move 0 = .ok (.aload_n 0, 1) := by decide +kernel
theorem dX0_move_1 : decode cX0_move 1 = .ok (.getfield 9, 3) := by decide +kernel
theorem dX0_move_4 : decode cX0_move 4 = .ok (.iload_n 1, 1) := by decide +kernel
theorem dX0_move_5 : decode cX0_move 5 = .ok (.dup2, 1) := by decide +kernel
theorem dX0_move_6 : decode cX0_move 6 = .ok (.laload, 1) := by decide +kernel
theorem dX0_move_7 : decode cX0_move 7 = .ok (.lload_n 3, 1) := by decide +kernel
theorem dX0_move_8 : decode cX0_move 8 = .ok (.lsub, 1) := by decide +kernel
theorem dX0_move_9 : decode cX0_move 9 = .ok (.lastore, 1) := by decide +kernel
theorem dX0_move_10 : decode cX0_move 10 = .ok (.aload_n 0, 1) := by decide +kernel
theorem dX0_move_11 : decode cX0_move 11 = .ok (.getfield 9, 3) := by decide +kernel
theorem dX0_move_14 : decode cX0_move 14 = .ok (.iload_n 2, 1) := by decide +kernel
theorem dX0_move_15 : decode cX0_move 15 = .ok (.dup2, 1) := by decide +kernel
theorem dX0_move_16 : decode cX0_move 16 = .ok (.laload, 1) := by decide +kernel
theorem dX0_move_17 : decode cX0_move 17 = .ok (.lload_n 3, 1) := by decide +kernel
theorem dX0_move_18 : decode cX0_move 18 = .ok (.ladd, 1) := by decide +kernel
theorem dX0_move_19 : decode cX0_move 19 = .ok (.lastore, 1) := by decide +kernel
theorem dX0_move_20 : decode cX0_move 20 = .ok (.return_, 1) := by decide +kernel
theorem dX1_init_0 : decode cX1_init 0 = .ok (.aload_n 0, 1) := by decide +kernel
theorem dX1_init_1 : decode cX1_init 1 = .ok (.invokespecial 3, 3) := by decide +kernel
theorem dX1_init_4 : decode cX1_init 4 = .ok (.aload_n 0, 1) := by decide +kernel
theorem dX1_init_5 : decode cX1_init 5 = .ok (.iconst 4, 1) := by decide +kernel
theorem dX1_init_6 : decode cX1_init 6 = .ok (.newarray .int, 2) := by decide +kernel
theorem dX1_init_8 : decode cX1_init 8 = .ok (.putfield 9, 3) := by decide +kernel
theorem dX1_init_11 : decode cX1_init 11 = .ok (.aload_n 0, 1) := by decide +kernel
theorem dX1_init_12 : decode cX1_init 12 = .ok (.iconst 4, 1) := by decide +kernel
theorem dX1_init_13 : decode cX1_init 13 = .ok (.newarray .long, 2) := by decide +kernel
theorem dX1_init_15 : decode cX1_init 15 = .ok (.putfield 15, 3) := by decide +kernel
theorem dX1_init_18 : decode cX1_init 18 = .ok (.return_, 1) := by decide +kernel
theorem dX1_begin_0 : decode cX1_begin 0 = .ok (.aload_n 0, 1) := by decide +kernel
theorem dX1_begin_1 : decode cX1_begin 1 = .ok (.iload_n 1, 1) := by decide +kernel
theorem dX1_begin_2 : decode cX1_begin 2 = .ok (.putfield 19, 3) := by decide +kernel
theorem dX1_begin_5 : decode cX1_begin 5 = .ok (.aload_n 0, 1) := by decide +kernel
theorem dX1_begin_6 : decode cX1_begin 6 = .ok (.iload_n 2, 1) := by decide +kernel
theorem dX1_begin_7 : decode cX1_begin 7 = .ok (.putfield 23, 3) := by decide +kernel
theorem dX1_begin_10 : decode cX1_begin 10 = .ok (.aload_n 0, 1) := by decide +kernel
theorem dX1_begin_11 : decode cX1_begin 11 = .ok (.iload_n 3, 1) := by decide +kernel
theorem dX1_begin_12 : decode cX1_begin 12 = .ok (.putfield 26, 3) := by decide +kernel
theorem dX1_begin_15 : decode cX1_begin 15 = .ok (.aload_n 0, 1) := by decide +kernel
theorem dX1_begin_16 : decode cX1_begin 16 = .ok (.iload 4, 2) := by decide +kernel
theorem dX1_begin_18 : decode cX1_begin 18 = .ok (.putfield 29, 3) := by decide +kernel
theorem dX1_begin_21 : decode cX1_begin 21 = .ok (.aload_n 0, 1) := by decide +kernel
theorem dX1_begin_22 : decode cX1_begin 22 = .ok (.ldc 32, 2) := by decide +kernel
theorem dX1_begin_24 : decode cX1_begin 24 = .ok (.putfield 33, 3) := by decide +kernel
theorem dX1_begin_27 : decode cX1_begin 27 = .ok (.aload_n 0, 1) := by decide +kernel
theorem dX1_begin_28 : decode cX1_begin 28 = .ok (.iconst 0, 1) := by decide +kernel
theorem dX1_begin_29 : decode cX1_begin 29 = .ok (.putfield 36, 3) := by decide +kernel
theorem dX1_begin_32 : decode cX1_begin 32 = .ok (.aload_n 0, 1) := by decide +kernel
theorem dX1_begin_33 : decode cX1_begin 33 = .ok (.iconst (-1), 1) := by decide +kernel
theorem dX1_begin_34 : decode cX1_begin 34 = .ok (.putfield 39, 3) := by decide +kernel
theorem dX1_begin_37 : decode cX1_begin 37 = .ok (.aload_n 0, 1) := by decide +kernel
theorem dX1_begin_38 : decode cX1_begin 38 = .ok (.iconst 0, 1) := by decide +kernel
theorem dX1_begin_39 : decode cX1_begin 39 = .ok (.putfield 42, 3) := by decide +kernel
theorem dX1_begin_42 : decode cX1_begin 42 = .ok (.return_, 1) := by decide +kernel
theorem dX1_append_0 : decode cX1_append 0 = .ok (.aload_n 0, 1) := by decide +kernel
theorem dX1_append_1 : decode cX1_append 1 = .ok (.getfield 9, 3) := by decide +kernel
theorem dX1_append_4 : decode cX1_append 4 = .ok (.aload_n 0, 1) := by decide +kernel
theorem dX1_append_5 : decode cX1_append 5 = .ok (.getfield 42, 3) := by decide +kernel
theorem dX1_append_8 : decode cX1_append 8 = .ok (.iload_n 1, 1) := by decide +kernel
theorem dX1_append_9 : decode cX1_append 9 = .ok (.iastore, 1) := by decide +kernel
theorem dX1_append_10 : decode cX1_append 10 = .ok (.aload_n 0, 1) := by decide +kernel
theorem dX1_append_11 : decode cX1_append 11 = .ok (.getfield 15, 3) := by decide +kernel
theorem dX1_append_14 : decode cX1_append 14 = .ok (.aload_n 0, 1) := by decide +kernel
theorem dX1_append_15 : decode cX1_append 15 = .ok (.getfield 42, 3) := by decide +kernel
theorem dX1_append_18 : decode cX1_append 18 = .ok (.lload_n 2, 1) := by decide +kernel
theorem dX1_append_19 : decode cX1_append 19 = .ok (.lastore, 1) := by decide +kernel
theorem dX1_append_20 : decode cX1_append 20 = .ok (.aload_n 0, 1) := by decide +kernel
theorem dX1_append_21 : decode cX1_append 21 = .ok (.dup, 1) := by decide +kernel
theorem dX1_append_22 : decode cX1_append 22 = .ok (.getfield 42, 3) := by decide +kernel
theorem dX1_append_25 : decode cX1_append 25 = .ok (.iconst 1, 1) := by decide +kernel
theorem dX1_append_26 : decode cX1_append 26 = .ok (.iadd, 1) := by decide +kernel
theorem dX1_append_27 : decode cX1_append 27 = .ok (.putfield 42, 3) := by decide +kernel
theorem dX1_append_30 : decode cX1_append 30 = .ok (.aload_n 0, 1) := by decide +kernel
theorem dX1_append_31 : decode cX1_append 31 = .ok (.getfield 42, 3) := by decide +kernel
theorem dX1_append_34 : decode cX1_append 34 = .ok (.ireturn, 1) := by decide +kernel
set_option maxRecDepth 20000 in
theorem ggX1_becomeLike_X1_begin : GoodIn wsX1_becomeLike wsX1_begin := goodIn_r _ [15, 1, 2, 3, 4, 16, 5, 6, 7, 8, 21, 22, 23, 24, 25, 26, 27, 28, 29, 30, 31, 32] (by decide +kernel) (by decide +kernel)
set_option maxRecDepth 20000 in
theorem gX1_becomeLike_X1_begin : GoodIn wsX1_becomeLike (wsV RX1 45 RX1 yX1_begin wsX1_begin) := goodIn_app (goodIn_of _ (by decide +kernel)) ggX1_becomeLike_X1_begin
set_option maxRecDepth 20000 in
theorem ggX1_becomeLike_X1_append : GoodIn wsX1_becomeLike wsX1_append := goodIn_r _ [20, 9, 8, 10, 21, 22, 23, 24, 25, 26, 27, 28, 29, 30, 31, 32] (by decide +kernel) (by decide +kernel)
set_option maxRecDepth 20000 in
theorem gX1_becomeLike_X1_append : GoodIn wsX1_becomeLike (wsV RX1 49 RX1 yX1_append wsX1_append) := goodIn_app (goodIn_of _ (by decide +kernel)) ggX1_becomeLike_X1_append
theorem dX1_becomeLike_0 : decode cX1_becomeLike 0 = .ok (.aload_n 0, 1) := by decide +kernel
theorem dX1_becomeLike_1 : decode cX1_becomeLike 1 = .ok (.aload_n 1, 1) := by decide +kernel
theorem dX1_becomeLike_2 : decode cX1_becomeLike 2 = .ok (.getfield 19, 3) := by decide +kernel
theorem dX1_becomeLike_5 : decode cX1_becomeLike 5 = .ok (.aload_n 1, 1) := by decide +kernel
theorem dX1_becomeLike_6 : decode cX1_becomeLike 6 = .ok (.getfield 23, 3) := by decide +kernel
theorem dX1_becomeLike_9 : decode cX1_becomeLike 9 = .ok (.aload_n 1, 1) := by decide +kernel
theorem dX1_becomeLike_10 : decode cX1_becomeLike 10 = .ok (.getfield 26, 3) := by decide +kernel
theorem dX1_becomeLike_13 : decode cX1_becomeLike 13 = .ok (.aload_n 1, 1) := by decide +kernel
theorem dX1_becomeLike_14 : decode cX1_becomeLike 14 = .ok (.getfield 29, 3) := by decide +kernel
theorem dX1_becomeLike_17 : decode cX1_becomeLike 17 = .ok (.invokevirtual 45, 3) := by decide +kernel
theorem dX1_becomeLike_20 : decode cX1_becomeLike 20 = .ok (.aload_n 0, 1) := by decide +kernel
theorem dX1_becomeLike_21 : decode cX1_becomeLike 21 = .ok (.aload_n 1, 1) := by decide +kernel
theorem dX1_becomeLike_22 : decode cX1_becomeLike 22 = .ok (.getfield 33, 3) := by decide +kernel
theorem dX1_becomeLike_25 : decode cX1_becomeLike 25 = .ok (.putfield 33, 3) := by decide +kernel
theorem dX1_becomeLike_28 : decode cX1_becomeLike 28 = .ok (.aload_n 0, 1) := by decide +kernel
theorem dX1_becomeLike_29 : decode cX1_becomeLike 29 = .ok (.aload_n 1, 1) := by decide +kernel
theorem dX1_becomeLike_30 : decode cX1_becomeLike 30 = .ok (.getfield 36, 3) := by decide +kernel
theorem dX1_becomeLike_33 : decode cX1_becomeLike 33 = .ok (.putfield 36, 3) := by decide +kernel
theorem dX1_becomeLike_36 : decode cX1_becomeLike 36 = .ok (.aload_n 0, 1) := by decide +kernel
theorem dX1_becomeLike_37 : decode cX1_becomeLike 37 = .ok (.aload_n 1, 1) := by decide +kernel
theorem dX1_becomeLike_38 : decode cX1_becomeLike 38 = .ok (.getfield 39, 3) := by decide +kernel
theorem dX1_becomeLike_41 : decode cX1_becomeLike 41 = .ok (.putfield 39, 3) := by decide +kernel
theorem dX1_becomeLike_44 : decode cX1_becomeLike 44 = .ok (.iconst 0, 1) := by decide +kernel
theorem dX1_becomeLike_45 : decode cX1_becomeLike 45 = .ok (.istore_n 2, 1) := by decide +kernel
theorem dX1_becomeLike_46 : decode cX1_becomeLike 46 = .ok (.iload_n 2, 1) := by decide +kernel
theorem dX1_becomeLike_47 : decode cX1_becomeLike 47 = .ok (.aload_n 1, 1) := by decide +kernel
theorem dX1_becomeLike_48 : decode cX1_becomeLike 48 = .ok (.getfield 42, 3) := by decide +kernel
theorem dX1_becomeLike_51 : decode cX1_becomeLike 51 = .ok (.if_icmp .ge 26, 3) := by decide +kernel
theorem dX1_becomeLike_54 : decode cX1_becomeLike 54 = .ok (.aload_n 0, 1) := by decide +kernel
theorem dX1_becomeLike_55 : decode cX1_becomeLike 55 = .ok (.aload_n 1, 1) := by decide +kernel
theorem dX1_becomeLike_56 : decode cX1_becomeLike 56 = .ok (.getfield 9, 3) := by decide +kernel
theorem dX1_becomeLike_59 : decode cX1_becomeLike 59 = .ok (.iload_n 2, 1) := by decide +kernel
theorem dX1_becomeLike_60 : decode cX1_becomeLike 60 = .ok (.iaload, 1) := by decide +kernel
theorem dX1_becomeLike_61 : decode cX1_becomeLike 61 = .ok (.aload_n 1, 1) := by decide +kernel
theorem dX1_becomeLike_62 : decode cX1_becomeLike 62 = .ok (.getfield 15, 3) := by decide +kernel
theorem dX1_becomeLike_65 : decode cX1_becomeLike 65 = .ok (.iload_n 2, 1) := by decide +kernel
theorem dX1_becomeLike_66 : decode cX1_becomeLike 66 = .ok (.laload, 1) := by decide +kernel
theorem dX1_becomeLike_67 : decode cX1_becomeLike 67 = .ok (.invokevirtual 49, 3) := by decide +kernel
theorem dX1_becomeLike_70 : decode cX1_becomeLike 70 = .ok (.pop, 1) := by decide +kernel
theorem dX1_becomeLike_71 : decode cX1_becomeLike 71 = .ok (.iinc 2 1, 3) := by decide +kernel
theorem dX1_becomeLike_74 : decode cX1_becomeLike 74 = .ok (.goto (-28), 3) := by decide +kernel
theorem dX1_becomeLike_77 : decode cX1_becomeLike 77 = .ok (.return_, 1) := by decide +kernel
theorem dX1_payer_0 : decode cX1_payer 0 = .ok (.aload_n 0, 1) := by decide +kernel
theorem dX1_payer_1 : decode cX1_payer 1 = .ok (.getfield 39, 3) := by decide +kernel
theorem dX1_payer_4 : decode cX1_payer 4 = .ok (.iconst (-1), 1) := by decide +kernel
theorem dX1_payer_5 : decode cX1_payer 5 = .ok (.if_icmp .ne 10, 3) := by decide +kernel
theorem dX1_payer_8 : decode cX1_payer 8 = .ok (.aload_n 0, 1) := by decide +kernel
theorem dX1_payer_9 : decode cX1_payer 9 = .ok (.getfield 19, 3) := by decide +kernel
theorem dX1_payer_12 : decode cX1_payer 12 = .ok (.goto 7, 3) := by decide +kernel
theorem dX1_payer_15 : decode cX1_payer 15 = .ok (.aload_n 0, 1) := by decide +kernel
theorem dX1_payer_16 : decode cX1_payer 16 = .ok (.getfield 39, 3) := by decide +kernel
theorem dX1_payer_19 : decode cX1_payer 19 = .ok (.ireturn, 1) := by decide +kernel
theorem dX1_stake_0 : decode cX1_stake 0 = .ok (.aload_n 0, 1) := by decide +kernel
theorem dX1_stake_1 : decode cX1_stake 1 = .ok (.getfield 26, 3) := by decide +kernel
theorem dX1_stake_4 : decode cX1_stake 4 = .ok (.i2l, 1) := by decide +kernel
theorem dX1_stake_5 : decode cX1_stake 5 = .ok (.aload_n 0, 1) := by decide +kernel
theorem dX1_stake_6 : decode cX1_stake 6 = .ok (.getfield 29, 3) := by decide +kernel
theorem dX1_stake_9 : decode cX1_stake 9 = .ok (.i2l, 1) := by decide +kernel
theorem dX1_stake_10 : decode cX1_stake 10 = .ok (.lmul, 1) := by decide +kernel
theorem dX1_stake_11 : decode cX1_stake 11 = .ok (.lreturn, 1) := by decide +kernel
theorem dX1_computeDigest_0 : decode cX1_computeDigest 0 = .ok (.ldc2_w 53, 3) := by decide +kernel
theorem dX1_computeDigest_3 : decode cX1_computeDigest 3 = .ok (.lstore_n 1, 1) := by decide +kernel
theorem dX1_computeDigest_4 : decode cX1_computeDigest 4 = .ok (.ldc2_w 55, 3) := by decide +kernel
theorem dX1_computeDigest_7 : decode cX1_computeDigest 7 = .ok (.lload_n 1, 1) := by decide +kernel
theorem dX1_computeDigest_8 : decode cX1_computeDigest 8 = .ok (.lmul, 1) := by decide +kernel
theorem dX1_computeDigest_9 : decode cX1_computeDigest 9 = .ok (.aload_n 0, 1) := by decide +kernel
theorem dX1_computeDigest_10 : decode cX1_computeDigest 10 = .ok (.getfield 19, 3) := by decide +kernel
theorem dX1_computeDigest_13 : decode cX1_computeDigest 13 = .ok (.i2l, 1) := by decide +kernel
theorem dX1_computeDigest_14 : decode cX1_computeDigest 14 = .ok (.ladd, 1) := by decide +kernel
theorem dX1_computeDigest_15 : decode cX1_computeDigest 15 = .ok (.lstore_n 1, 1) := by decide +kernel
theorem dX1_computeDigest_16 : decode cX1_computeDigest 16 = .ok (.ldc2_w 55, 3) := by decide +kernel
theorem dX1_computeDigest_19 : decode cX1_computeDigest 19 = .ok (.lload_n 1, 1) := by decide +kernel
theorem dX1_computeDigest_20 : decode cX1_computeDigest 20 = .ok (.lmul, 1) := by decide +kernel
theorem dX1_computeDigest_21 : decode cX1_computeDigest 21 = .ok (.aload_n 0, 1) := by decide +kernel
theorem dX1_computeDigest_22 : decode cX1_computeDigest 22 = .ok (.getfield 23, 3) := by decide +kernel
theorem dX1_computeDigest_25 : decode cX1_computeDigest 25 = .ok (.i2l, 1) := by decide +kernel
theorem dX1_computeDigest_26 : decode cX1_computeDigest 26 = .ok (.ladd, 1) := by decide +kernel
theorem dX1_computeDigest_27 : decode cX1_computeDigest 27 = .ok (.lstore_n 1, 1) := by decide +kernel
theorem dX1_computeDigest_28 : decode cX1_computeDigest 28 = .ok (.ldc2_w 55, 3) := by decide +kernel
theorem dX1_computeDigest_31 : decode cX1_computeDigest 31 = .ok (.lload_n 1, 1) := by decide +kernel
theorem dX1_computeDigest_32 : decode cX1_computeDigest 32 = .ok (.lmul, 1) := by decide +kernel
theorem dX1_computeDigest_33 : decode cX1_computeDigest 33 = .ok (.aload_n 0, 1) := by decide +kernel
theorem dX1_computeDigest_34 : decode cX1_computeDigest 34 = .ok (.getfield 26, 3) := by decide +kernel
theorem dX1_computeDigest_37 : decode cX1_computeDigest 37 = .ok (.i2l, 1) := by decide +kernel
theorem dX1_computeDigest_38 : decode cX1_computeDigest 38 = .ok (.ladd, 1) := by decide +kernel
theorem dX1_computeDigest_39 : decode cX1_computeDigest 39 = .ok (.lstore_n 1, 1) := by decide +kernel
theorem dX1_computeDigest_40 : decode cX1_computeDigest 40 = .ok (.ldc2_w 55, 3) := by decide +kernel
theorem dX1_computeDigest_43 : decode cX1_computeDigest 43 = .ok (.lload_n 1, 1) := by decide +kernel
theorem dX1_computeDigest_44 : decode cX1_computeDigest 44 = .ok (.lmul, 1) := by decide +kernel
theorem dX1_computeDigest_45 : decode cX1_computeDigest 45 = .ok (.aload_n 0, 1) := by decide +kernel
theorem dX1_computeDigest_46 : decode cX1_computeDigest 46 = .ok (.getfield 29, 3) := by decide +kernel
theorem dX1_computeDigest_49 : decode cX1_computeDigest 49 = .ok (.i2l, 1) := by decide +kernel
theorem dX1_computeDigest_50 : decode cX1_computeDigest 50 = .ok (.ladd, 1) := by decide +kernel
theorem dX1_computeDigest_51 : decode cX1_computeDigest 51 = .ok (.lstore_n 1, 1) := by decide +kernel
theorem dX1_computeDigest_52 : decode cX1_computeDigest 52 = .ok (.ldc2_w 55, 3) := by decide +kernel
theorem dX1_computeDigest_55 : decode cX1_computeDigest 55 = .ok (.lload_n 1, 1) := by decide +kernel
theorem dX1_computeDigest_56 : decode cX1_computeDigest 56 = .ok (.lmul, 1) := by decide +kernel
theorem dX1_computeDigest_57 : decode cX1_computeDigest 57 = .ok (.aload_n 0, 1) := by decide +kernel
theorem dX1_computeDigest_58 : decode cX1_computeDigest 58 = .ok (.getfield 33, 3) := by decide +kernel
theorem dX1_computeDigest_61 : decode cX1_computeDigest 61 = .ok (.i2l, 1) := by decide +kernel
theorem dX1_computeDigest_62 : decode cX1_computeDigest 62 = .ok (.ladd, 1) := by decide +kernel
theorem dX1_computeDigest_63 : decode cX1_computeDigest 63 = .ok (.lstore_n 1, 1) := by decide +kernel
theorem dX1_computeDigest_64 : decode cX1_computeDigest 64 = .ok (.ldc2_w 55, 3) := by decide +kernel
theorem dX1_computeDigest_67 : decode cX1_computeDigest 67 = .ok (.lload_n 1, 1) := by decide +kernel
theorem dX1_computeDigest_68 : decode cX1_computeDigest 68 = .ok (.lmul, 1) := by decide +kernel
theorem dX1_computeDigest_69 : decode cX1_computeDigest 69 = .ok (.aload_n 0, 1) := by decide +kernel
theorem dX1_computeDigest_70 : decode cX1_computeDigest 70 = .ok (.getfield 36, 3) := by decide +kernel
theorem dX1_computeDigest_73 : decode cX1_computeDigest 73 = .ok (.i2l, 1) := by decide +kernel
theorem dX1_computeDigest_74 : decode cX1_computeDigest 74 = .ok (.ladd, 1) := by decide +kernel
theorem dX1_computeDigest_75 : decode cX1_computeDigest 75 = .ok (.lstore_n 1, 1) := by decide +kernel
theorem dX1_computeDigest_76 : decode cX1_computeDigest 76 = .ok (.ldc2_w 55, 3) := by decide +kernel
theorem dX1_computeDigest_79 : decode cX1_computeDigest 79 = .ok (.lload_n 1, 1) := by decide +kernel
theorem dX1_computeDigest_80 : decode cX1_computeDigest 80 = .ok (.lmul, 1) := by decide +kernel
theorem dX1_computeDigest_81 : decode cX1_computeDigest 81 = .ok (.aload_n 0, 1) := by decide +kernel
theorem dX1_computeDigest_82 : decode cX1_computeDigest 82 = .ok (.getfield 39, 3) := by decide +kernel
theorem dX1_computeDigest_85 : decode cX1_computeDigest 85 = .ok (.i2l, 1) := by decide +kernel
theorem dX1_computeDigest_86 : decode cX1_computeDigest 86 = .ok (.ladd, 1) := by decide +kernel
theorem dX1_computeDigest_87 : decode cX1_computeDigest 87 = .ok (.lstore_n 1, 1) := by decide +kernel
theorem dX1_computeDigest_88 : decode cX1_computeDigest 88 = .ok (.iconst 0, 1) := by decide +kernel
theorem dX1_computeDigest_89 : decode cX1_computeDigest 89 = .ok (.istore_n 3, 1) := by decide +kernel
theorem dX1_computeDigest_90 : decode cX1_computeDigest 90 = .ok (.iload_n 3, 1) := by decide +kernel
theorem dX1_computeDigest_91 : decode cX1_computeDigest 91 = .ok (.aload_n 0, 1) := by decide +kernel
theorem dX1_computeDigest_92 : decode cX1_computeDigest 92 = .ok (.getfield 42, 3) := by decide +kernel
theorem dX1_computeDigest_95 : decode cX1_computeDigest 95 = .ok (.if_icmp .ge 36, 3) := by decide +kernel
theorem dX1_computeDigest_98 : decode cX1_computeDigest 98 = .ok (.ldc2_w 55, 3) := by decide +kernel
theorem dX1_computeDigest_101 : decode cX1_computeDigest 101 = .ok (.lload_n 1, 1) := by decide +kernel
theorem dX1_computeDigest_102 : decode cX1_computeDigest 102 = .ok (.lmul, 1) := by decide +kernel
theorem dX1_computeDigest_103 : decode cX1_computeDigest 103 = .ok (.aload_n 0, 1) := by decide +kernel
theorem dX1_computeDigest_104 : decode cX1_computeDigest 104 = .ok (.getfield 9, 3) := by decide +kernel
theorem dX1_computeDigest_107 : decode cX1_computeDigest 107 = .ok (.iload_n 3, 1) := by decide +kernel
theorem dX1_computeDigest_108 : decode cX1_computeDigest 108 = .ok (.iaload, 1) := by decide +kernel
theorem dX1_computeDigest_109 : decode cX1_computeDigest 109 = .ok (.i2l, 1) := by decide +kernel
theorem dX1_computeDigest_110 : decode cX1_computeDigest 110 = .ok (.ladd, 1) := by decide +kernel
theorem dX1_computeDigest_111 : decode cX1_computeDigest 111 = .ok (.lstore_n 1, 1) := by decide +kernel
theorem dX1_computeDigest_112 : decode cX1_computeDigest 112 = .ok (.ldc2_w 55, 3) := by decide +kernel
theorem dX1_computeDigest_115 : decode cX1_computeDigest 115 = .ok (.lload_n 1, 1) := by decide +kernel
theorem dX1_computeDigest_116 : decode cX1_computeDigest 116 = .ok (.lmul, 1) := by decide +kernel
theorem dX1_computeDigest_117 : decode cX1_computeDigest 117 = .ok (.aload_n 0, 1) := by decide +kernel
theorem dX1_computeDigest_118 : decode cX1_computeDigest 118 = .ok (.getfield 15, 3) := by decide +kernel
theorem dX1_computeDigest_121 : decode cX1_computeDigest 121 = .ok (.iload_n 3, 1) := by decide +kernel
theorem dX1_computeDigest_122 : decode cX1_computeDigest 122 = .ok (.laload, 1) := by decide +kernel
theorem dX1_computeDigest_123 : decode cX1_computeDigest 123 = .ok (.ladd, 1) := by decide +kernel
theorem dX1_computeDigest_124 : decode cX1_computeDigest 124 = .ok (.lstore_n 1, 1) := by decide +kernel
theorem dX1_computeDigest_125 : decode cX1_computeDigest 125 = .ok (.iinc 3 1, 3) := by decide +kernel
theorem dX1_computeDigest_128 : decode cX1_computeDigest 128 = .ok (.goto (-38), 3) := by decide +kernel
theorem dX1_computeDigest_131 : decode cX1_computeDigest 131 = .ok (.lload_n 1, 1) := by decide +kernel
theorem dX1_computeDigest_132 : decode cX1_computeDigest 132 = .ok (.lreturn, 1) := by decide +kernel
set_option maxRecDepth 20000 in
theorem ggX2_init_X1_init : GoodIn wsX2_init wsX1_init := goodIn_r _ [11, 12, 2, 3, 8, 13, 14, 15, 16, 17, 18, 19, 20, 21, 22, 23, 24, 25, 26, 27] (by decide +kernel) (by decide +kernel)
set_option maxRecDepth 20000 in
theorem gX2_init_X1_init_n11 : GoodIn wsX2_init (wsX1_init) := ggX2_init_X1_init
theorem dX2_init_0 : decode cX2_init 0 = .ok (.aload_n 0, 1) := by decide +kernel
theorem dX2_init_1 : decode cX2_init 1 = .ok (.invokespecial 3, 3) := by decide +kernel
theorem dX2_init_4 : decode cX2_init 4 = .ok (.aload_n 0, 1) := by decide +kernel
theorem dX2_init_5 : decode cX2_init 5 = .ok (.new 9, 3) := by decide +kernel
theorem dX2_init_8 : decode cX2_init 8 = .ok (.dup, 1) := by decide +kernel
theorem dX2_init_9 : decode cX2_init 9 = .ok (.invokespecial 11, 3) := by decide +kernel
theorem dX2_init_12 : decode cX2_init 12 = .ok (.putfield 12, 3) := by decide +kernel
theorem dX2_init_15 : decode cX2_init 15 = .ok (.aload_n 0, 1) := by decide +kernel
theorem dX2_init_16 : decode cX2_init 16 = .ok (.bipush 12, 2) := by decide +kernel
theorem dX2_init_18 : decode cX2_init 18 = .ok (.newarray .int, 2) := by decide +kernel
theorem dX2_init_20 : decode cX2_init 20 = .ok (.putfield 18, 3) := by decide +kernel
theorem dX2_init_23 : decode cX2_init 23 = .ok (.return_, 1) := by decide +kernel
set_option maxRecDepth 20000 in
theorem ggX2_begin_X1_begin : GoodIn wsX2_begin wsX1_begin := goodIn_r _ [8, 9, 10, 11, 12, 13, 14, 15, 16, 17, 22, 23, 24, 25, 26, 27, 28, 29, 30, 31, 32, 33] (by decide +kernel) (by decide +kernel)
set_option maxRecDepth 20000 in
theorem gX2_begin_X1_begin : GoodIn wsX2_begin (wsV RX2 22 RX1 yX1_begin wsX1_begin) := goodIn_app (goodIn_of _ (by decide +kernel)) ggX2_begin_X1_begin
theorem dX2_begin_0 : decode cX2_begin 0 = .ok (.aload_n 0, 1) := by decide +kernel
theorem dX2_begin_1 : decode cX2_begin 1 = .ok (.getfield 12, 3) := by decide +kernel
theorem dX2_begin_4 : decode cX2_begin 4 = .ok (.iload_n 1, 1) := by decide +kernel
theorem dX2_begin_5 : decode cX2_begin 5 = .ok (.iload_n 2, 1) := by decide +kernel
theorem dX2_begin_6 : decode cX2_begin 6 = .ok (.iload_n 3, 1) := by decide +kernel
theorem dX2_begin_7 : decode cX2_begin 7 = .ok (.iload 4, 2) := by decide +kernel
theorem dX2_begin_9 : decode cX2_begin 9 = .ok (.invokevirtual 22, 3) := by decide +kernel
theorem dX2_begin_12 : decode cX2_begin 12 = .ok (.aload_n 0, 1) := by decide +kernel
theorem dX2_begin_13 : decode cX2_begin 13 = .ok (.iconst 0, 1) := by decide +kernel
theorem dX2_begin_14 : decode cX2_begin 14 = .ok (.putfield 26, 3) := by decide +kernel
theorem dX2_begin_17 : decode cX2_begin 17 = .ok (.aload_n 0, 1) := by decide +kernel
theorem dX2_begin_18 : decode cX2_begin 18 = .ok (.iconst 1, 1) := by decide +kernel
theorem dX2_begin_19 : decode cX2_begin 19 = .ok (.putfield 30, 3) := by decide +kernel
theorem dX2_begin_22 : decode cX2_begin 22 = .ok (.return_, 1) := by decide +kernel
theorem dX2_append_0 : decode cX2_append 0 = .ok (.aload_n 0, 1) := by decide +kernel
theorem dX2_append_1 : decode cX2_append 1 = .ok (.getfield 18, 3) := by decide +kernel
theorem dX2_append_4 : decode cX2_append 4 = .ok (.aload_n 0, 1) := by decide +kernel
theorem dX2_append_5 : decode cX2_append 5 = .ok (.getfield 26, 3) := by decide +kernel
theorem dX2_append_8 : decode cX2_append 8 = .ok (.iload_n 1, 1) := by decide +kernel
theorem dX2_append_9 : decode cX2_append 9 = .ok (.iastore, 1) := by decide +kernel
theorem dX2_append_10 : decode cX2_append 10 = .ok (.aload_n 0, 1) := by decide +kernel
theorem dX2_append_11 : decode cX2_append 11 = .ok (.dup, 1) := by decide +kernel
theorem dX2_append_12 : decode cX2_append 12 = .ok (.getfield 26, 3) := by decide +kernel
theorem dX2_append_15 : decode cX2_append 15 = .ok (.iconst 1, 1) := by decide +kernel
theorem dX2_append_16 : decode cX2_append 16 = .ok (.iadd, 1) := by decide +kernel
theorem dX2_append_17 : decode cX2_append 17 = .ok (.putfield 26, 3) := by decide +kernel
theorem dX2_append_20 : decode cX2_append 20 = .ok (.aload_n 0, 1) := by decide +kernel
theorem dX2_append_21 : decode cX2_append 21 = .ok (.getfield 26, 3) := by decide +kernel
theorem dX2_append_24 : decode cX2_append 24 = .ok (.ireturn, 1) := by decide +kernel
theorem dX3_init_0 : decode cX3_init 0 = .ok (.aload_n 0, 1) := by decide +kernel
theorem dX3_init_1 : decode cX3_init 1 = .ok (.invokespecial 3, 3) := by decide +kernel
theorem dX3_init_4 : decode cX3_init 4 = .ok (.aload_n 0, 1) := by decide +kernel
theorem dX3_init_5 : decode cX3_init 5 = .ok (.bipush 60, 2) := by decide +kernel
theorem dX3_init_7 : decode cX3_init 7 = .ok (.newarray .int, 2) := by decide +kernel
theorem dX3_init_9 : decode cX3_init 9 = .ok (.putfield 9, 3) := by decide +kernel
theorem dX3_init_12 : decode cX3_init 12 = .ok (.aload_n 0, 1) := by decide +kernel
theorem dX3_init_13 : decode cX3_init 13 = .ok (.bipush 60, 2) := by decide +kernel
theorem dX3_init_15 : decode cX3_init 15 = .ok (.newarray .int, 2) := by decide +kernel
theorem dX3_init_17 : decode cX3_init 17 = .ok (.putfield 15, 3) := by decide +kernel
theorem dX3_init_20 : decode cX3_init 20 = .ok (.aload_n 0, 1) := by decide +kernel
theorem dX3_init_21 : decode cX3_init 21 = .ok (.bipush 60, 2) := by decide +kernel
theorem dX3_init_23 : decode cX3_init 23 = .ok (.newarray .int, 2) := by decide +kernel
theorem dX3_init_25 : decode cX3_init 25 = .ok (.putfield 18, 3) := by decide +kernel
theorem dX3_init_28 : decode cX3_init 28 = .ok (.aload_n 0, 1) := by decide +kernel
theorem dX3_init_29 : decode cX3_init 29 = .ok (.bipush 59, 2) := by decide +kernel
theorem dX3_init_31 : decode cX3_init 31 = .ok (.putfield 21, 3) := by decide +kernel
theorem dX3_init_34 : decode cX3_init 34 = .ok (.return_, 1) := by decide +kernel
theorem dX3_note_0 : decode cX3_note 0 = .ok (.aload_n 0, 1) := by decide +kernel
theorem dX3_note_1 : decode cX3_note 1 = .ok (.aload_n 0, 1) := by decide +kernel
theorem dX3_note_2 : decode cX3_note 2 = .ok (.getfield 21, 3) := by decide +kernel
theorem dX3_note_5 : decode cX3_note 5 = .ok (.iconst 1, 1) := by decide +kernel
theorem dX3_note_6 : decode cX3_note 6 = .ok (.iadd, 1) := by decide +kernel
theorem dX3_note_7 : decode cX3_note 7 = .ok (.bipush 60, 2) := by decide +kernel
theorem dX3_note_9 : decode cX3_note 9 = .ok (.if_icmp .ge 12, 3) := by decide +kernel
theorem dX3_note_12 : decode cX3_note 12 = .ok (.aload_n 0, 1) := by decide +kernel
theorem dX3_note_13 : decode cX3_note 13 = .ok (.getfield 21, 3) := by decide +kernel
theorem dX3_note_16 : decode cX3_note 16 = .ok (.iconst 1, 1) := by decide +kernel
theorem dX3_note_17 : decode cX3_note 17 = .ok (.iadd, 1) := by decide +kernel
theorem dX3_note_18 : decode cX3_note 18 = .ok (.goto 4, 3) := by decide +kernel
theorem dX3_note_21 : decode cX3_note 21 = .ok (.iconst 0, 1) := by decide +kernel
theorem dX3_note_22 : decode cX3_note 22 = .ok (.putfield 21, 3) := by decide +kernel
theorem dX3_note_25 : decode cX3_note 25 = .ok (.aload_n 0, 1) := by decide +kernel
theorem dX3_note_26 : decode cX3_note 26 = .ok (.getfield 9, 3) := by decide +kernel
theorem dX3_note_29 : decode cX3_note 29 = .ok (.aload_n 0, 1) := by decide +kernel
theorem dX3_note_30 : decode cX3_note 30 = .ok (.getfield 21, 3) := by decide +kernel
theorem dX3_note_33 : decode cX3_note 33 = .ok (.iload_n 1, 1) := by decide +kernel
theorem dX3_note_34 : decode cX3_note 34 = .ok (.iastore, 1) := by decide +kernel
theorem dX3_note_35 : decode cX3_note 35 = .ok (.aload_n 0, 1) := by decide +kernel
theorem dX3_note_36 : decode cX3_note 36 = .ok (.getfield 15, 3) := by decide +kernel
theorem dX3_note_39 : decode cX3_note 39 = .ok (.aload_n 0, 1) := by decide +kernel
theorem dX3_note_40 : decode cX3_note 40 = .ok (.getfield 21, 3) := by decide +kernel
theorem dX3_note_43 : decode cX3_note 43 = .ok (.iload_n 2, 1) := by decide +kernel
theorem dX3_note_44 : decode cX3_note 44 = .ok (.iastore, 1) := by decide +kernel
theorem dX3_note_45 : decode cX3_note 45 = .ok (.aload_n 0, 1) := by decide +kernel
theorem dX3_note_46 : decode cX3_note 46 = .ok (.getfield 18, 3) := by decide +kernel
theorem dX3_note_49 : decode cX3_note 49 = .ok (.aload_n 0, 1) := by decide +kernel
theorem dX3_note_50 : decode cX3_note 50 = .ok (.getfield 21, 3) := by decide +kernel
theorem dX3_note_53 : decode cX3_note 53 = .ok (.iload_n 3, 1) := by decide +kernel
theorem dX3_note_54 : decode cX3_note 54 = .ok (.iastore, 1) := by decide +kernel
theorem dX3_note_55 : decode cX3_note 55 = .ok (.aload_n 0, 1) := by decide +kernel
theorem dX3_note_56 : decode cX3_note 56 = .ok (.aload_n 0, 1) := by decide +kernel
theorem dX3_note_57 : decode cX3_note 57 = .ok (.getfield 25, 3) := by decide +kernel
theorem dX3_note_60 : decode cX3_note 60 = .ok (.iconst 1, 1) := by decide +kernel
theorem dX3_note_61 : decode cX3_note 61 = .ok (.iadd, 1) := by decide +kernel
theorem dX3_note_62 : decode cX3_note 62 = .ok (.bipush 60, 2) := by decide +kernel
theorem dX3_note_64 : decode cX3_note 64 = .ok (.invokestatic 28, 3) := by decide +kernel
theorem dX3_note_67 : decode cX3_note 67 = .ok (.putfield 25, 3) := by decide +kernel
theorem dX3_note_70 : decode cX3_note 70 = .ok (.aload_n 0, 1) := by decide +kernel
theorem dX3_note_71 : decode cX3_note 71 = .ok (.dup, 1) := by decide +kernel
theorem dX3_note_72 : decode cX3_note 72 = .ok (.getfield 34, 3) := by decide +kernel
theorem dX3_note_75 : decode cX3_note 75 = .ok (.iconst 1, 1) := by decide +kernel
theorem dX3_note_76 : decode cX3_note 76 = .ok (.iadd, 1) := by decide +kernel
theorem dX3_note_77 : decode cX3_note 77 = .ok (.putfield 34, 3) := by decide +kernel
theorem dX3_note_80 : decode cX3_note 80 = .ok (.return_, 1) := by decide +kernel
theorem dX3_placeOf_0 : decode cX3_placeOf 0 = .ok (.aload_n 0, 1) := by decide +kernel
theorem dX3_placeOf_1 : decode cX3_placeOf 1 = .ok (.getfield 21, 3) := by decide +kernel
theorem dX3_placeOf_4 : decode cX3_placeOf 4 = .ok (.iload_n 1, 1) := by decide +kernel
theorem dX3_placeOf_5 : decode cX3_placeOf 5 = .ok (.isub, 1) := by decide +kernel
theorem dX3_placeOf_6 : decode cX3_placeOf 6 = .ok (.istore_n 2, 1) := by decide +kernel
theorem dX3_placeOf_7 : decode cX3_placeOf 7 = .ok (.iload_n 2, 1) := by decide +kernel
theorem dX3_placeOf_8 : decode cX3_placeOf 8 = .ok (.ifCond .lt 7, 3) := by decide +kernel
theorem dX3_placeOf_11 : decode cX3_placeOf 11 = .ok (.iload_n 2, 1) := by decide +kernel
theorem dX3_placeOf_12 : decode cX3_placeOf 12 = .ok (.goto 7, 3) := by decide +kernel
theorem dX3_placeOf_15 : decode cX3_placeOf 15 = .ok (.iload_n 2, 1) := by decide +kernel
theorem dX3_placeOf_16 : decode cX3_placeOf 16 = .ok (.bipush 60, 2) := by decide +kernel
theorem dX3_placeOf_18 : decode cX3_placeOf 18 = .ok (.iadd, 1) := by decide +kernel
theorem dX3_placeOf_19 : decode cX3_placeOf 19 = .ok (.ireturn, 1) := by decide +kernel
theorem dX4_init_0 : decode cX4_init 0 = .ok (.aload_n 0, 1) := by decide +kernel
theorem dX4_init_1 : decode cX4_init 1 = .ok (.invokespecial 3, 3) := by decide +kernel
theorem dX4_init_4 : decode cX4_init 4 = .ok (.aload_n 0, 1) := by decide +kernel
theorem dX4_init_5 : decode cX4_init 5 = .ok (.sipush 200, 3) := by decide +kernel
theorem dX4_init_8 : decode cX4_init 8 = .ok (.newarray .int, 2) := by decide +kernel
theorem dX4_init_10 : decode cX4_init 10 = .ok (.putfield 9, 3) := by decide +kernel
theorem dX4_init_13 : decode cX4_init 13 = .ok (.aload_n 0, 1) := by decide +kernel
theorem dX4_init_14 : decode cX4_init 14 = .ok (.sipush 200, 3) := by decide +kernel
theorem dX4_init_17 : decode cX4_init 17 = .ok (.newarray .long, 2) := by decide +kernel
theorem dX4_init_19 : decode cX4_init 19 = .ok (.putfield 15, 3) := by decide +kernel
theorem dX4_init_22 : decode cX4_init 22 = .ok (.return_, 1) := by decide +kernel
theorem dX4_has_0 : decode cX4_has 0 = .ok (.iload_n 1, 1) := by decide +kernel
theorem dX4_has_1 : decode cX4_has 1 = .ok (.ifCond .lt 15, 3) := by decide +kernel
theorem dX4_has_4 : decode cX4_has 4 = .ok (.iload_n 1, 1) := by decide +kernel
theorem dX4_has_5 : decode cX4_has 5 = .ok (.aload_n 0, 1) := by decide +kernel
theorem dX4_has_6 : decode cX4_has 6 = .ok (.getfield 19, 3) := by decide +kernel
theorem dX4_has_9 : decode cX4_has 9 = .ok (.if_icmp .ge 7, 3) := by decide +kernel
theorem dX4_has_12 : decode cX4_has 12 = .ok (.iconst 1, 1) := by decide +kernel
theorem dX4_has_13 : decode cX4_has 13 = .ok (.goto 4, 3) := by decide +kernel
theorem dX4_has_16 : decode cX4_has 16 = .ok (.iconst 0, 1) := by decide +kernel
theorem dX4_has_17 : decode cX4_has 17 = .ok (.ireturn, 1) := by decide +kernel
theorem dX4_keep_0 : decode cX4_keep 0 = .ok (.aload_n 0, 1) := by decide +kernel
theorem dX4_keep_1 : decode cX4_keep 1 = .ok (.getfield 19, 3) := by decide +kernel
theorem dX4_keep_4 : decode cX4_keep 4 = .ok (.istore 4, 2) := by decide +kernel
theorem dX4_keep_6 : decode cX4_keep 6 = .ok (.aload_n 0, 1) := by decide +kernel
theorem dX4_keep_7 : decode cX4_keep 7 = .ok (.dup, 1) := by decide +kernel
theorem dX4_keep_8 : decode cX4_keep 8 = .ok (.getfield 19, 3) := by decide +kernel
theorem dX4_keep_11 : decode cX4_keep 11 = .ok (.iconst 1, 1) := by decide +kernel
theorem dX4_keep_12 : decode cX4_keep 12 = .ok (.iadd, 1) := by decide +kernel
theorem dX4_keep_13 : decode cX4_keep 13 = .ok (.putfield 19, 3) := by decide +kernel
theorem dX4_keep_16 : decode cX4_keep 16 = .ok (.aload_n 0, 1) := by decide +kernel
theorem dX4_keep_17 : decode cX4_keep 17 = .ok (.getfield 9, 3) := by decide +kernel
theorem dX4_keep_20 : decode cX4_keep 20 = .ok (.iload 4, 2) := by decide +kernel
theorem dX4_keep_22 : decode cX4_keep 22 = .ok (.iload_n 1, 1) := by decide +kernel
theorem dX4_keep_23 : decode cX4_keep 23 = .ok (.iastore, 1) := by decide +kernel
theorem dX4_keep_24 : decode cX4_keep 24 = .ok (.aload_n 0, 1) := by decide +kernel
theorem dX4_keep_25 : decode cX4_keep 25 = .ok (.getfield 15, 3) := by decide +kernel
theorem dX4_keep_28 : decode cX4_keep 28 = .ok (.iload 4, 2) := by decide +kernel
theorem dX4_keep_30 : decode cX4_keep 30 = .ok (.lload_n 2, 1) := by decide +kernel
theorem dX4_keep_31 : decode cX4_keep 31 = .ok (.lastore, 1) := by decide +kernel
theorem dX4_keep_32 : decode cX4_keep 32 = .ok (.iload 4, 2) := by decide +kernel
theorem dX4_keep_34 : decode cX4_keep 34 = .ok (.ireturn, 1) := by decide +kernel
set_option maxRecDepth 20000 in
theorem ggX5_init_X1_init : GoodIn wsX5_init wsX1_init := goodIn_r _ [9, 10, 2, 3, 11, 12, 13, 14, 18, 19, 20, 21, 22, 23, 24, 25, 26, 27, 28, 29] (by decide +kernel) (by decide +kernel)
set_option maxRecDepth 20000 in
theorem gX5_init_X1_init_n17 : GoodIn wsX5_init (wsX1_init) := ggX5_init_X1_init
theorem dX5_init_0 : decode cX5_init 0 = .ok (.aload_n 0, 1) := by decide +kernel
theorem dX5_init_1 : decode cX5_init 1 = .ok (.invokespecial 3, 3) := by decide +kernel
theorem dX5_init_4 : decode cX5_init 4 = .ok (.aload_n 0, 1) := by decide +kernel
theorem dX5_init_5 : decode cX5_init 5 = .ok (.bipush 24, 2) := by decide +kernel
theorem dX5_init_7 : decode cX5_init 7 = .ok (.anewarray 9, 3) := by decide +kernel
theorem dX5_init_10 : decode cX5_init 10 = .ok (.putfield 11, 3) := by decide +kernel
theorem dX5_init_13 : decode cX5_init 13 = .ok (.iconst 0, 1) := by decide +kernel
theorem dX5_init_14 : decode cX5_init 14 = .ok (.istore_n 1, 1) := by decide +kernel
theorem dX5_init_15 : decode cX5_init 15 = .ok (.iload_n 1, 1) := by decide +kernel
theorem dX5_init_16 : decode cX5_init 16 = .ok (.bipush 24, 2) := by decide +kernel
theorem dX5_init_18 : decode cX5_init 18 = .ok (.if_icmp .ge 22, 3) := by decide +kernel
theorem dX5_init_21 : decode cX5_init 21 = .ok (.aload_n 0, 1) := by decide +kernel
theorem dX5_init_22 : decode cX5_init 22 = .ok (.getfield 11, 3) := by decide +kernel
theorem dX5_init_25 : decode cX5_init 25 = .ok (.iload_n 1, 1) := by decide +kernel
theorem dX5_init_26 : decode cX5_init 26 = .ok (.new 9, 3) := by decide +kernel
theorem dX5_init_29 : decode cX5_init 29 = .ok (.dup, 1) := by decide +kernel
theorem dX5_init_30 : decode cX5_init 30 = .ok (.invokespecial 17, 3) := by decide +kernel
theorem dX5_init_33 : decode cX5_init 33 = .ok (.aastore, 1) := by decide +kernel
theorem dX5_init_34 : decode cX5_init 34 = .ok (.iinc 1 1, 3) := by decide +kernel
theorem dX5_init_37 : decode cX5_init 37 = .ok (.goto (-22), 3) := by decide +kernel
theorem dX5_init_40 : decode cX5_init 40 = .ok (.return_, 1) := by decide +kernel
theorem dX5_isFull_0 : decode cX5_isFull 0 = .ok (.aload_n 0, 1) := by decide +kernel
theorem dX5_isFull_1 : decode cX5_isFull 1 = .ok (.getfield 18, 3) := by decide +kernel
theorem dX5_isFull_4 : decode cX5_isFull 4 = .ok (.bipush 24, 2) := by decide +kernel
theorem dX5_isFull_6 : decode cX5_isFull 6 = .ok (.if_icmp .lt 7, 3) := by decide +kernel
theorem dX5_isFull_9 : decode cX5_isFull 9 = .ok (.iconst 1, 1) := by decide +kernel
theorem dX5_isFull_10 : decode cX5_isFull 10 = .ok (.goto 4, 3) := by decide +kernel
theorem dX5_isFull_13 : decode cX5_isFull 13 = .ok (.iconst 0, 1) := by decide +kernel
theorem dX5_isFull_14 : decode cX5_isFull 14 = .ok (.ireturn, 1) := by decide +kernel
theorem dX5_indexOf_0 : decode cX5_indexOf 0 = .ok (.iconst 0, 1) := by decide +kernel
theorem dX5_indexOf_1 : decode cX5_indexOf 1 = .ok (.istore_n 3, 1) := by decide +kernel
theorem dX5_indexOf_2 : decode cX5_indexOf 2 = .ok (.iload_n 3, 1) := by decide +kernel
theorem dX5_indexOf_3 : decode cX5_indexOf 3 = .ok (.aload_n 0, 1) := by decide +kernel
theorem dX5_indexOf_4 : decode cX5_indexOf 4 = .ok (.getfield 18, 3) := by decide +kernel
theorem dX5_indexOf_7 : decode cX5_indexOf 7 = .ok (.if_icmp .ge 37, 3) := by decide +kernel
theorem dX5_indexOf_10 : decode cX5_indexOf 10 = .ok (.aload_n 0, 1) := by decide +kernel
theorem dX5_indexOf_11 : decode cX5_indexOf 11 = .ok (.getfield 11, 3) := by decide +kernel
theorem dX5_indexOf_14 : decode cX5_indexOf 14 = .ok (.iload_n 3, 1) := by decide +kernel
theorem dX5_indexOf_15 : decode cX5_indexOf 15 = .ok (.aaload, 1) := by decide +kernel
theorem dX5_indexOf_16 : decode cX5_indexOf 16 = .ok (.getfield 22, 3) := by decide +kernel
theorem dX5_indexOf_19 : decode cX5_indexOf 19 = .ok (.iload_n 1, 1) := by decide +kernel
theorem dX5_indexOf_20 : decode cX5_indexOf 20 = .ok (.if_icmp .ne 18, 3) := by decide +kernel
theorem dX5_indexOf_23 : decode cX5_indexOf 23 = .ok (.aload_n 0, 1) := by decide +kernel
theorem dX5_indexOf_24 : decode cX5_indexOf 24 = .ok (.getfield 11, 3) := by decide +kernel
theorem dX5_indexOf_27 : decode cX5_indexOf 27 = .ok (.iload_n 3, 1) := by decide +kernel
theorem dX5_indexOf_28 : decode cX5_indexOf 28 = .ok (.aaload, 1) := by decide +kernel
theorem dX5_indexOf_29 : decode cX5_indexOf 29 = .ok (.getfield 25, 3) := by decide +kernel
theorem dX5_indexOf_32 : decode cX5_indexOf 32 = .ok (.iload_n 2, 1) := by decide +kernel
theorem dX5_indexOf_33 : decode cX5_indexOf 33 = .ok (.if_icmp .ne 5, 3) := by decide +kernel
theorem dX5_indexOf_36 : decode cX5_indexOf 36 = .ok (.iload_n 3, 1) := by decide +kernel
theorem dX5_indexOf_37 : decode cX5_indexOf 37 = .ok (.ireturn, 1) := by decide +kernel
theorem dX5_indexOf_38 : decode cX5_indexOf 38 = .ok (.iinc 3 1, 3) := by decide +kernel
theorem dX5_indexOf_41 : decode cX5_indexOf 41 = .ok (.goto (-39), 3) := by decide +kernel
theorem dX5_indexOf_44 : decode cX5_indexOf 44 = .ok (.iconst (-1), 1) := by decide +kernel
theorem dX5_indexOf_45 : decode cX5_indexOf 45 = .ok (.ireturn, 1) := by decide +kernel
theorem dX5_cheapest_0 : decode cX5_cheapest 0 = .ok (.iconst 0, 1) := by decide +kernel
theorem dX5_cheapest_1 : decode cX5_cheapest 1 = .ok (.istore_n 1, 1) := by decide +kernel
theorem dX5_cheapest_2 : decode cX5_cheapest 2 = .ok (.iconst 1, 1) := by decide +kernel
theorem dX5_cheapest_3 : decode cX5_cheapest 3 = .ok (.istore_n 2, 1) := by decide +kernel
theorem dX5_cheapest_4 : decode cX5_cheapest 4 = .ok (.iload_n 2, 1) := by decide +kernel
theorem dX5_cheapest_5 : decode cX5_cheapest 5 = .ok (.aload_n 0, 1) := by decide +kernel
theorem dX5_cheapest_6 : decode cX5_cheapest 6 = .ok (.getfield 18, 3) := by decide +kernel
theorem dX5_cheapest_9 : decode cX5_cheapest 9 = .ok (.if_icmp .ge 32, 3) := by decide +kernel
theorem dX5_cheapest_12 : decode cX5_cheapest 12 = .ok (.aload_n 0, 1) := by decide +kernel
theorem dX5_cheapest_13 : decode cX5_cheapest 13 = .ok (.getfield 11, 3) := by decide +kernel
theorem dX5_cheapest_16 : decode cX5_cheapest 16 = .ok (.iload_n 2, 1) := by decide +kernel
theorem dX5_cheapest_17 : decode cX5_cheapest 17 = .ok (.aaload, 1) := by decide +kernel
theorem dX5_cheapest_18 : decode cX5_cheapest 18 = .ok (.getfield 28, 3) := by decide +kernel
theorem dX5_cheapest_21 : decode cX5_cheapest 21 = .ok (.aload_n 0, 1) := by decide +kernel
theorem dX5_cheapest_22 : decode cX5_cheapest 22 = .ok (.getfield 11, 3) := by decide +kernel
theorem dX5_cheapest_25 : decode cX5_cheapest 25 = .ok (.iload_n 1, 1) := by decide +kernel
theorem dX5_cheapest_26 : decode cX5_cheapest 26 = .ok (.aaload, 1) := by decide +kernel
theorem dX5_cheapest_27 : decode cX5_cheapest 27 = .ok (.getfield 28, 3) := by decide +kernel
theorem dX5_cheapest_30 : decode cX5_cheapest 30 = .ok (.if_icmp .gt 5, 3) := by decide +kernel
theorem dX5_cheapest_33 : decode cX5_cheapest 33 = .ok (.iload_n 2, 1) := by decide +kernel
theorem dX5_cheapest_34 : decode cX5_cheapest 34 = .ok (.istore_n 1, 1) := by decide +kernel
theorem dX5_cheapest_35 : decode cX5_cheapest 35 = .ok (.iinc 2 1, 3) := by decide +kernel
theorem dX5_cheapest_38 : decode cX5_cheapest 38 = .ok (.goto (-34), 3) := by decide +kernel
theorem dX5_cheapest_41 : decode cX5_cheapest 41 = .ok (.iload_n 1, 1) := by decide +kernel
theorem dX5_cheapest_42 : decode cX5_cheapest 42 = .ok (.ireturn, 1) := by decide +kernel
set_option maxRecDepth 20000 in
theorem ggX5_append_X1_becomeLike : GoodIn wsX5_append wsX1_becomeLike := goodIn_r _ [9, 10, 11, 12, 13, 14, 15, 16, 17, 18, 19, 20, 21, 22, 8, 23, 24, 25, 26, 27, 28, 32, 33, 34, 35, 36, 37, 38, 39, 40, 41, 42, 43] (by decide +kernel) (by decide +kernel)
set_option maxRecDepth 20000 in
theorem gX5_append_X1_becomeLike : GoodIn wsX5_append (wsV RX5 31 RX1 yX1_becomeLike wsX1_becomeLike) := goodIn_app (goodIn_of _ (by decide +kernel)) ggX5_append_X1_becomeLike
theorem dX5_append_0 : decode cX5_append 0 = .ok (.aload_n 0, 1) := by decide +kernel
theorem dX5_append_1 : decode cX5_append 1 = .ok (.getfield 11, 3) := by decide +kernel
theorem dX5_append_4 : decode cX5_append 4 = .ok (.aload_n 0, 1) := by decide +kernel
theorem dX5_append_5 : decode cX5_append 5 = .ok (.getfield 18, 3) := by decide +kernel
theorem dX5_append_8 : decode cX5_append 8 = .ok (.aaload, 1) := by decide +kernel
theorem dX5_append_9 : decode cX5_append 9 = .ok (.astore_n 2, 1) := by decide +kernel
theorem dX5_append_10 : decode cX5_append 10 = .ok (.aload_n 2, 1) := by decide +kernel
theorem dX5_append_11 : decode cX5_append 11 = .ok (.aload_n 1, 1) := by decide +kernel
theorem dX5_append_12 : decode cX5_append 12 = .ok (.invokevirtual 31, 3) := by decide +kernel
theorem dX5_append_15 : decode cX5_append 15 = .ok (.aload_n 2, 1) := by decide +kernel
theorem dX5_append_16 : decode cX5_append 16 = .ok (.aload_n 0, 1) := by decide +kernel
theorem dX5_append_17 : decode cX5_append 17 = .ok (.getfield 35, 3) := by decide +kernel
theorem dX5_append_20 : decode cX5_append 20 = .ok (.putfield 38, 3) := by decide +kernel
theorem dX5_append_23 : decode cX5_append 23 = .ok (.aload_n 0, 1) := by decide +kernel
theorem dX5_append_24 : decode cX5_append 24 = .ok (.dup, 1) := by decide +kernel
theorem dX5_append_25 : decode cX5_append 25 = .ok (.getfield 18, 3) := by decide +kernel
theorem dX5_append_28 : decode cX5_append 28 = .ok (.iconst 1, 1) := by decide +kernel
theorem dX5_append_29 : decode cX5_append 29 = .ok (.iadd, 1) := by decide +kernel
theorem dX5_append_30 : decode cX5_append 30 = .ok (.putfield 18, 3) := by decide +kernel
theorem dX5_append_33 : decode cX5_append 33 = .ok (.aload_n 0, 1) := by decide +kernel
theorem dX5_append_34 : decode cX5_append 34 = .ok (.dup, 1) := by decide +kernel
theorem dX5_append_35 : decode cX5_append 35 = .ok (.getfield 35, 3) := by decide +kernel
theorem dX5_append_38 : decode cX5_append 38 = .ok (.iconst 1, 1) := by decide +kernel
theorem dX5_append_39 : decode cX5_append 39 = .ok (.iadd, 1) := by decide +kernel
theorem dX5_append_40 : decode cX5_append 40 = .ok (.putfield 35, 3) := by decide +kernel
theorem dX5_append_43 : decode cX5_append 43 = .ok (.aload_n 2, 1) := by decide +kernel
theorem dX5_append_44 : decode cX5_append 44 = .ok (.getfield 38, 3) := by decide +kernel
theorem dX5_append_47 : decode cX5_append 47 = .ok (.ireturn, 1) := by decide +kernel
theorem dX5_take_0 : decode cX5_take 0 = .ok (.aload_n 0, 1) := by decide +kernel
theorem dX5_take_1 : decode cX5_take 1 = .ok (.getfield 11, 3) := by decide +kernel
theorem dX5_take_4 : decode cX5_take 4 = .ok (.iload_n 1, 1) := by decide +kernel
theorem dX5_take_5 : decode cX5_take 5 = .ok (.aaload, 1) := by decide +kernel
theorem dX5_take_6 : decode cX5_take 6 = .ok (.astore_n 2, 1) := by decide +kernel
theorem dX5_take_7 : decode cX5_take 7 = .ok (.iload_n 1, 1) := by decide +kernel
theorem dX5_take_8 : decode cX5_take 8 = .ok (.iconst 1, 1) := by decide +kernel
theorem dX5_take_9 : decode cX5_take 9 = .ok (.iadd, 1) := by decide +kernel
theorem dX5_take_10 : decode cX5_take 10 = .ok (.istore_n 3, 1) := by decide +kernel
theorem dX5_take_11 : decode cX5_take 11 = .ok (.iload_n 3, 1) := by decide +kernel
theorem dX5_take_12 : decode cX5_take 12 = .ok (.aload_n 0, 1) := by decide +kernel
theorem dX5_take_13 : decode cX5_take 13 = .ok (.getfield 18, 3) := by decide +kernel
theorem dX5_take_16 : decode cX5_take 16 = .ok (.if_icmp .ge 23, 3) := by decide +kernel
theorem dX5_take_19 : decode cX5_take 19 = .ok (.aload_n 0, 1) := by decide +kernel
theorem dX5_take_20 : decode cX5_take 20 = .ok (.getfield 11, 3) := by decide +kernel
theorem dX5_take_23 : decode cX5_take 23 = .ok (.iload_n 3, 1) := by decide +kernel
theorem dX5_take_24 : decode cX5_take 24 = .ok (.iconst 1, 1) := by decide +kernel
theorem dX5_take_25 : decode cX5_take 25 = .ok (.isub, 1) := by decide +kernel
theorem dX5_take_26 : decode cX5_take 26 = .ok (.aload_n 0, 1) := by decide +kernel
theorem dX5_take_27 : decode cX5_take 27 = .ok (.getfield 11, 3) := by decide +kernel
theorem dX5_take_30 : decode cX5_take 30 = .ok (.iload_n 3, 1) := by decide +kernel
theorem dX5_take_31 : decode cX5_take 31 = .ok (.aaload, 1) := by decide +kernel
theorem dX5_take_32 : decode cX5_take 32 = .ok (.aastore, 1) := by decide +kernel
theorem dX5_take_33 : decode cX5_take 33 = .ok (.iinc 3 1, 3) := by decide +kernel
theorem dX5_take_36 : decode cX5_take 36 = .ok (.goto (-25), 3) := by decide +kernel
theorem dX5_take_39 : decode cX5_take 39 = .ok (.aload_n 0, 1) := by decide +kernel
theorem dX5_take_40 : decode cX5_take 40 = .ok (.dup, 1) := by decide +kernel
theorem dX5_take_41 : decode cX5_take 41 = .ok (.getfield 18, 3) := by decide +kernel
theorem dX5_take_44 : decode cX5_take 44 = .ok (.iconst 1, 1) := by decide +kernel
theorem dX5_take_45 : decode cX5_take 45 = .ok (.isub, 1) := by decide +kernel
theorem dX5_take_46 : decode cX5_take 46 = .ok (.putfield 18, 3) := by decide +kernel
theorem dX5_take_49 : decode cX5_take 49 = .ok (.aload_n 0, 1) := by decide +kernel
theorem dX5_take_50 : decode cX5_take 50 = .ok (.getfield 11, 3) := by decide +kernel
theorem dX5_take_53 : decode cX5_take 53 = .ok (.aload_n 0, 1) := by decide +kernel
theorem dX5_take_54 : decode cX5_take 54 = .ok (.getfield 18, 3) := by decide +kernel
theorem dX5_take_57 : decode cX5_take 57 = .ok (.aload_n 2, 1) := by decide +kernel
theorem dX5_take_58 : decode cX5_take 58 = .ok (.aastore, 1) := by decide +kernel
theorem dX5_take_59 : decode cX5_take 59 = .ok (.aload_n 2, 1) := by decide +kernel
theorem dX5_take_60 : decode cX5_take 60 = .ok (.areturn, 1) := by decide +kernel
end
section
set_option maxRecDepth 20000 in
theorem ggX6_init_X0_init : GoodIn wsX6_init wsX0_init := goodIn_r _ [26, 27, 2, 3, 28, 29, 30, 31, 32, 33, 65, 66, 67, 68, 69] (by decide +kernel) (by decide +kernel)
set_option maxRecDepth 20000 in
theorem gX6_init_X0_init_n9 : GoodIn wsX6_init (wsX0_init) := ggX6_init_X0_init
set_option maxRecDepth 20000 in
theorem ggX6_init_X4_init : GoodIn wsX6_init wsX4_init := goodIn_r _ [35, 36, 2, 3, 30, 37, 28, 38, 78, 79, 80] (by decide +kernel) (by decide +kernel)
set_option maxRecDepth 20000 in
theorem gX6_init_X4_init_n18 : GoodIn wsX6_init (wsX4_init) := ggX6_init_X4_init
set_option maxRecDepth 20000 in
theorem ggX6_init_X2_init : GoodIn wsX6_init wsX2_init := goodIn_r _ [40, 41, 2, 3, 42, 43, 44, 45, 30, 46, 47, 48, 49, 50, 28, 51, 94, 95, 96, 97, 98, 99, 100, 101, 102, 103, 104, 105, 81, 82, 83, 84] (by decide +kernel) (by decide +kernel)
set_option maxRecDepth 20000 in
theorem gX6_init_X2_init_n25 : GoodIn wsX6_init (wsX2_init) := ggX6_init_X2_init
set_option maxRecDepth 20000 in
theorem ggX6_init_X5_init : GoodIn wsX6_init wsX5_init := goodIn_r _ [54, 55, 2, 3, 56, 57, 43, 44, 47, 48, 49, 30, 50, 28, 51, 85, 86, 87, 94, 95, 96, 97, 98, 99, 100, 101, 102, 103, 104, 105] (by decide +kernel) (by decide +kernel)
set_option maxRecDepth 20000 in
theorem gX6_init_X5_init : GoodIn wsX6_init (wsX5_init) := ggX6_init_X5_init
set_option maxRecDepth 20000 in
theorem ggX6_init_X3_init : GoodIn wsX6_init wsX3_init := goodIn_r _ [59, 60, 2, 3, 30, 61, 62, 63, 64, 88, 89, 90, 91, 92, 93] (by decide +kernel) (by decide +kernel)
set_option maxRecDepth 20000 in
theorem gX6_init_X3_init_n39 : GoodIn wsX6_init (wsX3_init) := ggX6_init_X3_init
theorem dX6_init_0 : decode cX6_init 0 = .ok (.aload_n 0, 1) := by decide +kernel
theorem dX6_init_1 : decode cX6_init 1 = .ok (.invokespecial 1, 3) := by decide +kernel
theorem dX6_init_4 : decode cX6_init 4 = .ok (.aload_n 0, 1) := by decide +kernel
theorem dX6_init_5 : decode cX6_init 5 = .ok (.new 7, 3) := by decide +kernel
theorem dX6_init_8 : decode cX6_init 8 = .ok (.dup, 1) := by decide +kernel
theorem dX6_init_9 : decode cX6_init 9 = .ok (.invokespecial 9, 3) := by decide +kernel
theorem dX6_init_12 : decode cX6_init 12 = .ok (.putfield 10, 3) := by decide +kernel
theorem dX6_init_15 : decode cX6_init 15 = .ok (.aload_n 0, 1) := by decide +kernel
theorem dX6_init_16 : decode cX6_init 16 = .ok (.new 16, 3) := by decide +kernel
theorem dX6_init_19 : decode cX6_init 19 = .ok (.dup, 1) := by decide +kernel
theorem dX6_init_20 : decode cX6_init 20 = .ok (.invokespecial 18, 3) := by decide +kernel
theorem dX6_init_23 : decode cX6_init 23 = .ok (.putfield 19, 3) := by decide +kernel
theorem dX6_init_26 : decode cX6_init 26 = .ok (.aload_n 0, 1) := by decide +kernel
theorem dX6_init_27 : decode cX6_init 27 = .ok (.new 23, 3) := by decide +kernel
theorem dX6_init_30 : decode cX6_init 30 = .ok (.dup, 1) := by decide +kernel
theorem dX6_init_31 : decode cX6_init 31 = .ok (.invokespecial 25, 3) := by decide +kernel
theorem dX6_init_34 : decode cX6_init 34 = .ok (.putfield 26, 3) := by decide +kernel
theorem dX6_init_37 : decode cX6_init 37 = .ok (.aload_n 0, 1) := by decide +kernel
theorem dX6_init_38 : decode cX6_init 38 = .ok (.new 30, 3) := by decide +kernel
theorem dX6_init_41 : decode cX6_init 41 = .ok (.dup, 1) := by decide +kernel
theorem dX6_init_42 : decode cX6_init 42 = .ok (.invokespecial 32, 3) := by decide +kernel
theorem dX6_init_45 : decode cX6_init 45 = .ok (.putfield 33, 3) := by decide +kernel
theorem dX6_init_48 : decode cX6_init 48 = .ok (.aload_n 0, 1) := by decide +kernel
theorem dX6_init_49 : decode cX6_init 49 = .ok (.new 37, 3) := by decide +kernel
theorem dX6_init_52 : decode cX6_init 52 = .ok (.dup, 1) := by decide +kernel
theorem dX6_init_53 : decode cX6_init 53 = .ok (.invokespecial 39, 3) := by decide +kernel
theorem dX6_init_56 : decode cX6_init 56 = .ok (.putfield 40, 3) := by decide +kernel
theorem dX6_init_59 : decode cX6_init 59 = .ok (.aload_n 0, 1) := by decide +kernel
theorem dX6_init_60 : decode cX6_init 60 = .ok (.iconst 1, 1) := by decide +kernel
theorem dX6_init_61 : decode cX6_init 61 = .ok (.putfield 44, 3) := by decide +kernel
theorem dX6_init_64 : decode cX6_init 64 = .ok (.return_, 1) := by decide +kernel
set_option maxRecDepth 20000 in
theorem ggX6_account_X6_isAmount : GoodIn wsX6_account wsX6_isAmount := goodIn_r _ [6, 7] (by decide +kernel) (by decide +kernel)
set_option maxRecDepth 20000 in
theorem gX6_account_X6_isAmount : GoodIn wsX6_account (va_wsS RX6 48 yX6_isAmount wsX6_isAmount) := goodIn_app (goodIn_of _ (by decide +kernel)) ggX6_account_X6_isAmount
set_option maxRecDepth 20000 in
theorem ggX6_account_X6_isLock : GoodIn wsX6_account wsX6_isLock := goodIn_r _ [10, 11, 12, 13, 14, 15, 16, 17, 18] (by decide +kernel) (by decide +kernel)
set_option maxRecDepth 20000 in
theorem gX6_account_X6_isLock : GoodIn wsX6_account (va_wsS RX6 52 yX6_isLock wsX6_isLock) := goodIn_app (goodIn_of _ (by decide +kernel)) ggX6_account_X6_isLock
set_option maxRecDepth 20000 in
theorem ggX6_account_X0_open : GoodIn wsX6_account wsX0_open := goodIn_r _ [23, 24, 25, 26, 27, 28, 22, 29, 30, 31, 40, 41, 42, 43, 44] (by decide +kernel) (by decide +kernel)
set_option maxRecDepth 20000 in
theorem gX6_account_X0_open : GoodIn wsX6_account (wsV RX6 59 RX0 yX0_open wsX0_open) := goodIn_app (goodIn_of _ (by decide +kernel)) ggX6_account_X0_open
theorem dX6_account_0 : decode cX6_account 0 = .ok (.lload_n 1, 1) := by decide +kernel
theorem dX6_account_1 : decode cX6_account 1 = .ok (.invokestatic 48, 3) := by decide +kernel
theorem dX6_account_4 : decode cX6_account 4 = .ok (.ifCond .eq 12, 3) := by decide +kernel
theorem dX6_account_7 : decode cX6_account 7 = .ok (.iload_n 3, 1) := by decide +kernel
theorem dX6_account_8 : decode cX6_account 8 = .ok (.iload 4, 2) := by decide +kernel
theorem dX6_account_10 : decode cX6_account 10 = .ok (.invokestatic 52, 3) := by decide +kernel
theorem dX6_account_13 : decode cX6_account 13 = .ok (.ifCond .ne 5, 3) := by decide +kernel
theorem dX6_account_16 : decode cX6_account 16 = .ok (.iconst (-1), 1) := by decide +kernel
theorem dX6_account_17 : decode cX6_account 17 = .ok (.ireturn, 1) := by decide +kernel
theorem dX6_account_18 : decode cX6_account 18 = .ok (.aload_n 0, 1) := by decide +kernel
theorem dX6_account_19 : decode cX6_account 19 = .ok (.getfield 10, 3) := by decide +kernel
theorem dX6_account_22 : decode cX6_account 22 = .ok (.getfield 56, 3) := by decide +kernel
theorem dX6_account_25 : decode cX6_account 25 = .ok (.bipush 12, 2) := by decide +kernel
theorem dX6_account_27 : decode cX6_account 27 = .ok (.if_icmp .lt 6, 3) := by decide +kernel
theorem dX6_account_30 : decode cX6_account 30 = .ok (.bipush (-3), 2) := by decide +kernel
theorem dX6_account_32 : decode cX6_account 32 = .ok (.ireturn, 1) := by decide +kernel
theorem dX6_account_33 : decode cX6_account 33 = .ok (.aload_n 0, 1) := by decide +kernel
theorem dX6_account_34 : decode cX6_account 34 = .ok (.getfield 10, 3) := by decide +kernel
theorem dX6_account_37 : decode cX6_account 37 = .ok (.lload_n 1, 1) := by decide +kernel
theorem dX6_account_38 : decode cX6_account 38 = .ok (.iload_n 3, 1) := by decide +kernel
theorem dX6_account_39 : decode cX6_account 39 = .ok (.iload 4, 2) := by decide +kernel
theorem dX6_account_41 : decode cX6_account 41 = .ok (.invokevirtual 59, 3) := by decide +kernel
theorem dX6_account_44 : decode cX6_account 44 = .ok (.ireturn, 1) := by decide +kernel
set_option maxRecDepth 20000 in
theorem ggX6_lock_X0_has : GoodIn wsX6_lock wsX0_has := goodIn_r _ [6, 7, 34, 35, 36, 37, 38] (by decide +kernel) (by decide +kernel)
set_option maxRecDepth 20000 in
theorem gX6_lock_X0_has : GoodIn wsX6_lock (wsV RX6 63 RX0 yX0_has wsX0_has) := goodIn_app (goodIn_of _ (by decide +kernel)) ggX6_lock_X0_has
set_option maxRecDepth 20000 in
theorem ggX6_lock_X6_isLock : GoodIn wsX6_lock wsX6_isLock := goodIn_r _ [11, 12, 13, 14, 15, 16, 17, 18, 19] (by decide +kernel) (by decide +kernel)
set_option maxRecDepth 20000 in
theorem gX6_lock_X6_isLock : GoodIn wsX6_lock (va_wsS RX6 52 yX6_isLock wsX6_isLock) := goodIn_app (goodIn_of _ (by decide +kernel)) ggX6_lock_X6_isLock
set_option maxRecDepth 20000 in
theorem ggX6_lock_X0_setLock : GoodIn wsX6_lock wsX0_setLock := goodIn_r _ [23, 24, 25, 34, 35, 36, 37, 38] (by decide +kernel) (by decide +kernel)
set_option maxRecDepth 20000 in
theorem gX6_lock_X0_setLock : GoodIn wsX6_lock (wsV RX6 67 RX0 yX0_setLock wsX0_setLock) := goodIn_app (goodIn_of _ (by decide +kernel)) ggX6_lock_X0_setLock
theorem dX6_lock_0 : decode cX6_lock 0 = .ok (.aload_n 0, 1) := by decide +kernel
theorem dX6_lock_1 : decode cX6_lock 1 = .ok (.getfield 10, 3) := by decide +kernel
theorem dX6_lock_4 : decode cX6_lock 4 = .ok (.iload_n 1, 1) := by decide +kernel
theorem dX6_lock_5 : decode cX6_lock 5 = .ok (.invokevirtual 63, 3) := by decide +kernel
theorem dX6_lock_8 : decode cX6_lock 8 = .ok (.ifCond .eq 11, 3) := by decide +kernel
theorem dX6_lock_11 : decode cX6_lock 11 = .ok (.iload_n 2, 1) := by decide +kernel
theorem dX6_lock_12 : decode cX6_lock 12 = .ok (.iload_n 3, 1) := by decide +kernel
theorem dX6_lock_13 : decode cX6_lock 13 = .ok (.invokestatic 52, 3) := by decide +kernel
theorem dX6_lock_16 : decode cX6_lock 16 = .ok (.ifCond .ne 5, 3) := by decide +kernel
theorem dX6_lock_19 : decode cX6_lock 19 = .ok (.iconst (-1), 1) := by decide +kernel
theorem dX6_lock_20 : decode cX6_lock 20 = .ok (.ireturn, 1) := by decide +kernel
theorem dX6_lock_21 : decode cX6_lock 21 = .ok (.aload_n 0, 1) := by decide +kernel
theorem dX6_lock_22 : decode cX6_lock 22 = .ok (.getfield 10, 3) := by decide +kernel
theorem dX6_lock_25 : decode cX6_lock 25 = .ok (.iload_n 1, 1) := by decide +kernel
theorem dX6_lock_26 : decode cX6_lock 26 = .ok (.iload_n 2, 1) := by decide +kernel
theorem dX6_lock_27 : decode cX6_lock 27 = .ok (.iload_n 3, 1) := by decide +kernel
theorem dX6_lock_28 : decode cX6_lock 28 = .ok (.invokevirtual 67, 3) := by decide +kernel
theorem dX6_lock_31 : decode cX6_lock 31 = .ok (.iconst 1, 1) := by decide +kernel
theorem dX6_lock_32 : decode cX6_lock 32 = .ok (.ireturn, 1) := by decide +kernel
set_option maxRecDepth 20000 in
theorem ggX6_funds_X0_has : GoodIn wsX6_funds wsX0_has := goodIn_r _ [8, 9, 18, 19, 20, 21, 22] (by decide +kernel) (by decide +kernel)
set_option maxRecDepth 20000 in
theorem gX6_funds_X0_has : GoodIn wsX6_funds (wsV RX6 63 RX0 yX0_has wsX0_has) := goodIn_app (goodIn_of _ (by decide +kernel)) ggX6_funds_X0_has
theorem dX6_funds_0 : decode cX6_funds 0 = .ok (.aload_n 0, 1) := by decide +kernel
theorem dX6_funds_1 : decode cX6_funds 1 = .ok (.getfield 10, 3) := by decide +kernel
theorem dX6_funds_4 : decode cX6_funds 4 = .ok (.iload_n 1, 1) := by decide +kernel
theorem dX6_funds_5 : decode cX6_funds 5 = .ok (.invokevirtual 63, 3) := by decide +kernel
theorem dX6_funds_8 : decode cX6_funds 8 = .ok (.ifCond .eq 15, 3) := by decide +kernel
theorem dX6_funds_11 : decode cX6_funds 11 = .ok (.aload_n 0, 1) := by decide +kernel
theorem dX6_funds_12 : decode cX6_funds 12 = .ok (.getfield 10, 3) := by decide +kernel
theorem dX6_funds_15 : decode cX6_funds 15 = .ok (.getfield 71, 3) := by decide +kernel
theorem dX6_funds_18 : decode cX6_funds 18 = .ok (.iload_n 1, 1) := by decide +kernel
theorem dX6_funds_19 : decode cX6_funds 19 = .ok (.laload, 1) := by decide +kernel
theorem dX6_funds_20 : decode cX6_funds 20 = .ok (.goto 6, 3) := by decide +kernel
theorem dX6_funds_23 : decode cX6_funds 23 = .ok (.ldc2_w 75, 3) := by decide +kernel
theorem dX6_funds_26 : decode cX6_funds 26 = .ok (.lreturn, 1) := by decide +kernel
set_option maxRecDepth 20000 in
theorem ggX6_next_X0_has : GoodIn wsX6_next wsX0_has := goodIn_r _ [7, 8, 17, 18, 19, 20, 21] (by decide +kernel) (by decide +kernel)
set_option maxRecDepth 20000 in
theorem gX6_next_X0_has : GoodIn wsX6_next (wsV RX6 63 RX0 yX0_has wsX0_has) := goodIn_app (goodIn_of _ (by decide +kernel)) ggX6_next_X0_has
theorem dX6_next_0 : decode cX6_next 0 = .ok (.aload_n 0, 1) := by decide +kernel
theorem dX6_next_1 : decode cX6_next 1 = .ok (.getfield 10, 3) := by decide +kernel
theorem dX6_next_4 : decode cX6_next 4 = .ok (.iload_n 1, 1) := by decide +kernel
theorem dX6_next_5 : decode cX6_next 5 = .ok (.invokevirtual 63, 3) := by decide +kernel
theorem dX6_next_8 : decode cX6_next 8 = .ok (.ifCond .eq 15, 3) := by decide +kernel
theorem dX6_next_11 : decode cX6_next 11 = .ok (.aload_n 0, 1) := by decide +kernel
theorem dX6_next_12 : decode cX6_next 12 = .ok (.getfield 10, 3) := by decide +kernel
theorem dX6_next_15 : decode cX6_next 15 = .ok (.getfield 77, 3) := by decide +kernel
theorem dX6_next_18 : decode cX6_next 18 = .ok (.iload_n 1, 1) := by decide +kernel
theorem dX6_next_19 : decode cX6_next 19 = .ok (.iaload, 1) := by decide +kernel
theorem dX6_next_20 : decode cX6_next 20 = .ok (.goto 4, 3) := by decide +kernel
theorem dX6_next_23 : decode cX6_next 23 = .ok (.iconst (-1), 1) := by decide +kernel
theorem dX6_next_24 : decode cX6_next 24 = .ok (.ireturn, 1) := by decide +kernel
set_option maxRecDepth 20000 in
theorem ggX6_sign_X4_keep : GoodIn wsX6_sign wsX4_keep := goodIn_r _ [7, 8, 9, 10, 19, 20, 21] (by decide +kernel) (by decide +kernel)
set_option maxRecDepth 20000 in
theorem gX6_sign_X4_keep : GoodIn wsX6_sign (wsV RX6 82 RX4 yX4_keep wsX4_keep) := goodIn_app (goodIn_of _ (by decide +kernel)) ggX6_sign_X4_keep
theorem dX6_sign_0 : decode cX6_sign 0 = .ok (.iload_n 1, 1) := by decide +kernel
theorem dX6_sign_1 : decode cX6_sign 1 = .ok (.ifCond .lt 9, 3) := by decide +kernel
theorem dX6_sign_4 : decode cX6_sign 4 = .ok (.iload_n 1, 1) := by decide +kernel
theorem dX6_sign_5 : decode cX6_sign 5 = .ok (.bipush 16, 2) := by decide +kernel
theorem dX6_sign_7 : decode cX6_sign 7 = .ok (.if_icmp .lt 5, 3) := by decide +kernel
theorem dX6_sign_10 : decode cX6_sign 10 = .ok (.iconst (-1), 1) := by decide +kernel
theorem dX6_sign_11 : decode cX6_sign 11 = .ok (.ireturn, 1) := by decide +kernel
theorem dX6_sign_12 : decode cX6_sign 12 = .ok (.aload_n 0, 1) := by decide +kernel
theorem dX6_sign_13 : decode cX6_sign 13 = .ok (.getfield 19, 3) := by decide +kernel
theorem dX6_sign_16 : decode cX6_sign 16 = .ok (.getfield 81, 3) := by decide +kernel
theorem dX6_sign_19 : decode cX6_sign 19 = .ok (.sipush 200, 3) := by decide +kernel
theorem dX6_sign_22 : decode cX6_sign 22 = .ok (.if_icmp .lt 6, 3) := by decide +kernel
theorem dX6_sign_25 : decode cX6_sign 25 = .ok (.bipush (-3), 2) := by decide +kernel
theorem dX6_sign_27 : decode cX6_sign 27 = .ok (.ireturn, 1) := by decide +kernel
theorem dX6_sign_28 : decode cX6_sign 28 = .ok (.aload_n 0, 1) := by decide +kernel
theorem dX6_sign_29 : decode cX6_sign 29 = .ok (.getfield 19, 3) := by decide +kernel
theorem dX6_sign_32 : decode cX6_sign 32 = .ok (.iload_n 1, 1) := by decide +kernel
theorem dX6_sign_33 : decode cX6_sign 33 = .ok (.lload_n 2, 1) := by decide +kernel
theorem dX6_sign_34 : decode cX6_sign 34 = .ok (.invokevirtual 82, 3) := by decide +kernel
theorem dX6_sign_37 : decode cX6_sign 37 = .ok (.ireturn, 1) := by decide +kernel
set_option maxRecDepth 20000 in
theorem ggX6_draft_X0_has : GoodIn wsX6_draft wsX0_has := goodIn_r _ [8, 9, 40, 41, 42, 43, 44] (by decide +kernel) (by decide +kernel)
set_option maxRecDepth 20000 in
theorem gX6_draft_X0_has : GoodIn wsX6_draft (wsV RX6 63 RX0 yX0_has wsX0_has) := goodIn_app (goodIn_of _ (by decide +kernel)) ggX6_draft_X0_has
set_option maxRecDepth 20000 in
theorem ggX6_draft_X2_begin : GoodIn wsX6_draft wsX2_begin := goodIn_r _ [14, 15, 16, 17, 18, 19, 20, 21, 22, 23, 24, 25, 26, 27, 28, 29, 30, 31, 45, 46, 47, 48, 49, 50, 51, 52, 53, 54, 55, 56, 57, 58, 59, 60] (by decide +kernel) (by decide +kernel)
set_option maxRecDepth 20000 in
theorem gX6_draft_X2_begin : GoodIn wsX6_draft (wsV RX6 87 RX2 yX2_begin wsX2_begin) := goodIn_app (goodIn_of _ (by decide +kernel)) ggX6_draft_X2_begin
theorem dX6_draft_0 : decode cX6_draft 0 = .ok (.aload_n 0, 1) := by decide +kernel
theorem dX6_draft_1 : decode cX6_draft 1 = .ok (.getfield 10, 3) := by decide +kernel
theorem dX6_draft_4 : decode cX6_draft 4 = .ok (.iload_n 1, 1) := by decide +kernel
theorem dX6_draft_5 : decode cX6_draft 5 = .ok (.invokevirtual 63, 3) := by decide +kernel
theorem dX6_draft_8 : decode cX6_draft 8 = .ok (.ifCond .eq 14, 3) := by decide +kernel
theorem dX6_draft_11 : decode cX6_draft 11 = .ok (.iload_n 2, 1) := by decide +kernel
theorem dX6_draft_12 : decode cX6_draft 12 = .ok (.ifCond .lt 10, 3) := by decide +kernel
theorem dX6_draft_15 : decode cX6_draft 15 = .ok (.iload_n 2, 1) := by decide +kernel
theorem dX6_draft_16 : decode cX6_draft 16 = .ok (.sipush 999, 3) := by decide +kernel
theorem dX6_draft_19 : decode cX6_draft 19 = .ok (.if_icmp .le 5, 3) := by decide +kernel
theorem dX6_draft_22 : decode cX6_draft 22 = .ok (.iconst (-1), 1) := by decide +kernel
theorem dX6_draft_23 : decode cX6_draft 23 = .ok (.ireturn, 1) := by decide +kernel
theorem dX6_draft_24 : decode cX6_draft 24 = .ok (.iload_n 3, 1) := by decide +kernel
theorem dX6_draft_25 : decode cX6_draft 25 = .ok (.ifCond .lt 24, 3) := by decide +kernel
theorem dX6_draft_28 : decode cX6_draft 28 = .ok (.iload_n 3, 1) := by decide +kernel
theorem dX6_draft_29 : decode cX6_draft 29 = .ok (.ldc 86, 2) := by decide +kernel
theorem dX6_draft_31 : decode cX6_draft 31 = .ok (.if_icmp .gt 18, 3) := by decide +kernel
theorem dX6_draft_34 : decode cX6_draft 34 = .ok (.iload 4, 2) := by decide +kernel
theorem dX6_draft_36 : decode cX6_draft 36 = .ok (.bipush 10, 2) := by decide +kernel
theorem dX6_draft_38 : decode cX6_draft 38 = .ok (.if_icmp .lt 11, 3) := by decide +kernel
theorem dX6_draft_41 : decode cX6_draft 41 = .ok (.iload 4, 2) := by decide +kernel
theorem dX6_draft_43 : decode cX6_draft 43 = .ok (.sipush 1000, 3) := by decide +kernel
theorem dX6_draft_46 : decode cX6_draft 46 = .ok (.if_icmp .le 5, 3) := by decide +kernel
theorem dX6_draft_49 : decode cX6_draft 49 = .ok (.iconst (-1), 1) := by decide +kernel
theorem dX6_draft_50 : decode cX6_draft 50 = .ok (.ireturn, 1) := by decide +kernel
theorem dX6_draft_51 : decode cX6_draft 51 = .ok (.aload_n 0, 1) := by decide +kernel
theorem dX6_draft_52 : decode cX6_draft 52 = .ok (.getfield 26, 3) := by decide +kernel
theorem dX6_draft_55 : decode cX6_draft 55 = .ok (.iload_n 1, 1) := by decide +kernel
theorem dX6_draft_56 : decode cX6_draft 56 = .ok (.iload_n 2, 1) := by decide +kernel
theorem dX6_draft_57 : decode cX6_draft 57 = .ok (.iload_n 3, 1) := by decide +kernel
theorem dX6_draft_58 : decode cX6_draft 58 = .ok (.iload 4, 2) := by decide +kernel
theorem dX6_draft_60 : decode cX6_draft 60 = .ok (.invokevirtual 87, 3) := by decide +kernel
theorem dX6_draft_63 : decode cX6_draft 63 = .ok (.iconst 1, 1) := by decide +kernel
theorem dX6_draft_64 : decode cX6_draft 64 = .ok (.ireturn, 1) := by decide +kernel
set_option maxRecDepth 20000 in
theorem ggX6_until_X6_isHeight : GoodIn wsX6_until wsX6_isHeight := goodIn_r _ [8, 9] (by decide +kernel) (by decide +kernel)
set_option maxRecDepth 20000 in
theorem gX6_until_X6_isHeight : GoodIn wsX6_until (va_wsS RX6 91 yX6_isHeight wsX6_isHeight) := goodIn_app (goodIn_of _ (by decide +kernel)) ggX6_until_X6_isHeight
theorem dX6_until_0 : decode cX6_until 0 = .ok (.iload_n 1, 1) := by decide +kernel
theorem dX6_until_1 : decode cX6_until 1 = .ok (.invokestatic 91, 3) := by decide +kernel
theorem dX6_until_4 : decode cX6_until 4 = .ok (.ifCond .ne 5, 3) := by decide +kernel
theorem dX6_until_7 : decode cX6_until 7 = .ok (.iconst (-1), 1) := by decide +kernel
theorem dX6_until_8 : decode cX6_until 8 = .ok (.ireturn, 1) := by decide +kernel
theorem dX6_until_9 : decode cX6_until 9 = .ok (.aload_n 0, 1) := by decide +kernel
theorem dX6_until_10 : decode cX6_until 10 = .ok (.getfield 26, 3) := by decide +kernel
theorem dX6_until_13 : decode cX6_until 13 = .ok (.getfield 94, 3) := by decide +kernel
theorem dX6_until_16 : decode cX6_until 16 = .ok (.ifCond .ne 6, 3) := by decide +kernel
theorem dX6_until_19 : decode cX6_until 19 = .ok (.bipush (-2), 2) := by decide +kernel
theorem dX6_until_21 : decode cX6_until 21 = .ok (.ireturn, 1) := by decide +kernel
theorem dX6_until_22 : decode cX6_until 22 = .ok (.aload_n 0, 1) := by decide +kernel
theorem dX6_until_23 : decode cX6_until 23 = .ok (.getfield 26, 3) := by decide +kernel
theorem dX6_until_26 : decode cX6_until 26 = .ok (.getfield 98, 3) := by decide +kernel
theorem dX6_until_29 : decode cX6_until 29 = .ok (.iload_n 1, 1) := by decide +kernel
theorem dX6_until_30 : decode cX6_until 30 = .ok (.putfield 102, 3) := by decide +kernel
theorem dX6_until_33 : decode cX6_until 33 = .ok (.iconst 1, 1) := by decide +kernel
theorem dX6_until_34 : decode cX6_until 34 = .ok (.ireturn, 1) := by decide +kernel
set_option maxRecDepth 20000 in
theorem ggX6_from_X6_isHeight : GoodIn wsX6_from wsX6_isHeight := goodIn_r _ [8, 9] (by decide +kernel) (by decide +kernel)
set_option maxRecDepth 20000 in
theorem gX6_from_X6_isHeight : GoodIn wsX6_from (va_wsS RX6 91 yX6_isHeight wsX6_isHeight) := goodIn_app (goodIn_of _ (by decide +kernel)) ggX6_from_X6_isHeight
theorem dX6_from_0 : decode cX6_from 0 = .ok (.iload_n 1, 1) := by decide +kernel
theorem dX6_from_1 : decode cX6_from 1 = .ok (.invokestatic 91, 3) := by decide +kernel
theorem dX6_from_4 : decode cX6_from 4 = .ok (.ifCond .ne 5, 3) := by decide +kernel
theorem dX6_from_7 : decode cX6_from 7 = .ok (.iconst (-1), 1) := by decide +kernel
theorem dX6_from_8 : decode cX6_from 8 = .ok (.ireturn, 1) := by decide +kernel
theorem dX6_from_9 : decode cX6_from 9 = .ok (.aload_n 0, 1) := by decide +kernel
theorem dX6_from_10 : decode cX6_from 10 = .ok (.getfield 26, 3) := by decide +kernel
theorem dX6_from_13 : decode cX6_from 13 = .ok (.getfield 94, 3) := by decide +kernel
theorem dX6_from_16 : decode cX6_from 16 = .ok (.ifCond .ne 6, 3) := by decide +kernel
theorem dX6_from_19 : decode cX6_from 19 = .ok (.bipush (-2), 2) := by decide +kernel
theorem dX6_from_21 : decode cX6_from 21 = .ok (.ireturn, 1) := by decide +kernel
theorem dX6_from_22 : decode cX6_from 22 = .ok (.aload_n 0, 1) := by decide +kernel
theorem dX6_from_23 : decode cX6_from 23 = .ok (.getfield 26, 3) := by decide +kernel
theorem dX6_from_26 : decode cX6_from 26 = .ok (.getfield 98, 3) := by decide +kernel
theorem dX6_from_29 : decode cX6_from 29 = .ok (.iload_n 1, 1) := by decide +kernel
theorem dX6_from_30 : decode cX6_from 30 = .ok (.putfield 107, 3) := by decide +kernel
theorem dX6_from_33 : decode cX6_from 33 = .ok (.iconst 1, 1) := by decide +kernel
theorem dX6_from_34 : decode cX6_from 34 = .ok (.ireturn, 1) := by decide +kernel
set_option maxRecDepth 20000 in
theorem ggX6_sponsor_X0_has : GoodIn wsX6_sponsor wsX0_has := goodIn_r _ [10, 11, 36, 37, 38, 39, 40] (by decide +kernel) (by decide +kernel)
set_option maxRecDepth 20000 in
theorem gX6_sponsor_X0_has : GoodIn wsX6_sponsor (wsV RX6 63 RX0 yX0_has wsX0_has) := goodIn_app (goodIn_of _ (by decide +kernel)) ggX6_sponsor_X0_has
theorem dX6_sponsor_0 : decode cX6_sponsor 0 = .ok (.iload_n 1, 1) := by decide +kernel
theorem dX6_sponsor_1 : decode cX6_sponsor 1 = .ok (.iconst (-1), 1) := by decide +kernel
theorem dX6_sponsor_2 : decode cX6_sponsor 2 = .ok (.if_icmp .eq 16, 3) := by decide +kernel
theorem dX6_sponsor_5 : decode cX6_sponsor 5 = .ok (.aload_n 0, 1) := by decide +kernel
theorem dX6_sponsor_6 : decode cX6_sponsor 6 = .ok (.getfield 10, 3) := by decide +kernel
theorem dX6_sponsor_9 : decode cX6_sponsor 9 = .ok (.iload_n 1, 1) := by decide +kernel
theorem dX6_sponsor_10 : decode cX6_sponsor 10 = .ok (.invokevirtual 63, 3) := by decide +kernel
theorem dX6_sponsor_13 : decode cX6_sponsor 13 = .ok (.ifCond .ne 5, 3) := by decide +kernel
theorem dX6_sponsor_16 : decode cX6_sponsor 16 = .ok (.iconst (-1), 1) := by decide +kernel
theorem dX6_sponsor_17 : decode cX6_sponsor 17 = .ok (.ireturn, 1) := by decide +kernel
theorem dX6_sponsor_18 : decode cX6_sponsor 18 = .ok (.aload_n 0, 1) := by decide +kernel
theorem dX6_sponsor_19 : decode cX6_sponsor 19 = .ok (.getfield 26, 3) := by decide +kernel
theorem dX6_sponsor_22 : decode cX6_sponsor 22 = .ok (.getfield 94, 3) := by decide +kernel
theorem dX6_sponsor_25 : decode cX6_sponsor 25 = .ok (.ifCond .ne 6, 3) := by decide +kernel
theorem dX6_sponsor_28 : decode cX6_sponsor 28 = .ok (.bipush (-2), 2) := by decide +kernel
theorem dX6_sponsor_30 : decode cX6_sponsor 30 = .ok (.ireturn, 1) := by decide +kernel
theorem dX6_sponsor_31 : decode cX6_sponsor 31 = .ok (.aload_n 0, 1) := by decide +kernel
theorem dX6_sponsor_32 : decode cX6_sponsor 32 = .ok (.getfield 26, 3) := by decide +kernel
theorem dX6_sponsor_35 : decode cX6_sponsor 35 = .ok (.getfield 98, 3) := by decide +kernel
theorem dX6_sponsor_38 : decode cX6_sponsor 38 = .ok (.iload_n 1, 1) := by decide +kernel
theorem dX6_sponsor_39 : decode cX6_sponsor 39 = .ok (.putfield 110, 3) := by decide +kernel
theorem dX6_sponsor_42 : decode cX6_sponsor 42 = .ok (.iconst 1, 1) := by decide +kernel
theorem dX6_sponsor_43 : decode cX6_sponsor 43 = .ok (.ireturn, 1) := by decide +kernel
set_option maxRecDepth 20000 in
theorem ggX6_act_X0_has : GoodIn wsX6_act wsX0_has := goodIn_r _ [10, 11, 49, 50, 51, 52, 53] (by decide +kernel) (by decide +kernel)
set_option maxRecDepth 20000 in
theorem gX6_act_X0_has : GoodIn wsX6_act (wsV RX6 63 RX0 yX0_has wsX0_has) := goodIn_app (goodIn_of _ (by decide +kernel)) ggX6_act_X0_has
set_option maxRecDepth 20000 in
theorem ggX6_act_X6_isAmount : GoodIn wsX6_act wsX6_isAmount := goodIn_r _ [15, 16] (by decide +kernel) (by decide +kernel)
set_option maxRecDepth 20000 in
theorem gX6_act_X6_isAmount : GoodIn wsX6_act (va_wsS RX6 48 yX6_isAmount wsX6_isAmount) := goodIn_app (goodIn_of _ (by decide +kernel)) ggX6_act_X6_isAmount
set_option maxRecDepth 20000 in
theorem ggX6_act_X1_append : GoodIn wsX6_act wsX1_append := goodIn_r _ [21, 22, 23, 24, 37, 38, 39, 40, 41, 42, 43, 44, 45, 46, 47, 48] (by decide +kernel) (by decide +kernel)
set_option maxRecDepth 20000 in
theorem gX6_act_X1_append : GoodIn wsX6_act (wsV RX6 116 RX1 yX1_append wsX1_append) := goodIn_app (goodIn_of _ (by decide +kernel)) ggX6_act_X1_append
theorem dX6_act_0 : decode cX6_act 0 = .ok (.aload_n 0, 1) := by decide +kernel
theorem dX6_act_1 : decode cX6_act 1 = .ok (.getfield 10, 3) := by decide +kernel
theorem dX6_act_4 : decode cX6_act 4 = .ok (.iload_n 1, 1) := by decide +kernel
theorem dX6_act_5 : decode cX6_act 5 = .ok (.invokevirtual 63, 3) := by decide +kernel
theorem dX6_act_8 : decode cX6_act 8 = .ok (.ifCond .eq 10, 3) := by decide +kernel
theorem dX6_act_11 : decode cX6_act 11 = .ok (.lload_n 2, 1) := by decide +kernel
theorem dX6_act_12 : decode cX6_act 12 = .ok (.invokestatic 48, 3) := by decide +kernel
theorem dX6_act_15 : decode cX6_act 15 = .ok (.ifCond .ne 5, 3) := by decide +kernel
theorem dX6_act_18 : decode cX6_act 18 = .ok (.iconst (-1), 1) := by decide +kernel
theorem dX6_act_19 : decode cX6_act 19 = .ok (.ireturn, 1) := by decide +kernel
theorem dX6_act_20 : decode cX6_act 20 = .ok (.aload_n 0, 1) := by decide +kernel
theorem dX6_act_21 : decode cX6_act 21 = .ok (.getfield 26, 3) := by decide +kernel
theorem dX6_act_24 : decode cX6_act 24 = .ok (.getfield 94, 3) := by decide +kernel
theorem dX6_act_27 : decode cX6_act 27 = .ok (.ifCond .ne 6, 3) := by decide +kernel
theorem dX6_act_30 : decode cX6_act 30 = .ok (.bipush (-2), 2) := by decide +kernel
theorem dX6_act_32 : decode cX6_act 32 = .ok (.ireturn, 1) := by decide +kernel
theorem dX6_act_33 : decode cX6_act 33 = .ok (.aload_n 0, 1) := by decide +kernel
theorem dX6_act_34 : decode cX6_act 34 = .ok (.getfield 26, 3) := by decide +kernel
theorem dX6_act_37 : decode cX6_act 37 = .ok (.getfield 98, 3) := by decide +kernel
theorem dX6_act_40 : decode cX6_act 40 = .ok (.getfield 113, 3) := by decide +kernel
theorem dX6_act_43 : decode cX6_act 43 = .ok (.iconst 4, 1) := by decide +kernel
theorem dX6_act_44 : decode cX6_act 44 = .ok (.if_icmp .lt 6, 3) := by decide +kernel
theorem dX6_act_47 : decode cX6_act 47 = .ok (.bipush (-3), 2) := by decide +kernel
theorem dX6_act_49 : decode cX6_act 49 = .ok (.ireturn, 1) := by decide +kernel
theorem dX6_act_50 : decode cX6_act 50 = .ok (.aload_n 0, 1) := by decide +kernel
theorem dX6_act_51 : decode cX6_act 51 = .ok (.getfield 26, 3) := by decide +kernel
theorem dX6_act_54 : decode cX6_act 54 = .ok (.getfield 98, 3) := by decide +kernel
theorem dX6_act_57 : decode cX6_act 57 = .ok (.iload_n 1, 1) := by decide +kernel
theorem dX6_act_58 : decode cX6_act 58 = .ok (.lload_n 2, 1) := by decide +kernel
theorem dX6_act_59 : decode cX6_act 59 = .ok (.invokevirtual 116, 3) := by decide +kernel
theorem dX6_act_62 : decode cX6_act 62 = .ok (.ireturn, 1) := by decide +kernel
set_option maxRecDepth 20000 in
theorem ggX6_add_X4_has : GoodIn wsX6_add wsX4_has := goodIn_r _ [9, 10, 30, 31, 32] (by decide +kernel) (by decide +kernel)
set_option maxRecDepth 20000 in
theorem gX6_add_X4_has : GoodIn wsX6_add (wsV RX6 119 RX4 yX4_has wsX4_has) := goodIn_app (goodIn_of _ (by decide +kernel)) ggX6_add_X4_has
set_option maxRecDepth 20000 in
theorem ggX6_add_X2_append : GoodIn wsX6_add wsX2_append := goodIn_r _ [15, 16, 17, 26, 27, 28, 29] (by decide +kernel) (by decide +kernel)
set_option maxRecDepth 20000 in
theorem gX6_add_X2_append : GoodIn wsX6_add (wsV RX6 123 RX2 yX2_append wsX2_append) := goodIn_app (goodIn_of _ (by decide +kernel)) ggX6_add_X2_append
theorem dX6_add_0 : decode cX6_add 0 = .ok (.aload_n 0, 1) := by decide +kernel
theorem dX6_add_1 : decode cX6_add 1 = .ok (.getfield 19, 3) := by decide +kernel
theorem dX6_add_4 : decode cX6_add 4 = .ok (.iload_n 1, 1) := by decide +kernel
theorem dX6_add_5 : decode cX6_add 5 = .ok (.invokevirtual 119, 3) := by decide +kernel
theorem dX6_add_8 : decode cX6_add 8 = .ok (.ifCond .ne 5, 3) := by decide +kernel
theorem dX6_add_11 : decode cX6_add 11 = .ok (.iconst (-1), 1) := by decide +kernel
theorem dX6_add_12 : decode cX6_add 12 = .ok (.ireturn, 1) := by decide +kernel
theorem dX6_add_13 : decode cX6_add 13 = .ok (.aload_n 0, 1) := by decide +kernel
theorem dX6_add_14 : decode cX6_add 14 = .ok (.getfield 26, 3) := by decide +kernel
theorem dX6_add_17 : decode cX6_add 17 = .ok (.getfield 94, 3) := by decide +kernel
theorem dX6_add_20 : decode cX6_add 20 = .ok (.ifCond .ne 6, 3) := by decide +kernel
theorem dX6_add_23 : decode cX6_add 23 = .ok (.bipush (-2), 2) := by decide +kernel
theorem dX6_add_25 : decode cX6_add 25 = .ok (.ireturn, 1) := by decide +kernel
theorem dX6_add_26 : decode cX6_add 26 = .ok (.aload_n 0, 1) := by decide +kernel
theorem dX6_add_27 : decode cX6_add 27 = .ok (.getfield 26, 3) := by decide +kernel
theorem dX6_add_30 : decode cX6_add 30 = .ok (.getfield 120, 3) := by decide +kernel
theorem dX6_add_33 : decode cX6_add 33 = .ok (.bipush 12, 2) := by decide +kernel
theorem dX6_add_35 : decode cX6_add 35 = .ok (.if_icmp .lt 6, 3) := by decide +kernel
theorem dX6_add_38 : decode cX6_add 38 = .ok (.bipush (-3), 2) := by decide +kernel
theorem dX6_add_40 : decode cX6_add 40 = .ok (.ireturn, 1) := by decide +kernel
theorem dX6_add_41 : decode cX6_add 41 = .ok (.aload_n 0, 1) := by decide +kernel
theorem dX6_add_42 : decode cX6_add 42 = .ok (.getfield 26, 3) := by decide +kernel
theorem dX6_add_45 : decode cX6_add 45 = .ok (.iload_n 1, 1) := by decide +kernel
theorem dX6_add_46 : decode cX6_add 46 = .ok (.invokevirtual 123, 3) := by decide +kernel
theorem dX6_add_49 : decode cX6_add 49 = .ok (.ireturn, 1) := by decide +kernel
set_option maxRecDepth 20000 in
theorem ggX6_digest_X1_computeDigest : GoodIn wsX6_digest wsX1_computeDigest := goodIn_r _ [8, 9, 10, 11, 12, 13, 14, 15, 16, 17, 18, 19, 20, 33, 34, 35, 36, 37, 38, 39, 40, 41, 42, 43, 44] (by decide +kernel) (by decide +kernel)
set_option maxRecDepth 20000 in
theorem gX6_digest_X1_computeDigest : GoodIn wsX6_digest (wsV RX6 126 RX1 yX1_computeDigest wsX1_computeDigest) := goodIn_app (goodIn_of _ (by decide +kernel)) ggX6_digest_X1_computeDigest
theorem dX6_digest_0 : decode cX6_digest 0 = .ok (.aload_n 0, 1) := by decide +kernel
theorem dX6_digest_1 : decode cX6_digest 1 = .ok (.getfield 26, 3) := by decide +kernel
theorem dX6_digest_4 : decode cX6_digest 4 = .ok (.getfield 94, 3) := by decide +kernel
theorem dX6_digest_7 : decode cX6_digest 7 = .ok (.ifCond .eq 16, 3) := by decide +kernel
theorem dX6_digest_10 : decode cX6_digest 10 = .ok (.aload_n 0, 1) := by decide +kernel
theorem dX6_digest_11 : decode cX6_digest 11 = .ok (.getfield 26, 3) := by decide +kernel
theorem dX6_digest_14 : decode cX6_digest 14 = .ok (.getfield 98, 3) := by decide +kernel
theorem dX6_digest_17 : decode cX6_digest 17 = .ok (.invokevirtual 126, 3) := by decide +kernel
theorem dX6_digest_20 : decode cX6_digest 20 = .ok (.goto 4, 3) := by decide +kernel
theorem dX6_digest_23 : decode cX6_digest 23 = .ok (.lconst 0, 1) := by decide +kernel
theorem dX6_digest_24 : decode cX6_digest 24 = .ok (.lreturn, 1) := by decide +kernel
set_option maxRecDepth 20000 in
theorem ggX6_offer_X5_indexOf : GoodIn wsX6_offer wsX5_indexOf := goodIn_r _ [11, 12, 13, 14, 15, 164, 165, 166, 152, 153, 154, 155, 156, 157, 158, 159, 160, 161, 162, 163] (by decide +kernel) (by decide +kernel)
set_option maxRecDepth 20000 in
theorem gX6_offer_X5_indexOf : GoodIn wsX6_offer (wsV RX6 136 RX5 yX5_indexOf wsX5_indexOf) := goodIn_app (goodIn_of _ (by decide +kernel)) ggX6_offer_X5_indexOf
set_option maxRecDepth 20000 in
theorem ggX6_offer_X6_refusal : GoodIn wsX6_offer wsX6_refusal := goodIn_r _ [20, 21, 22, 23, 6, 24, 25, 5, 26, 27, 28, 29, 19, 30, 1, 3, 31, 32, 33, 34, 35, 36, 37, 38, 39, 40, 41, 42, 43, 44, 45, 46, 47, 48, 49, 50, 51, 52, 53, 54, 55, 56, 57, 58, 59, 60, 61, 62, 63, 64, 65, 66, 67, 68, 69, 70, 71, 72, 73, 74, 75, 76, 77, 78, 79, 80, 81, 82, 83, 84, 4, 85, 86, 87, 88, 89, 10, 90, 12, 91, 92, 93, 94, 13, 95, 152, 153, 154, 155, 156, 157, 158, 159, 160, 161, 162, 163, 140, 141, 142, 143, 144, 145, 146, 147, 167, 168, 169, 170, 171, 148, 149, 150, 151, 172, 173, 174, 164, 165, 166] (by decide +kernel) (by decide +kernel)
set_option maxRecDepth 20000 in
theorem gX6_offer_X6_refusal : GoodIn wsX6_offer (wsV RX6 140 RX6 yX6_refusal wsX6_refusal) := goodIn_app (goodIn_of _ (by decide +kernel)) ggX6_offer_X6_refusal
set_option maxRecDepth 20000 in
theorem ggX6_offer_X6_end : GoodIn wsX6_offer wsX6_end := goodIn_r _ [99, 4, 100, 101, 102, 103, 104, 10, 105, 13, 12, 106, 107, 108, 109, 110, 111, 112, 113, 114, 115, 116, 117, 118, 119, 120, 140, 141, 142, 143, 144, 145, 146, 147, 152, 153, 154, 155, 156, 157, 158, 159, 160, 161, 162, 163, 164, 165, 166, 175, 176, 177, 178, 179, 180] (by decide +kernel) (by decide +kernel)
set_option maxRecDepth 20000 in
theorem gX6_offer_X6_end : GoodIn wsX6_offer (wsV RX6 144 RX6 yX6_end wsX6_end) := goodIn_app (goodIn_of _ (by decide +kernel)) ggX6_offer_X6_end
set_option maxRecDepth 20000 in
theorem ggX6_offer_X5_isFull : GoodIn wsX6_offer wsX5_isFull := goodIn_r _ [90, 12, 164, 165, 166] (by decide +kernel) (by decide +kernel)
set_option maxRecDepth 20000 in
theorem gX6_offer_X5_isFull : GoodIn wsX6_offer (wsV RX6 147 RX5 yX5_isFull wsX5_isFull) := goodIn_app (goodIn_of _ (by decide +kernel)) ggX6_offer_X5_isFull
set_option maxRecDepth 20000 in
theorem ggX6_offer_X5_cheapest : GoodIn wsX6_offer wsX5_cheapest := goodIn_r _ [94, 12, 13, 95, 164, 165, 166, 152, 153, 154, 155, 156, 157, 158, 159, 160, 161, 162, 163] (by decide +kernel) (by decide +kernel)
set_option maxRecDepth 20000 in
theorem gX6_offer_X5_cheapest : GoodIn wsX6_offer (wsV RX6 151 RX5 yX5_cheapest wsX5_cheapest) := goodIn_app (goodIn_of _ (by decide +kernel)) ggX6_offer_X5_cheapest
set_option maxRecDepth 20000 in
theorem ggX6_offer_X5_append : GoodIn wsX6_offer wsX5_append := goodIn_r _ [124, 13, 12, 125, 126, 127, 128, 129, 39, 130, 43, 44, 45, 46, 47, 48, 49, 50, 51, 52, 131, 132, 133, 134, 135, 136, 137, 138, 139, 164, 165, 166, 152, 153, 154, 155, 156, 157, 158, 159, 160, 161, 162, 163] (by decide +kernel) (by decide +kernel)
set_option maxRecDepth 20000 in
theorem gX6_offer_X5_append : GoodIn wsX6_offer (wsV RX6 155 RX5 yX5_append wsX5_append) := goodIn_app (goodIn_of _ (by decide +kernel)) ggX6_offer_X5_append
theorem dX6_offer_0 : decode cX6_offer 0 = .ok (.aload_n 0, 1) := by decide +kernel
theorem dX6_offer_1 : decode cX6_offer 1 = .ok (.getfield 26, 3) := by decide +kernel
theorem dX6_offer_4 : decode cX6_offer 4 = .ok (.getfield 94, 3) := by decide +kernel
theorem dX6_offer_7 : decode cX6_offer 7 = .ok (.ifCond .ne 6, 3) := by decide +kernel
theorem dX6_offer_10 : decode cX6_offer 10 = .ok (.bipush (-2), 2) := by decide +kernel
theorem dX6_offer_12 : decode cX6_offer 12 = .ok (.ireturn, 1) := by decide +kernel
theorem dX6_offer_13 : decode cX6_offer 13 = .ok (.aload_n 0, 1) := by decide +kernel
theorem dX6_offer_14 : decode cX6_offer 14 = .ok (.getfield 26, 3) := by decide +kernel
theorem dX6_offer_17 : decode cX6_offer 17 = .ok (.getfield 98, 3) := by decide +kernel
theorem dX6_offer_20 : decode cX6_offer 20 = .ok (.astore_n 1, 1) := by decide +kernel
theorem dX6_offer_21 : decode cX6_offer 21 = .ok (.aload_n 0, 1) := by decide +kernel
theorem dX6_offer_22 : decode cX6_offer 22 = .ok (.getfield 33, 3) := by decide +kernel
theorem dX6_offer_25 : decode cX6_offer 25 = .ok (.aload_n 1, 1) := by decide +kernel
theorem dX6_offer_26 : decode cX6_offer 26 = .ok (.getfield 130, 3) := by decide +kernel
theorem dX6_offer_29 : decode cX6_offer 29 = .ok (.aload_n 1, 1) := by decide +kernel
theorem dX6_offer_30 : decode cX6_offer 30 = .ok (.getfield 133, 3) := by decide +kernel
theorem dX6_offer_33 : decode cX6_offer 33 = .ok (.invokevirtual 136, 3) := by decide +kernel
theorem dX6_offer_36 : decode cX6_offer 36 = .ok (.istore_n 2, 1) := by decide +kernel
theorem dX6_offer_37 : decode cX6_offer 37 = .ok (.aload_n 0, 1) := by decide +kernel
theorem dX6_offer_38 : decode cX6_offer 38 = .ok (.aload_n 1, 1) := by decide +kernel
theorem dX6_offer_39 : decode cX6_offer 39 = .ok (.iload_n 2, 1) := by decide +kernel
theorem dX6_offer_40 : decode cX6_offer 40 = .ok (.invokevirtual 140, 3) := by decide +kernel
theorem dX6_offer_43 : decode cX6_offer 43 = .ok (.istore_n 3, 1) := by decide +kernel
theorem dX6_offer_44 : decode cX6_offer 44 = .ok (.iload_n 3, 1) := by decide +kernel
theorem dX6_offer_45 : decode cX6_offer 45 = .ok (.ifCond .eq 8, 3) := by decide +kernel
theorem dX6_offer_48 : decode cX6_offer 48 = .ok (.bipush (-10), 2) := by decide +kernel
theorem dX6_offer_50 : decode cX6_offer 50 = .ok (.iload_n 3, 1) := by decide +kernel
theorem dX6_offer_51 : decode cX6_offer 51 = .ok (.isub, 1) := by decide +kernel
theorem dX6_offer_52 : decode cX6_offer 52 = .ok (.ireturn, 1) := by decide +kernel
theorem dX6_offer_53 : decode cX6_offer 53 = .ok (.iload_n 2, 1) := by decide +kernel
theorem dX6_offer_54 : decode cX6_offer 54 = .ok (.iconst (-1), 1) := by decide +kernel
theorem dX6_offer_55 : decode cX6_offer 55 = .ok (.if_icmp .eq 12, 3) := by decide +kernel
theorem dX6_offer_58 : decode cX6_offer 58 = .ok (.aload_n 0, 1) := by decide +kernel
theorem dX6_offer_59 : decode cX6_offer 59 = .ok (.iload_n 2, 1) := by decide +kernel
theorem dX6_offer_60 : decode cX6_offer 60 = .ok (.iconst 3, 1) := by decide +kernel
theorem dX6_offer_61 : decode cX6_offer 61 = .ok (.invokevirtual 144, 3) := by decide +kernel
theorem dX6_offer_64 : decode cX6_offer 64 = .ok (.goto 25, 3) := by decide +kernel
theorem dX6_offer_67 : decode cX6_offer 67 = .ok (.aload_n 0, 1) := by decide +kernel
theorem dX6_offer_68 : decode cX6_offer 68 = .ok (.getfield 33, 3) := by decide +kernel
theorem dX6_offer_71 : decode cX6_offer 71 = .ok (.invokevirtual 147, 3) := by decide +kernel
theorem dX6_offer_74 : decode cX6_offer 74 = .ok (.ifCond .eq 15, 3) := by decide +kernel
theorem dX6_offer_77 : decode cX6_offer 77 = .ok (.aload_n 0, 1) := by decide +kernel
theorem dX6_offer_78 : decode cX6_offer 78 = .ok (.aload_n 0, 1) := by decide +kernel
theorem dX6_offer_79 : decode cX6_offer 79 = .ok (.getfield 33, 3) := by decide +kernel
theorem dX6_offer_82 : decode cX6_offer 82 = .ok (.invokevirtual 151, 3) := by decide +kernel
theorem dX6_offer_85 : decode cX6_offer 85 = .ok (.iconst 4, 1) := by decide +kernel
theorem dX6_offer_86 : decode cX6_offer 86 = .ok (.invokevirtual 144, 3) := by decide +kernel
theorem dX6_offer_89 : decode cX6_offer 89 = .ok (.aload_n 0, 1) := by decide +kernel
theorem dX6_offer_90 : decode cX6_offer 90 = .ok (.getfield 33, 3) := by decide +kernel
theorem dX6_offer_93 : decode cX6_offer 93 = .ok (.aload_n 1, 1) := by decide +kernel
theorem dX6_offer_94 : decode cX6_offer 94 = .ok (.invokevirtual 155, 3) := by decide +kernel
theorem dX6_offer_97 : decode cX6_offer 97 = .ok (.ireturn, 1) := by decide +kernel
theorem dX6_step_0 : decode cX6_step 0 = .ok (.iload_n 1, 1) := by decide +kernel
theorem dX6_step_1 : decode cX6_step 1 = .ok (.iconst 1, 1) := by decide +kernel
theorem dX6_step_2 : decode cX6_step 2 = .ok (.if_icmp .lt 10, 3) := by decide +kernel
theorem dX6_step_5 : decode cX6_step 5 = .ok (.iload_n 1, 1) := by decide +kernel
theorem dX6_step_6 : decode cX6_step 6 = .ok (.sipush 1000, 3) := by decide +kernel
theorem dX6_step_9 : decode cX6_step 9 = .ok (.if_icmp .le 5, 3) := by decide +kernel
theorem dX6_step_12 : decode cX6_step 12 = .ok (.iconst (-1), 1) := by decide +kernel
theorem dX6_step_13 : decode cX6_step 13 = .ok (.ireturn, 1) := by decide +kernel
theorem dX6_step_14 : decode cX6_step 14 = .ok (.aload_n 0, 1) := by decide +kernel
theorem dX6_step_15 : decode cX6_step 15 = .ok (.getfield 44, 3) := by decide +kernel
theorem dX6_step_18 : decode cX6_step 18 = .ok (.istore_n 2, 1) := by decide +kernel
theorem dX6_step_19 : decode cX6_step 19 = .ok (.aload_n 0, 1) := by decide +kernel
theorem dX6_step_20 : decode cX6_step 20 = .ok (.iload_n 1, 1) := by decide +kernel
theorem dX6_step_21 : decode cX6_step 21 = .ok (.putfield 44, 3) := by decide +kernel
theorem dX6_step_24 : decode cX6_step 24 = .ok (.iload_n 2, 1) := by decide +kernel
theorem dX6_step_25 : decode cX6_step 25 = .ok (.ireturn, 1) := by decide +kernel
set_option maxRecDepth 20000 in
theorem ggX6_block_X6_endThoseOver : GoodIn wsX6_block wsX6_endThoseOver := goodIn_r _ [10, 2, 11, 12, 13, 1, 14, 15, 16, 9, 17, 3, 4, 18, 19, 20, 21, 22, 23, 24, 25, 26, 27, 28, 29, 30, 31, 32, 33, 34, 35, 36, 37, 38, 39, 99, 100, 101, 102, 103, 104, 105, 106, 119, 120, 121, 107, 108, 109, 110, 111, 112, 113, 114, 115, 116, 117, 118, 122, 123, 124, 125, 126, 127] (by decide +kernel) (by decide +kernel)
set_option maxRecDepth 20000 in
theorem gX6_block_X6_endThoseOver : GoodIn wsX6_block (wsV RX6 161 RX6 yX6_endThoseOver wsX6_endThoseOver) := goodIn_app (goodIn_of _ (by decide +kernel)) ggX6_block_X6_endThoseOver
set_option maxRecDepth 20000 in
theorem ggX6_block_X6_dearestReady : GoodIn wsX6_block wsX6_dearestReady := goodIn_r _ [43, 2, 11, 12, 44, 45, 46, 47, 9, 48, 49, 50, 51, 52, 53, 1, 54, 99, 100, 101, 102, 103, 104, 105, 106, 119, 120, 121, 107, 108, 109, 110, 111, 112, 113, 114, 115, 116, 117, 118, 128, 129, 130, 131, 132] (by decide +kernel) (by decide +kernel)
set_option maxRecDepth 20000 in
theorem gX6_block_X6_dearestReady : GoodIn wsX6_block (wsV RX6 164 RX6 yX6_dearestReady wsX6_dearestReady) := goodIn_app (goodIn_of _ (by decide +kernel)) ggX6_block_X6_dearestReady
set_option maxRecDepth 20000 in
theorem ggX6_block_X5_take : GoodIn wsX6_block wsX5_take := goodIn_r _ [22, 23, 24, 119, 120, 121] (by decide +kernel) (by decide +kernel)
set_option maxRecDepth 20000 in
theorem gX6_block_X5_take : GoodIn wsX6_block (wsV RX6 167 RX5 yX5_take wsX5_take) := goodIn_app (goodIn_of _ (by decide +kernel)) ggX6_block_X5_take
set_option maxRecDepth 20000 in
theorem ggX6_block_X6_perform : GoodIn wsX6_block wsX6_perform := goodIn_r _ [58, 5, 50, 59, 51, 52, 44, 60, 61, 62, 63, 9, 64, 65, 66, 67, 68, 69, 70, 71, 72, 73, 74, 75, 76, 77, 78, 79, 80, 81, 82, 83, 84, 85, 86, 54, 87, 88, 89, 90, 91, 92, 93, 94, 95, 96, 97, 98, 107, 108, 109, 110, 111, 112, 113, 114, 115, 116, 117, 118, 99, 100, 101, 102, 103, 104, 105, 106, 128, 129, 130, 131, 132] (by decide +kernel) (by decide +kernel)
set_option maxRecDepth 20000 in
theorem gX6_block_X6_perform : GoodIn wsX6_block (wsV RX6 171 RX6 yX6_perform wsX6_perform) := goodIn_app (goodIn_of _ (by decide +kernel)) ggX6_block_X6_perform
set_option maxRecDepth 20000 in
theorem ggX6_block_X3_note : GoodIn wsX6_block wsX3_note := goodIn_r _ [29, 30, 31, 32, 33, 34, 35, 36, 37, 38, 39, 122, 123, 124, 125, 126, 127] (by decide +kernel) (by decide +kernel)
set_option maxRecDepth 20000 in
theorem gX6_block_X3_note : GoodIn wsX6_block (wsV RX6 180 RX3 yX3_note wsX3_note) := goodIn_app (goodIn_of _ (by decide +kernel)) ggX6_block_X3_note
theorem dX6_block_0 : decode cX6_block 0 = .ok (.iload_n 1, 1) := by decide +kernel
theorem dX6_block_1 : decode cX6_block 1 = .ok (.ifCond .lt 10, 3) := by decide +kernel
theorem dX6_block_4 : decode cX6_block 4 = .ok (.iload_n 1, 1) := by decide +kernel
theorem dX6_block_5 : decode cX6_block 5 = .ok (.sipush 10000, 3) := by decide +kernel
theorem dX6_block_8 : decode cX6_block 8 = .ok (.if_icmp .le 5, 3) := by decide +kernel
theorem dX6_block_11 : decode cX6_block 11 = .ok (.iconst (-1), 1) := by decide +kernel
theorem dX6_block_12 : decode cX6_block 12 = .ok (.ireturn, 1) := by decide +kernel
theorem dX6_block_13 : decode cX6_block 13 = .ok (.aload_n 0, 1) := by decide +kernel
theorem dX6_block_14 : decode cX6_block 14 = .ok (.dup, 1) := by decide +kernel
theorem dX6_block_15 : decode cX6_block 15 = .ok (.getfield 158, 3) := by decide +kernel
theorem dX6_block_18 : decode cX6_block 18 = .ok (.iconst 1, 1) := by decide +kernel
theorem dX6_block_19 : decode cX6_block 19 = .ok (.iadd, 1) := by decide +kernel
theorem dX6_block_20 : decode cX6_block 20 = .ok (.putfield 158, 3) := by decide +kernel
theorem dX6_block_23 : decode cX6_block 23 = .ok (.aload_n 0, 1) := by decide +kernel
theorem dX6_block_24 : decode cX6_block 24 = .ok (.invokevirtual 161, 3) := by decide +kernel
theorem dX6_block_27 : decode cX6_block 27 = .ok (.iload_n 1, 1) := by decide +kernel
theorem dX6_block_28 : decode cX6_block 28 = .ok (.istore_n 2, 1) := by decide +kernel
theorem dX6_block_29 : decode cX6_block 29 = .ok (.iconst 0, 1) := by decide +kernel
theorem dX6_block_30 : decode cX6_block 30 = .ok (.istore_n 3, 1) := by decide +kernel
theorem dX6_block_31 : decode cX6_block 31 = .ok (.iconst 0, 1) := by decide +kernel
theorem dX6_block_32 : decode cX6_block 32 = .ok (.istore 4, 2) := by decide +kernel
theorem dX6_block_34 : decode cX6_block 34 = .ok (.iload 4, 2) := by decide +kernel
theorem dX6_block_36 : decode cX6_block 36 = .ok (.bipush 24, 2) := by decide +kernel
theorem dX6_block_38 : decode cX6_block 38 = .ok (.if_icmp .ge 79, 3) := by decide +kernel
theorem dX6_block_41 : decode cX6_block 41 = .ok (.aload_n 0, 1) := by decide +kernel
theorem dX6_block_42 : decode cX6_block 42 = .ok (.iload_n 2, 1) := by decide +kernel
theorem dX6_block_43 : decode cX6_block 43 = .ok (.invokevirtual 164, 3) := by decide +kernel
theorem dX6_block_46 : decode cX6_block 46 = .ok (.istore 5, 2) := by decide +kernel
theorem dX6_block_48 : decode cX6_block 48 = .ok (.iload 5, 2) := by decide +kernel
theorem dX6_block_50 : decode cX6_block 50 = .ok (.iconst (-1), 1) := by decide +kernel
theorem dX6_block_51 : decode cX6_block 51 = .ok (.if_icmp .ne 6, 3) := by decide +kernel
theorem dX6_block_54 : decode cX6_block 54 = .ok (.goto 63, 3) := by decide +kernel
theorem dX6_block_57 : decode cX6_block 57 = .ok (.aload_n 0, 1) := by decide +kernel
theorem dX6_block_58 : decode cX6_block 58 = .ok (.getfield 33, 3) := by decide +kernel
theorem dX6_block_61 : decode cX6_block 61 = .ok (.iload 5, 2) := by decide +kernel
theorem dX6_block_63 : decode cX6_block 63 = .ok (.invokevirtual 167, 3) := by decide +kernel
theorem dX6_block_66 : decode cX6_block 66 = .ok (.astore 6, 2) := by decide +kernel
theorem dX6_block_68 : decode cX6_block 68 = .ok (.aload_n 0, 1) := by decide +kernel
theorem dX6_block_69 : decode cX6_block 69 = .ok (.aload 6, 2) := by decide +kernel
theorem dX6_block_71 : decode cX6_block 71 = .ok (.invokevirtual 171, 3) := by decide +kernel
theorem dX6_block_74 : decode cX6_block 74 = .ok (.istore 7, 2) := by decide +kernel
theorem dX6_block_76 : decode cX6_block 76 = .ok (.aload_n 0, 1) := by decide +kernel
theorem dX6_block_77 : decode cX6_block 77 = .ok (.getfield 40, 3) := by decide +kernel
theorem dX6_block_80 : decode cX6_block 80 = .ok (.aload 6, 2) := by decide +kernel
theorem dX6_block_82 : decode cX6_block 82 = .ok (.getfield 174, 3) := by decide +kernel
theorem dX6_block_85 : decode cX6_block 85 = .ok (.iload 7, 2) := by decide +kernel
theorem dX6_block_87 : decode cX6_block 87 = .ok (.aload 6, 2) := by decide +kernel
theorem dX6_block_89 : decode cX6_block 89 = .ok (.getfield 177, 3) := by decide +kernel
theorem dX6_block_92 : decode cX6_block 92 = .ok (.invokevirtual 180, 3) := by decide +kernel
theorem dX6_block_95 : decode cX6_block 95 = .ok (.iload_n 2, 1) := by decide +kernel
theorem dX6_block_96 : decode cX6_block 96 = .ok (.aload 6, 2) := by decide +kernel
theorem dX6_block_98 : decode cX6_block 98 = .ok (.getfield 177, 3) := by decide +kernel
theorem dX6_block_101 : decode cX6_block 101 = .ok (.isub, 1) := by decide +kernel
theorem dX6_block_102 : decode cX6_block 102 = .ok (.istore_n 2, 1) := by decide +kernel
theorem dX6_block_103 : decode cX6_block 103 = .ok (.iload 7, 2) := by decide +kernel
theorem dX6_block_105 : decode cX6_block 105 = .ok (.ifCond .ne 6, 3) := by decide +kernel
theorem dX6_block_108 : decode cX6_block 108 = .ok (.iinc 3 1, 3) := by decide +kernel
theorem dX6_block_111 : decode cX6_block 111 = .ok (.iinc 4 1, 3) := by decide +kernel
theorem dX6_block_114 : decode cX6_block 114 = .ok (.goto (-80), 3) := by decide +kernel
theorem dX6_block_117 : decode cX6_block 117 = .ok (.iload_n 3, 1) := by decide +kernel
theorem dX6_block_118 : decode cX6_block 118 = .ok (.ireturn, 1) := by decide +kernel
theorem dX6_waiting_0 : decode cX6_waiting 0 = .ok (.iload_n 1, 1) := by decide +kernel
theorem dX6_waiting_1 : decode cX6_waiting 1 = .ok (.ifCond .lt 14, 3) := by decide +kernel
theorem dX6_waiting_4 : decode cX6_waiting 4 = .ok (.iload_n 1, 1) := by decide +kernel
theorem dX6_waiting_5 : decode cX6_waiting 5 = .ok (.aload_n 0, 1) := by decide +kernel
theorem dX6_waiting_6 : decode cX6_waiting 6 = .ok (.getfield 33, 3) := by decide +kernel
theorem dX6_waiting_9 : decode cX6_waiting 9 = .ok (.getfield 183, 3) := by decide +kernel
theorem dX6_waiting_12 : decode cX6_waiting 12 = .ok (.if_icmp .lt 5, 3) := by decide +kernel
theorem dX6_waiting_15 : decode cX6_waiting 15 = .ok (.iconst (-1), 1) := by decide +kernel
theorem dX6_waiting_16 : decode cX6_waiting 16 = .ok (.ireturn, 1) := by decide +kernel
theorem dX6_waiting_17 : decode cX6_waiting 17 = .ok (.aload_n 0, 1) := by decide +kernel
theorem dX6_waiting_18 : decode cX6_waiting 18 = .ok (.getfield 33, 3) := by decide +kernel
theorem dX6_waiting_21 : decode cX6_waiting 21 = .ok (.getfield 184, 3) := by decide +kernel
theorem dX6_waiting_24 : decode cX6_waiting 24 = .ok (.iload_n 1, 1) := by decide +kernel
theorem dX6_waiting_25 : decode cX6_waiting 25 = .ok (.aaload, 1) := by decide +kernel
theorem dX6_waiting_26 : decode cX6_waiting 26 = .ok (.astore_n 3, 1) := by decide +kernel
theorem dX6_waiting_27 : decode cX6_waiting 27 = .ok (.iload_n 2, 1) := by decide +kernel
theorem dX6_waiting_28 : decode cX6_waiting 28 = .ok (.tableswitch 52 0 3 #[32, 37, 42, 47], 32) := by decide +kernel
theorem dX6_waiting_60 : decode cX6_waiting 60 = .ok (.aload_n 3, 1) := by decide +kernel
theorem dX6_waiting_61 : decode cX6_waiting 61 = .ok (.getfield 174, 3) := by decide +kernel
theorem dX6_waiting_64 : decode cX6_waiting 64 = .ok (.ireturn, 1) := by decide +kernel
theorem dX6_waiting_65 : decode cX6_waiting 65 = .ok (.aload_n 3, 1) := by decide +kernel
theorem dX6_waiting_66 : decode cX6_waiting 66 = .ok (.getfield 130, 3) := by decide +kernel
theorem dX6_waiting_69 : decode cX6_waiting 69 = .ok (.ireturn, 1) := by decide +kernel
theorem dX6_waiting_70 : decode cX6_waiting 70 = .ok (.aload_n 3, 1) := by decide +kernel
theorem dX6_waiting_71 : decode cX6_waiting 71 = .ok (.getfield 133, 3) := by decide +kernel
theorem dX6_waiting_74 : decode cX6_waiting 74 = .ok (.ireturn, 1) := by decide +kernel
theorem dX6_waiting_75 : decode cX6_waiting 75 = .ok (.aload_n 3, 1) := by decide +kernel
theorem dX6_waiting_76 : decode cX6_waiting 76 = .ok (.getfield 188, 3) := by decide +kernel
theorem dX6_waiting_79 : decode cX6_waiting 79 = .ok (.ireturn, 1) := by decide +kernel
theorem dX6_waiting_80 : decode cX6_waiting 80 = .ok (.iconst (-1), 1) := by decide +kernel
theorem dX6_waiting_81 : decode cX6_waiting 81 = .ok (.ireturn, 1) := by decide +kernel
set_option maxRecDepth 20000 in
theorem ggX6_event_X3_placeOf : GoodIn wsX6_event wsX3_placeOf := goodIn_r _ [10, 11, 20, 21, 22, 23, 24, 25] (by decide +kernel) (by decide +kernel)
set_option maxRecDepth 20000 in
theorem gX6_event_X3_placeOf : GoodIn wsX6_event (wsV RX6 194 RX3 yX3_placeOf wsX3_placeOf) := goodIn_app (goodIn_of _ (by decide +kernel)) ggX6_event_X3_placeOf
theorem dX6_event_0 : decode cX6_event 0 = .ok (.iload_n 1, 1) := by decide +kernel
theorem dX6_event_1 : decode cX6_event 1 = .ok (.ifCond .lt 14, 3) := by decide +kernel
theorem dX6_event_4 : decode cX6_event 4 = .ok (.iload_n 1, 1) := by decide +kernel
theorem dX6_event_5 : decode cX6_event 5 = .ok (.aload_n 0, 1) := by decide +kernel
theorem dX6_event_6 : decode cX6_event 6 = .ok (.getfield 40, 3) := by decide +kernel
theorem dX6_event_9 : decode cX6_event 9 = .ok (.getfield 191, 3) := by decide +kernel
theorem dX6_event_12 : decode cX6_event 12 = .ok (.if_icmp .lt 5, 3) := by decide +kernel
theorem dX6_event_15 : decode cX6_event 15 = .ok (.iconst (-1), 1) := by decide +kernel
theorem dX6_event_16 : decode cX6_event 16 = .ok (.ireturn, 1) := by decide +kernel
theorem dX6_event_17 : decode cX6_event 17 = .ok (.aload_n 0, 1) := by decide +kernel
theorem dX6_event_18 : decode cX6_event 18 = .ok (.getfield 40, 3) := by decide +kernel
theorem dX6_event_21 : decode cX6_event 21 = .ok (.iload_n 1, 1) := by decide +kernel
theorem dX6_event_22 : decode cX6_event 22 = .ok (.invokevirtual 194, 3) := by decide +kernel
theorem dX6_event_25 : decode cX6_event 25 = .ok (.istore_n 3, 1) := by decide +kernel
theorem dX6_event_26 : decode cX6_event 26 = .ok (.iload_n 2, 1) := by decide +kernel
theorem dX6_event_27 : decode cX6_event 27 = .ok (.tableswitch 55 0 2 #[25, 35, 45], 25) := by decide +kernel
theorem dX6_event_52 : decode cX6_event 52 = .ok (.aload_n 0, 1) := by decide +kernel
theorem dX6_event_53 : decode cX6_event 53 = .ok (.getfield 40, 3) := by decide +kernel
theorem dX6_event_56 : decode cX6_event 56 = .ok (.getfield 197, 3) := by decide +kernel
theorem dX6_event_59 : decode cX6_event 59 = .ok (.iload_n 3, 1) := by decide +kernel
theorem dX6_event_60 : decode cX6_event 60 = .ok (.iaload, 1) := by decide +kernel
theorem dX6_event_61 : decode cX6_event 61 = .ok (.ireturn, 1) := by decide +kernel
theorem dX6_event_62 : decode cX6_event 62 = .ok (.aload_n 0, 1) := by decide +kernel
theorem dX6_event_63 : decode cX6_event 63 = .ok (.getfield 40, 3) := by decide +kernel
theorem dX6_event_66 : decode cX6_event 66 = .ok (.getfield 200, 3) := by decide +kernel
theorem dX6_event_69 : decode cX6_event 69 = .ok (.iload_n 3, 1) := by decide +kernel
theorem dX6_event_70 : decode cX6_event 70 = .ok (.iaload, 1) := by decide +kernel
theorem dX6_event_71 : decode cX6_event 71 = .ok (.ireturn, 1) := by decide +kernel
theorem dX6_event_72 : decode cX6_event 72 = .ok (.aload_n 0, 1) := by decide +kernel
theorem dX6_event_73 : decode cX6_event 73 = .ok (.getfield 40, 3) := by decide +kernel
theorem dX6_event_76 : decode cX6_event 76 = .ok (.getfield 203, 3) := by decide +kernel
theorem dX6_event_79 : decode cX6_event 79 = .ok (.iload_n 3, 1) := by decide +kernel
theorem dX6_event_80 : decode cX6_event 80 = .ok (.iaload, 1) := by decide +kernel
theorem dX6_event_81 : decode cX6_event 81 = .ok (.ireturn, 1) := by decide +kernel
theorem dX6_event_82 : decode cX6_event 82 = .ok (.iconst (-1), 1) := by decide +kernel
theorem dX6_event_83 : decode cX6_event 83 = .ok (.ireturn, 1) := by decide +kernel
theorem dX6_paid_0 : decode cX6_paid 0 = .ok (.aload_n 0, 1) := by decide +kernel
theorem dX6_paid_1 : decode cX6_paid 1 = .ok (.getfield 206, 3) := by decide +kernel
theorem dX6_paid_4 : decode cX6_paid 4 = .ok (.lreturn, 1) := by decide +kernel
theorem dX6_told_0 : decode cX6_told 0 = .ok (.iload_n 1, 1) := by decide +kernel
theorem dX6_told_1 : decode cX6_told 1 = .ok (.tableswitch 84 0 5 #[39, 47, 55, 63, 71, 79], 39) := by decide +kernel
theorem dX6_told_40 : decode cX6_told 40 = .ok (.aload_n 0, 1) := by decide +kernel
theorem dX6_told_41 : decode cX6_told 41 = .ok (.getfield 10, 3) := by decide +kernel
theorem dX6_told_44 : decode cX6_told 44 = .ok (.getfield 56, 3) := by decide +kernel
theorem dX6_told_47 : decode cX6_told 47 = .ok (.ireturn, 1) := by decide +kernel
theorem dX6_told_48 : decode cX6_told 48 = .ok (.aload_n 0, 1) := by decide +kernel
theorem dX6_told_49 : decode cX6_told 49 = .ok (.getfield 19, 3) := by decide +kernel
theorem dX6_told_52 : decode cX6_told 52 = .ok (.getfield 81, 3) := by decide +kernel
theorem dX6_told_55 : decode cX6_told 55 = .ok (.ireturn, 1) := by decide +kernel
theorem dX6_told_56 : decode cX6_told 56 = .ok (.aload_n 0, 1) := by decide +kernel
theorem dX6_told_57 : decode cX6_told 57 = .ok (.getfield 33, 3) := by decide +kernel
theorem dX6_told_60 : decode cX6_told 60 = .ok (.getfield 183, 3) := by decide +kernel
theorem dX6_told_63 : decode cX6_told 63 = .ok (.ireturn, 1) := by decide +kernel
theorem dX6_told_64 : decode cX6_told 64 = .ok (.aload_n 0, 1) := by decide +kernel
theorem dX6_told_65 : decode cX6_told 65 = .ok (.getfield 33, 3) := by decide +kernel
theorem dX6_told_68 : decode cX6_told 68 = .ok (.getfield 210, 3) := by decide +kernel
theorem dX6_told_71 : decode cX6_told 71 = .ok (.ireturn, 1) := by decide +kernel
theorem dX6_told_72 : decode cX6_told 72 = .ok (.aload_n 0, 1) := by decide +kernel
theorem dX6_told_73 : decode cX6_told 73 = .ok (.getfield 40, 3) := by decide +kernel
theorem dX6_told_76 : decode cX6_told 76 = .ok (.getfield 213, 3) := by decide +kernel
theorem dX6_told_79 : decode cX6_told 79 = .ok (.ireturn, 1) := by decide +kernel
theorem dX6_told_80 : decode cX6_told 80 = .ok (.aload_n 0, 1) := by decide +kernel
theorem dX6_told_81 : decode cX6_told 81 = .ok (.getfield 158, 3) := by decide +kernel
theorem dX6_told_84 : decode cX6_told 84 = .ok (.ireturn, 1) := by decide +kernel
theorem dX6_told_85 : decode cX6_told 85 = .ok (.iconst (-1), 1) := by decide +kernel
theorem dX6_told_86 : decode cX6_told 86 = .ok (.ireturn, 1) := by decide +kernel
theorem dX6_isAmount_0 : decode cX6_isAmount 0 = .ok (.lload_n 0, 1) := by decide +kernel
theorem dX6_isAmount_1 : decode cX6_isAmount 1 = .ok (.lconst 0, 1) := by decide +kernel
theorem dX6_isAmount_2 : decode cX6_isAmount 2 = .ok (.lcmp, 1) := by decide +kernel
theorem dX6_isAmount_3 : decode cX6_isAmount 3 = .ok (.ifCond .lt 15, 3) := by decide +kernel
theorem dX6_isAmount_6 : decode cX6_isAmount 6 = .ok (.lload_n 0, 1) := by decide +kernel
theorem dX6_isAmount_7 : decode cX6_isAmount 7 = .ok (.ldc2_w 216, 3) := by decide +kernel
theorem dX6_isAmount_10 : decode cX6_isAmount 10 = .ok (.lcmp, 1) := by decide +kernel
theorem dX6_isAmount_11 : decode cX6_isAmount 11 = .ok (.ifCond .gt 7, 3) := by decide +kernel
theorem dX6_isAmount_14 : decode cX6_isAmount 14 = .ok (.iconst 1, 1) := by decide +kernel
theorem dX6_isAmount_15 : decode cX6_isAmount 15 = .ok (.goto 4, 3) := by decide +kernel
theorem dX6_isAmount_18 : decode cX6_isAmount 18 = .ok (.iconst 0, 1) := by decide +kernel
theorem dX6_isAmount_19 : decode cX6_isAmount 19 = .ok (.ireturn, 1) := by decide +kernel
theorem dX6_isHeight_0 : decode cX6_isHeight 0 = .ok (.iload_n 0, 1) := by decide +kernel
theorem dX6_isHeight_1 : decode cX6_isHeight 1 = .ok (.ifCond .lt 13, 3) := by decide +kernel
theorem dX6_isHeight_4 : decode cX6_isHeight 4 = .ok (.iload_n 0, 1) := by decide +kernel
theorem dX6_isHeight_5 : decode cX6_isHeight 5 = .ok (.ldc 86, 2) := by decide +kernel
theorem dX6_isHeight_7 : decode cX6_isHeight 7 = .ok (.if_icmp .gt 7, 3) := by decide +kernel
theorem dX6_isHeight_10 : decode cX6_isHeight 10 = .ok (.iconst 1, 1) := by decide +kernel
theorem dX6_isHeight_11 : decode cX6_isHeight 11 = .ok (.goto 4, 3) := by decide +kernel
theorem dX6_isHeight_14 : decode cX6_isHeight 14 = .ok (.iconst 0, 1) := by decide +kernel
theorem dX6_isHeight_15 : decode cX6_isHeight 15 = .ok (.ireturn, 1) := by decide +kernel
set_option maxRecDepth 20000 in
theorem ggX6_isLock_J6_bitCount_0f7a4 : GoodIn wsX6_isLock wsJ6_bitCount_0f7a4 := goodIn_r _ [5, 6, 7, 8] (by decide +kernel) (by decide +kernel)
set_option maxRecDepth 20000 in
theorem gX6_isLock_J6_bitCount_0f7a4 : GoodIn wsX6_isLock (va_wsS RX6 219 yJ6_bitCount_0f7a4 wsJ6_bitCount_0f7a4) := goodIn_app (goodIn_of _ (by decide +kernel)) ggX6_isLock_J6_bitCount_0f7a4
theorem dX6_isLock_0 : decode cX6_isLock 0 = .ok (.iload_n 0, 1) := by decide +kernel
theorem dX6_isLock_1 : decode cX6_isLock 1 = .ok (.ifCond .le 26, 3) := by decide +kernel
theorem dX6_isLock_4 : decode cX6_isLock 4 = .ok (.iload_n 0, 1) := by decide +kernel
theorem dX6_isLock_5 : decode cX6_isLock 5 = .ok (.ldc 218, 2) := by decide +kernel
theorem dX6_isLock_7 : decode cX6_isLock 7 = .ok (.if_icmp .ge 20, 3) := by decide +kernel
theorem dX6_isLock_10 : decode cX6_isLock 10 = .ok (.iload_n 1, 1) := by decide +kernel
theorem dX6_isLock_11 : decode cX6_isLock 11 = .ok (.iconst 1, 1) := by decide +kernel
theorem dX6_isLock_12 : decode cX6_isLock 12 = .ok (.if_icmp .lt 15, 3) := by decide +kernel
theorem dX6_isLock_15 : decode cX6_isLock 15 = .ok (.iload_n 1, 1) := by decide +kernel
theorem dX6_isLock_16 : decode cX6_isLock 16 = .ok (.iload_n 0, 1) := by decide +kernel
theorem dX6_isLock_17 : decode cX6_isLock 17 = .ok (.invokestatic 219, 3) := by decide +kernel
theorem dX6_isLock_20 : decode cX6_isLock 20 = .ok (.if_icmp .gt 7, 3) := by decide +kernel
theorem dX6_isLock_23 : decode cX6_isLock 23 = .ok (.iconst 1, 1) := by decide +kernel
theorem dX6_isLock_24 : decode cX6_isLock 24 = .ok (.goto 4, 3) := by decide +kernel
theorem dX6_isLock_27 : decode cX6_isLock 27 = .ok (.iconst 0, 1) := by decide +kernel
theorem dX6_isLock_28 : decode cX6_isLock 28 = .ok (.ireturn, 1) := by decide +kernel
set_option maxRecDepth 20000 in
theorem ggX6_refusal_X6_signersOfDraft : GoodIn wsX6_refusal wsX6_signersOfDraft := goodIn_r _ [13, 14, 15, 16, 17, 18, 19, 20, 21, 22, 23, 24, 25, 26, 27, 28, 29, 30, 31, 32, 33, 34, 35, 36, 37, 97, 98, 99, 100, 101, 102, 103, 104, 110, 111, 112, 113, 114, 115, 116, 85, 86, 87, 88, 89, 90, 91, 92, 93, 94, 95, 96] (by decide +kernel) (by decide +kernel)
set_option maxRecDepth 20000 in
theorem gX6_refusal_X6_signersOfDraft : GoodIn wsX6_refusal (wsV RX6 224 RX6 yX6_signersOfDraft wsX6_signersOfDraft) := goodIn_app (goodIn_of _ (by decide +kernel)) ggX6_refusal_X6_signersOfDraft
set_option maxRecDepth 20000 in
theorem ggX6_refusal_X0_isMet : GoodIn wsX6_refusal wsX0_isMet := goodIn_r _ [42, 43, 44, 45, 46, 47, 48, 49, 50, 51, 105, 106, 107, 108, 109] (by decide +kernel) (by decide +kernel)
set_option maxRecDepth 20000 in
theorem gX6_refusal_X0_isMet : GoodIn wsX6_refusal (wsV RX6 227 RX0 yX0_isMet wsX0_isMet) := goodIn_app (goodIn_of _ (by decide +kernel)) ggX6_refusal_X0_isMet
set_option maxRecDepth 20000 in
theorem ggX6_refusal_X6_coversStake : GoodIn wsX6_refusal wsX6_coversStake := goodIn_r _ [55, 5, 56, 57, 58, 59, 24, 60, 34, 28, 61, 62, 63, 64, 30, 31, 97, 98, 99, 100, 101, 102, 103, 104, 105, 106, 107, 108, 109, 85, 86, 87, 88, 89, 90, 91, 92, 93, 94, 95, 96] (by decide +kernel) (by decide +kernel)
set_option maxRecDepth 20000 in
theorem gX6_refusal_X6_coversStake : GoodIn wsX6_refusal (wsV RX6 230 RX6 yX6_coversStake wsX6_coversStake) := goodIn_app (goodIn_of _ (by decide +kernel)) ggX6_refusal_X6_coversStake
set_option maxRecDepth 20000 in
theorem ggX6_refusal_X6_refusalByRow : GoodIn wsX6_refusal wsX6_refusalByRow := goodIn_r _ [68, 69, 70, 71, 72, 73, 74, 75, 76, 77, 78, 79, 80, 81, 82, 83, 84, 85, 86, 87, 88, 89, 90, 91, 92, 93, 94, 95, 96, 97, 98, 99, 100, 101, 102, 103, 104, 117, 118, 119] (by decide +kernel) (by decide +kernel)
set_option maxRecDepth 20000 in
theorem gX6_refusal_X6_refusalByRow : GoodIn wsX6_refusal (wsV RX6 234 RX6 yX6_refusalByRow wsX6_refusalByRow) := goodIn_app (goodIn_of _ (by decide +kernel)) ggX6_refusal_X6_refusalByRow
theorem dX6_refusal_0 : decode cX6_refusal 0 = .ok (.aload_n 1, 1) := by decide +kernel
theorem dX6_refusal_1 : decode cX6_refusal 1 = .ok (.getfield 113, 3) := by decide +kernel
theorem dX6_refusal_4 : decode cX6_refusal 4 = .ok (.ifCond .ne 5, 3) := by decide +kernel
theorem dX6_refusal_7 : decode cX6_refusal 7 = .ok (.iconst 1, 1) := by decide +kernel
theorem dX6_refusal_8 : decode cX6_refusal 8 = .ok (.ireturn, 1) := by decide +kernel
theorem dX6_refusal_9 : decode cX6_refusal 9 = .ok (.aload_n 1, 1) := by decide +kernel
theorem dX6_refusal_10 : decode cX6_refusal 10 = .ok (.getfield 102, 3) := by decide +kernel
theorem dX6_refusal_13 : decode cX6_refusal 13 = .ok (.aload_n 0, 1) := by decide +kernel
theorem dX6_refusal_14 : decode cX6_refusal 14 = .ok (.getfield 158, 3) := by decide +kernel
theorem dX6_refusal_17 : decode cX6_refusal 17 = .ok (.if_icmp .ge 5, 3) := by decide +kernel
theorem dX6_refusal_20 : decode cX6_refusal 20 = .ok (.iconst 2, 1) := by decide +kernel
theorem dX6_refusal_21 : decode cX6_refusal 21 = .ok (.ireturn, 1) := by decide +kernel
theorem dX6_refusal_22 : decode cX6_refusal 22 = .ok (.aload_n 1, 1) := by decide +kernel
theorem dX6_refusal_23 : decode cX6_refusal 23 = .ok (.getfield 133, 3) := by decide +kernel
theorem dX6_refusal_26 : decode cX6_refusal 26 = .ok (.aload_n 0, 1) := by decide +kernel
theorem dX6_refusal_27 : decode cX6_refusal 27 = .ok (.getfield 10, 3) := by decide +kernel
theorem dX6_refusal_30 : decode cX6_refusal 30 = .ok (.getfield 77, 3) := by decide +kernel
theorem dX6_refusal_33 : decode cX6_refusal 33 = .ok (.aload_n 1, 1) := by decide +kernel
theorem dX6_refusal_34 : decode cX6_refusal 34 = .ok (.getfield 130, 3) := by decide +kernel
theorem dX6_refusal_37 : decode cX6_refusal 37 = .ok (.iaload, 1) := by decide +kernel
theorem dX6_refusal_38 : decode cX6_refusal 38 = .ok (.if_icmp .ge 5, 3) := by decide +kernel
theorem dX6_refusal_41 : decode cX6_refusal 41 = .ok (.iconst 3, 1) := by decide +kernel
theorem dX6_refusal_42 : decode cX6_refusal 42 = .ok (.ireturn, 1) := by decide +kernel
theorem dX6_refusal_43 : decode cX6_refusal 43 = .ok (.aload_n 0, 1) := by decide +kernel
theorem dX6_refusal_44 : decode cX6_refusal 44 = .ok (.invokevirtual 224, 3) := by decide +kernel
theorem dX6_refusal_47 : decode cX6_refusal 47 = .ok (.istore_n 3, 1) := by decide +kernel
theorem dX6_refusal_48 : decode cX6_refusal 48 = .ok (.aload_n 0, 1) := by decide +kernel
theorem dX6_refusal_49 : decode cX6_refusal 49 = .ok (.getfield 10, 3) := by decide +kernel
theorem dX6_refusal_52 : decode cX6_refusal 52 = .ok (.aload_n 1, 1) := by decide +kernel
theorem dX6_refusal_53 : decode cX6_refusal 53 = .ok (.getfield 130, 3) := by decide +kernel
theorem dX6_refusal_56 : decode cX6_refusal 56 = .ok (.iload_n 3, 1) := by decide +kernel
theorem dX6_refusal_57 : decode cX6_refusal 57 = .ok (.invokevirtual 227, 3) := by decide +kernel
theorem dX6_refusal_60 : decode cX6_refusal 60 = .ok (.ifCond .ne 5, 3) := by decide +kernel
theorem dX6_refusal_63 : decode cX6_refusal 63 = .ok (.iconst 4, 1) := by decide +kernel
theorem dX6_refusal_64 : decode cX6_refusal 64 = .ok (.ireturn, 1) := by decide +kernel
theorem dX6_refusal_65 : decode cX6_refusal 65 = .ok (.aload_n 1, 1) := by decide +kernel
theorem dX6_refusal_66 : decode cX6_refusal 66 = .ok (.getfield 110, 3) := by decide +kernel
theorem dX6_refusal_69 : decode cX6_refusal 69 = .ok (.iconst (-1), 1) := by decide +kernel
theorem dX6_refusal_70 : decode cX6_refusal 70 = .ok (.if_icmp .eq 20, 3) := by decide +kernel
theorem dX6_refusal_73 : decode cX6_refusal 73 = .ok (.aload_n 0, 1) := by decide +kernel
theorem dX6_refusal_74 : decode cX6_refusal 74 = .ok (.getfield 10, 3) := by decide +kernel
theorem dX6_refusal_77 : decode cX6_refusal 77 = .ok (.aload_n 1, 1) := by decide +kernel
theorem dX6_refusal_78 : decode cX6_refusal 78 = .ok (.getfield 110, 3) := by decide +kernel
theorem dX6_refusal_81 : decode cX6_refusal 81 = .ok (.iload_n 3, 1) := by decide +kernel
theorem dX6_refusal_82 : decode cX6_refusal 82 = .ok (.invokevirtual 227, 3) := by decide +kernel
theorem dX6_refusal_85 : decode cX6_refusal 85 = .ok (.ifCond .ne 5, 3) := by decide +kernel
theorem dX6_refusal_88 : decode cX6_refusal 88 = .ok (.iconst 5, 1) := by decide +kernel
theorem dX6_refusal_89 : decode cX6_refusal 89 = .ok (.ireturn, 1) := by decide +kernel
theorem dX6_refusal_90 : decode cX6_refusal 90 = .ok (.aload_n 0, 1) := by decide +kernel
theorem dX6_refusal_91 : decode cX6_refusal 91 = .ok (.aload_n 1, 1) := by decide +kernel
theorem dX6_refusal_92 : decode cX6_refusal 92 = .ok (.invokevirtual 230, 3) := by decide +kernel
theorem dX6_refusal_95 : decode cX6_refusal 95 = .ok (.ifCond .ne 6, 3) := by decide +kernel
theorem dX6_refusal_98 : decode cX6_refusal 98 = .ok (.bipush 6, 2) := by decide +kernel
theorem dX6_refusal_100 : decode cX6_refusal 100 = .ok (.ireturn, 1) := by decide +kernel
theorem dX6_refusal_101 : decode cX6_refusal 101 = .ok (.aload_n 0, 1) := by decide +kernel
theorem dX6_refusal_102 : decode cX6_refusal 102 = .ok (.aload_n 1, 1) := by decide +kernel
theorem dX6_refusal_103 : decode cX6_refusal 103 = .ok (.iload_n 2, 1) := by decide +kernel
theorem dX6_refusal_104 : decode cX6_refusal 104 = .ok (.invokevirtual 234, 3) := by decide +kernel
theorem dX6_refusal_107 : decode cX6_refusal 107 = .ok (.ireturn, 1) := by decide +kernel
set_option maxRecDepth 20000 in
theorem ggX6_refusalByRow_X5_isFull : GoodIn wsX6_refusalByRow wsX5_isFull := goodIn_r _ [9, 10, 37, 38, 39] (by decide +kernel) (by decide +kernel)
set_option maxRecDepth 20000 in
theorem gX6_refusalByRow_X5_isFull : GoodIn wsX6_refusalByRow (wsV RX6 147 RX5 yX5_isFull wsX5_isFull) := goodIn_app (goodIn_of _ (by decide +kernel)) ggX6_refusalByRow_X5_isFull
set_option maxRecDepth 20000 in
theorem ggX6_refusalByRow_X5_cheapest : GoodIn wsX6_refusalByRow wsX5_cheapest := goodIn_r _ [14, 10, 15, 16, 37, 38, 39, 17, 18, 19, 20, 21, 22, 23, 24, 25, 26, 27, 28] (by decide +kernel) (by decide +kernel)
set_option maxRecDepth 20000 in
theorem gX6_refusalByRow_X5_cheapest : GoodIn wsX6_refusalByRow (wsV RX6 151 RX5 yX5_cheapest wsX5_cheapest) := goodIn_app (goodIn_of _ (by decide +kernel)) ggX6_refusalByRow_X5_cheapest
theorem dX6_refusalByRow_0 : decode cX6_refusalByRow 0 = .ok (.iload_n 2, 1) := by decide +kernel
theorem dX6_refusalByRow_1 : decode cX6_refusalByRow 1 = .ok (.iconst (-1), 1) := by decide +kernel
theorem dX6_refusalByRow_2 : decode cX6_refusalByRow 2 = .ok (.if_icmp .eq 34, 3) := by decide +kernel
theorem dX6_refusalByRow_5 : decode cX6_refusalByRow 5 = .ok (.aload_n 1, 1) := by decide +kernel
theorem dX6_refusalByRow_6 : decode cX6_refusalByRow 6 = .ok (.getfield 188, 3) := by decide +kernel
theorem dX6_refusalByRow_9 : decode cX6_refusalByRow 9 = .ok (.aload_n 0, 1) := by decide +kernel
theorem dX6_refusalByRow_10 : decode cX6_refusalByRow 10 = .ok (.getfield 33, 3) := by decide +kernel
theorem dX6_refusalByRow_13 : decode cX6_refusalByRow 13 = .ok (.getfield 184, 3) := by decide +kernel
theorem dX6_refusalByRow_16 : decode cX6_refusalByRow 16 = .ok (.iload_n 2, 1) := by decide +kernel
theorem dX6_refusalByRow_17 : decode cX6_refusalByRow 17 = .ok (.aaload, 1) := by decide +kernel
theorem dX6_refusalByRow_18 : decode cX6_refusalByRow 18 = .ok (.getfield 188, 3) := by decide +kernel
theorem dX6_refusalByRow_21 : decode cX6_refusalByRow 21 = .ok (.aload_n 0, 1) := by decide +kernel
theorem dX6_refusalByRow_22 : decode cX6_refusalByRow 22 = .ok (.getfield 44, 3) := by decide +kernel
theorem dX6_refusalByRow_25 : decode cX6_refusalByRow 25 = .ok (.iadd, 1) := by decide +kernel
theorem dX6_refusalByRow_26 : decode cX6_refusalByRow 26 = .ok (.if_icmp .ge 8, 3) := by decide +kernel
theorem dX6_refusalByRow_29 : decode cX6_refusalByRow 29 = .ok (.bipush 7, 2) := by decide +kernel
theorem dX6_refusalByRow_31 : decode cX6_refusalByRow 31 = .ok (.goto 4, 3) := by decide +kernel
theorem dX6_refusalByRow_34 : decode cX6_refusalByRow 34 = .ok (.iconst 0, 1) := by decide +kernel
theorem dX6_refusalByRow_35 : decode cX6_refusalByRow 35 = .ok (.ireturn, 1) := by decide +kernel
theorem dX6_refusalByRow_36 : decode cX6_refusalByRow 36 = .ok (.aload_n 0, 1) := by decide +kernel
theorem dX6_refusalByRow_37 : decode cX6_refusalByRow 37 = .ok (.getfield 33, 3) := by decide +kernel
theorem dX6_refusalByRow_40 : decode cX6_refusalByRow 40 = .ok (.invokevirtual 147, 3) := by decide +kernel
theorem dX6_refusalByRow_43 : decode cX6_refusalByRow 43 = .ok (.ifCond .eq 31, 3) := by decide +kernel
theorem dX6_refusalByRow_46 : decode cX6_refusalByRow 46 = .ok (.aload_n 1, 1) := by decide +kernel
theorem dX6_refusalByRow_47 : decode cX6_refusalByRow 47 = .ok (.getfield 188, 3) := by decide +kernel
theorem dX6_refusalByRow_50 : decode cX6_refusalByRow 50 = .ok (.aload_n 0, 1) := by decide +kernel
theorem dX6_refusalByRow_51 : decode cX6_refusalByRow 51 = .ok (.getfield 33, 3) := by decide +kernel
theorem dX6_refusalByRow_54 : decode cX6_refusalByRow 54 = .ok (.getfield 184, 3) := by decide +kernel
theorem dX6_refusalByRow_57 : decode cX6_refusalByRow 57 = .ok (.aload_n 0, 1) := by decide +kernel
theorem dX6_refusalByRow_58 : decode cX6_refusalByRow 58 = .ok (.getfield 33, 3) := by decide +kernel
theorem dX6_refusalByRow_61 : decode cX6_refusalByRow 61 = .ok (.invokevirtual 151, 3) := by decide +kernel
theorem dX6_refusalByRow_64 : decode cX6_refusalByRow 64 = .ok (.aaload, 1) := by decide +kernel
theorem dX6_refusalByRow_65 : decode cX6_refusalByRow 65 = .ok (.getfield 188, 3) := by decide +kernel
theorem dX6_refusalByRow_68 : decode cX6_refusalByRow 68 = .ok (.if_icmp .gt 6, 3) := by decide +kernel
theorem dX6_refusalByRow_71 : decode cX6_refusalByRow 71 = .ok (.bipush 8, 2) := by decide +kernel
theorem dX6_refusalByRow_73 : decode cX6_refusalByRow 73 = .ok (.ireturn, 1) := by decide +kernel
theorem dX6_refusalByRow_74 : decode cX6_refusalByRow 74 = .ok (.iconst 0, 1) := by decide +kernel
theorem dX6_refusalByRow_75 : decode cX6_refusalByRow 75 = .ok (.ireturn, 1) := by decide +kernel
set_option maxRecDepth 20000 in
theorem ggX6_signersOfDraft_X1_computeDigest : GoodIn wsX6_signersOfDraft wsX1_computeDigest := goodIn_r _ [12, 13, 14, 15, 16, 17, 18, 19, 20, 21, 22, 23, 24, 40, 41, 42, 43, 44, 45, 46, 47, 48, 49, 50, 51] (by decide +kernel) (by decide +kernel)
set_option maxRecDepth 20000 in
theorem gX6_signersOfDraft_X1_computeDigest : GoodIn wsX6_signersOfDraft (wsV RX6 126 RX1 yX1_computeDigest wsX1_computeDigest) := goodIn_app (goodIn_of _ (by decide +kernel)) ggX6_signersOfDraft_X1_computeDigest
theorem dX6_signersOfDraft_0 : decode cX6_signersOfDraft 0 = .ok (.aload_n 0, 1) := by decide +kernel
theorem dX6_signersOfDraft_1 : decode cX6_signersOfDraft 1 = .ok (.getfield 26, 3) := by decide +kernel
theorem dX6_signersOfDraft_4 : decode cX6_signersOfDraft 4 = .ok (.getfield 98, 3) := by decide +kernel
theorem dX6_signersOfDraft_7 : decode cX6_signersOfDraft 7 = .ok (.invokevirtual 126, 3) := by decide +kernel
theorem dX6_signersOfDraft_10 : decode cX6_signersOfDraft 10 = .ok (.lstore_n 1, 1) := by decide +kernel
theorem dX6_signersOfDraft_11 : decode cX6_signersOfDraft 11 = .ok (.iconst 0, 1) := by decide +kernel
theorem dX6_signersOfDraft_12 : decode cX6_signersOfDraft 12 = .ok (.istore_n 3, 1) := by decide +kernel
theorem dX6_signersOfDraft_13 : decode cX6_signersOfDraft 13 = .ok (.iconst 0, 1) := by decide +kernel
theorem dX6_signersOfDraft_14 : decode cX6_signersOfDraft 14 = .ok (.istore 4, 2) := by decide +kernel
theorem dX6_signersOfDraft_16 : decode cX6_signersOfDraft 16 = .ok (.iload 4, 2) := by decide +kernel
theorem dX6_signersOfDraft_18 : decode cX6_signersOfDraft 18 = .ok (.aload_n 0, 1) := by decide +kernel
theorem dX6_signersOfDraft_19 : decode cX6_signersOfDraft 19 = .ok (.getfield 26, 3) := by decide +kernel
theorem dX6_signersOfDraft_22 : decode cX6_signersOfDraft 22 = .ok (.getfield 120, 3) := by decide +kernel
theorem dX6_signersOfDraft_25 : decode cX6_signersOfDraft 25 = .ok (.if_icmp .ge 51, 3) := by decide +kernel
theorem dX6_signersOfDraft_28 : decode cX6_signersOfDraft 28 = .ok (.aload_n 0, 1) := by decide +kernel
theorem dX6_signersOfDraft_29 : decode cX6_signersOfDraft 29 = .ok (.getfield 26, 3) := by decide +kernel
theorem dX6_signersOfDraft_32 : decode cX6_signersOfDraft 32 = .ok (.getfield 237, 3) := by decide +kernel
theorem dX6_signersOfDraft_35 : decode cX6_signersOfDraft 35 = .ok (.iload 4, 2) := by decide +kernel
theorem dX6_signersOfDraft_37 : decode cX6_signersOfDraft 37 = .ok (.iaload, 1) := by decide +kernel
theorem dX6_signersOfDraft_38 : decode cX6_signersOfDraft 38 = .ok (.istore 5, 2) := by decide +kernel
theorem dX6_signersOfDraft_40 : decode cX6_signersOfDraft 40 = .ok (.aload_n 0, 1) := by decide +kernel
theorem dX6_signersOfDraft_41 : decode cX6_signersOfDraft 41 = .ok (.getfield 19, 3) := by decide +kernel
theorem dX6_signersOfDraft_44 : decode cX6_signersOfDraft 44 = .ok (.getfield 239, 3) := by decide +kernel
theorem dX6_signersOfDraft_47 : decode cX6_signersOfDraft 47 = .ok (.iload 5, 2) := by decide +kernel
theorem dX6_signersOfDraft_49 : decode cX6_signersOfDraft 49 = .ok (.laload, 1) := by decide +kernel
theorem dX6_signersOfDraft_50 : decode cX6_signersOfDraft 50 = .ok (.lload_n 1, 1) := by decide +kernel
theorem dX6_signersOfDraft_51 : decode cX6_signersOfDraft 51 = .ok (.lcmp, 1) := by decide +kernel
theorem dX6_signersOfDraft_52 : decode cX6_signersOfDraft 52 = .ok (.ifCond .ne 18, 3) := by decide +kernel
theorem dX6_signersOfDraft_55 : decode cX6_signersOfDraft 55 = .ok (.iload_n 3, 1) := by decide +kernel
theorem dX6_signersOfDraft_56 : decode cX6_signersOfDraft 56 = .ok (.iconst 1, 1) := by decide +kernel
theorem dX6_signersOfDraft_57 : decode cX6_signersOfDraft 57 = .ok (.aload_n 0, 1) := by decide +kernel
theorem dX6_signersOfDraft_58 : decode cX6_signersOfDraft 58 = .ok (.getfield 19, 3) := by decide +kernel
theorem dX6_signersOfDraft_61 : decode cX6_signersOfDraft 61 = .ok (.getfield 242, 3) := by decide +kernel
theorem dX6_signersOfDraft_64 : decode cX6_signersOfDraft 64 = .ok (.iload 5, 2) := by decide +kernel
theorem dX6_signersOfDraft_66 : decode cX6_signersOfDraft 66 = .ok (.iaload, 1) := by decide +kernel
theorem dX6_signersOfDraft_67 : decode cX6_signersOfDraft 67 = .ok (.ishl, 1) := by decide +kernel
theorem dX6_signersOfDraft_68 : decode cX6_signersOfDraft 68 = .ok (.ior, 1) := by decide +kernel
theorem dX6_signersOfDraft_69 : decode cX6_signersOfDraft 69 = .ok (.istore_n 3, 1) := by decide +kernel
theorem dX6_signersOfDraft_70 : decode cX6_signersOfDraft 70 = .ok (.iinc 4 1, 3) := by decide +kernel
theorem dX6_signersOfDraft_73 : decode cX6_signersOfDraft 73 = .ok (.goto (-57), 3) := by decide +kernel
theorem dX6_signersOfDraft_76 : decode cX6_signersOfDraft 76 = .ok (.iload_n 3, 1) := by decide +kernel
theorem dX6_signersOfDraft_77 : decode cX6_signersOfDraft 77 = .ok (.ireturn, 1) := by decide +kernel
set_option maxRecDepth 20000 in
theorem ggX6_coversStake_X1_payer : GoodIn wsX6_coversStake wsX1_payer := goodIn_r _ [7, 8, 9, 29, 30, 31, 32, 33, 34, 35, 36, 37, 38, 39, 40] (by decide +kernel) (by decide +kernel)
set_option maxRecDepth 20000 in
theorem gX6_coversStake_X1_payer : GoodIn wsX6_coversStake (wsV RX6 245 RX1 yX1_payer wsX1_payer) := goodIn_app (goodIn_of _ (by decide +kernel)) ggX6_coversStake_X1_payer
set_option maxRecDepth 20000 in
theorem ggX6_coversStake_X1_stake : GoodIn wsX6_coversStake wsX1_stake := goodIn_r _ [13, 14, 15, 29, 30, 31, 32, 33, 34, 35, 36, 37, 38, 39, 40] (by decide +kernel) (by decide +kernel)
set_option maxRecDepth 20000 in
theorem gX6_coversStake_X1_stake : GoodIn wsX6_coversStake (wsV RX6 248 RX1 yX1_stake wsX1_stake) := goodIn_app (goodIn_of _ (by decide +kernel)) ggX6_coversStake_X1_stake
theorem dX6_coversStake_0 : decode cX6_coversStake 0 = .ok (.aload_n 0, 1) := by decide +kernel
theorem dX6_coversStake_1 : decode cX6_coversStake 1 = .ok (.getfield 10, 3) := by decide +kernel
theorem dX6_coversStake_4 : decode cX6_coversStake 4 = .ok (.getfield 71, 3) := by decide +kernel
theorem dX6_coversStake_7 : decode cX6_coversStake 7 = .ok (.aload_n 1, 1) := by decide +kernel
theorem dX6_coversStake_8 : decode cX6_coversStake 8 = .ok (.invokevirtual 245, 3) := by decide +kernel
theorem dX6_coversStake_11 : decode cX6_coversStake 11 = .ok (.laload, 1) := by decide +kernel
theorem dX6_coversStake_12 : decode cX6_coversStake 12 = .ok (.aload_n 1, 1) := by decide +kernel
theorem dX6_coversStake_13 : decode cX6_coversStake 13 = .ok (.invokevirtual 248, 3) := by decide +kernel
theorem dX6_coversStake_16 : decode cX6_coversStake 16 = .ok (.lcmp, 1) := by decide +kernel
theorem dX6_coversStake_17 : decode cX6_coversStake 17 = .ok (.ifCond .lt 7, 3) := by decide +kernel
theorem dX6_coversStake_20 : decode cX6_coversStake 20 = .ok (.iconst 1, 1) := by decide +kernel
theorem dX6_coversStake_21 : decode cX6_coversStake 21 = .ok (.goto 4, 3) := by decide +kernel
theorem dX6_coversStake_24 : decode cX6_coversStake 24 = .ok (.iconst 0, 1) := by decide +kernel
theorem dX6_coversStake_25 : decode cX6_coversStake 25 = .ok (.ireturn, 1) := by decide +kernel
set_option maxRecDepth 20000 in
theorem ggX6_end_X5_take : GoodIn wsX6_end wsX5_take := goodIn_r _ [8, 9, 10, 46, 47, 48] (by decide +kernel) (by decide +kernel)
set_option maxRecDepth 20000 in
theorem gX6_end_X5_take : GoodIn wsX6_end (wsV RX6 167 RX5 yX5_take wsX5_take) := goodIn_app (goodIn_of _ (by decide +kernel)) ggX6_end_X5_take
set_option maxRecDepth 20000 in
theorem ggX6_end_X3_note : GoodIn wsX6_end wsX3_note := goodIn_r _ [15, 16, 17, 18, 19, 20, 21, 22, 23, 24, 25, 49, 50, 51, 52, 53, 54] (by decide +kernel) (by decide +kernel)
set_option maxRecDepth 20000 in
theorem gX6_end_X3_note : GoodIn wsX6_end (wsV RX6 180 RX3 yX3_note wsX3_note) := goodIn_app (goodIn_of _ (by decide +kernel)) ggX6_end_X3_note
theorem dX6_end_0 : decode cX6_end 0 = .ok (.aload_n 0, 1) := by decide +kernel
theorem dX6_end_1 : decode cX6_end 1 = .ok (.getfield 33, 3) := by decide +kernel
theorem dX6_end_4 : decode cX6_end 4 = .ok (.iload_n 1, 1) := by decide +kernel
theorem dX6_end_5 : decode cX6_end 5 = .ok (.invokevirtual 167, 3) := by decide +kernel
theorem dX6_end_8 : decode cX6_end 8 = .ok (.astore_n 3, 1) := by decide +kernel
theorem dX6_end_9 : decode cX6_end 9 = .ok (.aload_n 0, 1) := by decide +kernel
theorem dX6_end_10 : decode cX6_end 10 = .ok (.getfield 40, 3) := by decide +kernel
theorem dX6_end_13 : decode cX6_end 13 = .ok (.aload_n 3, 1) := by decide +kernel
theorem dX6_end_14 : decode cX6_end 14 = .ok (.getfield 174, 3) := by decide +kernel
theorem dX6_end_17 : decode cX6_end 17 = .ok (.iload_n 2, 1) := by decide +kernel
theorem dX6_end_18 : decode cX6_end 18 = .ok (.iconst 0, 1) := by decide +kernel
theorem dX6_end_19 : decode cX6_end 19 = .ok (.invokevirtual 180, 3) := by decide +kernel
theorem dX6_end_22 : decode cX6_end 22 = .ok (.return_, 1) := by decide +kernel
set_option maxRecDepth 20000 in
theorem ggX6_endThoseOver_X6_end : GoodIn wsX6_endThoseOver wsX6_end := goodIn_r _ [10, 1, 11, 12, 13, 14, 15, 16, 17, 18, 19, 20, 21, 22, 23, 24, 25, 26, 27, 28, 29, 30, 31, 32, 33, 34, 35, 36, 37, 38, 39, 40, 41, 42, 46, 47, 48, 49, 50, 51, 52, 53, 54, 55, 56, 57, 43, 44, 45, 58, 59, 60, 61, 62, 63] (by decide +kernel) (by decide +kernel)
set_option maxRecDepth 20000 in
theorem gX6_endThoseOver_X6_end : GoodIn wsX6_endThoseOver (wsV RX6 144 RX6 yX6_end wsX6_end) := goodIn_app (goodIn_of _ (by decide +kernel)) ggX6_endThoseOver_X6_end
theorem dX6_endThoseOver_0 : decode cX6_endThoseOver 0 = .ok (.iconst 0, 1) := by decide +kernel
theorem dX6_endThoseOver_1 : decode cX6_endThoseOver 1 = .ok (.istore_n 1, 1) := by decide +kernel
theorem dX6_endThoseOver_2 : decode cX6_endThoseOver 2 = .ok (.aload_n 0, 1) := by decide +kernel
theorem dX6_endThoseOver_3 : decode cX6_endThoseOver 3 = .ok (.getfield 33, 3) := by decide +kernel
theorem dX6_endThoseOver_6 : decode cX6_endThoseOver 6 = .ok (.getfield 183, 3) := by decide +kernel
theorem dX6_endThoseOver_9 : decode cX6_endThoseOver 9 = .ok (.istore_n 2, 1) := by decide +kernel
theorem dX6_endThoseOver_10 : decode cX6_endThoseOver 10 = .ok (.iload_n 2, 1) := by decide +kernel
theorem dX6_endThoseOver_11 : decode cX6_endThoseOver 11 = .ok (.ifCond .le 40, 3) := by decide +kernel
theorem dX6_endThoseOver_14 : decode cX6_endThoseOver 14 = .ok (.aload_n 0, 1) := by decide +kernel
theorem dX6_endThoseOver_15 : decode cX6_endThoseOver 15 = .ok (.getfield 33, 3) := by decide +kernel
theorem dX6_endThoseOver_18 : decode cX6_endThoseOver 18 = .ok (.getfield 184, 3) := by decide +kernel
theorem dX6_endThoseOver_21 : decode cX6_endThoseOver 21 = .ok (.iload_n 1, 1) := by decide +kernel
theorem dX6_endThoseOver_22 : decode cX6_endThoseOver 22 = .ok (.aaload, 1) := by decide +kernel
theorem dX6_endThoseOver_23 : decode cX6_endThoseOver 23 = .ok (.getfield 102, 3) := by decide +kernel
theorem dX6_endThoseOver_26 : decode cX6_endThoseOver 26 = .ok (.aload_n 0, 1) := by decide +kernel
theorem dX6_endThoseOver_27 : decode cX6_endThoseOver 27 = .ok (.getfield 158, 3) := by decide +kernel
theorem dX6_endThoseOver_30 : decode cX6_endThoseOver 30 = .ok (.if_icmp .ge 12, 3) := by decide +kernel
theorem dX6_endThoseOver_33 : decode cX6_endThoseOver 33 = .ok (.aload_n 0, 1) := by decide +kernel
theorem dX6_endThoseOver_34 : decode cX6_endThoseOver 34 = .ok (.iload_n 1, 1) := by decide +kernel
theorem dX6_endThoseOver_35 : decode cX6_endThoseOver 35 = .ok (.iconst 2, 1) := by decide +kernel
theorem dX6_endThoseOver_36 : decode cX6_endThoseOver 36 = .ok (.invokevirtual 144, 3) := by decide +kernel
theorem dX6_endThoseOver_39 : decode cX6_endThoseOver 39 = .ok (.goto 6, 3) := by decide +kernel
theorem dX6_endThoseOver_42 : decode cX6_endThoseOver 42 = .ok (.iinc 1 1, 3) := by decide +kernel
theorem dX6_endThoseOver_45 : decode cX6_endThoseOver 45 = .ok (.iinc 2 (-1), 3) := by decide +kernel
theorem dX6_endThoseOver_48 : decode cX6_endThoseOver 48 = .ok (.goto (-38), 3) := by decide +kernel
theorem dX6_endThoseOver_51 : decode cX6_endThoseOver 51 = .ok (.return_, 1) := by decide +kernel
set_option maxRecDepth 20000 in
theorem ggX6_dearestReady_X6_isReady : GoodIn wsX6_dearestReady wsX6_isReady := goodIn_r _ [9, 10, 11, 12, 13, 14, 15, 16, 28, 29, 30, 31, 32, 33, 34, 35, 36, 37, 38, 39, 17, 18, 19, 20, 21, 22, 23, 24, 40, 41, 42, 43, 44] (by decide +kernel) (by decide +kernel)
set_option maxRecDepth 20000 in
theorem gX6_dearestReady_X6_isReady : GoodIn wsX6_dearestReady (wsV RX6 251 RX6 yX6_isReady wsX6_isReady) := goodIn_app (goodIn_of _ (by decide +kernel)) ggX6_dearestReady_X6_isReady
theorem dX6_dearestReady_0 : decode cX6_dearestReady 0 = .ok (.iconst (-1), 1) := by decide +kernel
theorem dX6_dearestReady_1 : decode cX6_dearestReady 1 = .ok (.istore_n 2, 1) := by decide +kernel
theorem dX6_dearestReady_2 : decode cX6_dearestReady 2 = .ok (.iconst 0, 1) := by decide +kernel
theorem dX6_dearestReady_3 : decode cX6_dearestReady 3 = .ok (.istore_n 3, 1) := by decide +kernel
theorem dX6_dearestReady_4 : decode cX6_dearestReady 4 = .ok (.iload_n 3, 1) := by decide +kernel
theorem dX6_dearestReady_5 : decode cX6_dearestReady 5 = .ok (.aload_n 0, 1) := by decide +kernel
theorem dX6_dearestReady_6 : decode cX6_dearestReady 6 = .ok (.getfield 33, 3) := by decide +kernel
theorem dX6_dearestReady_9 : decode cX6_dearestReady 9 = .ok (.getfield 183, 3) := by decide +kernel
theorem dX6_dearestReady_12 : decode cX6_dearestReady 12 = .ok (.if_icmp .ge 60, 3) := by decide +kernel
theorem dX6_dearestReady_15 : decode cX6_dearestReady 15 = .ok (.aload_n 0, 1) := by decide +kernel
theorem dX6_dearestReady_16 : decode cX6_dearestReady 16 = .ok (.aload_n 0, 1) := by decide +kernel
theorem dX6_dearestReady_17 : decode cX6_dearestReady 17 = .ok (.getfield 33, 3) := by decide +kernel
theorem dX6_dearestReady_20 : decode cX6_dearestReady 20 = .ok (.getfield 184, 3) := by decide +kernel
theorem dX6_dearestReady_23 : decode cX6_dearestReady 23 = .ok (.iload_n 3, 1) := by decide +kernel
theorem dX6_dearestReady_24 : decode cX6_dearestReady 24 = .ok (.aaload, 1) := by decide +kernel
theorem dX6_dearestReady_25 : decode cX6_dearestReady 25 = .ok (.iload_n 1, 1) := by decide +kernel
theorem dX6_dearestReady_26 : decode cX6_dearestReady 26 = .ok (.invokevirtual 251, 3) := by decide +kernel
theorem dX6_dearestReady_29 : decode cX6_dearestReady 29 = .ok (.ifCond .eq 37, 3) := by decide +kernel
theorem dX6_dearestReady_32 : decode cX6_dearestReady 32 = .ok (.iload_n 2, 1) := by decide +kernel
theorem dX6_dearestReady_33 : decode cX6_dearestReady 33 = .ok (.iconst (-1), 1) := by decide +kernel
theorem dX6_dearestReady_34 : decode cX6_dearestReady 34 = .ok (.if_icmp .eq 30, 3) := by decide +kernel
theorem dX6_dearestReady_37 : decode cX6_dearestReady 37 = .ok (.aload_n 0, 1) := by decide +kernel
theorem dX6_dearestReady_38 : decode cX6_dearestReady 38 = .ok (.getfield 33, 3) := by decide +kernel
theorem dX6_dearestReady_41 : decode cX6_dearestReady 41 = .ok (.getfield 184, 3) := by decide +kernel
theorem dX6_dearestReady_44 : decode cX6_dearestReady 44 = .ok (.iload_n 3, 1) := by decide +kernel
theorem dX6_dearestReady_45 : decode cX6_dearestReady 45 = .ok (.aaload, 1) := by decide +kernel
theorem dX6_dearestReady_46 : decode cX6_dearestReady 46 = .ok (.getfield 188, 3) := by decide +kernel
theorem dX6_dearestReady_49 : decode cX6_dearestReady 49 = .ok (.aload_n 0, 1) := by decide +kernel
theorem dX6_dearestReady_50 : decode cX6_dearestReady 50 = .ok (.getfield 33, 3) := by decide +kernel
theorem dX6_dearestReady_53 : decode cX6_dearestReady 53 = .ok (.getfield 184, 3) := by decide +kernel
theorem dX6_dearestReady_56 : decode cX6_dearestReady 56 = .ok (.iload_n 2, 1) := by decide +kernel
theorem dX6_dearestReady_57 : decode cX6_dearestReady 57 = .ok (.aaload, 1) := by decide +kernel
theorem dX6_dearestReady_58 : decode cX6_dearestReady 58 = .ok (.getfield 188, 3) := by decide +kernel
theorem dX6_dearestReady_61 : decode cX6_dearestReady 61 = .ok (.if_icmp .le 5, 3) := by decide +kernel
theorem dX6_dearestReady_64 : decode cX6_dearestReady 64 = .ok (.iload_n 3, 1) := by decide +kernel
theorem dX6_dearestReady_65 : decode cX6_dearestReady 65 = .ok (.istore_n 2, 1) := by decide +kernel
theorem dX6_dearestReady_66 : decode cX6_dearestReady 66 = .ok (.iinc 3 1, 3) := by decide +kernel
theorem dX6_dearestReady_69 : decode cX6_dearestReady 69 = .ok (.goto (-65), 3) := by decide +kernel
theorem dX6_dearestReady_72 : decode cX6_dearestReady 72 = .ok (.iload_n 2, 1) := by decide +kernel
theorem dX6_dearestReady_73 : decode cX6_dearestReady 73 = .ok (.ireturn, 1) := by decide +kernel
theorem dX6_isReady_0 : decode cX6_isReady 0 = .ok (.aload_n 1, 1) := by decide +kernel
theorem dX6_isReady_1 : decode cX6_isReady 1 = .ok (.getfield 133, 3) := by decide +kernel
theorem dX6_isReady_4 : decode cX6_isReady 4 = .ok (.aload_n 0, 1) := by decide +kernel
theorem dX6_isReady_5 : decode cX6_isReady 5 = .ok (.getfield 10, 3) := by decide +kernel
theorem dX6_isReady_8 : decode cX6_isReady 8 = .ok (.getfield 77, 3) := by decide +kernel
theorem dX6_isReady_11 : decode cX6_isReady 11 = .ok (.aload_n 1, 1) := by decide +kernel
theorem dX6_isReady_12 : decode cX6_isReady 12 = .ok (.getfield 130, 3) := by decide +kernel
theorem dX6_isReady_15 : decode cX6_isReady 15 = .ok (.iaload, 1) := by decide +kernel
theorem dX6_isReady_16 : decode cX6_isReady 16 = .ok (.if_icmp .ne 26, 3) := by decide +kernel
theorem dX6_isReady_19 : decode cX6_isReady 19 = .ok (.aload_n 1, 1) := by decide +kernel
theorem dX6_isReady_20 : decode cX6_isReady 20 = .ok (.getfield 107, 3) := by decide +kernel
theorem dX6_isReady_23 : decode cX6_isReady 23 = .ok (.aload_n 0, 1) := by decide +kernel
theorem dX6_isReady_24 : decode cX6_isReady 24 = .ok (.getfield 158, 3) := by decide +kernel
theorem dX6_isReady_27 : decode cX6_isReady 27 = .ok (.if_icmp .gt 15, 3) := by decide +kernel
theorem dX6_isReady_30 : decode cX6_isReady 30 = .ok (.aload_n 1, 1) := by decide +kernel
theorem dX6_isReady_31 : decode cX6_isReady 31 = .ok (.getfield 255, 3) := by decide +kernel
theorem dX6_isReady_34 : decode cX6_isReady 34 = .ok (.iload_n 2, 1) := by decide +kernel
theorem dX6_isReady_35 : decode cX6_isReady 35 = .ok (.if_icmp .gt 7, 3) := by decide +kernel
theorem dX6_isReady_38 : decode cX6_isReady 38 = .ok (.iconst 1, 1) := by decide +kernel
theorem dX6_isReady_39 : decode cX6_isReady 39 = .ok (.goto 4, 3) := by decide +kernel
theorem dX6_isReady_42 : decode cX6_isReady 42 = .ok (.iconst 0, 1) := by decide +kernel
theorem dX6_isReady_43 : decode cX6_isReady 43 = .ok (.ireturn, 1) := by decide +kernel
set_option maxRecDepth 20000 in
theorem ggX6_perform_X6_coversStake : GoodIn wsX6_perform wsX6_coversStake := goodIn_r _ [12, 2, 3, 13, 14, 15, 16, 17, 18, 19, 20, 21, 22, 23, 24, 25, 60, 61, 62, 63, 64, 65, 66, 67, 68, 69, 70, 71, 72, 48, 49, 50, 51, 52, 53, 54, 55, 56, 57, 58, 59] (by decide +kernel) (by decide +kernel)
set_option maxRecDepth 20000 in
theorem gX6_perform_X6_coversStake : GoodIn wsX6_perform (wsV RX6 230 RX6 yX6_coversStake wsX6_coversStake) := goodIn_app (goodIn_of _ (by decide +kernel)) ggX6_perform_X6_coversStake
set_option maxRecDepth 20000 in
theorem ggX6_perform_X1_payer : GoodIn wsX6_perform wsX1_payer := goodIn_r _ [17, 18, 19, 48, 49, 50, 51, 52, 53, 54, 55, 56, 57, 58, 59] (by decide +kernel) (by decide +kernel)
set_option maxRecDepth 20000 in
theorem gX6_perform_X1_payer : GoodIn wsX6_perform (wsV RX6 245 RX1 yX1_payer wsX1_payer) := goodIn_app (goodIn_of _ (by decide +kernel)) ggX6_perform_X1_payer
set_option maxRecDepth 20000 in
theorem ggX6_perform_X1_stake : GoodIn wsX6_perform wsX1_stake := goodIn_r _ [23, 24, 25, 48, 49, 50, 51, 52, 53, 54, 55, 56, 57, 58, 59] (by decide +kernel) (by decide +kernel)
set_option maxRecDepth 20000 in
theorem gX6_perform_X1_stake : GoodIn wsX6_perform (wsV RX6 248 RX1 yX1_stake wsX1_stake) := goodIn_app (goodIn_of _ (by decide +kernel)) ggX6_perform_X1_stake
set_option maxRecDepth 20000 in
theorem ggX6_perform_X6_doActs : GoodIn wsX6_perform wsX6_doActs := goodIn_r _ [29, 30, 31, 32, 33, 11, 34, 1, 35, 2, 3, 5, 36, 37, 38, 39, 40, 41, 42, 43, 44, 45, 46, 47, 48, 49, 50, 51, 52, 53, 54, 55, 56, 57, 58, 59, 60, 61, 62, 63, 64, 65, 66, 67, 68, 69, 70, 71, 72] (by decide +kernel) (by decide +kernel)
set_option maxRecDepth 20000 in
theorem gX6_perform_X6_doActs : GoodIn wsX6_perform (wsV RX6 258 RX6 yX6_doActs wsX6_doActs) := goodIn_app (goodIn_of _ (by decide +kernel)) ggX6_perform_X6_doActs
theorem dX6_perform_0 : decode cX6_perform 0 = .ok (.aload_n 1, 1) := by decide +kernel
theorem dX6_perform_1 : decode cX6_perform 1 = .ok (.iconst 0, 1) := by decide +kernel
theorem dX6_perform_2 : decode cX6_perform 2 = .ok (.putfield 177, 3) := by decide +kernel
theorem dX6_perform_5 : decode cX6_perform 5 = .ok (.aload_n 0, 1) := by decide +kernel
theorem dX6_perform_6 : decode cX6_perform 6 = .ok (.aload_n 1, 1) := by decide +kernel
theorem dX6_perform_7 : decode cX6_perform 7 = .ok (.invokevirtual 230, 3) := by decide +kernel
theorem dX6_perform_10 : decode cX6_perform 10 = .ok (.ifCond .ne 5, 3) := by decide +kernel
theorem dX6_perform_13 : decode cX6_perform 13 = .ok (.iconst 5, 1) := by decide +kernel
theorem dX6_perform_14 : decode cX6_perform 14 = .ok (.ireturn, 1) := by decide +kernel
theorem dX6_perform_15 : decode cX6_perform 15 = .ok (.aload_n 1, 1) := by decide +kernel
theorem dX6_perform_16 : decode cX6_perform 16 = .ok (.invokevirtual 245, 3) := by decide +kernel
theorem dX6_perform_19 : decode cX6_perform 19 = .ok (.istore_n 2, 1) := by decide +kernel
theorem dX6_perform_20 : decode cX6_perform 20 = .ok (.aload_n 0, 1) := by decide +kernel
theorem dX6_perform_21 : decode cX6_perform 21 = .ok (.getfield 10, 3) := by decide +kernel
theorem dX6_perform_24 : decode cX6_perform 24 = .ok (.getfield 71, 3) := by decide +kernel
theorem dX6_perform_27 : decode cX6_perform 27 = .ok (.iload_n 2, 1) := by decide +kernel
theorem dX6_perform_28 : decode cX6_perform 28 = .ok (.dup2, 1) := by decide +kernel
theorem dX6_perform_29 : decode cX6_perform 29 = .ok (.laload, 1) := by decide +kernel
theorem dX6_perform_30 : decode cX6_perform 30 = .ok (.aload_n 1, 1) := by decide +kernel
theorem dX6_perform_31 : decode cX6_perform 31 = .ok (.invokevirtual 248, 3) := by decide +kernel
theorem dX6_perform_34 : decode cX6_perform 34 = .ok (.lsub, 1) := by decide +kernel
theorem dX6_perform_35 : decode cX6_perform 35 = .ok (.lastore, 1) := by decide +kernel
theorem dX6_perform_36 : decode cX6_perform 36 = .ok (.aload_n 0, 1) := by decide +kernel
theorem dX6_perform_37 : decode cX6_perform 37 = .ok (.getfield 10, 3) := by decide +kernel
theorem dX6_perform_40 : decode cX6_perform 40 = .ok (.getfield 77, 3) := by decide +kernel
theorem dX6_perform_43 : decode cX6_perform 43 = .ok (.aload_n 1, 1) := by decide +kernel
theorem dX6_perform_44 : decode cX6_perform 44 = .ok (.getfield 130, 3) := by decide +kernel
theorem dX6_perform_47 : decode cX6_perform 47 = .ok (.dup2, 1) := by decide +kernel
theorem dX6_perform_48 : decode cX6_perform 48 = .ok (.iaload, 1) := by decide +kernel
theorem dX6_perform_49 : decode cX6_perform 49 = .ok (.iconst 1, 1) := by decide +kernel
theorem dX6_perform_50 : decode cX6_perform 50 = .ok (.iadd, 1) := by decide +kernel
theorem dX6_perform_51 : decode cX6_perform 51 = .ok (.iastore, 1) := by decide +kernel
theorem dX6_perform_52 : decode cX6_perform 52 = .ok (.aload_n 0, 1) := by decide +kernel
theorem dX6_perform_53 : decode cX6_perform 53 = .ok (.aload_n 1, 1) := by decide +kernel
theorem dX6_perform_54 : decode cX6_perform 54 = .ok (.invokevirtual 258, 3) := by decide +kernel
theorem dX6_perform_57 : decode cX6_perform 57 = .ok (.istore_n 3, 1) := by decide +kernel
theorem dX6_perform_58 : decode cX6_perform 58 = .ok (.aload_n 1, 1) := by decide +kernel
theorem dX6_perform_59 : decode cX6_perform 59 = .ok (.getfield 188, 3) := by decide +kernel
theorem dX6_perform_62 : decode cX6_perform 62 = .ok (.i2l, 1) := by decide +kernel
theorem dX6_perform_63 : decode cX6_perform 63 = .ok (.aload_n 1, 1) := by decide +kernel
theorem dX6_perform_64 : decode cX6_perform 64 = .ok (.getfield 177, 3) := by decide +kernel
theorem dX6_perform_67 : decode cX6_perform 67 = .ok (.i2l, 1) := by decide +kernel
theorem dX6_perform_68 : decode cX6_perform 68 = .ok (.lmul, 1) := by decide +kernel
theorem dX6_perform_69 : decode cX6_perform 69 = .ok (.lstore 4, 2) := by decide +kernel
theorem dX6_perform_71 : decode cX6_perform 71 = .ok (.aload_n 0, 1) := by decide +kernel
theorem dX6_perform_72 : decode cX6_perform 72 = .ok (.getfield 10, 3) := by decide +kernel
theorem dX6_perform_75 : decode cX6_perform 75 = .ok (.getfield 71, 3) := by decide +kernel
theorem dX6_perform_78 : decode cX6_perform 78 = .ok (.iload_n 2, 1) := by decide +kernel
theorem dX6_perform_79 : decode cX6_perform 79 = .ok (.dup2, 1) := by decide +kernel
theorem dX6_perform_80 : decode cX6_perform 80 = .ok (.laload, 1) := by decide +kernel
theorem dX6_perform_81 : decode cX6_perform 81 = .ok (.aload_n 1, 1) := by decide +kernel
theorem dX6_perform_82 : decode cX6_perform 82 = .ok (.invokevirtual 248, 3) := by decide +kernel
theorem dX6_perform_85 : decode cX6_perform 85 = .ok (.lload 4, 2) := by decide +kernel
theorem dX6_perform_87 : decode cX6_perform 87 = .ok (.lsub, 1) := by decide +kernel
theorem dX6_perform_88 : decode cX6_perform 88 = .ok (.ladd, 1) := by decide +kernel
theorem dX6_perform_89 : decode cX6_perform 89 = .ok (.lastore, 1) := by decide +kernel
theorem dX6_perform_90 : decode cX6_perform 90 = .ok (.aload_n 0, 1) := by decide +kernel
theorem dX6_perform_91 : decode cX6_perform 91 = .ok (.dup, 1) := by decide +kernel
theorem dX6_perform_92 : decode cX6_perform 92 = .ok (.getfield 206, 3) := by decide +kernel
theorem dX6_perform_95 : decode cX6_perform 95 = .ok (.lload 4, 2) := by decide +kernel
theorem dX6_perform_97 : decode cX6_perform 97 = .ok (.ladd, 1) := by decide +kernel
theorem dX6_perform_98 : decode cX6_perform 98 = .ok (.putfield 206, 3) := by decide +kernel
theorem dX6_perform_101 : decode cX6_perform 101 = .ok (.iload_n 3, 1) := by decide +kernel
theorem dX6_perform_102 : decode cX6_perform 102 = .ok (.ifCond .eq 7, 3) := by decide +kernel
theorem dX6_perform_105 : decode cX6_perform 105 = .ok (.iconst 0, 1) := by decide +kernel
theorem dX6_perform_106 : decode cX6_perform 106 = .ok (.goto 4, 3) := by decide +kernel
theorem dX6_perform_109 : decode cX6_perform 109 = .ok (.iconst 1, 1) := by decide +kernel
theorem dX6_perform_110 : decode cX6_perform 110 = .ok (.ireturn, 1) := by decide +kernel
set_option maxRecDepth 20000 in
theorem ggX6_doActs_X6_doAct : GoodIn wsX6_doActs wsX6_doAct := goodIn_r _ [6, 7, 8, 9, 10, 11, 12, 13, 14, 15, 16, 17, 18, 19, 24, 25, 26, 27, 28, 29, 30, 31, 32, 33, 34, 35, 36, 37, 38, 39, 40, 41, 42, 43, 44, 45, 46, 47, 48] (by decide +kernel) (by decide +kernel)
set_option maxRecDepth 20000 in
theorem gX6_doActs_X6_doAct : GoodIn wsX6_doActs (wsV RX6 261 RX6 yX6_doAct wsX6_doAct) := goodIn_app (goodIn_of _ (by decide +kernel)) ggX6_doActs_X6_doAct
set_option maxRecDepth 20000 in
theorem ggX6_doActs_X6_undoActs : GoodIn wsX6_doActs wsX6_undoActs := goodIn_r _ [23, 9, 13, 11, 12, 14, 15, 16, 17, 18, 19, 36, 37, 38, 39, 40, 41, 42, 43, 24, 25, 26, 27, 28, 29, 30, 31, 32, 33, 34, 35, 44, 45, 46, 47, 48] (by decide +kernel) (by decide +kernel)
set_option maxRecDepth 20000 in
theorem gX6_doActs_X6_undoActs : GoodIn wsX6_doActs (wsV RX6 264 RX6 yX6_undoActs wsX6_undoActs) := goodIn_app (goodIn_of _ (by decide +kernel)) ggX6_doActs_X6_undoActs
theorem dX6_doActs_0 : decode cX6_doActs 0 = .ok (.iconst 0, 1) := by decide +kernel
theorem dX6_doActs_1 : decode cX6_doActs 1 = .ok (.istore_n 2, 1) := by decide +kernel
theorem dX6_doActs_2 : decode cX6_doActs 2 = .ok (.iload_n 2, 1) := by decide +kernel
theorem dX6_doActs_3 : decode cX6_doActs 3 = .ok (.aload_n 1, 1) := by decide +kernel
theorem dX6_doActs_4 : decode cX6_doActs 4 = .ok (.getfield 113, 3) := by decide +kernel
theorem dX6_doActs_7 : decode cX6_doActs 7 = .ok (.if_icmp .ge 26, 3) := by decide +kernel
theorem dX6_doActs_10 : decode cX6_doActs 10 = .ok (.aload_n 0, 1) := by decide +kernel
theorem dX6_doActs_11 : decode cX6_doActs 11 = .ok (.aload_n 1, 1) := by decide +kernel
theorem dX6_doActs_12 : decode cX6_doActs 12 = .ok (.iload_n 2, 1) := by decide +kernel
theorem dX6_doActs_13 : decode cX6_doActs 13 = .ok (.invokevirtual 261, 3) := by decide +kernel
theorem dX6_doActs_16 : decode cX6_doActs 16 = .ok (.ifCond .ne 11, 3) := by decide +kernel
theorem dX6_doActs_19 : decode cX6_doActs 19 = .ok (.aload_n 0, 1) := by decide +kernel
theorem dX6_doActs_20 : decode cX6_doActs 20 = .ok (.aload_n 1, 1) := by decide +kernel
theorem dX6_doActs_21 : decode cX6_doActs 21 = .ok (.iload_n 2, 1) := by decide +kernel
theorem dX6_doActs_22 : decode cX6_doActs 22 = .ok (.invokevirtual 264, 3) := by decide +kernel
theorem dX6_doActs_25 : decode cX6_doActs 25 = .ok (.iconst 0, 1) := by decide +kernel
theorem dX6_doActs_26 : decode cX6_doActs 26 = .ok (.ireturn, 1) := by decide +kernel
theorem dX6_doActs_27 : decode cX6_doActs 27 = .ok (.iinc 2 1, 3) := by decide +kernel
theorem dX6_doActs_30 : decode cX6_doActs 30 = .ok (.goto (-28), 3) := by decide +kernel
theorem dX6_doActs_33 : decode cX6_doActs 33 = .ok (.iconst 1, 1) := by decide +kernel
theorem dX6_doActs_34 : decode cX6_doActs 34 = .ok (.ireturn, 1) := by decide +kernel
set_option maxRecDepth 20000 in
theorem ggX6_doAct_X0_move : GoodIn wsX6_doAct wsX0_move := goodIn_r _ [12, 13, 34, 35, 36, 37, 38] (by decide +kernel) (by decide +kernel)
set_option maxRecDepth 20000 in
theorem gX6_doAct_X0_move : GoodIn wsX6_doAct (wsV RX6 274 RX0 yX0_move wsX0_move) := goodIn_app (goodIn_of _ (by decide +kernel)) ggX6_doAct_X0_move
theorem dX6_doAct_0 : decode cX6_doAct 0 = .ok (.aload_n 1, 1) := by decide +kernel
theorem dX6_doAct_1 : decode cX6_doAct 1 = .ok (.getfield 177, 3) := by decide +kernel
theorem dX6_doAct_4 : decode cX6_doAct 4 = .ok (.bipush 10, 2) := by decide +kernel
theorem dX6_doAct_6 : decode cX6_doAct 6 = .ok (.iadd, 1) := by decide +kernel
theorem dX6_doAct_7 : decode cX6_doAct 7 = .ok (.aload_n 1, 1) := by decide +kernel
theorem dX6_doAct_8 : decode cX6_doAct 8 = .ok (.getfield 255, 3) := by decide +kernel
theorem dX6_doAct_11 : decode cX6_doAct 11 = .ok (.if_icmp .le 5, 3) := by decide +kernel
theorem dX6_doAct_14 : decode cX6_doAct 14 = .ok (.iconst 0, 1) := by decide +kernel
theorem dX6_doAct_15 : decode cX6_doAct 15 = .ok (.ireturn, 1) := by decide +kernel
theorem dX6_doAct_16 : decode cX6_doAct 16 = .ok (.aload_n 1, 1) := by decide +kernel
theorem dX6_doAct_17 : decode cX6_doAct 17 = .ok (.dup, 1) := by decide +kernel
theorem dX6_doAct_18 : decode cX6_doAct 18 = .ok (.getfield 177, 3) := by decide +kernel
theorem dX6_doAct_21 : decode cX6_doAct 21 = .ok (.bipush 10, 2) := by decide +kernel
theorem dX6_doAct_23 : decode cX6_doAct 23 = .ok (.iadd, 1) := by decide +kernel
theorem dX6_doAct_24 : decode cX6_doAct 24 = .ok (.putfield 177, 3) := by decide +kernel
theorem dX6_doAct_27 : decode cX6_doAct 27 = .ok (.aload_n 0, 1) := by decide +kernel
theorem dX6_doAct_28 : decode cX6_doAct 28 = .ok (.getfield 10, 3) := by decide +kernel
theorem dX6_doAct_31 : decode cX6_doAct 31 = .ok (.getfield 71, 3) := by decide +kernel
theorem dX6_doAct_34 : decode cX6_doAct 34 = .ok (.aload_n 1, 1) := by decide +kernel
theorem dX6_doAct_35 : decode cX6_doAct 35 = .ok (.getfield 130, 3) := by decide +kernel
theorem dX6_doAct_38 : decode cX6_doAct 38 = .ok (.laload, 1) := by decide +kernel
theorem dX6_doAct_39 : decode cX6_doAct 39 = .ok (.aload_n 1, 1) := by decide +kernel
theorem dX6_doAct_40 : decode cX6_doAct 40 = .ok (.getfield 268, 3) := by decide +kernel
theorem dX6_doAct_43 : decode cX6_doAct 43 = .ok (.iload_n 2, 1) := by decide +kernel
theorem dX6_doAct_44 : decode cX6_doAct 44 = .ok (.laload, 1) := by decide +kernel
theorem dX6_doAct_45 : decode cX6_doAct 45 = .ok (.lcmp, 1) := by decide +kernel
theorem dX6_doAct_46 : decode cX6_doAct 46 = .ok (.ifCond .ge 5, 3) := by decide +kernel
theorem dX6_doAct_49 : decode cX6_doAct 49 = .ok (.iconst 0, 1) := by decide +kernel
theorem dX6_doAct_50 : decode cX6_doAct 50 = .ok (.ireturn, 1) := by decide +kernel
theorem dX6_doAct_51 : decode cX6_doAct 51 = .ok (.aload_n 0, 1) := by decide +kernel
theorem dX6_doAct_52 : decode cX6_doAct 52 = .ok (.getfield 10, 3) := by decide +kernel
theorem dX6_doAct_55 : decode cX6_doAct 55 = .ok (.aload_n 1, 1) := by decide +kernel
theorem dX6_doAct_56 : decode cX6_doAct 56 = .ok (.getfield 130, 3) := by decide +kernel
theorem dX6_doAct_59 : decode cX6_doAct 59 = .ok (.aload_n 1, 1) := by decide +kernel
theorem dX6_doAct_60 : decode cX6_doAct 60 = .ok (.getfield 271, 3) := by decide +kernel
theorem dX6_doAct_63 : decode cX6_doAct 63 = .ok (.iload_n 2, 1) := by decide +kernel
theorem dX6_doAct_64 : decode cX6_doAct 64 = .ok (.iaload, 1) := by decide +kernel
theorem dX6_doAct_65 : decode cX6_doAct 65 = .ok (.aload_n 1, 1) := by decide +kernel
theorem dX6_doAct_66 : decode cX6_doAct 66 = .ok (.getfield 268, 3) := by decide +kernel
theorem dX6_doAct_69 : decode cX6_doAct 69 = .ok (.iload_n 2, 1) := by decide +kernel
theorem dX6_doAct_70 : decode cX6_doAct 70 = .ok (.laload, 1) := by decide +kernel
theorem dX6_doAct_71 : decode cX6_doAct 71 = .ok (.invokevirtual 274, 3) := by decide +kernel
theorem dX6_doAct_74 : decode cX6_doAct 74 = .ok (.iconst 1, 1) := by decide +kernel
theorem dX6_doAct_75 : decode cX6_doAct 75 = .ok (.ireturn, 1) := by decide +kernel
set_option maxRecDepth 20000 in
theorem ggX6_undoActs_X0_move : GoodIn wsX6_undoActs wsX0_move := goodIn_r _ [9, 10, 31, 32, 33, 34, 35] (by decide +kernel) (by decide +kernel)
set_option maxRecDepth 20000 in
theorem gX6_undoActs_X0_move : GoodIn wsX6_undoActs (wsV RX6 274 RX0 yX0_move wsX0_move) := goodIn_app (goodIn_of _ (by decide +kernel)) ggX6_undoActs_X0_move
theorem dX6_undoActs_0 : decode cX6_undoActs 0 = .ok (.iconst 0, 1) := by decide +kernel
theorem dX6_undoActs_1 : decode cX6_undoActs 1 = .ok (.istore_n 3, 1) := by decide +kernel
theorem dX6_undoActs_2 : decode cX6_undoActs 2 = .ok (.iload_n 3, 1) := by decide +kernel
theorem dX6_undoActs_3 : decode cX6_undoActs 3 = .ok (.iload_n 2, 1) := by decide +kernel
theorem dX6_undoActs_4 : decode cX6_undoActs 4 = .ok (.if_icmp .ge 32, 3) := by decide +kernel
theorem dX6_undoActs_7 : decode cX6_undoActs 7 = .ok (.aload_n 0, 1) := by decide +kernel
theorem dX6_undoActs_8 : decode cX6_undoActs 8 = .ok (.getfield 10, 3) := by decide +kernel
theorem dX6_undoActs_11 : decode cX6_undoActs 11 = .ok (.aload_n 1, 1) := by decide +kernel
theorem dX6_undoActs_12 : decode cX6_undoActs 12 = .ok (.getfield 271, 3) := by decide +kernel
theorem dX6_undoActs_15 : decode cX6_undoActs 15 = .ok (.iload_n 3, 1) := by decide +kernel
theorem dX6_undoActs_16 : decode cX6_undoActs 16 = .ok (.iaload, 1) := by decide +kernel
theorem dX6_undoActs_17 : decode cX6_undoActs 17 = .ok (.aload_n 1, 1) := by decide +kernel
theorem dX6_undoActs_18 : decode cX6_undoActs 18 = .ok (.getfield 130, 3) := by decide +kernel
theorem dX6_undoActs_21 : decode cX6_undoActs 21 = .ok (.aload_n 1, 1) := by decide +kernel
theorem dX6_undoActs_22 : decode cX6_undoActs 22 = .ok (.getfield 268, 3) := by decide +kernel
theorem dX6_undoActs_25 : decode cX6_undoActs 25 = .ok (.iload_n 3, 1) := by decide +kernel
theorem dX6_undoActs_26 : decode cX6_undoActs 26 = .ok (.laload, 1) := by decide +kernel
theorem dX6_undoActs_27 : decode cX6_undoActs 27 = .ok (.invokevirtual 274, 3) := by decide +kernel
theorem dX6_undoActs_30 : decode cX6_undoActs 30 = .ok (.iinc 3 1, 3) := by decide +kernel
theorem dX6_undoActs_33 : decode cX6_undoActs 33 = .ok (.goto (-31), 3) := by decide +kernel
theorem dX6_undoActs_36 : decode cX6_undoActs 36 = .ok (.return_, 1) := by decide +kernel
end
section
theorem dX7_init_0 : decode cX7_init 0 = .ok (.aload_n 0, 1) := by decide +kernel
theorem dX7_init_1 : decode cX7_init 1 = .ok (.invokespecial 1, 3) := by decide +kernel
theorem dX7_init_4 : decode cX7_init 4 = .ok (.aload_n 0, 1) := by decide +kernel
theorem dX7_init_5 : decode cX7_init 5 = .ok (.bipush 12, 2) := by decide +kernel
theorem dX7_init_7 : decode cX7_init 7 = .ok (.newarray .long, 2) := by decide +kernel
theorem dX7_init_9 : decode cX7_init 9 = .ok (.putfield 7, 3) := by decide +kernel
theorem dX7_init_12 : decode cX7_init 12 = .ok (.aload_n 0, 1) := by decide +kernel
theorem dX7_init_13 : decode cX7_init 13 = .ok (.bipush 12, 2) := by decide +kernel
theorem dX7_init_15 : decode cX7_init 15 = .ok (.newarray .int, 2) := by decide +kernel
theorem dX7_init_17 : decode cX7_init 17 = .ok (.putfield 13, 3) := by decide +kernel
theorem dX7_init_20 : decode cX7_init 20 = .ok (.aload_n 0, 1) := by decide +kernel
theorem dX7_init_21 : decode cX7_init 21 = .ok (.bipush 12, 2) := by decide +kernel
theorem dX7_init_23 : decode cX7_init 23 = .ok (.newarray .int, 2) := by decide +kernel
theorem dX7_init_25 : decode cX7_init 25 = .ok (.putfield 17, 3) := by decide +kernel
theorem dX7_init_28 : decode cX7_init 28 = .ok (.aload_n 0, 1) := by decide +kernel
theorem dX7_init_29 : decode cX7_init 29 = .ok (.bipush 12, 2) := by decide +kernel
theorem dX7_init_31 : decode cX7_init 31 = .ok (.newarray .int, 2) := by decide +kernel
theorem dX7_init_33 : decode cX7_init 33 = .ok (.putfield 20, 3) := by decide +kernel
theorem dX7_init_36 : decode cX7_init 36 = .ok (.aload_n 0, 1) := by decide +kernel
theorem dX7_init_37 : decode cX7_init 37 = .ok (.sipush 200, 3) := by decide +kernel
theorem dX7_init_40 : decode cX7_init 40 = .ok (.newarray .int, 2) := by decide +kernel
theorem dX7_init_42 : decode cX7_init 42 = .ok (.putfield 23, 3) := by decide +kernel
theorem dX7_init_45 : decode cX7_init 45 = .ok (.aload_n 0, 1) := by decide +kernel
theorem dX7_init_46 : decode cX7_init 46 = .ok (.sipush 200, 3) := by decide +kernel
theorem dX7_init_49 : decode cX7_init 49 = .ok (.newarray .long, 2) := by decide +kernel
theorem dX7_init_51 : decode cX7_init 51 = .ok (.putfield 26, 3) := by decide +kernel
theorem dX7_init_54 : decode cX7_init 54 = .ok (.aload_n 0, 1) := by decide +kernel
theorem dX7_init_55 : decode cX7_init 55 = .ok (.sipush 442, 3) := by decide +kernel
theorem dX7_init_58 : decode cX7_init 58 = .ok (.newarray .long, 2) := by decide +kernel
theorem dX7_init_60 : decode cX7_init 60 = .ok (.putfield 29, 3) := by decide +kernel
theorem dX7_init_63 : decode cX7_init 63 = .ok (.aload_n 0, 1) := by decide +kernel
theorem dX7_init_64 : decode cX7_init 64 = .ok (.bipush 12, 2) := by decide +kernel
theorem dX7_init_66 : decode cX7_init 66 = .ok (.newarray .int, 2) := by decide +kernel
theorem dX7_init_68 : decode cX7_init 68 = .ok (.putfield 32, 3) := by decide +kernel
theorem dX7_init_71 : decode cX7_init 71 = .ok (.aload_n 0, 1) := by decide +kernel
theorem dX7_init_72 : decode cX7_init 72 = .ok (.iconst 1, 1) := by decide +kernel
theorem dX7_init_73 : decode cX7_init 73 = .ok (.putfield 35, 3) := by decide +kernel
theorem dX7_init_76 : decode cX7_init 76 = .ok (.aload_n 0, 1) := by decide +kernel
theorem dX7_init_77 : decode cX7_init 77 = .ok (.sipush 180, 3) := by decide +kernel
theorem dX7_init_80 : decode cX7_init 80 = .ok (.newarray .int, 2) := by decide +kernel
theorem dX7_init_82 : decode cX7_init 82 = .ok (.putfield 39, 3) := by decide +kernel
theorem dX7_init_85 : decode cX7_init 85 = .ok (.aload_n 0, 1) := by decide +kernel
theorem dX7_init_86 : decode cX7_init 86 = .ok (.bipush 12, 2) := by decide +kernel
theorem dX7_init_88 : decode cX7_init 88 = .ok (.newarray .long, 2) := by decide +kernel
theorem dX7_init_90 : decode cX7_init 90 = .ok (.putfield 42, 3) := by decide +kernel
theorem dX7_init_93 : decode cX7_init 93 = .ok (.return_, 1) := by decide +kernel
theorem dX7_in_0 : decode cX7_in 0 = .ok (.lload_n 0, 1) := by decide +kernel
theorem dX7_in_1 : decode cX7_in 1 = .ok (.lload_n 2, 1) := by decide +kernel
theorem dX7_in_2 : decode cX7_in 2 = .ok (.lcmp, 1) := by decide +kernel
theorem dX7_in_3 : decode cX7_in 3 = .ok (.ifCond .lt 14, 3) := by decide +kernel
theorem dX7_in_6 : decode cX7_in 6 = .ok (.lload_n 0, 1) := by decide +kernel
theorem dX7_in_7 : decode cX7_in 7 = .ok (.lload 4, 2) := by decide +kernel
theorem dX7_in_9 : decode cX7_in 9 = .ok (.lcmp, 1) := by decide +kernel
theorem dX7_in_10 : decode cX7_in 10 = .ok (.ifCond .gt 7, 3) := by decide +kernel
theorem dX7_in_13 : decode cX7_in 13 = .ok (.iconst 1, 1) := by decide +kernel
theorem dX7_in_14 : decode cX7_in 14 = .ok (.goto 4, 3) := by decide +kernel
theorem dX7_in_17 : decode cX7_in 17 = .ok (.iconst 0, 1) := by decide +kernel
theorem dX7_in_18 : decode cX7_in 18 = .ok (.ireturn, 1) := by decide +kernel
set_option maxRecDepth 20000 in
theorem ggX7_isAccount_X7_in : GoodIn wsX7_isAccount wsX7_in := goodIn_r _ [5] (by decide +kernel) (by decide +kernel)
set_option maxRecDepth 20000 in
theorem gX7_isAccount_X7_in : GoodIn wsX7_isAccount (va_wsS RX7 48 yX7_in wsX7_in) := goodIn_app (goodIn_of _ (by decide +kernel)) ggX7_isAccount_X7_in
theorem dX7_isAccount_0 : decode cX7_isAccount 0 = .ok (.iload_n 1, 1) := by decide +kernel
theorem dX7_isAccount_1 : decode cX7_isAccount 1 = .ok (.i2l, 1) := by decide +kernel
theorem dX7_isAccount_2 : decode cX7_isAccount 2 = .ok (.lconst 0, 1) := by decide +kernel
theorem dX7_isAccount_3 : decode cX7_isAccount 3 = .ok (.aload_n 0, 1) := by decide +kernel
theorem dX7_isAccount_4 : decode cX7_isAccount 4 = .ok (.getfield 45, 3) := by decide +kernel
theorem dX7_isAccount_7 : decode cX7_isAccount 7 = .ok (.iconst 1, 1) := by decide +kernel
theorem dX7_isAccount_8 : decode cX7_isAccount 8 = .ok (.isub, 1) := by decide +kernel
theorem dX7_isAccount_9 : decode cX7_isAccount 9 = .ok (.i2l, 1) := by decide +kernel
theorem dX7_isAccount_10 : decode cX7_isAccount 10 = .ok (.invokestatic 48, 3) := by decide +kernel
theorem dX7_isAccount_13 : decode cX7_isAccount 13 = .ok (.ireturn, 1) := by decide +kernel
set_option maxRecDepth 20000 in
theorem ggX7_isLock_X7_in : GoodIn wsX7_isLock wsX7_in := goodIn_r _ [5] (by decide +kernel) (by decide +kernel)
set_option maxRecDepth 20000 in
theorem gX7_isLock_X7_in : GoodIn wsX7_isLock (va_wsS RX7 48 yX7_in wsX7_in) := goodIn_app (goodIn_of _ (by decide +kernel)) ggX7_isLock_X7_in
theorem dX7_isLock_0 : decode cX7_isLock 0 = .ok (.iconst 0, 1) := by decide +kernel
theorem dX7_isLock_1 : decode cX7_isLock 1 = .ok (.istore_n 2, 1) := by decide +kernel
theorem dX7_isLock_2 : decode cX7_isLock 2 = .ok (.iconst 0, 1) := by decide +kernel
theorem dX7_isLock_3 : decode cX7_isLock 3 = .ok (.istore_n 3, 1) := by decide +kernel
theorem dX7_isLock_4 : decode cX7_isLock 4 = .ok (.iload_n 3, 1) := by decide +kernel
theorem dX7_isLock_5 : decode cX7_isLock 5 = .ok (.bipush 16, 2) := by decide +kernel
theorem dX7_isLock_7 : decode cX7_isLock 7 = .ok (.if_icmp .ge 17, 3) := by decide +kernel
theorem dX7_isLock_10 : decode cX7_isLock 10 = .ok (.iload_n 2, 1) := by decide +kernel
theorem dX7_isLock_11 : decode cX7_isLock 11 = .ok (.iload_n 0, 1) := by decide +kernel
theorem dX7_isLock_12 : decode cX7_isLock 12 = .ok (.iload_n 3, 1) := by decide +kernel
theorem dX7_isLock_13 : decode cX7_isLock 13 = .ok (.ishr, 1) := by decide +kernel
theorem dX7_isLock_14 : decode cX7_isLock 14 = .ok (.iconst 1, 1) := by decide +kernel
theorem dX7_isLock_15 : decode cX7_isLock 15 = .ok (.iand, 1) := by decide +kernel
theorem dX7_isLock_16 : decode cX7_isLock 16 = .ok (.iadd, 1) := by decide +kernel
theorem dX7_isLock_17 : decode cX7_isLock 17 = .ok (.istore_n 2, 1) := by decide +kernel
theorem dX7_isLock_18 : decode cX7_isLock 18 = .ok (.iinc 3 1, 3) := by decide +kernel
theorem dX7_isLock_21 : decode cX7_isLock 21 = .ok (.goto (-17), 3) := by decide +kernel
theorem dX7_isLock_24 : decode cX7_isLock 24 = .ok (.iload_n 0, 1) := by decide +kernel
theorem dX7_isLock_25 : decode cX7_isLock 25 = .ok (.i2l, 1) := by decide +kernel
theorem dX7_isLock_26 : decode cX7_isLock 26 = .ok (.lconst 1, 1) := by decide +kernel
theorem dX7_isLock_27 : decode cX7_isLock 27 = .ok (.ldc2_w 52, 3) := by decide +kernel
theorem dX7_isLock_30 : decode cX7_isLock 30 = .ok (.invokestatic 48, 3) := by decide +kernel
theorem dX7_isLock_33 : decode cX7_isLock 33 = .ok (.ifCond .eq 18, 3) := by decide +kernel
theorem dX7_isLock_36 : decode cX7_isLock 36 = .ok (.iload_n 1, 1) := by decide +kernel
theorem dX7_isLock_37 : decode cX7_isLock 37 = .ok (.i2l, 1) := by decide +kernel
theorem dX7_isLock_38 : decode cX7_isLock 38 = .ok (.lconst 1, 1) := by decide +kernel
theorem dX7_isLock_39 : decode cX7_isLock 39 = .ok (.iload_n 2, 1) := by decide +kernel
theorem dX7_isLock_40 : decode cX7_isLock 40 = .ok (.i2l, 1) := by decide +kernel
theorem dX7_isLock_41 : decode cX7_isLock 41 = .ok (.invokestatic 48, 3) := by decide +kernel
theorem dX7_isLock_44 : decode cX7_isLock 44 = .ok (.ifCond .eq 7, 3) := by decide +kernel
theorem dX7_isLock_47 : decode cX7_isLock 47 = .ok (.iconst 1, 1) := by decide +kernel
theorem dX7_isLock_48 : decode cX7_isLock 48 = .ok (.goto 4, 3) := by decide +kernel
theorem dX7_isLock_51 : decode cX7_isLock 51 = .ok (.iconst 0, 1) := by decide +kernel
theorem dX7_isLock_52 : decode cX7_isLock 52 = .ok (.ireturn, 1) := by decide +kernel
set_option maxRecDepth 20000 in
theorem ggX7_account_X7_in : GoodIn wsX7_account wsX7_in := goodIn_r _ [9] (by decide +kernel) (by decide +kernel)
set_option maxRecDepth 20000 in
theorem gX7_account_X7_in : GoodIn wsX7_account (va_wsS RX7 48 yX7_in wsX7_in) := goodIn_app (goodIn_of _ (by decide +kernel)) ggX7_account_X7_in
set_option maxRecDepth 20000 in
theorem ggX7_account_X7_isLock : GoodIn wsX7_account wsX7_isLock := goodIn_r _ [12, 13, 6, 7, 8, 9] (by decide +kernel) (by decide +kernel)
set_option maxRecDepth 20000 in
theorem gX7_account_X7_isLock : GoodIn wsX7_account (va_wsS RX7 56 yX7_isLock wsX7_isLock) := goodIn_app (goodIn_of _ (by decide +kernel)) ggX7_account_X7_isLock
theorem dX7_account_0 : decode cX7_account 0 = .ok (.lload_n 1, 1) := by decide +kernel
theorem dX7_account_1 : decode cX7_account 1 = .ok (.lconst 0, 1) := by decide +kernel
theorem dX7_account_2 : decode cX7_account 2 = .ok (.ldc2_w 54, 3) := by decide +kernel
theorem dX7_account_5 : decode cX7_account 5 = .ok (.invokestatic 48, 3) := by decide +kernel
theorem dX7_account_8 : decode cX7_account 8 = .ok (.ifCond .eq 12, 3) := by decide +kernel
theorem dX7_account_11 : decode cX7_account 11 = .ok (.iload_n 3, 1) := by decide +kernel
theorem dX7_account_12 : decode cX7_account 12 = .ok (.iload 4, 2) := by decide +kernel
theorem dX7_account_14 : decode cX7_account 14 = .ok (.invokestatic 56, 3) := by decide +kernel
theorem dX7_account_17 : decode cX7_account 17 = .ok (.ifCond .ne 5, 3) := by decide +kernel
theorem dX7_account_20 : decode cX7_account 20 = .ok (.iconst (-1), 1) := by decide +kernel
theorem dX7_account_21 : decode cX7_account 21 = .ok (.ireturn, 1) := by decide +kernel
theorem dX7_account_22 : decode cX7_account 22 = .ok (.aload_n 0, 1) := by decide +kernel
theorem dX7_account_23 : decode cX7_account 23 = .ok (.getfield 45, 3) := by decide +kernel
theorem dX7_account_26 : decode cX7_account 26 = .ok (.bipush 12, 2) := by decide +kernel
theorem dX7_account_28 : decode cX7_account 28 = .ok (.if_icmp .ne 6, 3) := by decide +kernel
theorem dX7_account_31 : decode cX7_account 31 = .ok (.bipush (-3), 2) := by decide +kernel
theorem dX7_account_33 : decode cX7_account 33 = .ok (.ireturn, 1) := by decide +kernel
theorem dX7_account_34 : decode cX7_account 34 = .ok (.aload_n 0, 1) := by decide +kernel
theorem dX7_account_35 : decode cX7_account 35 = .ok (.getfield 7, 3) := by decide +kernel
theorem dX7_account_38 : decode cX7_account 38 = .ok (.aload_n 0, 1) := by decide +kernel
theorem dX7_account_39 : decode cX7_account 39 = .ok (.getfield 45, 3) := by decide +kernel
theorem dX7_account_42 : decode cX7_account 42 = .ok (.lload_n 1, 1) := by decide +kernel
theorem dX7_account_43 : decode cX7_account 43 = .ok (.lastore, 1) := by decide +kernel
theorem dX7_account_44 : decode cX7_account 44 = .ok (.aload_n 0, 1) := by decide +kernel
theorem dX7_account_45 : decode cX7_account 45 = .ok (.getfield 17, 3) := by decide +kernel
theorem dX7_account_48 : decode cX7_account 48 = .ok (.aload_n 0, 1) := by decide +kernel
theorem dX7_account_49 : decode cX7_account 49 = .ok (.getfield 45, 3) := by decide +kernel
theorem dX7_account_52 : decode cX7_account 52 = .ok (.iload_n 3, 1) := by decide +kernel
theorem dX7_account_53 : decode cX7_account 53 = .ok (.iastore, 1) := by decide +kernel
theorem dX7_account_54 : decode cX7_account 54 = .ok (.aload_n 0, 1) := by decide +kernel
theorem dX7_account_55 : decode cX7_account 55 = .ok (.getfield 20, 3) := by decide +kernel
theorem dX7_account_58 : decode cX7_account 58 = .ok (.aload_n 0, 1) := by decide +kernel
theorem dX7_account_59 : decode cX7_account 59 = .ok (.getfield 45, 3) := by decide +kernel
theorem dX7_account_62 : decode cX7_account 62 = .ok (.iload 4, 2) := by decide +kernel
theorem dX7_account_64 : decode cX7_account 64 = .ok (.iastore, 1) := by decide +kernel
theorem dX7_account_65 : decode cX7_account 65 = .ok (.aload_n 0, 1) := by decide +kernel
theorem dX7_account_66 : decode cX7_account 66 = .ok (.dup, 1) := by decide +kernel
theorem dX7_account_67 : decode cX7_account 67 = .ok (.getfield 45, 3) := by decide +kernel
theorem dX7_account_70 : decode cX7_account 70 = .ok (.iconst 1, 1) := by decide +kernel
theorem dX7_account_71 : decode cX7_account 71 = .ok (.iadd, 1) := by decide +kernel
theorem dX7_account_72 : decode cX7_account 72 = .ok (.putfield 45, 3) := by decide +kernel
theorem dX7_account_75 : decode cX7_account 75 = .ok (.aload_n 0, 1) := by decide +kernel
theorem dX7_account_76 : decode cX7_account 76 = .ok (.getfield 45, 3) := by decide +kernel
theorem dX7_account_79 : decode cX7_account 79 = .ok (.iconst 1, 1) := by decide +kernel
theorem dX7_account_80 : decode cX7_account 80 = .ok (.isub, 1) := by decide +kernel
theorem dX7_account_81 : decode cX7_account 81 = .ok (.ireturn, 1) := by decide +kernel
set_option maxRecDepth 20000 in
theorem ggX7_lock_X7_isAccount : GoodIn wsX7_lock wsX7_isAccount := goodIn_r _ [7, 8, 9, 10, 6, 11, 16, 17, 18, 19, 20, 21, 22, 23, 24, 25, 26, 27, 28, 29, 30, 31, 32, 33, 34, 35, 36] (by decide +kernel) (by decide +kernel)
set_option maxRecDepth 20000 in
theorem gX7_lock_X7_isAccount : GoodIn wsX7_lock (wsV RX7 60 RX7 yX7_isAccount wsX7_isAccount) := goodIn_app (goodIn_of _ (by decide +kernel)) ggX7_lock_X7_isAccount
set_option maxRecDepth 20000 in
theorem ggX7_lock_X7_isLock : GoodIn wsX7_lock wsX7_isLock := goodIn_r _ [14, 15, 9, 10, 6, 11] (by decide +kernel) (by decide +kernel)
set_option maxRecDepth 20000 in
theorem gX7_lock_X7_isLock : GoodIn wsX7_lock (va_wsS RX7 56 yX7_isLock wsX7_isLock) := goodIn_app (goodIn_of _ (by decide +kernel)) ggX7_lock_X7_isLock
theorem dX7_lock_0 : decode cX7_lock 0 = .ok (.aload_n 0, 1) := by decide +kernel
theorem dX7_lock_1 : decode cX7_lock 1 = .ok (.iload_n 1, 1) := by decide +kernel
theorem dX7_lock_2 : decode cX7_lock 2 = .ok (.invokevirtual 60, 3) := by decide +kernel
theorem dX7_lock_5 : decode cX7_lock 5 = .ok (.ifCond .eq 11, 3) := by decide +kernel
theorem dX7_lock_8 : decode cX7_lock 8 = .ok (.iload_n 2, 1) := by decide +kernel
theorem dX7_lock_9 : decode cX7_lock 9 = .ok (.iload_n 3, 1) := by decide +kernel
theorem dX7_lock_10 : decode cX7_lock 10 = .ok (.invokestatic 56, 3) := by decide +kernel
theorem dX7_lock_13 : decode cX7_lock 13 = .ok (.ifCond .ne 5, 3) := by decide +kernel
theorem dX7_lock_16 : decode cX7_lock 16 = .ok (.iconst (-1), 1) := by decide +kernel
theorem dX7_lock_17 : decode cX7_lock 17 = .ok (.ireturn, 1) := by decide +kernel
theorem dX7_lock_18 : decode cX7_lock 18 = .ok (.aload_n 0, 1) := by decide +kernel
theorem dX7_lock_19 : decode cX7_lock 19 = .ok (.getfield 17, 3) := by decide +kernel
theorem dX7_lock_22 : decode cX7_lock 22 = .ok (.iload_n 1, 1) := by decide +kernel
theorem dX7_lock_23 : decode cX7_lock 23 = .ok (.iload_n 2, 1) := by decide +kernel
theorem dX7_lock_24 : decode cX7_lock 24 = .ok (.iastore, 1) := by decide +kernel
theorem dX7_lock_25 : decode cX7_lock 25 = .ok (.aload_n 0, 1) := by decide +kernel
theorem dX7_lock_26 : decode cX7_lock 26 = .ok (.getfield 20, 3) := by decide +kernel
theorem dX7_lock_29 : decode cX7_lock 29 = .ok (.iload_n 1, 1) := by decide +kernel
theorem dX7_lock_30 : decode cX7_lock 30 = .ok (.iload_n 3, 1) := by decide +kernel
theorem dX7_lock_31 : decode cX7_lock 31 = .ok (.iastore, 1) := by decide +kernel
theorem dX7_lock_32 : decode cX7_lock 32 = .ok (.iconst 1, 1) := by decide +kernel
theorem dX7_lock_33 : decode cX7_lock 33 = .ok (.ireturn, 1) := by decide +kernel
set_option maxRecDepth 20000 in
theorem ggX7_funds_X7_isAccount : GoodIn wsX7_funds wsX7_isAccount := goodIn_r _ [7, 8, 9, 10, 6, 11, 12, 13, 14, 15, 16, 17, 18, 19, 20, 21, 22, 23, 24, 25, 26, 27, 28, 29, 30, 31, 32] (by decide +kernel) (by decide +kernel)
set_option maxRecDepth 20000 in
theorem gX7_funds_X7_isAccount : GoodIn wsX7_funds (wsV RX7 60 RX7 yX7_isAccount wsX7_isAccount) := goodIn_app (goodIn_of _ (by decide +kernel)) ggX7_funds_X7_isAccount
theorem dX7_funds_0 : decode cX7_funds 0 = .ok (.aload_n 0, 1) := by decide +kernel
theorem dX7_funds_1 : decode cX7_funds 1 = .ok (.iload_n 1, 1) := by decide +kernel
theorem dX7_funds_2 : decode cX7_funds 2 = .ok (.invokevirtual 60, 3) := by decide +kernel
theorem dX7_funds_5 : decode cX7_funds 5 = .ok (.ifCond .eq 12, 3) := by decide +kernel
theorem dX7_funds_8 : decode cX7_funds 8 = .ok (.aload_n 0, 1) := by decide +kernel
theorem dX7_funds_9 : decode cX7_funds 9 = .ok (.getfield 7, 3) := by decide +kernel
theorem dX7_funds_12 : decode cX7_funds 12 = .ok (.iload_n 1, 1) := by decide +kernel
theorem dX7_funds_13 : decode cX7_funds 13 = .ok (.laload, 1) := by decide +kernel
theorem dX7_funds_14 : decode cX7_funds 14 = .ok (.goto 6, 3) := by decide +kernel
theorem dX7_funds_17 : decode cX7_funds 17 = .ok (.ldc2_w 64, 3) := by decide +kernel
theorem dX7_funds_20 : decode cX7_funds 20 = .ok (.lreturn, 1) := by decide +kernel
set_option maxRecDepth 20000 in
theorem ggX7_next_X7_isAccount : GoodIn wsX7_next wsX7_isAccount := goodIn_r _ [6, 7, 8, 9, 5, 10, 11, 12, 13, 14, 15, 16, 17, 18, 19, 20, 21, 22, 23, 24, 25, 26, 27, 28, 29, 30, 31] (by decide +kernel) (by decide +kernel)
set_option maxRecDepth 20000 in
theorem gX7_next_X7_isAccount : GoodIn wsX7_next (wsV RX7 60 RX7 yX7_isAccount wsX7_isAccount) := goodIn_app (goodIn_of _ (by decide +kernel)) ggX7_next_X7_isAccount
theorem dX7_next_0 : decode cX7_next 0 = .ok (.aload_n 0, 1) := by decide +kernel
theorem dX7_next_1 : decode cX7_next 1 = .ok (.iload_n 1, 1) := by decide +kernel
theorem dX7_next_2 : decode cX7_next 2 = .ok (.invokevirtual 60, 3) := by decide +kernel
theorem dX7_next_5 : decode cX7_next 5 = .ok (.ifCond .eq 12, 3) := by decide +kernel
theorem dX7_next_8 : decode cX7_next 8 = .ok (.aload_n 0, 1) := by decide +kernel
theorem dX7_next_9 : decode cX7_next 9 = .ok (.getfield 13, 3) := by decide +kernel
theorem dX7_next_12 : decode cX7_next 12 = .ok (.iload_n 1, 1) := by decide +kernel
theorem dX7_next_13 : decode cX7_next 13 = .ok (.iaload, 1) := by decide +kernel
theorem dX7_next_14 : decode cX7_next 14 = .ok (.goto 4, 3) := by decide +kernel
theorem dX7_next_17 : decode cX7_next 17 = .ok (.iconst (-1), 1) := by decide +kernel
theorem dX7_next_18 : decode cX7_next 18 = .ok (.ireturn, 1) := by decide +kernel
set_option maxRecDepth 20000 in
theorem ggX7_sign_X7_in : GoodIn wsX7_sign wsX7_in := goodIn_r _ [8] (by decide +kernel) (by decide +kernel)
set_option maxRecDepth 20000 in
theorem gX7_sign_X7_in : GoodIn wsX7_sign (va_wsS RX7 48 yX7_in wsX7_in) := goodIn_app (goodIn_of _ (by decide +kernel)) ggX7_sign_X7_in
theorem dX7_sign_0 : decode cX7_sign 0 = .ok (.iload_n 1, 1) := by decide +kernel
theorem dX7_sign_1 : decode cX7_sign 1 = .ok (.i2l, 1) := by decide +kernel
theorem dX7_sign_2 : decode cX7_sign 2 = .ok (.lconst 0, 1) := by decide +kernel
theorem dX7_sign_3 : decode cX7_sign 3 = .ok (.ldc2_w 66, 3) := by decide +kernel
theorem dX7_sign_6 : decode cX7_sign 6 = .ok (.invokestatic 48, 3) := by decide +kernel
theorem dX7_sign_9 : decode cX7_sign 9 = .ok (.ifCond .ne 5, 3) := by decide +kernel
theorem dX7_sign_12 : decode cX7_sign 12 = .ok (.iconst (-1), 1) := by decide +kernel
theorem dX7_sign_13 : decode cX7_sign 13 = .ok (.ireturn, 1) := by decide +kernel
theorem dX7_sign_14 : decode cX7_sign 14 = .ok (.aload_n 0, 1) := by decide +kernel
theorem dX7_sign_15 : decode cX7_sign 15 = .ok (.getfield 68, 3) := by decide +kernel
theorem dX7_sign_18 : decode cX7_sign 18 = .ok (.sipush 200, 3) := by decide +kernel
theorem dX7_sign_21 : decode cX7_sign 21 = .ok (.if_icmp .ne 6, 3) := by decide +kernel
theorem dX7_sign_24 : decode cX7_sign 24 = .ok (.bipush (-3), 2) := by decide +kernel
theorem dX7_sign_26 : decode cX7_sign 26 = .ok (.ireturn, 1) := by decide +kernel
theorem dX7_sign_27 : decode cX7_sign 27 = .ok (.aload_n 0, 1) := by decide +kernel
theorem dX7_sign_28 : decode cX7_sign 28 = .ok (.getfield 23, 3) := by decide +kernel
theorem dX7_sign_31 : decode cX7_sign 31 = .ok (.aload_n 0, 1) := by decide +kernel
theorem dX7_sign_32 : decode cX7_sign 32 = .ok (.getfield 68, 3) := by decide +kernel
theorem dX7_sign_35 : decode cX7_sign 35 = .ok (.iload_n 1, 1) := by decide +kernel
theorem dX7_sign_36 : decode cX7_sign 36 = .ok (.iastore, 1) := by decide +kernel
theorem dX7_sign_37 : decode cX7_sign 37 = .ok (.aload_n 0, 1) := by decide +kernel
theorem dX7_sign_38 : decode cX7_sign 38 = .ok (.getfield 26, 3) := by decide +kernel
theorem dX7_sign_41 : decode cX7_sign 41 = .ok (.aload_n 0, 1) := by decide +kernel
theorem dX7_sign_42 : decode cX7_sign 42 = .ok (.getfield 68, 3) := by decide +kernel
theorem dX7_sign_45 : decode cX7_sign 45 = .ok (.lload_n 2, 1) := by decide +kernel
theorem dX7_sign_46 : decode cX7_sign 46 = .ok (.lastore, 1) := by decide +kernel
theorem dX7_sign_47 : decode cX7_sign 47 = .ok (.aload_n 0, 1) := by decide +kernel
theorem dX7_sign_48 : decode cX7_sign 48 = .ok (.dup, 1) := by decide +kernel
theorem dX7_sign_49 : decode cX7_sign 49 = .ok (.getfield 68, 3) := by decide +kernel
theorem dX7_sign_52 : decode cX7_sign 52 = .ok (.iconst 1, 1) := by decide +kernel
theorem dX7_sign_53 : decode cX7_sign 53 = .ok (.iadd, 1) := by decide +kernel
theorem dX7_sign_54 : decode cX7_sign 54 = .ok (.putfield 68, 3) := by decide +kernel
theorem dX7_sign_57 : decode cX7_sign 57 = .ok (.aload_n 0, 1) := by decide +kernel
theorem dX7_sign_58 : decode cX7_sign 58 = .ok (.getfield 68, 3) := by decide +kernel
theorem dX7_sign_61 : decode cX7_sign 61 = .ok (.iconst 1, 1) := by decide +kernel
theorem dX7_sign_62 : decode cX7_sign 62 = .ok (.isub, 1) := by decide +kernel
theorem dX7_sign_63 : decode cX7_sign 63 = .ok (.ireturn, 1) := by decide +kernel
set_option maxRecDepth 20000 in
theorem ggX7_draft_X7_isAccount : GoodIn wsX7_draft wsX7_isAccount := goodIn_r _ [13, 14, 15, 16, 12, 17, 18, 19, 20, 21, 22, 23, 24, 25, 26, 27, 28, 29, 30, 31, 32, 33, 34, 35, 36, 37, 38] (by decide +kernel) (by decide +kernel)
set_option maxRecDepth 20000 in
theorem gX7_draft_X7_isAccount : GoodIn wsX7_draft (wsV RX7 60 RX7 yX7_isAccount wsX7_isAccount) := goodIn_app (goodIn_of _ (by decide +kernel)) ggX7_draft_X7_isAccount
set_option maxRecDepth 20000 in
theorem ggX7_draft_X7_in : GoodIn wsX7_draft wsX7_in := goodIn_r _ [17] (by decide +kernel) (by decide +kernel)
set_option maxRecDepth 20000 in
theorem gX7_draft_X7_in : GoodIn wsX7_draft (va_wsS RX7 48 yX7_in wsX7_in) := goodIn_app (goodIn_of _ (by decide +kernel)) ggX7_draft_X7_in
theorem dX7_draft_0 : decode cX7_draft 0 = .ok (.aload_n 0, 1) := by decide +kernel
theorem dX7_draft_1 : decode cX7_draft 1 = .ok (.iload_n 1, 1) := by decide +kernel
theorem dX7_draft_2 : decode cX7_draft 2 = .ok (.invokevirtual 60, 3) := by decide +kernel
theorem dX7_draft_5 : decode cX7_draft 5 = .ok (.ifCond .eq 42, 3) := by decide +kernel
theorem dX7_draft_8 : decode cX7_draft 8 = .ok (.iload_n 2, 1) := by decide +kernel
theorem dX7_draft_9 : decode cX7_draft 9 = .ok (.i2l, 1) := by decide +kernel
theorem dX7_draft_10 : decode cX7_draft 10 = .ok (.lconst 0, 1) := by decide +kernel
theorem dX7_draft_11 : decode cX7_draft 11 = .ok (.ldc2_w 71, 3) := by decide +kernel
theorem dX7_draft_14 : decode cX7_draft 14 = .ok (.invokestatic 48, 3) := by decide +kernel
theorem dX7_draft_17 : decode cX7_draft 17 = .ok (.ifCond .eq 30, 3) := by decide +kernel
theorem dX7_draft_20 : decode cX7_draft 20 = .ok (.iload_n 3, 1) := by decide +kernel
theorem dX7_draft_21 : decode cX7_draft 21 = .ok (.i2l, 1) := by decide +kernel
theorem dX7_draft_22 : decode cX7_draft 22 = .ok (.lconst 0, 1) := by decide +kernel
theorem dX7_draft_23 : decode cX7_draft 23 = .ok (.ldc2_w 73, 3) := by decide +kernel
theorem dX7_draft_26 : decode cX7_draft 26 = .ok (.invokestatic 48, 3) := by decide +kernel
theorem dX7_draft_29 : decode cX7_draft 29 = .ok (.ifCond .eq 18, 3) := by decide +kernel
theorem dX7_draft_32 : decode cX7_draft 32 = .ok (.iload 4, 2) := by decide +kernel
theorem dX7_draft_34 : decode cX7_draft 34 = .ok (.i2l, 1) := by decide +kernel
theorem dX7_draft_35 : decode cX7_draft 35 = .ok (.ldc2_w 75, 3) := by decide +kernel
theorem dX7_draft_38 : decode cX7_draft 38 = .ok (.ldc2_w 77, 3) := by decide +kernel
theorem dX7_draft_41 : decode cX7_draft 41 = .ok (.invokestatic 48, 3) := by decide +kernel
theorem dX7_draft_44 : decode cX7_draft 44 = .ok (.ifCond .ne 5, 3) := by decide +kernel
theorem dX7_draft_47 : decode cX7_draft 47 = .ok (.iconst (-1), 1) := by decide +kernel
theorem dX7_draft_48 : decode cX7_draft 48 = .ok (.ireturn, 1) := by decide +kernel
theorem dX7_draft_49 : decode cX7_draft 49 = .ok (.aload_n 0, 1) := by decide +kernel
theorem dX7_draft_50 : decode cX7_draft 50 = .ok (.getfield 29, 3) := by decide +kernel
theorem dX7_draft_53 : decode cX7_draft 53 = .ok (.iconst 0, 1) := by decide +kernel
theorem dX7_draft_54 : decode cX7_draft 54 = .ok (.iload_n 1, 1) := by decide +kernel
theorem dX7_draft_55 : decode cX7_draft 55 = .ok (.i2l, 1) := by decide +kernel
theorem dX7_draft_56 : decode cX7_draft 56 = .ok (.lastore, 1) := by decide +kernel
theorem dX7_draft_57 : decode cX7_draft 57 = .ok (.aload_n 0, 1) := by decide +kernel
theorem dX7_draft_58 : decode cX7_draft 58 = .ok (.getfield 29, 3) := by decide +kernel
theorem dX7_draft_61 : decode cX7_draft 61 = .ok (.iconst 1, 1) := by decide +kernel
theorem dX7_draft_62 : decode cX7_draft 62 = .ok (.iload_n 2, 1) := by decide +kernel
theorem dX7_draft_63 : decode cX7_draft 63 = .ok (.i2l, 1) := by decide +kernel
theorem dX7_draft_64 : decode cX7_draft 64 = .ok (.lastore, 1) := by decide +kernel
theorem dX7_draft_65 : decode cX7_draft 65 = .ok (.aload_n 0, 1) := by decide +kernel
theorem dX7_draft_66 : decode cX7_draft 66 = .ok (.getfield 29, 3) := by decide +kernel
theorem dX7_draft_69 : decode cX7_draft 69 = .ok (.iconst 2, 1) := by decide +kernel
theorem dX7_draft_70 : decode cX7_draft 70 = .ok (.iload_n 3, 1) := by decide +kernel
theorem dX7_draft_71 : decode cX7_draft 71 = .ok (.i2l, 1) := by decide +kernel
theorem dX7_draft_72 : decode cX7_draft 72 = .ok (.lastore, 1) := by decide +kernel
theorem dX7_draft_73 : decode cX7_draft 73 = .ok (.aload_n 0, 1) := by decide +kernel
theorem dX7_draft_74 : decode cX7_draft 74 = .ok (.getfield 29, 3) := by decide +kernel
theorem dX7_draft_77 : decode cX7_draft 77 = .ok (.iconst 3, 1) := by decide +kernel
theorem dX7_draft_78 : decode cX7_draft 78 = .ok (.iload 4, 2) := by decide +kernel
theorem dX7_draft_80 : decode cX7_draft 80 = .ok (.i2l, 1) := by decide +kernel
theorem dX7_draft_81 : decode cX7_draft 81 = .ok (.lastore, 1) := by decide +kernel
theorem dX7_draft_82 : decode cX7_draft 82 = .ok (.aload_n 0, 1) := by decide +kernel
theorem dX7_draft_83 : decode cX7_draft 83 = .ok (.getfield 29, 3) := by decide +kernel
theorem dX7_draft_86 : decode cX7_draft 86 = .ok (.iconst 4, 1) := by decide +kernel
theorem dX7_draft_87 : decode cX7_draft 87 = .ok (.ldc2_w 73, 3) := by decide +kernel
theorem dX7_draft_90 : decode cX7_draft 90 = .ok (.lastore, 1) := by decide +kernel
theorem dX7_draft_91 : decode cX7_draft 91 = .ok (.aload_n 0, 1) := by decide +kernel
theorem dX7_draft_92 : decode cX7_draft 92 = .ok (.getfield 29, 3) := by decide +kernel
theorem dX7_draft_95 : decode cX7_draft 95 = .ok (.iconst 5, 1) := by decide +kernel
theorem dX7_draft_96 : decode cX7_draft 96 = .ok (.lconst 0, 1) := by decide +kernel
theorem dX7_draft_97 : decode cX7_draft 97 = .ok (.lastore, 1) := by decide +kernel
theorem dX7_draft_98 : decode cX7_draft 98 = .ok (.aload_n 0, 1) := by decide +kernel
theorem dX7_draft_99 : decode cX7_draft 99 = .ok (.getfield 29, 3) := by decide +kernel
theorem dX7_draft_102 : decode cX7_draft 102 = .ok (.bipush 6, 2) := by decide +kernel
theorem dX7_draft_104 : decode cX7_draft 104 = .ok (.ldc2_w 64, 3) := by decide +kernel
theorem dX7_draft_107 : decode cX7_draft 107 = .ok (.lastore, 1) := by decide +kernel
theorem dX7_draft_108 : decode cX7_draft 108 = .ok (.aload_n 0, 1) := by decide +kernel
theorem dX7_draft_109 : decode cX7_draft 109 = .ok (.getfield 29, 3) := by decide +kernel
theorem dX7_draft_112 : decode cX7_draft 112 = .ok (.bipush 8, 2) := by decide +kernel
theorem dX7_draft_114 : decode cX7_draft 114 = .ok (.lconst 0, 1) := by decide +kernel
theorem dX7_draft_115 : decode cX7_draft 115 = .ok (.lastore, 1) := by decide +kernel
theorem dX7_draft_116 : decode cX7_draft 116 = .ok (.aload_n 0, 1) := by decide +kernel
theorem dX7_draft_117 : decode cX7_draft 117 = .ok (.iconst 0, 1) := by decide +kernel
theorem dX7_draft_118 : decode cX7_draft 118 = .ok (.putfield 79, 3) := by decide +kernel
theorem dX7_draft_121 : decode cX7_draft 121 = .ok (.aload_n 0, 1) := by decide +kernel
theorem dX7_draft_122 : decode cX7_draft 122 = .ok (.iconst 1, 1) := by decide +kernel
theorem dX7_draft_123 : decode cX7_draft 123 = .ok (.putfield 82, 3) := by decide +kernel
theorem dX7_draft_126 : decode cX7_draft 126 = .ok (.iconst 1, 1) := by decide +kernel
theorem dX7_draft_127 : decode cX7_draft 127 = .ok (.ireturn, 1) := by decide +kernel
theorem dX7_told_0 : decode cX7_told 0 = .ok (.iload 4, 2) := by decide +kernel
theorem dX7_told_2 : decode cX7_told 2 = .ok (.ifCond .ne 5, 3) := by decide +kernel
theorem dX7_told_5 : decode cX7_told 5 = .ok (.iconst (-1), 1) := by decide +kernel
theorem dX7_told_6 : decode cX7_told 6 = .ok (.ireturn, 1) := by decide +kernel
theorem dX7_told_7 : decode cX7_told 7 = .ok (.aload_n 0, 1) := by decide +kernel
theorem dX7_told_8 : decode cX7_told 8 = .ok (.getfield 82, 3) := by decide +kernel
theorem dX7_told_11 : decode cX7_told 11 = .ok (.ifCond .ne 6, 3) := by decide +kernel
theorem dX7_told_14 : decode cX7_told 14 = .ok (.bipush (-2), 2) := by decide +kernel
theorem dX7_told_16 : decode cX7_told 16 = .ok (.ireturn, 1) := by decide +kernel
theorem dX7_told_17 : decode cX7_told 17 = .ok (.aload_n 0, 1) := by decide +kernel
theorem dX7_told_18 : decode cX7_told 18 = .ok (.getfield 29, 3) := by decide +kernel
theorem dX7_told_21 : decode cX7_told 21 = .ok (.iload_n 1, 1) := by decide +kernel
theorem dX7_told_22 : decode cX7_told 22 = .ok (.lload_n 2, 1) := by decide +kernel
theorem dX7_told_23 : decode cX7_told 23 = .ok (.lastore, 1) := by decide +kernel
theorem dX7_told_24 : decode cX7_told 24 = .ok (.iconst 1, 1) := by decide +kernel
theorem dX7_told_25 : decode cX7_told 25 = .ok (.ireturn, 1) := by decide +kernel
set_option maxRecDepth 20000 in
theorem ggX7_until_X7_in : GoodIn wsX7_until wsX7_in := goodIn_r _ [5] (by decide +kernel) (by decide +kernel)
set_option maxRecDepth 20000 in
theorem gX7_until_X7_in : GoodIn wsX7_until (va_wsS RX7 48 yX7_in wsX7_in) := goodIn_app (goodIn_of _ (by decide +kernel)) ggX7_until_X7_in
set_option maxRecDepth 20000 in
theorem ggX7_until_X7_told : GoodIn wsX7_until wsX7_told := goodIn_r _ [9, 10, 11, 12, 13, 14, 15, 16, 17, 18, 19, 20, 21, 22, 23, 24, 25, 26, 27, 28, 29, 30, 31, 32] (by decide +kernel) (by decide +kernel)
set_option maxRecDepth 20000 in
theorem gX7_until_X7_told : GoodIn wsX7_until (wsV RX7 86 RX7 yX7_told wsX7_told) := goodIn_app (goodIn_of _ (by decide +kernel)) ggX7_until_X7_told
theorem dX7_until_0 : decode cX7_until 0 = .ok (.aload_n 0, 1) := by decide +kernel
theorem dX7_until_1 : decode cX7_until 1 = .ok (.iconst 4, 1) := by decide +kernel
theorem dX7_until_2 : decode cX7_until 2 = .ok (.iload_n 1, 1) := by decide +kernel
theorem dX7_until_3 : decode cX7_until 3 = .ok (.i2l, 1) := by decide +kernel
theorem dX7_until_4 : decode cX7_until 4 = .ok (.iload_n 1, 1) := by decide +kernel
theorem dX7_until_5 : decode cX7_until 5 = .ok (.i2l, 1) := by decide +kernel
theorem dX7_until_6 : decode cX7_until 6 = .ok (.lconst 0, 1) := by decide +kernel
theorem dX7_until_7 : decode cX7_until 7 = .ok (.ldc2_w 73, 3) := by decide +kernel
theorem dX7_until_10 : decode cX7_until 10 = .ok (.invokestatic 48, 3) := by decide +kernel
theorem dX7_until_13 : decode cX7_until 13 = .ok (.invokevirtual 86, 3) := by decide +kernel
theorem dX7_until_16 : decode cX7_until 16 = .ok (.ireturn, 1) := by decide +kernel
set_option maxRecDepth 20000 in
theorem ggX7_from_X7_in : GoodIn wsX7_from wsX7_in := goodIn_r _ [5] (by decide +kernel) (by decide +kernel)
set_option maxRecDepth 20000 in
theorem gX7_from_X7_in : GoodIn wsX7_from (va_wsS RX7 48 yX7_in wsX7_in) := goodIn_app (goodIn_of _ (by decide +kernel)) ggX7_from_X7_in
set_option maxRecDepth 20000 in
theorem ggX7_from_X7_told : GoodIn wsX7_from wsX7_told := goodIn_r _ [9, 10, 11, 12, 13, 14, 15, 16, 17, 18, 19, 20, 21, 22, 23, 24, 25, 26, 27, 28, 29, 30, 31, 32] (by decide +kernel) (by decide +kernel)
set_option maxRecDepth 20000 in
theorem gX7_from_X7_told : GoodIn wsX7_from (wsV RX7 86 RX7 yX7_told wsX7_told) := goodIn_app (goodIn_of _ (by decide +kernel)) ggX7_from_X7_told
theorem dX7_from_0 : decode cX7_from 0 = .ok (.aload_n 0, 1) := by decide +kernel
theorem dX7_from_1 : decode cX7_from 1 = .ok (.iconst 5, 1) := by decide +kernel
theorem dX7_from_2 : decode cX7_from 2 = .ok (.iload_n 1, 1) := by decide +kernel
theorem dX7_from_3 : decode cX7_from 3 = .ok (.i2l, 1) := by decide +kernel
theorem dX7_from_4 : decode cX7_from 4 = .ok (.iload_n 1, 1) := by decide +kernel
theorem dX7_from_5 : decode cX7_from 5 = .ok (.i2l, 1) := by decide +kernel
theorem dX7_from_6 : decode cX7_from 6 = .ok (.lconst 0, 1) := by decide +kernel
theorem dX7_from_7 : decode cX7_from 7 = .ok (.ldc2_w 73, 3) := by decide +kernel
theorem dX7_from_10 : decode cX7_from 10 = .ok (.invokestatic 48, 3) := by decide +kernel
theorem dX7_from_13 : decode cX7_from 13 = .ok (.invokevirtual 86, 3) := by decide +kernel
theorem dX7_from_16 : decode cX7_from 16 = .ok (.ireturn, 1) := by decide +kernel
set_option maxRecDepth 20000 in
theorem ggX7_sponsor_X7_isAccount : GoodIn wsX7_sponsor wsX7_isAccount := goodIn_r _ [5, 6, 7, 8, 4, 9, 16, 17, 18, 19, 20, 21, 22, 23, 24, 25, 26, 27, 28, 29, 30, 31, 32, 33, 34, 35, 36] (by decide +kernel) (by decide +kernel)
set_option maxRecDepth 20000 in
theorem gX7_sponsor_X7_isAccount : GoodIn wsX7_sponsor (wsV RX7 60 RX7 yX7_isAccount wsX7_isAccount) := goodIn_app (goodIn_of _ (by decide +kernel)) ggX7_sponsor_X7_isAccount
set_option maxRecDepth 20000 in
theorem ggX7_sponsor_X7_told : GoodIn wsX7_sponsor wsX7_told := goodIn_r _ [13, 14, 15, 16, 17, 18, 19, 20, 21, 22, 23, 24, 25, 26, 27, 28, 29, 30, 31, 32, 33, 34, 35, 36] (by decide +kernel) (by decide +kernel)
set_option maxRecDepth 20000 in
theorem gX7_sponsor_X7_told : GoodIn wsX7_sponsor (wsV RX7 86 RX7 yX7_told wsX7_told) := goodIn_app (goodIn_of _ (by decide +kernel)) ggX7_sponsor_X7_told
theorem dX7_sponsor_0 : decode cX7_sponsor 0 = .ok (.aload_n 0, 1) := by decide +kernel
theorem dX7_sponsor_1 : decode cX7_sponsor 1 = .ok (.bipush 6, 2) := by decide +kernel
theorem dX7_sponsor_3 : decode cX7_sponsor 3 = .ok (.iload_n 1, 1) := by decide +kernel
theorem dX7_sponsor_4 : decode cX7_sponsor 4 = .ok (.i2l, 1) := by decide +kernel
theorem dX7_sponsor_5 : decode cX7_sponsor 5 = .ok (.iload_n 1, 1) := by decide +kernel
theorem dX7_sponsor_6 : decode cX7_sponsor 6 = .ok (.iconst (-1), 1) := by decide +kernel
theorem dX7_sponsor_7 : decode cX7_sponsor 7 = .ok (.if_icmp .eq 11, 3) := by decide +kernel
theorem dX7_sponsor_10 : decode cX7_sponsor 10 = .ok (.aload_n 0, 1) := by decide +kernel
theorem dX7_sponsor_11 : decode cX7_sponsor 11 = .ok (.iload_n 1, 1) := by decide +kernel
theorem dX7_sponsor_12 : decode cX7_sponsor 12 = .ok (.invokevirtual 60, 3) := by decide +kernel
theorem dX7_sponsor_15 : decode cX7_sponsor 15 = .ok (.ifCond .eq 7, 3) := by decide +kernel
theorem dX7_sponsor_18 : decode cX7_sponsor 18 = .ok (.iconst 1, 1) := by decide +kernel
theorem dX7_sponsor_19 : decode cX7_sponsor 19 = .ok (.goto 4, 3) := by decide +kernel
theorem dX7_sponsor_22 : decode cX7_sponsor 22 = .ok (.iconst 0, 1) := by decide +kernel
theorem dX7_sponsor_23 : decode cX7_sponsor 23 = .ok (.invokevirtual 86, 3) := by decide +kernel
theorem dX7_sponsor_26 : decode cX7_sponsor 26 = .ok (.ireturn, 1) := by decide +kernel
set_option maxRecDepth 20000 in
theorem ggX7_act_X7_isAccount : GoodIn wsX7_act wsX7_isAccount := goodIn_r _ [8, 9, 10, 11, 7, 12, 13, 14, 15, 16, 17, 18, 19, 20, 21, 22, 23, 24, 25, 26, 27, 28, 29, 30, 31, 32, 33] (by decide +kernel) (by decide +kernel)
set_option maxRecDepth 20000 in
theorem gX7_act_X7_isAccount : GoodIn wsX7_act (wsV RX7 60 RX7 yX7_isAccount wsX7_isAccount) := goodIn_app (goodIn_of _ (by decide +kernel)) ggX7_act_X7_isAccount
set_option maxRecDepth 20000 in
theorem ggX7_act_X7_in : GoodIn wsX7_act wsX7_in := goodIn_r _ [12] (by decide +kernel) (by decide +kernel)
set_option maxRecDepth 20000 in
theorem gX7_act_X7_in : GoodIn wsX7_act (va_wsS RX7 48 yX7_in wsX7_in) := goodIn_app (goodIn_of _ (by decide +kernel)) ggX7_act_X7_in
theorem dX7_act_0 : decode cX7_act 0 = .ok (.aload_n 0, 1) := by decide +kernel
theorem dX7_act_1 : decode cX7_act 1 = .ok (.iload_n 1, 1) := by decide +kernel
theorem dX7_act_2 : decode cX7_act 2 = .ok (.invokevirtual 60, 3) := by decide +kernel
theorem dX7_act_5 : decode cX7_act 5 = .ok (.ifCond .eq 14, 3) := by decide +kernel
theorem dX7_act_8 : decode cX7_act 8 = .ok (.lload_n 2, 1) := by decide +kernel
theorem dX7_act_9 : decode cX7_act 9 = .ok (.lconst 0, 1) := by decide +kernel
theorem dX7_act_10 : decode cX7_act 10 = .ok (.ldc2_w 54, 3) := by decide +kernel
theorem dX7_act_13 : decode cX7_act 13 = .ok (.invokestatic 48, 3) := by decide +kernel
theorem dX7_act_16 : decode cX7_act 16 = .ok (.ifCond .ne 5, 3) := by decide +kernel
theorem dX7_act_19 : decode cX7_act 19 = .ok (.iconst (-1), 1) := by decide +kernel
theorem dX7_act_20 : decode cX7_act 20 = .ok (.ireturn, 1) := by decide +kernel
theorem dX7_act_21 : decode cX7_act 21 = .ok (.aload_n 0, 1) := by decide +kernel
theorem dX7_act_22 : decode cX7_act 22 = .ok (.getfield 82, 3) := by decide +kernel
theorem dX7_act_25 : decode cX7_act 25 = .ok (.ifCond .ne 6, 3) := by decide +kernel
theorem dX7_act_28 : decode cX7_act 28 = .ok (.bipush (-2), 2) := by decide +kernel
theorem dX7_act_30 : decode cX7_act 30 = .ok (.ireturn, 1) := by decide +kernel
theorem dX7_act_31 : decode cX7_act 31 = .ok (.aload_n 0, 1) := by decide +kernel
theorem dX7_act_32 : decode cX7_act 32 = .ok (.getfield 29, 3) := by decide +kernel
theorem dX7_act_35 : decode cX7_act 35 = .ok (.bipush 8, 2) := by decide +kernel
theorem dX7_act_37 : decode cX7_act 37 = .ok (.laload, 1) := by decide +kernel
theorem dX7_act_38 : decode cX7_act 38 = .ok (.l2i, 1) := by decide +kernel
theorem dX7_act_39 : decode cX7_act 39 = .ok (.istore 4, 2) := by decide +kernel
theorem dX7_act_41 : decode cX7_act 41 = .ok (.iload 4, 2) := by decide +kernel
theorem dX7_act_43 : decode cX7_act 43 = .ok (.iconst 4, 1) := by decide +kernel
theorem dX7_act_44 : decode cX7_act 44 = .ok (.if_icmp .ne 6, 3) := by decide +kernel
theorem dX7_act_47 : decode cX7_act 47 = .ok (.bipush (-3), 2) := by decide +kernel
theorem dX7_act_49 : decode cX7_act 49 = .ok (.ireturn, 1) := by decide +kernel
theorem dX7_act_50 : decode cX7_act 50 = .ok (.aload_n 0, 1) := by decide +kernel
theorem dX7_act_51 : decode cX7_act 51 = .ok (.getfield 29, 3) := by decide +kernel
theorem dX7_act_54 : decode cX7_act 54 = .ok (.bipush 9, 2) := by decide +kernel
theorem dX7_act_56 : decode cX7_act 56 = .ok (.iconst 2, 1) := by decide +kernel
theorem dX7_act_57 : decode cX7_act 57 = .ok (.iload 4, 2) := by decide +kernel
theorem dX7_act_59 : decode cX7_act 59 = .ok (.imul, 1) := by decide +kernel
theorem dX7_act_60 : decode cX7_act 60 = .ok (.iadd, 1) := by decide +kernel
theorem dX7_act_61 : decode cX7_act 61 = .ok (.iload_n 1, 1) := by decide +kernel
theorem dX7_act_62 : decode cX7_act 62 = .ok (.i2l, 1) := by decide +kernel
theorem dX7_act_63 : decode cX7_act 63 = .ok (.lastore, 1) := by decide +kernel
theorem dX7_act_64 : decode cX7_act 64 = .ok (.aload_n 0, 1) := by decide +kernel
theorem dX7_act_65 : decode cX7_act 65 = .ok (.getfield 29, 3) := by decide +kernel
theorem dX7_act_68 : decode cX7_act 68 = .ok (.bipush 10, 2) := by decide +kernel
theorem dX7_act_70 : decode cX7_act 70 = .ok (.iconst 2, 1) := by decide +kernel
theorem dX7_act_71 : decode cX7_act 71 = .ok (.iload 4, 2) := by decide +kernel
theorem dX7_act_73 : decode cX7_act 73 = .ok (.imul, 1) := by decide +kernel
theorem dX7_act_74 : decode cX7_act 74 = .ok (.iadd, 1) := by decide +kernel
theorem dX7_act_75 : decode cX7_act 75 = .ok (.lload_n 2, 1) := by decide +kernel
theorem dX7_act_76 : decode cX7_act 76 = .ok (.lastore, 1) := by decide +kernel
theorem dX7_act_77 : decode cX7_act 77 = .ok (.aload_n 0, 1) := by decide +kernel
theorem dX7_act_78 : decode cX7_act 78 = .ok (.getfield 29, 3) := by decide +kernel
theorem dX7_act_81 : decode cX7_act 81 = .ok (.bipush 8, 2) := by decide +kernel
theorem dX7_act_83 : decode cX7_act 83 = .ok (.iload 4, 2) := by decide +kernel
theorem dX7_act_85 : decode cX7_act 85 = .ok (.iconst 1, 1) := by decide +kernel
theorem dX7_act_86 : decode cX7_act 86 = .ok (.iadd, 1) := by decide +kernel
theorem dX7_act_87 : decode cX7_act 87 = .ok (.i2l, 1) := by decide +kernel
theorem dX7_act_88 : decode cX7_act 88 = .ok (.lastore, 1) := by decide +kernel
theorem dX7_act_89 : decode cX7_act 89 = .ok (.iload 4, 2) := by decide +kernel
theorem dX7_act_91 : decode cX7_act 91 = .ok (.iconst 1, 1) := by decide +kernel
theorem dX7_act_92 : decode cX7_act 92 = .ok (.iadd, 1) := by decide +kernel
theorem dX7_act_93 : decode cX7_act 93 = .ok (.ireturn, 1) := by decide +kernel
set_option maxRecDepth 20000 in
theorem ggX7_add_X7_in : GoodIn wsX7_add wsX7_in := goodIn_r _ [8] (by decide +kernel) (by decide +kernel)
set_option maxRecDepth 20000 in
theorem gX7_add_X7_in : GoodIn wsX7_add (va_wsS RX7 48 yX7_in wsX7_in) := goodIn_app (goodIn_of _ (by decide +kernel)) ggX7_add_X7_in
theorem dX7_add_0 : decode cX7_add 0 = .ok (.iload_n 1, 1) := by decide +kernel
theorem dX7_add_1 : decode cX7_add 1 = .ok (.i2l, 1) := by decide +kernel
theorem dX7_add_2 : decode cX7_add 2 = .ok (.lconst 0, 1) := by decide +kernel
theorem dX7_add_3 : decode cX7_add 3 = .ok (.aload_n 0, 1) := by decide +kernel
theorem dX7_add_4 : decode cX7_add 4 = .ok (.getfield 68, 3) := by decide +kernel
theorem dX7_add_7 : decode cX7_add 7 = .ok (.iconst 1, 1) := by decide +kernel
theorem dX7_add_8 : decode cX7_add 8 = .ok (.isub, 1) := by decide +kernel
theorem dX7_add_9 : decode cX7_add 9 = .ok (.i2l, 1) := by decide +kernel
theorem dX7_add_10 : decode cX7_add 10 = .ok (.invokestatic 48, 3) := by decide +kernel
theorem dX7_add_13 : decode cX7_add 13 = .ok (.ifCond .ne 5, 3) := by decide +kernel
theorem dX7_add_16 : decode cX7_add 16 = .ok (.iconst (-1), 1) := by decide +kernel
theorem dX7_add_17 : decode cX7_add 17 = .ok (.ireturn, 1) := by decide +kernel
theorem dX7_add_18 : decode cX7_add 18 = .ok (.aload_n 0, 1) := by decide +kernel
theorem dX7_add_19 : decode cX7_add 19 = .ok (.getfield 82, 3) := by decide +kernel
theorem dX7_add_22 : decode cX7_add 22 = .ok (.ifCond .ne 6, 3) := by decide +kernel
theorem dX7_add_25 : decode cX7_add 25 = .ok (.bipush (-2), 2) := by decide +kernel
theorem dX7_add_27 : decode cX7_add 27 = .ok (.ireturn, 1) := by decide +kernel
theorem dX7_add_28 : decode cX7_add 28 = .ok (.aload_n 0, 1) := by decide +kernel
theorem dX7_add_29 : decode cX7_add 29 = .ok (.getfield 79, 3) := by decide +kernel
theorem dX7_add_32 : decode cX7_add 32 = .ok (.bipush 12, 2) := by decide +kernel
theorem dX7_add_34 : decode cX7_add 34 = .ok (.if_icmp .ne 6, 3) := by decide +kernel
theorem dX7_add_37 : decode cX7_add 37 = .ok (.bipush (-3), 2) := by decide +kernel
theorem dX7_add_39 : decode cX7_add 39 = .ok (.ireturn, 1) := by decide +kernel
theorem dX7_add_40 : decode cX7_add 40 = .ok (.aload_n 0, 1) := by decide +kernel
theorem dX7_add_41 : decode cX7_add 41 = .ok (.getfield 32, 3) := by decide +kernel
theorem dX7_add_44 : decode cX7_add 44 = .ok (.aload_n 0, 1) := by decide +kernel
theorem dX7_add_45 : decode cX7_add 45 = .ok (.getfield 79, 3) := by decide +kernel
theorem dX7_add_48 : decode cX7_add 48 = .ok (.iload_n 1, 1) := by decide +kernel
theorem dX7_add_49 : decode cX7_add 49 = .ok (.iastore, 1) := by decide +kernel
theorem dX7_add_50 : decode cX7_add 50 = .ok (.aload_n 0, 1) := by decide +kernel
theorem dX7_add_51 : decode cX7_add 51 = .ok (.dup, 1) := by decide +kernel
theorem dX7_add_52 : decode cX7_add 52 = .ok (.getfield 79, 3) := by decide +kernel
theorem dX7_add_55 : decode cX7_add 55 = .ok (.iconst 1, 1) := by decide +kernel
theorem dX7_add_56 : decode cX7_add 56 = .ok (.iadd, 1) := by decide +kernel
theorem dX7_add_57 : decode cX7_add 57 = .ok (.putfield 79, 3) := by decide +kernel
theorem dX7_add_60 : decode cX7_add 60 = .ok (.aload_n 0, 1) := by decide +kernel
theorem dX7_add_61 : decode cX7_add 61 = .ok (.getfield 79, 3) := by decide +kernel
theorem dX7_add_64 : decode cX7_add 64 = .ok (.ireturn, 1) := by decide +kernel
theorem dX7_digest_0 : decode cX7_digest 0 = .ok (.aload_n 0, 1) := by decide +kernel
theorem dX7_digest_1 : decode cX7_digest 1 = .ok (.getfield 82, 3) := by decide +kernel
theorem dX7_digest_4 : decode cX7_digest 4 = .ok (.ifCond .ne 5, 3) := by decide +kernel
theorem dX7_digest_7 : decode cX7_digest 7 = .ok (.lconst 0, 1) := by decide +kernel
theorem dX7_digest_8 : decode cX7_digest 8 = .ok (.lreturn, 1) := by decide +kernel
theorem dX7_digest_9 : decode cX7_digest 9 = .ok (.ldc2_w 90, 3) := by decide +kernel
theorem dX7_digest_12 : decode cX7_digest 12 = .ok (.lstore_n 1, 1) := by decide +kernel
theorem dX7_digest_13 : decode cX7_digest 13 = .ok (.iconst 0, 1) := by decide +kernel
theorem dX7_digest_14 : decode cX7_digest 14 = .ok (.istore_n 3, 1) := by decide +kernel
theorem dX7_digest_15 : decode cX7_digest 15 = .ok (.iload_n 3, 1) := by decide +kernel
theorem dX7_digest_16 : decode cX7_digest 16 = .ok (.bipush 7, 2) := by decide +kernel
theorem dX7_digest_18 : decode cX7_digest 18 = .ok (.if_icmp .ge 22, 3) := by decide +kernel
theorem dX7_digest_21 : decode cX7_digest 21 = .ok (.ldc2_w 92, 3) := by decide +kernel
theorem dX7_digest_24 : decode cX7_digest 24 = .ok (.lload_n 1, 1) := by decide +kernel
theorem dX7_digest_25 : decode cX7_digest 25 = .ok (.lmul, 1) := by decide +kernel
theorem dX7_digest_26 : decode cX7_digest 26 = .ok (.aload_n 0, 1) := by decide +kernel
theorem dX7_digest_27 : decode cX7_digest 27 = .ok (.getfield 29, 3) := by decide +kernel
theorem dX7_digest_30 : decode cX7_digest 30 = .ok (.iload_n 3, 1) := by decide +kernel
theorem dX7_digest_31 : decode cX7_digest 31 = .ok (.laload, 1) := by decide +kernel
theorem dX7_digest_32 : decode cX7_digest 32 = .ok (.ladd, 1) := by decide +kernel
theorem dX7_digest_33 : decode cX7_digest 33 = .ok (.lstore_n 1, 1) := by decide +kernel
theorem dX7_digest_34 : decode cX7_digest 34 = .ok (.iinc 3 1, 3) := by decide +kernel
theorem dX7_digest_37 : decode cX7_digest 37 = .ok (.goto (-22), 3) := by decide +kernel
theorem dX7_digest_40 : decode cX7_digest 40 = .ok (.iconst 0, 1) := by decide +kernel
theorem dX7_digest_41 : decode cX7_digest 41 = .ok (.istore_n 3, 1) := by decide +kernel
theorem dX7_digest_42 : decode cX7_digest 42 = .ok (.iload_n 3, 1) := by decide +kernel
theorem dX7_digest_43 : decode cX7_digest 43 = .ok (.i2l, 1) := by decide +kernel
theorem dX7_digest_44 : decode cX7_digest 44 = .ok (.ldc2_w 94, 3) := by decide +kernel
theorem dX7_digest_47 : decode cX7_digest 47 = .ok (.aload_n 0, 1) := by decide +kernel
theorem dX7_digest_48 : decode cX7_digest 48 = .ok (.getfield 29, 3) := by decide +kernel
theorem dX7_digest_51 : decode cX7_digest 51 = .ok (.bipush 8, 2) := by decide +kernel
theorem dX7_digest_53 : decode cX7_digest 53 = .ok (.laload, 1) := by decide +kernel
theorem dX7_digest_54 : decode cX7_digest 54 = .ok (.lmul, 1) := by decide +kernel
theorem dX7_digest_55 : decode cX7_digest 55 = .ok (.lcmp, 1) := by decide +kernel
theorem dX7_digest_56 : decode cX7_digest 56 = .ok (.ifCond .ge 25, 3) := by decide +kernel
theorem dX7_digest_59 : decode cX7_digest 59 = .ok (.ldc2_w 92, 3) := by decide +kernel
theorem dX7_digest_62 : decode cX7_digest 62 = .ok (.lload_n 1, 1) := by decide +kernel
theorem dX7_digest_63 : decode cX7_digest 63 = .ok (.lmul, 1) := by decide +kernel
theorem dX7_digest_64 : decode cX7_digest 64 = .ok (.aload_n 0, 1) := by decide +kernel
theorem dX7_digest_65 : decode cX7_digest 65 = .ok (.getfield 29, 3) := by decide +kernel
theorem dX7_digest_68 : decode cX7_digest 68 = .ok (.bipush 9, 2) := by decide +kernel
theorem dX7_digest_70 : decode cX7_digest 70 = .ok (.iload_n 3, 1) := by decide +kernel
theorem dX7_digest_71 : decode cX7_digest 71 = .ok (.iadd, 1) := by decide +kernel
theorem dX7_digest_72 : decode cX7_digest 72 = .ok (.laload, 1) := by decide +kernel
theorem dX7_digest_73 : decode cX7_digest 73 = .ok (.ladd, 1) := by decide +kernel
theorem dX7_digest_74 : decode cX7_digest 74 = .ok (.lstore_n 1, 1) := by decide +kernel
theorem dX7_digest_75 : decode cX7_digest 75 = .ok (.iinc 3 1, 3) := by decide +kernel
theorem dX7_digest_78 : decode cX7_digest 78 = .ok (.goto (-36), 3) := by decide +kernel
theorem dX7_digest_81 : decode cX7_digest 81 = .ok (.lload_n 1, 1) := by decide +kernel
theorem dX7_digest_82 : decode cX7_digest 82 = .ok (.lreturn, 1) := by decide +kernel
set_option maxRecDepth 20000 in
theorem ggX7_meets_X7_digest : GoodIn wsX7_meets wsX7_digest := goodIn_r _ [11, 12, 13, 14, 15, 16, 17, 18, 19, 20, 21, 22, 23, 24, 25, 26, 27, 28, 29, 30, 31, 32, 33, 34, 35, 36, 37] (by decide +kernel) (by decide +kernel)
set_option maxRecDepth 20000 in
theorem gX7_meets_X7_digest : GoodIn wsX7_meets (wsV RX7 96 RX7 yX7_digest wsX7_digest) := goodIn_app (goodIn_of _ (by decide +kernel)) ggX7_meets_X7_digest
theorem dX7_meets_0 : decode cX7_meets 0 = .ok (.aload_n 0, 1) := by decide +kernel
theorem dX7_meets_1 : decode cX7_meets 1 = .ok (.invokevirtual 96, 3) := by decide +kernel
theorem dX7_meets_4 : decode cX7_meets 4 = .ok (.lstore_n 2, 1) := by decide +kernel
theorem dX7_meets_5 : decode cX7_meets 5 = .ok (.iconst 0, 1) := by decide +kernel
theorem dX7_meets_6 : decode cX7_meets 6 = .ok (.istore 4, 2) := by decide +kernel
theorem dX7_meets_8 : decode cX7_meets 8 = .ok (.iconst 0, 1) := by decide +kernel
theorem dX7_meets_9 : decode cX7_meets 9 = .ok (.istore 5, 2) := by decide +kernel
theorem dX7_meets_11 : decode cX7_meets 11 = .ok (.iload 5, 2) := by decide +kernel
theorem dX7_meets_13 : decode cX7_meets 13 = .ok (.aload_n 0, 1) := by decide +kernel
theorem dX7_meets_14 : decode cX7_meets 14 = .ok (.getfield 79, 3) := by decide +kernel
theorem dX7_meets_17 : decode cX7_meets 17 = .ok (.if_icmp .ge 49, 3) := by decide +kernel
theorem dX7_meets_20 : decode cX7_meets 20 = .ok (.iload 4, 2) := by decide +kernel
theorem dX7_meets_22 : decode cX7_meets 22 = .ok (.aload_n 0, 1) := by decide +kernel
theorem dX7_meets_23 : decode cX7_meets 23 = .ok (.getfield 26, 3) := by decide +kernel
theorem dX7_meets_26 : decode cX7_meets 26 = .ok (.aload_n 0, 1) := by decide +kernel
theorem dX7_meets_27 : decode cX7_meets 27 = .ok (.getfield 32, 3) := by decide +kernel
theorem dX7_meets_30 : decode cX7_meets 30 = .ok (.iload 5, 2) := by decide +kernel
theorem dX7_meets_32 : decode cX7_meets 32 = .ok (.iaload, 1) := by decide +kernel
theorem dX7_meets_33 : decode cX7_meets 33 = .ok (.laload, 1) := by decide +kernel
theorem dX7_meets_34 : decode cX7_meets 34 = .ok (.lload_n 2, 1) := by decide +kernel
theorem dX7_meets_35 : decode cX7_meets 35 = .ok (.lcmp, 1) := by decide +kernel
theorem dX7_meets_36 : decode cX7_meets 36 = .ok (.ifCond .ne 20, 3) := by decide +kernel
theorem dX7_meets_39 : decode cX7_meets 39 = .ok (.iconst 1, 1) := by decide +kernel
theorem dX7_meets_40 : decode cX7_meets 40 = .ok (.aload_n 0, 1) := by decide +kernel
theorem dX7_meets_41 : decode cX7_meets 41 = .ok (.getfield 23, 3) := by decide +kernel
theorem dX7_meets_44 : decode cX7_meets 44 = .ok (.aload_n 0, 1) := by decide +kernel
theorem dX7_meets_45 : decode cX7_meets 45 = .ok (.getfield 32, 3) := by decide +kernel
theorem dX7_meets_48 : decode cX7_meets 48 = .ok (.iload 5, 2) := by decide +kernel
theorem dX7_meets_50 : decode cX7_meets 50 = .ok (.iaload, 1) := by decide +kernel
theorem dX7_meets_51 : decode cX7_meets 51 = .ok (.iaload, 1) := by decide +kernel
theorem dX7_meets_52 : decode cX7_meets 52 = .ok (.ishl, 1) := by decide +kernel
theorem dX7_meets_53 : decode cX7_meets 53 = .ok (.goto 4, 3) := by decide +kernel
theorem dX7_meets_56 : decode cX7_meets 56 = .ok (.iconst 0, 1) := by decide +kernel
theorem dX7_meets_57 : decode cX7_meets 57 = .ok (.ior, 1) := by decide +kernel
theorem dX7_meets_58 : decode cX7_meets 58 = .ok (.istore 4, 2) := by decide +kernel
theorem dX7_meets_60 : decode cX7_meets 60 = .ok (.iinc 5 1, 3) := by decide +kernel
theorem dX7_meets_63 : decode cX7_meets 63 = .ok (.goto (-52), 3) := by decide +kernel
theorem dX7_meets_66 : decode cX7_meets 66 = .ok (.iconst 0, 1) := by decide +kernel
theorem dX7_meets_67 : decode cX7_meets 67 = .ok (.istore 5, 2) := by decide +kernel
theorem dX7_meets_69 : decode cX7_meets 69 = .ok (.iconst 0, 1) := by decide +kernel
theorem dX7_meets_70 : decode cX7_meets 70 = .ok (.istore 6, 2) := by decide +kernel
theorem dX7_meets_72 : decode cX7_meets 72 = .ok (.iload 6, 2) := by decide +kernel
theorem dX7_meets_74 : decode cX7_meets 74 = .ok (.bipush 16, 2) := by decide +kernel
theorem dX7_meets_76 : decode cX7_meets 76 = .ok (.if_icmp .ge 31, 3) := by decide +kernel
theorem dX7_meets_79 : decode cX7_meets 79 = .ok (.iload 5, 2) := by decide +kernel
theorem dX7_meets_81 : decode cX7_meets 81 = .ok (.iload 4, 2) := by decide +kernel
theorem dX7_meets_83 : decode cX7_meets 83 = .ok (.iload 6, 2) := by decide +kernel
theorem dX7_meets_85 : decode cX7_meets 85 = .ok (.ishr, 1) := by decide +kernel
theorem dX7_meets_86 : decode cX7_meets 86 = .ok (.aload_n 0, 1) := by decide +kernel
theorem dX7_meets_87 : decode cX7_meets 87 = .ok (.getfield 17, 3) := by decide +kernel
theorem dX7_meets_90 : decode cX7_meets 90 = .ok (.iload_n 1, 1) := by decide +kernel
theorem dX7_meets_91 : decode cX7_meets 91 = .ok (.iaload, 1) := by decide +kernel
theorem dX7_meets_92 : decode cX7_meets 92 = .ok (.iload 6, 2) := by decide +kernel
theorem dX7_meets_94 : decode cX7_meets 94 = .ok (.ishr, 1) := by decide +kernel
theorem dX7_meets_95 : decode cX7_meets 95 = .ok (.iand, 1) := by decide +kernel
theorem dX7_meets_96 : decode cX7_meets 96 = .ok (.iconst 1, 1) := by decide +kernel
theorem dX7_meets_97 : decode cX7_meets 97 = .ok (.iand, 1) := by decide +kernel
theorem dX7_meets_98 : decode cX7_meets 98 = .ok (.iadd, 1) := by decide +kernel
theorem dX7_meets_99 : decode cX7_meets 99 = .ok (.istore 5, 2) := by decide +kernel
theorem dX7_meets_101 : decode cX7_meets 101 = .ok (.iinc 6 1, 3) := by decide +kernel
theorem dX7_meets_104 : decode cX7_meets 104 = .ok (.goto (-32), 3) := by decide +kernel
theorem dX7_meets_107 : decode cX7_meets 107 = .ok (.iload 5, 2) := by decide +kernel
theorem dX7_meets_109 : decode cX7_meets 109 = .ok (.aload_n 0, 1) := by decide +kernel
theorem dX7_meets_110 : decode cX7_meets 110 = .ok (.getfield 20, 3) := by decide +kernel
theorem dX7_meets_113 : decode cX7_meets 113 = .ok (.iload_n 1, 1) := by decide +kernel
theorem dX7_meets_114 : decode cX7_meets 114 = .ok (.iaload, 1) := by decide +kernel
theorem dX7_meets_115 : decode cX7_meets 115 = .ok (.if_icmp .lt 7, 3) := by decide +kernel
theorem dX7_meets_118 : decode cX7_meets 118 = .ok (.iconst 1, 1) := by decide +kernel
theorem dX7_meets_119 : decode cX7_meets 119 = .ok (.goto 4, 3) := by decide +kernel
theorem dX7_meets_122 : decode cX7_meets 122 = .ok (.iconst 0, 1) := by decide +kernel
theorem dX7_meets_123 : decode cX7_meets 123 = .ok (.ireturn, 1) := by decide +kernel
theorem dX7_payer_0 : decode cX7_payer 0 = .ok (.lload_n 2, 1) := by decide +kernel
theorem dX7_payer_1 : decode cX7_payer 1 = .ok (.lconst 0, 1) := by decide +kernel
theorem dX7_payer_2 : decode cX7_payer 2 = .ok (.lcmp, 1) := by decide +kernel
theorem dX7_payer_3 : decode cX7_payer 3 = .ok (.ifCond .ge 7, 3) := by decide +kernel
theorem dX7_payer_6 : decode cX7_payer 6 = .ok (.lload_n 0, 1) := by decide +kernel
theorem dX7_payer_7 : decode cX7_payer 7 = .ok (.goto 4, 3) := by decide +kernel
theorem dX7_payer_10 : decode cX7_payer 10 = .ok (.lload_n 2, 1) := by decide +kernel
theorem dX7_payer_11 : decode cX7_payer 11 = .ok (.l2i, 1) := by decide +kernel
theorem dX7_payer_12 : decode cX7_payer 12 = .ok (.ireturn, 1) := by decide +kernel
theorem dX7_sameCall_0 : decode cX7_sameCall 0 = .ok (.iconst 0, 1) := by decide +kernel
theorem dX7_sameCall_1 : decode cX7_sameCall 1 = .ok (.istore_n 1, 1) := by decide +kernel
theorem dX7_sameCall_2 : decode cX7_sameCall 2 = .ok (.iconst 1, 1) := by decide +kernel
theorem dX7_sameCall_3 : decode cX7_sameCall 3 = .ok (.istore_n 2, 1) := by decide +kernel
theorem dX7_sameCall_4 : decode cX7_sameCall 4 = .ok (.iload_n 2, 1) := by decide +kernel
theorem dX7_sameCall_5 : decode cX7_sameCall 5 = .ok (.aload_n 0, 1) := by decide +kernel
theorem dX7_sameCall_6 : decode cX7_sameCall 6 = .ok (.getfield 100, 3) := by decide +kernel
theorem dX7_sameCall_9 : decode cX7_sameCall 9 = .ok (.if_icmp .gt 57, 3) := by decide +kernel
theorem dX7_sameCall_12 : decode cX7_sameCall 12 = .ok (.aload_n 0, 1) := by decide +kernel
theorem dX7_sameCall_13 : decode cX7_sameCall 13 = .ok (.getfield 29, 3) := by decide +kernel
theorem dX7_sameCall_16 : decode cX7_sameCall 16 = .ok (.bipush 17, 2) := by decide +kernel
theorem dX7_sameCall_18 : decode cX7_sameCall 18 = .ok (.iload_n 2, 1) := by decide +kernel
theorem dX7_sameCall_19 : decode cX7_sameCall 19 = .ok (.imul, 1) := by decide +kernel
theorem dX7_sameCall_20 : decode cX7_sameCall 20 = .ok (.iconst 0, 1) := by decide +kernel
theorem dX7_sameCall_21 : decode cX7_sameCall 21 = .ok (.iadd, 1) := by decide +kernel
theorem dX7_sameCall_22 : decode cX7_sameCall 22 = .ok (.laload, 1) := by decide +kernel
theorem dX7_sameCall_23 : decode cX7_sameCall 23 = .ok (.aload_n 0, 1) := by decide +kernel
theorem dX7_sameCall_24 : decode cX7_sameCall 24 = .ok (.getfield 29, 3) := by decide +kernel
theorem dX7_sameCall_27 : decode cX7_sameCall 27 = .ok (.iconst 0, 1) := by decide +kernel
theorem dX7_sameCall_28 : decode cX7_sameCall 28 = .ok (.laload, 1) := by decide +kernel
theorem dX7_sameCall_29 : decode cX7_sameCall 29 = .ok (.lcmp, 1) := by decide +kernel
theorem dX7_sameCall_30 : decode cX7_sameCall 30 = .ok (.ifCond .ne 28, 3) := by decide +kernel
theorem dX7_sameCall_33 : decode cX7_sameCall 33 = .ok (.aload_n 0, 1) := by decide +kernel
theorem dX7_sameCall_34 : decode cX7_sameCall 34 = .ok (.getfield 29, 3) := by decide +kernel
theorem dX7_sameCall_37 : decode cX7_sameCall 37 = .ok (.bipush 17, 2) := by decide +kernel
theorem dX7_sameCall_39 : decode cX7_sameCall 39 = .ok (.iload_n 2, 1) := by decide +kernel
theorem dX7_sameCall_40 : decode cX7_sameCall 40 = .ok (.imul, 1) := by decide +kernel
theorem dX7_sameCall_41 : decode cX7_sameCall 41 = .ok (.iconst 1, 1) := by decide +kernel
theorem dX7_sameCall_42 : decode cX7_sameCall 42 = .ok (.iadd, 1) := by decide +kernel
theorem dX7_sameCall_43 : decode cX7_sameCall 43 = .ok (.laload, 1) := by decide +kernel
theorem dX7_sameCall_44 : decode cX7_sameCall 44 = .ok (.aload_n 0, 1) := by decide +kernel
theorem dX7_sameCall_45 : decode cX7_sameCall 45 = .ok (.getfield 29, 3) := by decide +kernel
theorem dX7_sameCall_48 : decode cX7_sameCall 48 = .ok (.iconst 1, 1) := by decide +kernel
theorem dX7_sameCall_49 : decode cX7_sameCall 49 = .ok (.laload, 1) := by decide +kernel
theorem dX7_sameCall_50 : decode cX7_sameCall 50 = .ok (.lcmp, 1) := by decide +kernel
theorem dX7_sameCall_51 : decode cX7_sameCall 51 = .ok (.ifCond .ne 7, 3) := by decide +kernel
theorem dX7_sameCall_54 : decode cX7_sameCall 54 = .ok (.iload_n 2, 1) := by decide +kernel
theorem dX7_sameCall_55 : decode cX7_sameCall 55 = .ok (.goto 4, 3) := by decide +kernel
theorem dX7_sameCall_58 : decode cX7_sameCall 58 = .ok (.iload_n 1, 1) := by decide +kernel
theorem dX7_sameCall_59 : decode cX7_sameCall 59 = .ok (.istore_n 1, 1) := by decide +kernel
theorem dX7_sameCall_60 : decode cX7_sameCall 60 = .ok (.iinc 2 1, 3) := by decide +kernel
theorem dX7_sameCall_63 : decode cX7_sameCall 63 = .ok (.goto (-59), 3) := by decide +kernel
theorem dX7_sameCall_66 : decode cX7_sameCall 66 = .ok (.iload_n 1, 1) := by decide +kernel
theorem dX7_sameCall_67 : decode cX7_sameCall 67 = .ok (.ireturn, 1) := by decide +kernel
theorem dX7_cheapest_0 : decode cX7_cheapest 0 = .ok (.iconst 1, 1) := by decide +kernel
theorem dX7_cheapest_1 : decode cX7_cheapest 1 = .ok (.istore_n 1, 1) := by decide +kernel
theorem dX7_cheapest_2 : decode cX7_cheapest 2 = .ok (.iconst 2, 1) := by decide +kernel
theorem dX7_cheapest_3 : decode cX7_cheapest 3 = .ok (.istore_n 2, 1) := by decide +kernel
theorem dX7_cheapest_4 : decode cX7_cheapest 4 = .ok (.iload_n 2, 1) := by decide +kernel
theorem dX7_cheapest_5 : decode cX7_cheapest 5 = .ok (.aload_n 0, 1) := by decide +kernel
theorem dX7_cheapest_6 : decode cX7_cheapest 6 = .ok (.getfield 100, 3) := by decide +kernel
theorem dX7_cheapest_9 : decode cX7_cheapest 9 = .ok (.if_icmp .gt 41, 3) := by decide +kernel
theorem dX7_cheapest_12 : decode cX7_cheapest 12 = .ok (.aload_n 0, 1) := by decide +kernel
theorem dX7_cheapest_13 : decode cX7_cheapest 13 = .ok (.getfield 29, 3) := by decide +kernel
theorem dX7_cheapest_16 : decode cX7_cheapest 16 = .ok (.bipush 17, 2) := by decide +kernel
theorem dX7_cheapest_18 : decode cX7_cheapest 18 = .ok (.iload_n 2, 1) := by decide +kernel
theorem dX7_cheapest_19 : decode cX7_cheapest 19 = .ok (.imul, 1) := by decide +kernel
theorem dX7_cheapest_20 : decode cX7_cheapest 20 = .ok (.iconst 2, 1) := by decide +kernel
theorem dX7_cheapest_21 : decode cX7_cheapest 21 = .ok (.iadd, 1) := by decide +kernel
theorem dX7_cheapest_22 : decode cX7_cheapest 22 = .ok (.laload, 1) := by decide +kernel
theorem dX7_cheapest_23 : decode cX7_cheapest 23 = .ok (.aload_n 0, 1) := by decide +kernel
theorem dX7_cheapest_24 : decode cX7_cheapest 24 = .ok (.getfield 29, 3) := by decide +kernel
theorem dX7_cheapest_27 : decode cX7_cheapest 27 = .ok (.bipush 17, 2) := by decide +kernel
theorem dX7_cheapest_29 : decode cX7_cheapest 29 = .ok (.iload_n 1, 1) := by decide +kernel
theorem dX7_cheapest_30 : decode cX7_cheapest 30 = .ok (.imul, 1) := by decide +kernel
theorem dX7_cheapest_31 : decode cX7_cheapest 31 = .ok (.iconst 2, 1) := by decide +kernel
theorem dX7_cheapest_32 : decode cX7_cheapest 32 = .ok (.iadd, 1) := by decide +kernel
theorem dX7_cheapest_33 : decode cX7_cheapest 33 = .ok (.laload, 1) := by decide +kernel
theorem dX7_cheapest_34 : decode cX7_cheapest 34 = .ok (.lcmp, 1) := by decide +kernel
theorem dX7_cheapest_35 : decode cX7_cheapest 35 = .ok (.ifCond .gt 7, 3) := by decide +kernel
theorem dX7_cheapest_38 : decode cX7_cheapest 38 = .ok (.iload_n 2, 1) := by decide +kernel
theorem dX7_cheapest_39 : decode cX7_cheapest 39 = .ok (.goto 4, 3) := by decide +kernel
theorem dX7_cheapest_42 : decode cX7_cheapest 42 = .ok (.iload_n 1, 1) := by decide +kernel
theorem dX7_cheapest_43 : decode cX7_cheapest 43 = .ok (.istore_n 1, 1) := by decide +kernel
theorem dX7_cheapest_44 : decode cX7_cheapest 44 = .ok (.iinc 2 1, 3) := by decide +kernel
theorem dX7_cheapest_47 : decode cX7_cheapest 47 = .ok (.goto (-43), 3) := by decide +kernel
theorem dX7_cheapest_50 : decode cX7_cheapest 50 = .ok (.iload_n 1, 1) := by decide +kernel
theorem dX7_cheapest_51 : decode cX7_cheapest 51 = .ok (.ireturn, 1) := by decide +kernel
set_option maxRecDepth 20000 in
theorem ggX7_refusedBy_X7_meets : GoodIn wsX7_refusedBy wsX7_meets := goodIn_r _ [11, 12, 13, 14, 15, 16, 17, 18, 19, 20, 10, 21, 22, 23, 24, 1, 25, 33, 34, 35, 36, 37, 38, 39, 40, 41, 42, 43, 44, 45, 46, 47, 48, 49, 50, 51, 52, 53] (by decide +kernel) (by decide +kernel)
set_option maxRecDepth 20000 in
theorem gX7_refusedBy_X7_meets : GoodIn wsX7_refusedBy (wsV RX7 106 RX7 yX7_meets wsX7_meets) := goodIn_app (goodIn_of _ (by decide +kernel)) ggX7_refusedBy_X7_meets
set_option maxRecDepth 20000 in
theorem ggX7_refusedBy_X7_payer : GoodIn wsX7_refusedBy wsX7_payer := goodIn_r _ [28] (by decide +kernel) (by decide +kernel)
set_option maxRecDepth 20000 in
theorem gX7_refusedBy_X7_payer : GoodIn wsX7_refusedBy (va_wsS RX7 109 yX7_payer wsX7_payer) := goodIn_app (goodIn_of _ (by decide +kernel)) ggX7_refusedBy_X7_payer
set_option maxRecDepth 20000 in
theorem ggX7_refusedBy_X7_cheapest : GoodIn wsX7_refusedBy wsX7_cheapest := goodIn_r _ [32, 6, 1, 33, 34, 35, 36, 37, 38, 39, 40, 41, 42, 43, 44, 45, 46, 47, 48, 49, 50, 51, 52, 53] (by decide +kernel) (by decide +kernel)
set_option maxRecDepth 20000 in
theorem gX7_refusedBy_X7_cheapest : GoodIn wsX7_refusedBy (wsV RX7 113 RX7 yX7_cheapest wsX7_cheapest) := goodIn_app (goodIn_of _ (by decide +kernel)) ggX7_refusedBy_X7_cheapest
theorem dX7_refusedBy_0 : decode cX7_refusedBy 0 = .ok (.aload_n 0, 1) := by decide +kernel
theorem dX7_refusedBy_1 : decode cX7_refusedBy 1 = .ok (.getfield 29, 3) := by decide +kernel
theorem dX7_refusedBy_4 : decode cX7_refusedBy 4 = .ok (.iconst 0, 1) := by decide +kernel
theorem dX7_refusedBy_5 : decode cX7_refusedBy 5 = .ok (.laload, 1) := by decide +kernel
theorem dX7_refusedBy_6 : decode cX7_refusedBy 6 = .ok (.l2i, 1) := by decide +kernel
theorem dX7_refusedBy_7 : decode cX7_refusedBy 7 = .ok (.istore_n 2, 1) := by decide +kernel
theorem dX7_refusedBy_8 : decode cX7_refusedBy 8 = .ok (.aload_n 0, 1) := by decide +kernel
theorem dX7_refusedBy_9 : decode cX7_refusedBy 9 = .ok (.getfield 29, 3) := by decide +kernel
theorem dX7_refusedBy_12 : decode cX7_refusedBy 12 = .ok (.bipush 6, 2) := by decide +kernel
theorem dX7_refusedBy_14 : decode cX7_refusedBy 14 = .ok (.laload, 1) := by decide +kernel
theorem dX7_refusedBy_15 : decode cX7_refusedBy 15 = .ok (.l2i, 1) := by decide +kernel
theorem dX7_refusedBy_16 : decode cX7_refusedBy 16 = .ok (.istore_n 3, 1) := by decide +kernel
theorem dX7_refusedBy_17 : decode cX7_refusedBy 17 = .ok (.aload_n 0, 1) := by decide +kernel
theorem dX7_refusedBy_18 : decode cX7_refusedBy 18 = .ok (.getfield 29, 3) := by decide +kernel
theorem dX7_refusedBy_21 : decode cX7_refusedBy 21 = .ok (.bipush 8, 2) := by decide +kernel
theorem dX7_refusedBy_23 : decode cX7_refusedBy 23 = .ok (.laload, 1) := by decide +kernel
theorem dX7_refusedBy_24 : decode cX7_refusedBy 24 = .ok (.lconst 0, 1) := by decide +kernel
theorem dX7_refusedBy_25 : decode cX7_refusedBy 25 = .ok (.lcmp, 1) := by decide +kernel
theorem dX7_refusedBy_26 : decode cX7_refusedBy 26 = .ok (.ifCond .ne 5, 3) := by decide +kernel
theorem dX7_refusedBy_29 : decode cX7_refusedBy 29 = .ok (.iconst 1, 1) := by decide +kernel
theorem dX7_refusedBy_30 : decode cX7_refusedBy 30 = .ok (.ireturn, 1) := by decide +kernel
theorem dX7_refusedBy_31 : decode cX7_refusedBy 31 = .ok (.aload_n 0, 1) := by decide +kernel
theorem dX7_refusedBy_32 : decode cX7_refusedBy 32 = .ok (.getfield 29, 3) := by decide +kernel
theorem dX7_refusedBy_35 : decode cX7_refusedBy 35 = .ok (.iconst 4, 1) := by decide +kernel
theorem dX7_refusedBy_36 : decode cX7_refusedBy 36 = .ok (.laload, 1) := by decide +kernel
theorem dX7_refusedBy_37 : decode cX7_refusedBy 37 = .ok (.aload_n 0, 1) := by decide +kernel
theorem dX7_refusedBy_38 : decode cX7_refusedBy 38 = .ok (.getfield 103, 3) := by decide +kernel
theorem dX7_refusedBy_41 : decode cX7_refusedBy 41 = .ok (.i2l, 1) := by decide +kernel
theorem dX7_refusedBy_42 : decode cX7_refusedBy 42 = .ok (.lcmp, 1) := by decide +kernel
theorem dX7_refusedBy_43 : decode cX7_refusedBy 43 = .ok (.ifCond .ge 5, 3) := by decide +kernel
theorem dX7_refusedBy_46 : decode cX7_refusedBy 46 = .ok (.iconst 2, 1) := by decide +kernel
theorem dX7_refusedBy_47 : decode cX7_refusedBy 47 = .ok (.ireturn, 1) := by decide +kernel
theorem dX7_refusedBy_48 : decode cX7_refusedBy 48 = .ok (.aload_n 0, 1) := by decide +kernel
theorem dX7_refusedBy_49 : decode cX7_refusedBy 49 = .ok (.getfield 29, 3) := by decide +kernel
theorem dX7_refusedBy_52 : decode cX7_refusedBy 52 = .ok (.iconst 1, 1) := by decide +kernel
theorem dX7_refusedBy_53 : decode cX7_refusedBy 53 = .ok (.laload, 1) := by decide +kernel
theorem dX7_refusedBy_54 : decode cX7_refusedBy 54 = .ok (.aload_n 0, 1) := by decide +kernel
theorem dX7_refusedBy_55 : decode cX7_refusedBy 55 = .ok (.getfield 13, 3) := by decide +kernel
theorem dX7_refusedBy_58 : decode cX7_refusedBy 58 = .ok (.iload_n 2, 1) := by decide +kernel
theorem dX7_refusedBy_59 : decode cX7_refusedBy 59 = .ok (.iaload, 1) := by decide +kernel
theorem dX7_refusedBy_60 : decode cX7_refusedBy 60 = .ok (.i2l, 1) := by decide +kernel
theorem dX7_refusedBy_61 : decode cX7_refusedBy 61 = .ok (.lcmp, 1) := by decide +kernel
theorem dX7_refusedBy_62 : decode cX7_refusedBy 62 = .ok (.ifCond .ge 5, 3) := by decide +kernel
theorem dX7_refusedBy_65 : decode cX7_refusedBy 65 = .ok (.iconst 3, 1) := by decide +kernel
theorem dX7_refusedBy_66 : decode cX7_refusedBy 66 = .ok (.ireturn, 1) := by decide +kernel
theorem dX7_refusedBy_67 : decode cX7_refusedBy 67 = .ok (.aload_n 0, 1) := by decide +kernel
theorem dX7_refusedBy_68 : decode cX7_refusedBy 68 = .ok (.iload_n 2, 1) := by decide +kernel
theorem dX7_refusedBy_69 : decode cX7_refusedBy 69 = .ok (.invokevirtual 106, 3) := by decide +kernel
theorem dX7_refusedBy_72 : decode cX7_refusedBy 72 = .ok (.ifCond .ne 5, 3) := by decide +kernel
theorem dX7_refusedBy_75 : decode cX7_refusedBy 75 = .ok (.iconst 4, 1) := by decide +kernel
theorem dX7_refusedBy_76 : decode cX7_refusedBy 76 = .ok (.ireturn, 1) := by decide +kernel
theorem dX7_refusedBy_77 : decode cX7_refusedBy 77 = .ok (.iload_n 3, 1) := by decide +kernel
theorem dX7_refusedBy_78 : decode cX7_refusedBy 78 = .ok (.ifCond .lt 13, 3) := by decide +kernel
theorem dX7_refusedBy_81 : decode cX7_refusedBy 81 = .ok (.aload_n 0, 1) := by decide +kernel
theorem dX7_refusedBy_82 : decode cX7_refusedBy 82 = .ok (.iload_n 3, 1) := by decide +kernel
theorem dX7_refusedBy_83 : decode cX7_refusedBy 83 = .ok (.invokevirtual 106, 3) := by decide +kernel
theorem dX7_refusedBy_86 : decode cX7_refusedBy 86 = .ok (.ifCond .ne 5, 3) := by decide +kernel
theorem dX7_refusedBy_89 : decode cX7_refusedBy 89 = .ok (.iconst 5, 1) := by decide +kernel
theorem dX7_refusedBy_90 : decode cX7_refusedBy 90 = .ok (.ireturn, 1) := by decide +kernel
theorem dX7_refusedBy_91 : decode cX7_refusedBy 91 = .ok (.aload_n 0, 1) := by decide +kernel
theorem dX7_refusedBy_92 : decode cX7_refusedBy 92 = .ok (.getfield 7, 3) := by decide +kernel
theorem dX7_refusedBy_95 : decode cX7_refusedBy 95 = .ok (.iload_n 2, 1) := by decide +kernel
theorem dX7_refusedBy_96 : decode cX7_refusedBy 96 = .ok (.i2l, 1) := by decide +kernel
theorem dX7_refusedBy_97 : decode cX7_refusedBy 97 = .ok (.iload_n 3, 1) := by decide +kernel
theorem dX7_refusedBy_98 : decode cX7_refusedBy 98 = .ok (.i2l, 1) := by decide +kernel
theorem dX7_refusedBy_99 : decode cX7_refusedBy 99 = .ok (.invokestatic 109, 3) := by decide +kernel
theorem dX7_refusedBy_102 : decode cX7_refusedBy 102 = .ok (.laload, 1) := by decide +kernel
theorem dX7_refusedBy_103 : decode cX7_refusedBy 103 = .ok (.aload_n 0, 1) := by decide +kernel
theorem dX7_refusedBy_104 : decode cX7_refusedBy 104 = .ok (.getfield 29, 3) := by decide +kernel
theorem dX7_refusedBy_107 : decode cX7_refusedBy 107 = .ok (.iconst 2, 1) := by decide +kernel
theorem dX7_refusedBy_108 : decode cX7_refusedBy 108 = .ok (.laload, 1) := by decide +kernel
theorem dX7_refusedBy_109 : decode cX7_refusedBy 109 = .ok (.aload_n 0, 1) := by decide +kernel
theorem dX7_refusedBy_110 : decode cX7_refusedBy 110 = .ok (.getfield 29, 3) := by decide +kernel
theorem dX7_refusedBy_113 : decode cX7_refusedBy 113 = .ok (.iconst 3, 1) := by decide +kernel
theorem dX7_refusedBy_114 : decode cX7_refusedBy 114 = .ok (.laload, 1) := by decide +kernel
theorem dX7_refusedBy_115 : decode cX7_refusedBy 115 = .ok (.lmul, 1) := by decide +kernel
theorem dX7_refusedBy_116 : decode cX7_refusedBy 116 = .ok (.lcmp, 1) := by decide +kernel
theorem dX7_refusedBy_117 : decode cX7_refusedBy 117 = .ok (.ifCond .ge 6, 3) := by decide +kernel
theorem dX7_refusedBy_120 : decode cX7_refusedBy 120 = .ok (.bipush 6, 2) := by decide +kernel
theorem dX7_refusedBy_122 : decode cX7_refusedBy 122 = .ok (.ireturn, 1) := by decide +kernel
theorem dX7_refusedBy_123 : decode cX7_refusedBy 123 = .ok (.iload_n 1, 1) := by decide +kernel
theorem dX7_refusedBy_124 : decode cX7_refusedBy 124 = .ok (.ifCond .le 37, 3) := by decide +kernel
theorem dX7_refusedBy_127 : decode cX7_refusedBy 127 = .ok (.aload_n 0, 1) := by decide +kernel
theorem dX7_refusedBy_128 : decode cX7_refusedBy 128 = .ok (.getfield 29, 3) := by decide +kernel
theorem dX7_refusedBy_131 : decode cX7_refusedBy 131 = .ok (.iconst 2, 1) := by decide +kernel
theorem dX7_refusedBy_132 : decode cX7_refusedBy 132 = .ok (.laload, 1) := by decide +kernel
theorem dX7_refusedBy_133 : decode cX7_refusedBy 133 = .ok (.aload_n 0, 1) := by decide +kernel
theorem dX7_refusedBy_134 : decode cX7_refusedBy 134 = .ok (.getfield 29, 3) := by decide +kernel
theorem dX7_refusedBy_137 : decode cX7_refusedBy 137 = .ok (.bipush 17, 2) := by decide +kernel
theorem dX7_refusedBy_139 : decode cX7_refusedBy 139 = .ok (.iload_n 1, 1) := by decide +kernel
theorem dX7_refusedBy_140 : decode cX7_refusedBy 140 = .ok (.imul, 1) := by decide +kernel
theorem dX7_refusedBy_141 : decode cX7_refusedBy 141 = .ok (.iconst 2, 1) := by decide +kernel
theorem dX7_refusedBy_142 : decode cX7_refusedBy 142 = .ok (.iadd, 1) := by decide +kernel
theorem dX7_refusedBy_143 : decode cX7_refusedBy 143 = .ok (.laload, 1) := by decide +kernel
theorem dX7_refusedBy_144 : decode cX7_refusedBy 144 = .ok (.aload_n 0, 1) := by decide +kernel
theorem dX7_refusedBy_145 : decode cX7_refusedBy 145 = .ok (.getfield 35, 3) := by decide +kernel
theorem dX7_refusedBy_148 : decode cX7_refusedBy 148 = .ok (.i2l, 1) := by decide +kernel
theorem dX7_refusedBy_149 : decode cX7_refusedBy 149 = .ok (.ladd, 1) := by decide +kernel
theorem dX7_refusedBy_150 : decode cX7_refusedBy 150 = .ok (.lcmp, 1) := by decide +kernel
theorem dX7_refusedBy_151 : decode cX7_refusedBy 151 = .ok (.ifCond .ge 8, 3) := by decide +kernel
theorem dX7_refusedBy_154 : decode cX7_refusedBy 154 = .ok (.bipush 7, 2) := by decide +kernel
theorem dX7_refusedBy_156 : decode cX7_refusedBy 156 = .ok (.goto 4, 3) := by decide +kernel
theorem dX7_refusedBy_159 : decode cX7_refusedBy 159 = .ok (.iconst 0, 1) := by decide +kernel
theorem dX7_refusedBy_160 : decode cX7_refusedBy 160 = .ok (.ireturn, 1) := by decide +kernel
theorem dX7_refusedBy_161 : decode cX7_refusedBy 161 = .ok (.aload_n 0, 1) := by decide +kernel
theorem dX7_refusedBy_162 : decode cX7_refusedBy 162 = .ok (.getfield 100, 3) := by decide +kernel
theorem dX7_refusedBy_165 : decode cX7_refusedBy 165 = .ok (.bipush 24, 2) := by decide +kernel
theorem dX7_refusedBy_167 : decode cX7_refusedBy 167 = .ok (.if_icmp .ne 32, 3) := by decide +kernel
theorem dX7_refusedBy_170 : decode cX7_refusedBy 170 = .ok (.aload_n 0, 1) := by decide +kernel
theorem dX7_refusedBy_171 : decode cX7_refusedBy 171 = .ok (.getfield 29, 3) := by decide +kernel
theorem dX7_refusedBy_174 : decode cX7_refusedBy 174 = .ok (.iconst 2, 1) := by decide +kernel
theorem dX7_refusedBy_175 : decode cX7_refusedBy 175 = .ok (.laload, 1) := by decide +kernel
theorem dX7_refusedBy_176 : decode cX7_refusedBy 176 = .ok (.aload_n 0, 1) := by decide +kernel
theorem dX7_refusedBy_177 : decode cX7_refusedBy 177 = .ok (.getfield 29, 3) := by decide +kernel
theorem dX7_refusedBy_180 : decode cX7_refusedBy 180 = .ok (.bipush 17, 2) := by decide +kernel
theorem dX7_refusedBy_182 : decode cX7_refusedBy 182 = .ok (.aload_n 0, 1) := by decide +kernel
theorem dX7_refusedBy_183 : decode cX7_refusedBy 183 = .ok (.invokevirtual 113, 3) := by decide +kernel
theorem dX7_refusedBy_186 : decode cX7_refusedBy 186 = .ok (.imul, 1) := by decide +kernel
theorem dX7_refusedBy_187 : decode cX7_refusedBy 187 = .ok (.iconst 2, 1) := by decide +kernel
theorem dX7_refusedBy_188 : decode cX7_refusedBy 188 = .ok (.iadd, 1) := by decide +kernel
theorem dX7_refusedBy_189 : decode cX7_refusedBy 189 = .ok (.laload, 1) := by decide +kernel
theorem dX7_refusedBy_190 : decode cX7_refusedBy 190 = .ok (.lcmp, 1) := by decide +kernel
theorem dX7_refusedBy_191 : decode cX7_refusedBy 191 = .ok (.ifCond .gt 8, 3) := by decide +kernel
theorem dX7_refusedBy_194 : decode cX7_refusedBy 194 = .ok (.bipush 8, 2) := by decide +kernel
theorem dX7_refusedBy_196 : decode cX7_refusedBy 196 = .ok (.goto 4, 3) := by decide +kernel
theorem dX7_refusedBy_199 : decode cX7_refusedBy 199 = .ok (.iconst 0, 1) := by decide +kernel
theorem dX7_refusedBy_200 : decode cX7_refusedBy 200 = .ok (.ireturn, 1) := by decide +kernel
theorem dX7_takeOut_0 : decode cX7_takeOut 0 = .ok (.bipush 17, 2) := by decide +kernel
theorem dX7_takeOut_2 : decode cX7_takeOut 2 = .ok (.iload_n 1, 1) := by decide +kernel
theorem dX7_takeOut_3 : decode cX7_takeOut 3 = .ok (.imul, 1) := by decide +kernel
theorem dX7_takeOut_4 : decode cX7_takeOut 4 = .ok (.istore_n 2, 1) := by decide +kernel
theorem dX7_takeOut_5 : decode cX7_takeOut 5 = .ok (.iload_n 2, 1) := by decide +kernel
theorem dX7_takeOut_6 : decode cX7_takeOut 6 = .ok (.bipush 17, 2) := by decide +kernel
theorem dX7_takeOut_8 : decode cX7_takeOut 8 = .ok (.aload_n 0, 1) := by decide +kernel
theorem dX7_takeOut_9 : decode cX7_takeOut 9 = .ok (.getfield 100, 3) := by decide +kernel
theorem dX7_takeOut_12 : decode cX7_takeOut 12 = .ok (.imul, 1) := by decide +kernel
theorem dX7_takeOut_13 : decode cX7_takeOut 13 = .ok (.if_icmp .ge 24, 3) := by decide +kernel
theorem dX7_takeOut_16 : decode cX7_takeOut 16 = .ok (.aload_n 0, 1) := by decide +kernel
theorem dX7_takeOut_17 : decode cX7_takeOut 17 = .ok (.getfield 29, 3) := by decide +kernel
theorem dX7_takeOut_20 : decode cX7_takeOut 20 = .ok (.iload_n 2, 1) := by decide +kernel
theorem dX7_takeOut_21 : decode cX7_takeOut 21 = .ok (.aload_n 0, 1) := by decide +kernel
theorem dX7_takeOut_22 : decode cX7_takeOut 22 = .ok (.getfield 29, 3) := by decide +kernel
theorem dX7_takeOut_25 : decode cX7_takeOut 25 = .ok (.iload_n 2, 1) := by decide +kernel
theorem dX7_takeOut_26 : decode cX7_takeOut 26 = .ok (.bipush 17, 2) := by decide +kernel
theorem dX7_takeOut_28 : decode cX7_takeOut 28 = .ok (.iadd, 1) := by decide +kernel
theorem dX7_takeOut_29 : decode cX7_takeOut 29 = .ok (.laload, 1) := by decide +kernel
theorem dX7_takeOut_30 : decode cX7_takeOut 30 = .ok (.lastore, 1) := by decide +kernel
theorem dX7_takeOut_31 : decode cX7_takeOut 31 = .ok (.iinc 2 1, 3) := by decide +kernel
theorem dX7_takeOut_34 : decode cX7_takeOut 34 = .ok (.goto (-29), 3) := by decide +kernel
theorem dX7_takeOut_37 : decode cX7_takeOut 37 = .ok (.aload_n 0, 1) := by decide +kernel
theorem dX7_takeOut_38 : decode cX7_takeOut 38 = .ok (.dup, 1) := by decide +kernel
theorem dX7_takeOut_39 : decode cX7_takeOut 39 = .ok (.getfield 100, 3) := by decide +kernel
theorem dX7_takeOut_42 : decode cX7_takeOut 42 = .ok (.iconst 1, 1) := by decide +kernel
theorem dX7_takeOut_43 : decode cX7_takeOut 43 = .ok (.isub, 1) := by decide +kernel
theorem dX7_takeOut_44 : decode cX7_takeOut 44 = .ok (.putfield 100, 3) := by decide +kernel
theorem dX7_takeOut_47 : decode cX7_takeOut 47 = .ok (.return_, 1) := by decide +kernel
theorem dX7_comes_0 : decode cX7_comes 0 = .ok (.iconst 3, 1) := by decide +kernel
theorem dX7_comes_1 : decode cX7_comes 1 = .ok (.aload_n 0, 1) := by decide +kernel
theorem dX7_comes_2 : decode cX7_comes 2 = .ok (.getfield 117, 3) := by decide +kernel
theorem dX7_comes_5 : decode cX7_comes 5 = .ok (.bipush 60, 2) := by decide +kernel
theorem dX7_comes_7 : decode cX7_comes 7 = .ok (.irem, 1) := by decide +kernel
theorem dX7_comes_8 : decode cX7_comes 8 = .ok (.imul, 1) := by decide +kernel
theorem dX7_comes_9 : decode cX7_comes 9 = .ok (.istore 4, 2) := by decide +kernel
theorem dX7_comes_11 : decode cX7_comes 11 = .ok (.aload_n 0, 1) := by decide +kernel
theorem dX7_comes_12 : decode cX7_comes 12 = .ok (.getfield 39, 3) := by decide +kernel
theorem dX7_comes_15 : decode cX7_comes 15 = .ok (.iload 4, 2) := by decide +kernel
theorem dX7_comes_17 : decode cX7_comes 17 = .ok (.iload_n 1, 1) := by decide +kernel
theorem dX7_comes_18 : decode cX7_comes 18 = .ok (.iastore, 1) := by decide +kernel
theorem dX7_comes_19 : decode cX7_comes 19 = .ok (.aload_n 0, 1) := by decide +kernel
theorem dX7_comes_20 : decode cX7_comes 20 = .ok (.getfield 39, 3) := by decide +kernel
theorem dX7_comes_23 : decode cX7_comes 23 = .ok (.iload 4, 2) := by decide +kernel
theorem dX7_comes_25 : decode cX7_comes 25 = .ok (.iconst 1, 1) := by decide +kernel
theorem dX7_comes_26 : decode cX7_comes 26 = .ok (.iadd, 1) := by decide +kernel
theorem dX7_comes_27 : decode cX7_comes 27 = .ok (.iload_n 2, 1) := by decide +kernel
theorem dX7_comes_28 : decode cX7_comes 28 = .ok (.iastore, 1) := by decide +kernel
theorem dX7_comes_29 : decode cX7_comes 29 = .ok (.aload_n 0, 1) := by decide +kernel
theorem dX7_comes_30 : decode cX7_comes 30 = .ok (.getfield 39, 3) := by decide +kernel
theorem dX7_comes_33 : decode cX7_comes 33 = .ok (.iload 4, 2) := by decide +kernel
theorem dX7_comes_35 : decode cX7_comes 35 = .ok (.iconst 2, 1) := by decide +kernel
theorem dX7_comes_36 : decode cX7_comes 36 = .ok (.iadd, 1) := by decide +kernel
theorem dX7_comes_37 : decode cX7_comes 37 = .ok (.iload_n 3, 1) := by decide +kernel
theorem dX7_comes_38 : decode cX7_comes 38 = .ok (.iastore, 1) := by decide +kernel
theorem dX7_comes_39 : decode cX7_comes 39 = .ok (.aload_n 0, 1) := by decide +kernel
theorem dX7_comes_40 : decode cX7_comes 40 = .ok (.dup, 1) := by decide +kernel
theorem dX7_comes_41 : decode cX7_comes 41 = .ok (.getfield 117, 3) := by decide +kernel
theorem dX7_comes_44 : decode cX7_comes 44 = .ok (.iconst 1, 1) := by decide +kernel
theorem dX7_comes_45 : decode cX7_comes 45 = .ok (.iadd, 1) := by decide +kernel
theorem dX7_comes_46 : decode cX7_comes 46 = .ok (.putfield 117, 3) := by decide +kernel
theorem dX7_comes_49 : decode cX7_comes 49 = .ok (.return_, 1) := by decide +kernel
set_option maxRecDepth 20000 in
theorem ggX7_offer_X7_sameCall : GoodIn wsX7_offer wsX7_sameCall := goodIn_r _ [9, 2, 3, 52, 53, 54, 55, 56, 57, 58, 59, 60, 61, 62, 63, 64, 65, 66, 67, 68, 69, 70, 71, 72] (by decide +kernel) (by decide +kernel)
set_option maxRecDepth 20000 in
theorem gX7_offer_X7_sameCall : GoodIn wsX7_offer (wsV RX7 120 RX7 yX7_sameCall wsX7_sameCall) := goodIn_app (goodIn_of _ (by decide +kernel)) ggX7_offer_X7_sameCall
set_option maxRecDepth 20000 in
theorem ggX7_offer_X7_refusedBy : GoodIn wsX7_offer wsX7_refusedBy := goodIn_r _ [13, 3, 14, 15, 16, 17, 2, 18, 19, 20, 8, 21, 22, 23, 24, 25, 26, 27, 28, 29, 30, 31, 1, 32, 33, 34, 35, 36, 37, 38, 39, 40, 41, 52, 53, 54, 55, 56, 57, 58, 59, 60, 61, 62, 63, 64, 65, 66, 67, 68, 69, 70, 71, 72] (by decide +kernel) (by decide +kernel)
set_option maxRecDepth 20000 in
theorem gX7_offer_X7_refusedBy : GoodIn wsX7_offer (wsV RX7 123 RX7 yX7_refusedBy wsX7_refusedBy) := goodIn_app (goodIn_of _ (by decide +kernel)) ggX7_offer_X7_refusedBy
set_option maxRecDepth 20000 in
theorem ggX7_offer_X7_cheapest : GoodIn wsX7_offer wsX7_cheapest := goodIn_r _ [41, 2, 3, 52, 53, 54, 55, 56, 57, 58, 59, 60, 61, 62, 63, 64, 65, 66, 67, 68, 69, 70, 71, 72] (by decide +kernel) (by decide +kernel)
set_option maxRecDepth 20000 in
theorem gX7_offer_X7_cheapest : GoodIn wsX7_offer (wsV RX7 113 RX7 yX7_cheapest wsX7_cheapest) := goodIn_app (goodIn_of _ (by decide +kernel)) ggX7_offer_X7_cheapest
set_option maxRecDepth 20000 in
theorem ggX7_offer_X7_comes : GoodIn wsX7_offer wsX7_comes := goodIn_r _ [45, 46, 47, 52, 53, 54, 55, 56, 57, 58, 59, 60, 61, 62, 63, 64, 65, 66, 67, 68, 69, 70, 71, 72] (by decide +kernel) (by decide +kernel)
set_option maxRecDepth 20000 in
theorem gX7_offer_X7_comes : GoodIn wsX7_offer (wsV RX7 127 RX7 yX7_comes wsX7_comes) := goodIn_app (goodIn_of _ (by decide +kernel)) ggX7_offer_X7_comes
set_option maxRecDepth 20000 in
theorem ggX7_offer_X7_takeOut : GoodIn wsX7_offer wsX7_takeOut := goodIn_r _ [51, 2, 3, 52, 53, 54, 55, 56, 57, 58, 59, 60, 61, 62, 63, 64, 65, 66, 67, 68, 69, 70, 71, 72] (by decide +kernel) (by decide +kernel)
set_option maxRecDepth 20000 in
theorem gX7_offer_X7_takeOut : GoodIn wsX7_offer (wsV RX7 131 RX7 yX7_takeOut wsX7_takeOut) := goodIn_app (goodIn_of _ (by decide +kernel)) ggX7_offer_X7_takeOut
theorem dX7_offer_0 : decode cX7_offer 0 = .ok (.aload_n 0, 1) := by decide +kernel
theorem dX7_offer_1 : decode cX7_offer 1 = .ok (.getfield 82, 3) := by decide +kernel
theorem dX7_offer_4 : decode cX7_offer 4 = .ok (.ifCond .ne 6, 3) := by decide +kernel
theorem dX7_offer_7 : decode cX7_offer 7 = .ok (.bipush (-2), 2) := by decide +kernel
theorem dX7_offer_9 : decode cX7_offer 9 = .ok (.ireturn, 1) := by decide +kernel
theorem dX7_offer_10 : decode cX7_offer 10 = .ok (.aload_n 0, 1) := by decide +kernel
theorem dX7_offer_11 : decode cX7_offer 11 = .ok (.invokevirtual 120, 3) := by decide +kernel
theorem dX7_offer_14 : decode cX7_offer 14 = .ok (.istore_n 1, 1) := by decide +kernel
theorem dX7_offer_15 : decode cX7_offer 15 = .ok (.aload_n 0, 1) := by decide +kernel
theorem dX7_offer_16 : decode cX7_offer 16 = .ok (.iload_n 1, 1) := by decide +kernel
theorem dX7_offer_17 : decode cX7_offer 17 = .ok (.invokevirtual 123, 3) := by decide +kernel
theorem dX7_offer_20 : decode cX7_offer 20 = .ok (.istore_n 2, 1) := by decide +kernel
theorem dX7_offer_21 : decode cX7_offer 21 = .ok (.iload_n 2, 1) := by decide +kernel
theorem dX7_offer_22 : decode cX7_offer 22 = .ok (.ifCond .le 8, 3) := by decide +kernel
theorem dX7_offer_25 : decode cX7_offer 25 = .ok (.bipush (-10), 2) := by decide +kernel
theorem dX7_offer_27 : decode cX7_offer 27 = .ok (.iload_n 2, 1) := by decide +kernel
theorem dX7_offer_28 : decode cX7_offer 28 = .ok (.isub, 1) := by decide +kernel
theorem dX7_offer_29 : decode cX7_offer 29 = .ok (.ireturn, 1) := by decide +kernel
theorem dX7_offer_30 : decode cX7_offer 30 = .ok (.iload_n 1, 1) := by decide +kernel
theorem dX7_offer_31 : decode cX7_offer 31 = .ok (.ifCond .gt 12, 3) := by decide +kernel
theorem dX7_offer_34 : decode cX7_offer 34 = .ok (.aload_n 0, 1) := by decide +kernel
theorem dX7_offer_35 : decode cX7_offer 35 = .ok (.getfield 100, 3) := by decide +kernel
theorem dX7_offer_38 : decode cX7_offer 38 = .ok (.bipush 24, 2) := by decide +kernel
theorem dX7_offer_40 : decode cX7_offer 40 = .ok (.if_icmp .ne 48, 3) := by decide +kernel
theorem dX7_offer_43 : decode cX7_offer 43 = .ok (.iload_n 1, 1) := by decide +kernel
theorem dX7_offer_44 : decode cX7_offer 44 = .ok (.ifCond .le 7, 3) := by decide +kernel
theorem dX7_offer_47 : decode cX7_offer 47 = .ok (.iload_n 1, 1) := by decide +kernel
theorem dX7_offer_48 : decode cX7_offer 48 = .ok (.goto 7, 3) := by decide +kernel
theorem dX7_offer_51 : decode cX7_offer 51 = .ok (.aload_n 0, 1) := by decide +kernel
theorem dX7_offer_52 : decode cX7_offer 52 = .ok (.invokevirtual 113, 3) := by decide +kernel
theorem dX7_offer_55 : decode cX7_offer 55 = .ok (.istore_n 3, 1) := by decide +kernel
theorem dX7_offer_56 : decode cX7_offer 56 = .ok (.aload_n 0, 1) := by decide +kernel
theorem dX7_offer_57 : decode cX7_offer 57 = .ok (.aload_n 0, 1) := by decide +kernel
theorem dX7_offer_58 : decode cX7_offer 58 = .ok (.getfield 29, 3) := by decide +kernel
theorem dX7_offer_61 : decode cX7_offer 61 = .ok (.bipush 17, 2) := by decide +kernel
theorem dX7_offer_63 : decode cX7_offer 63 = .ok (.iload_n 3, 1) := by decide +kernel
theorem dX7_offer_64 : decode cX7_offer 64 = .ok (.imul, 1) := by decide +kernel
theorem dX7_offer_65 : decode cX7_offer 65 = .ok (.bipush 7, 2) := by decide +kernel
theorem dX7_offer_67 : decode cX7_offer 67 = .ok (.iadd, 1) := by decide +kernel
theorem dX7_offer_68 : decode cX7_offer 68 = .ok (.laload, 1) := by decide +kernel
theorem dX7_offer_69 : decode cX7_offer 69 = .ok (.l2i, 1) := by decide +kernel
theorem dX7_offer_70 : decode cX7_offer 70 = .ok (.iload_n 1, 1) := by decide +kernel
theorem dX7_offer_71 : decode cX7_offer 71 = .ok (.ifCond .le 7, 3) := by decide +kernel
theorem dX7_offer_74 : decode cX7_offer 74 = .ok (.iconst 3, 1) := by decide +kernel
theorem dX7_offer_75 : decode cX7_offer 75 = .ok (.goto 4, 3) := by decide +kernel
theorem dX7_offer_78 : decode cX7_offer 78 = .ok (.iconst 4, 1) := by decide +kernel
theorem dX7_offer_79 : decode cX7_offer 79 = .ok (.iconst 0, 1) := by decide +kernel
theorem dX7_offer_80 : decode cX7_offer 80 = .ok (.invokevirtual 127, 3) := by decide +kernel
theorem dX7_offer_83 : decode cX7_offer 83 = .ok (.aload_n 0, 1) := by decide +kernel
theorem dX7_offer_84 : decode cX7_offer 84 = .ok (.iload_n 3, 1) := by decide +kernel
theorem dX7_offer_85 : decode cX7_offer 85 = .ok (.invokevirtual 131, 3) := by decide +kernel
theorem dX7_offer_88 : decode cX7_offer 88 = .ok (.aload_n 0, 1) := by decide +kernel
theorem dX7_offer_89 : decode cX7_offer 89 = .ok (.dup, 1) := by decide +kernel
theorem dX7_offer_90 : decode cX7_offer 90 = .ok (.getfield 100, 3) := by decide +kernel
theorem dX7_offer_93 : decode cX7_offer 93 = .ok (.iconst 1, 1) := by decide +kernel
theorem dX7_offer_94 : decode cX7_offer 94 = .ok (.iadd, 1) := by decide +kernel
theorem dX7_offer_95 : decode cX7_offer 95 = .ok (.putfield 100, 3) := by decide +kernel
theorem dX7_offer_98 : decode cX7_offer 98 = .ok (.iconst 0, 1) := by decide +kernel
theorem dX7_offer_99 : decode cX7_offer 99 = .ok (.istore_n 3, 1) := by decide +kernel
theorem dX7_offer_100 : decode cX7_offer 100 = .ok (.iload_n 3, 1) := by decide +kernel
theorem dX7_offer_101 : decode cX7_offer 101 = .ok (.bipush 17, 2) := by decide +kernel
theorem dX7_offer_103 : decode cX7_offer 103 = .ok (.if_icmp .ge 29, 3) := by decide +kernel
theorem dX7_offer_106 : decode cX7_offer 106 = .ok (.aload_n 0, 1) := by decide +kernel
theorem dX7_offer_107 : decode cX7_offer 107 = .ok (.getfield 29, 3) := by decide +kernel
theorem dX7_offer_110 : decode cX7_offer 110 = .ok (.bipush 17, 2) := by decide +kernel
theorem dX7_offer_112 : decode cX7_offer 112 = .ok (.aload_n 0, 1) := by decide +kernel
theorem dX7_offer_113 : decode cX7_offer 113 = .ok (.getfield 100, 3) := by decide +kernel
theorem dX7_offer_116 : decode cX7_offer 116 = .ok (.imul, 1) := by decide +kernel
theorem dX7_offer_117 : decode cX7_offer 117 = .ok (.iload_n 3, 1) := by decide +kernel
theorem dX7_offer_118 : decode cX7_offer 118 = .ok (.iadd, 1) := by decide +kernel
theorem dX7_offer_119 : decode cX7_offer 119 = .ok (.aload_n 0, 1) := by decide +kernel
theorem dX7_offer_120 : decode cX7_offer 120 = .ok (.getfield 29, 3) := by decide +kernel
theorem dX7_offer_123 : decode cX7_offer 123 = .ok (.iload_n 3, 1) := by decide +kernel
theorem dX7_offer_124 : decode cX7_offer 124 = .ok (.laload, 1) := by decide +kernel
theorem dX7_offer_125 : decode cX7_offer 125 = .ok (.lastore, 1) := by decide +kernel
theorem dX7_offer_126 : decode cX7_offer 126 = .ok (.iinc 3 1, 3) := by decide +kernel
theorem dX7_offer_129 : decode cX7_offer 129 = .ok (.goto (-29), 3) := by decide +kernel
theorem dX7_offer_132 : decode cX7_offer 132 = .ok (.aload_n 0, 1) := by decide +kernel
theorem dX7_offer_133 : decode cX7_offer 133 = .ok (.getfield 29, 3) := by decide +kernel
theorem dX7_offer_136 : decode cX7_offer 136 = .ok (.bipush 17, 2) := by decide +kernel
theorem dX7_offer_138 : decode cX7_offer 138 = .ok (.aload_n 0, 1) := by decide +kernel
theorem dX7_offer_139 : decode cX7_offer 139 = .ok (.getfield 100, 3) := by decide +kernel
theorem dX7_offer_142 : decode cX7_offer 142 = .ok (.imul, 1) := by decide +kernel
theorem dX7_offer_143 : decode cX7_offer 143 = .ok (.bipush 7, 2) := by decide +kernel
theorem dX7_offer_145 : decode cX7_offer 145 = .ok (.iadd, 1) := by decide +kernel
theorem dX7_offer_146 : decode cX7_offer 146 = .ok (.aload_n 0, 1) := by decide +kernel
theorem dX7_offer_147 : decode cX7_offer 147 = .ok (.getfield 135, 3) := by decide +kernel
theorem dX7_offer_150 : decode cX7_offer 150 = .ok (.i2l, 1) := by decide +kernel
theorem dX7_offer_151 : decode cX7_offer 151 = .ok (.lastore, 1) := by decide +kernel
theorem dX7_offer_152 : decode cX7_offer 152 = .ok (.aload_n 0, 1) := by decide +kernel
theorem dX7_offer_153 : decode cX7_offer 153 = .ok (.dup, 1) := by decide +kernel
theorem dX7_offer_154 : decode cX7_offer 154 = .ok (.getfield 135, 3) := by decide +kernel
theorem dX7_offer_157 : decode cX7_offer 157 = .ok (.iconst 1, 1) := by decide +kernel
theorem dX7_offer_158 : decode cX7_offer 158 = .ok (.iadd, 1) := by decide +kernel
theorem dX7_offer_159 : decode cX7_offer 159 = .ok (.putfield 135, 3) := by decide +kernel
theorem dX7_offer_162 : decode cX7_offer 162 = .ok (.aload_n 0, 1) := by decide +kernel
theorem dX7_offer_163 : decode cX7_offer 163 = .ok (.getfield 135, 3) := by decide +kernel
theorem dX7_offer_166 : decode cX7_offer 166 = .ok (.iconst 1, 1) := by decide +kernel
theorem dX7_offer_167 : decode cX7_offer 167 = .ok (.isub, 1) := by decide +kernel
theorem dX7_offer_168 : decode cX7_offer 168 = .ok (.ireturn, 1) := by decide +kernel
set_option maxRecDepth 20000 in
theorem ggX7_step_X7_in : GoodIn wsX7_step wsX7_in := goodIn_r _ [6] (by decide +kernel) (by decide +kernel)
set_option maxRecDepth 20000 in
theorem gX7_step_X7_in : GoodIn wsX7_step (va_wsS RX7 48 yX7_in wsX7_in) := goodIn_app (goodIn_of _ (by decide +kernel)) ggX7_step_X7_in
theorem dX7_step_0 : decode cX7_step 0 = .ok (.iload_n 1, 1) := by decide +kernel
theorem dX7_step_1 : decode cX7_step 1 = .ok (.i2l, 1) := by decide +kernel
theorem dX7_step_2 : decode cX7_step 2 = .ok (.lconst 1, 1) := by decide +kernel
theorem dX7_step_3 : decode cX7_step 3 = .ok (.ldc2_w 77, 3) := by decide +kernel
theorem dX7_step_6 : decode cX7_step 6 = .ok (.invokestatic 48, 3) := by decide +kernel
theorem dX7_step_9 : decode cX7_step 9 = .ok (.ifCond .ne 5, 3) := by decide +kernel
theorem dX7_step_12 : decode cX7_step 12 = .ok (.iconst (-1), 1) := by decide +kernel
theorem dX7_step_13 : decode cX7_step 13 = .ok (.ireturn, 1) := by decide +kernel
theorem dX7_step_14 : decode cX7_step 14 = .ok (.aload_n 0, 1) := by decide +kernel
theorem dX7_step_15 : decode cX7_step 15 = .ok (.getfield 35, 3) := by decide +kernel
theorem dX7_step_18 : decode cX7_step 18 = .ok (.istore_n 2, 1) := by decide +kernel
theorem dX7_step_19 : decode cX7_step 19 = .ok (.aload_n 0, 1) := by decide +kernel
theorem dX7_step_20 : decode cX7_step 20 = .ok (.iload_n 1, 1) := by decide +kernel
theorem dX7_step_21 : decode cX7_step 21 = .ok (.putfield 35, 3) := by decide +kernel
theorem dX7_step_24 : decode cX7_step 24 = .ok (.iload_n 2, 1) := by decide +kernel
theorem dX7_step_25 : decode cX7_step 25 = .ok (.ireturn, 1) := by decide +kernel
set_option maxRecDepth 20000 in
theorem ggX7_ends_X7_comes : GoodIn wsX7_ends wsX7_comes := goodIn_r _ [8, 9, 10, 15, 16, 17, 18, 19, 20, 21, 22, 23, 24, 25, 26, 27, 28, 29, 30, 31, 32, 33, 34, 35] (by decide +kernel) (by decide +kernel)
set_option maxRecDepth 20000 in
theorem gX7_ends_X7_comes : GoodIn wsX7_ends (wsV RX7 127 RX7 yX7_comes wsX7_comes) := goodIn_app (goodIn_of _ (by decide +kernel)) ggX7_ends_X7_comes
set_option maxRecDepth 20000 in
theorem ggX7_ends_X7_takeOut : GoodIn wsX7_ends wsX7_takeOut := goodIn_r _ [14, 1, 2, 15, 16, 17, 18, 19, 20, 21, 22, 23, 24, 25, 26, 27, 28, 29, 30, 31, 32, 33, 34, 35] (by decide +kernel) (by decide +kernel)
set_option maxRecDepth 20000 in
theorem gX7_ends_X7_takeOut : GoodIn wsX7_ends (wsV RX7 131 RX7 yX7_takeOut wsX7_takeOut) := goodIn_app (goodIn_of _ (by decide +kernel)) ggX7_ends_X7_takeOut
theorem dX7_ends_0 : decode cX7_ends 0 = .ok (.iconst 1, 1) := by decide +kernel
theorem dX7_ends_1 : decode cX7_ends 1 = .ok (.istore_n 1, 1) := by decide +kernel
theorem dX7_ends_2 : decode cX7_ends 2 = .ok (.iload_n 1, 1) := by decide +kernel
theorem dX7_ends_3 : decode cX7_ends 3 = .ok (.aload_n 0, 1) := by decide +kernel
theorem dX7_ends_4 : decode cX7_ends 4 = .ok (.getfield 100, 3) := by decide +kernel
theorem dX7_ends_7 : decode cX7_ends 7 = .ok (.if_icmp .gt 56, 3) := by decide +kernel
theorem dX7_ends_10 : decode cX7_ends 10 = .ok (.aload_n 0, 1) := by decide +kernel
theorem dX7_ends_11 : decode cX7_ends 11 = .ok (.getfield 29, 3) := by decide +kernel
theorem dX7_ends_14 : decode cX7_ends 14 = .ok (.bipush 17, 2) := by decide +kernel
theorem dX7_ends_16 : decode cX7_ends 16 = .ok (.iload_n 1, 1) := by decide +kernel
theorem dX7_ends_17 : decode cX7_ends 17 = .ok (.imul, 1) := by decide +kernel
theorem dX7_ends_18 : decode cX7_ends 18 = .ok (.iconst 4, 1) := by decide +kernel
theorem dX7_ends_19 : decode cX7_ends 19 = .ok (.iadd, 1) := by decide +kernel
theorem dX7_ends_20 : decode cX7_ends 20 = .ok (.laload, 1) := by decide +kernel
theorem dX7_ends_21 : decode cX7_ends 21 = .ok (.aload_n 0, 1) := by decide +kernel
theorem dX7_ends_22 : decode cX7_ends 22 = .ok (.getfield 103, 3) := by decide +kernel
theorem dX7_ends_25 : decode cX7_ends 25 = .ok (.i2l, 1) := by decide +kernel
theorem dX7_ends_26 : decode cX7_ends 26 = .ok (.lcmp, 1) := by decide +kernel
theorem dX7_ends_27 : decode cX7_ends 27 = .ok (.ifCond .ge 30, 3) := by decide +kernel
theorem dX7_ends_30 : decode cX7_ends 30 = .ok (.aload_n 0, 1) := by decide +kernel
theorem dX7_ends_31 : decode cX7_ends 31 = .ok (.aload_n 0, 1) := by decide +kernel
theorem dX7_ends_32 : decode cX7_ends 32 = .ok (.getfield 29, 3) := by decide +kernel
theorem dX7_ends_35 : decode cX7_ends 35 = .ok (.bipush 17, 2) := by decide +kernel
theorem dX7_ends_37 : decode cX7_ends 37 = .ok (.iload_n 1, 1) := by decide +kernel
theorem dX7_ends_38 : decode cX7_ends 38 = .ok (.imul, 1) := by decide +kernel
theorem dX7_ends_39 : decode cX7_ends 39 = .ok (.bipush 7, 2) := by decide +kernel
theorem dX7_ends_41 : decode cX7_ends 41 = .ok (.iadd, 1) := by decide +kernel
theorem dX7_ends_42 : decode cX7_ends 42 = .ok (.laload, 1) := by decide +kernel
theorem dX7_ends_43 : decode cX7_ends 43 = .ok (.l2i, 1) := by decide +kernel
theorem dX7_ends_44 : decode cX7_ends 44 = .ok (.iconst 2, 1) := by decide +kernel
theorem dX7_ends_45 : decode cX7_ends 45 = .ok (.iconst 0, 1) := by decide +kernel
theorem dX7_ends_46 : decode cX7_ends 46 = .ok (.invokevirtual 127, 3) := by decide +kernel
theorem dX7_ends_49 : decode cX7_ends 49 = .ok (.aload_n 0, 1) := by decide +kernel
theorem dX7_ends_50 : decode cX7_ends 50 = .ok (.iload_n 1, 1) := by decide +kernel
theorem dX7_ends_51 : decode cX7_ends 51 = .ok (.invokevirtual 131, 3) := by decide +kernel
theorem dX7_ends_54 : decode cX7_ends 54 = .ok (.goto (-52), 3) := by decide +kernel
theorem dX7_ends_57 : decode cX7_ends 57 = .ok (.iinc 1 1, 3) := by decide +kernel
theorem dX7_ends_60 : decode cX7_ends 60 = .ok (.goto (-58), 3) := by decide +kernel
theorem dX7_ends_63 : decode cX7_ends 63 = .ok (.return_, 1) := by decide +kernel
theorem dX7_dearest_0 : decode cX7_dearest 0 = .ok (.iconst 0, 1) := by decide +kernel
theorem dX7_dearest_1 : decode cX7_dearest 1 = .ok (.istore_n 1, 1) := by decide +kernel
theorem dX7_dearest_2 : decode cX7_dearest 2 = .ok (.iconst 1, 1) := by decide +kernel
theorem dX7_dearest_3 : decode cX7_dearest 3 = .ok (.istore_n 2, 1) := by decide +kernel
theorem dX7_dearest_4 : decode cX7_dearest 4 = .ok (.iload_n 2, 1) := by decide +kernel
theorem dX7_dearest_5 : decode cX7_dearest 5 = .ok (.aload_n 0, 1) := by decide +kernel
theorem dX7_dearest_6 : decode cX7_dearest 6 = .ok (.getfield 100, 3) := by decide +kernel
theorem dX7_dearest_9 : decode cX7_dearest 9 = .ok (.if_icmp .gt 120, 3) := by decide +kernel
theorem dX7_dearest_12 : decode cX7_dearest 12 = .ok (.bipush 17, 2) := by decide +kernel
theorem dX7_dearest_14 : decode cX7_dearest 14 = .ok (.iload_n 2, 1) := by decide +kernel
theorem dX7_dearest_15 : decode cX7_dearest 15 = .ok (.imul, 1) := by decide +kernel
theorem dX7_dearest_16 : decode cX7_dearest 16 = .ok (.istore_n 3, 1) := by decide +kernel
theorem dX7_dearest_17 : decode cX7_dearest 17 = .ok (.aload_n 0, 1) := by decide +kernel
theorem dX7_dearest_18 : decode cX7_dearest 18 = .ok (.getfield 29, 3) := by decide +kernel
theorem dX7_dearest_21 : decode cX7_dearest 21 = .ok (.iload_n 3, 1) := by decide +kernel
theorem dX7_dearest_22 : decode cX7_dearest 22 = .ok (.iconst 1, 1) := by decide +kernel
theorem dX7_dearest_23 : decode cX7_dearest 23 = .ok (.iadd, 1) := by decide +kernel
theorem dX7_dearest_24 : decode cX7_dearest 24 = .ok (.laload, 1) := by decide +kernel
theorem dX7_dearest_25 : decode cX7_dearest 25 = .ok (.aload_n 0, 1) := by decide +kernel
theorem dX7_dearest_26 : decode cX7_dearest 26 = .ok (.getfield 13, 3) := by decide +kernel
theorem dX7_dearest_29 : decode cX7_dearest 29 = .ok (.aload_n 0, 1) := by decide +kernel
theorem dX7_dearest_30 : decode cX7_dearest 30 = .ok (.getfield 29, 3) := by decide +kernel
theorem dX7_dearest_33 : decode cX7_dearest 33 = .ok (.iload_n 3, 1) := by decide +kernel
theorem dX7_dearest_34 : decode cX7_dearest 34 = .ok (.iconst 0, 1) := by decide +kernel
theorem dX7_dearest_35 : decode cX7_dearest 35 = .ok (.iadd, 1) := by decide +kernel
theorem dX7_dearest_36 : decode cX7_dearest 36 = .ok (.laload, 1) := by decide +kernel
theorem dX7_dearest_37 : decode cX7_dearest 37 = .ok (.l2i, 1) := by decide +kernel
theorem dX7_dearest_38 : decode cX7_dearest 38 = .ok (.iaload, 1) := by decide +kernel
theorem dX7_dearest_39 : decode cX7_dearest 39 = .ok (.i2l, 1) := by decide +kernel
theorem dX7_dearest_40 : decode cX7_dearest 40 = .ok (.lcmp, 1) := by decide +kernel
theorem dX7_dearest_41 : decode cX7_dearest 41 = .ok (.ifCond .ne 41, 3) := by decide +kernel
theorem dX7_dearest_44 : decode cX7_dearest 44 = .ok (.aload_n 0, 1) := by decide +kernel
theorem dX7_dearest_45 : decode cX7_dearest 45 = .ok (.getfield 29, 3) := by decide +kernel
theorem dX7_dearest_48 : decode cX7_dearest 48 = .ok (.iload_n 3, 1) := by decide +kernel
theorem dX7_dearest_49 : decode cX7_dearest 49 = .ok (.iconst 5, 1) := by decide +kernel
theorem dX7_dearest_50 : decode cX7_dearest 50 = .ok (.iadd, 1) := by decide +kernel
theorem dX7_dearest_51 : decode cX7_dearest 51 = .ok (.laload, 1) := by decide +kernel
theorem dX7_dearest_52 : decode cX7_dearest 52 = .ok (.aload_n 0, 1) := by decide +kernel
theorem dX7_dearest_53 : decode cX7_dearest 53 = .ok (.getfield 103, 3) := by decide +kernel
theorem dX7_dearest_56 : decode cX7_dearest 56 = .ok (.i2l, 1) := by decide +kernel
theorem dX7_dearest_57 : decode cX7_dearest 57 = .ok (.lcmp, 1) := by decide +kernel
theorem dX7_dearest_58 : decode cX7_dearest 58 = .ok (.ifCond .gt 24, 3) := by decide +kernel
theorem dX7_dearest_61 : decode cX7_dearest 61 = .ok (.aload_n 0, 1) := by decide +kernel
theorem dX7_dearest_62 : decode cX7_dearest 62 = .ok (.getfield 29, 3) := by decide +kernel
theorem dX7_dearest_65 : decode cX7_dearest 65 = .ok (.iload_n 3, 1) := by decide +kernel
theorem dX7_dearest_66 : decode cX7_dearest 66 = .ok (.iconst 3, 1) := by decide +kernel
theorem dX7_dearest_67 : decode cX7_dearest 67 = .ok (.iadd, 1) := by decide +kernel
theorem dX7_dearest_68 : decode cX7_dearest 68 = .ok (.laload, 1) := by decide +kernel
theorem dX7_dearest_69 : decode cX7_dearest 69 = .ok (.aload_n 0, 1) := by decide +kernel
theorem dX7_dearest_70 : decode cX7_dearest 70 = .ok (.getfield 138, 3) := by decide +kernel
theorem dX7_dearest_73 : decode cX7_dearest 73 = .ok (.i2l, 1) := by decide +kernel
theorem dX7_dearest_74 : decode cX7_dearest 74 = .ok (.lcmp, 1) := by decide +kernel
theorem dX7_dearest_75 : decode cX7_dearest 75 = .ok (.ifCond .gt 7, 3) := by decide +kernel
theorem dX7_dearest_78 : decode cX7_dearest 78 = .ok (.iconst 1, 1) := by decide +kernel
theorem dX7_dearest_79 : decode cX7_dearest 79 = .ok (.goto 4, 3) := by decide +kernel
theorem dX7_dearest_82 : decode cX7_dearest 82 = .ok (.iconst 0, 1) := by decide +kernel
theorem dX7_dearest_83 : decode cX7_dearest 83 = .ok (.istore 4, 2) := by decide +kernel
theorem dX7_dearest_85 : decode cX7_dearest 85 = .ok (.iload 4, 2) := by decide +kernel
theorem dX7_dearest_87 : decode cX7_dearest 87 = .ok (.ifCond .eq 34, 3) := by decide +kernel
theorem dX7_dearest_90 : decode cX7_dearest 90 = .ok (.iload_n 1, 1) := by decide +kernel
theorem dX7_dearest_91 : decode cX7_dearest 91 = .ok (.ifCond .eq 26, 3) := by decide +kernel
theorem dX7_dearest_94 : decode cX7_dearest 94 = .ok (.aload_n 0, 1) := by decide +kernel
theorem dX7_dearest_95 : decode cX7_dearest 95 = .ok (.getfield 29, 3) := by decide +kernel
theorem dX7_dearest_98 : decode cX7_dearest 98 = .ok (.iload_n 3, 1) := by decide +kernel
theorem dX7_dearest_99 : decode cX7_dearest 99 = .ok (.iconst 2, 1) := by decide +kernel
theorem dX7_dearest_100 : decode cX7_dearest 100 = .ok (.iadd, 1) := by decide +kernel
theorem dX7_dearest_101 : decode cX7_dearest 101 = .ok (.laload, 1) := by decide +kernel
theorem dX7_dearest_102 : decode cX7_dearest 102 = .ok (.aload_n 0, 1) := by decide +kernel
theorem dX7_dearest_103 : decode cX7_dearest 103 = .ok (.getfield 29, 3) := by decide +kernel
theorem dX7_dearest_106 : decode cX7_dearest 106 = .ok (.bipush 17, 2) := by decide +kernel
theorem dX7_dearest_108 : decode cX7_dearest 108 = .ok (.iload_n 1, 1) := by decide +kernel
theorem dX7_dearest_109 : decode cX7_dearest 109 = .ok (.imul, 1) := by decide +kernel
theorem dX7_dearest_110 : decode cX7_dearest 110 = .ok (.iconst 2, 1) := by decide +kernel
theorem dX7_dearest_111 : decode cX7_dearest 111 = .ok (.iadd, 1) := by decide +kernel
theorem dX7_dearest_112 : decode cX7_dearest 112 = .ok (.laload, 1) := by decide +kernel
theorem dX7_dearest_113 : decode cX7_dearest 113 = .ok (.lcmp, 1) := by decide +kernel
theorem dX7_dearest_114 : decode cX7_dearest 114 = .ok (.ifCond .le 7, 3) := by decide +kernel
theorem dX7_dearest_117 : decode cX7_dearest 117 = .ok (.iload_n 2, 1) := by decide +kernel
theorem dX7_dearest_118 : decode cX7_dearest 118 = .ok (.goto 4, 3) := by decide +kernel
theorem dX7_dearest_121 : decode cX7_dearest 121 = .ok (.iload_n 1, 1) := by decide +kernel
theorem dX7_dearest_122 : decode cX7_dearest 122 = .ok (.istore_n 1, 1) := by decide +kernel
theorem dX7_dearest_123 : decode cX7_dearest 123 = .ok (.iinc 2 1, 3) := by decide +kernel
theorem dX7_dearest_126 : decode cX7_dearest 126 = .ok (.goto (-122), 3) := by decide +kernel
theorem dX7_dearest_129 : decode cX7_dearest 129 = .ok (.iload_n 1, 1) := by decide +kernel
theorem dX7_dearest_130 : decode cX7_dearest 130 = .ok (.ireturn, 1) := by decide +kernel
set_option maxRecDepth 20000 in
theorem ggX7_does_X7_payer : GoodIn wsX7_does wsX7_payer := goodIn_r _ [10] (by decide +kernel) (by decide +kernel)
set_option maxRecDepth 20000 in
theorem gX7_does_X7_payer : GoodIn wsX7_does (va_wsS RX7 109 yX7_payer wsX7_payer) := goodIn_app (goodIn_of _ (by decide +kernel)) ggX7_does_X7_payer
set_option maxRecDepth 20000 in
theorem ggX7_does_X7_comes : GoodIn wsX7_does wsX7_comes := goodIn_r _ [14, 15, 16, 22, 23, 24, 25, 26, 27, 28, 29, 30, 31, 32, 33, 34, 35, 36, 37, 38, 39, 40, 41, 42] (by decide +kernel) (by decide +kernel)
set_option maxRecDepth 20000 in
theorem gX7_does_X7_comes : GoodIn wsX7_does (wsV RX7 127 RX7 yX7_comes wsX7_comes) := goodIn_app (goodIn_of _ (by decide +kernel)) ggX7_does_X7_comes
set_option maxRecDepth 20000 in
theorem ggX7_does_X7_takeOut : GoodIn wsX7_does wsX7_takeOut := goodIn_r _ [20, 21, 1, 22, 23, 24, 25, 26, 27, 28, 29, 30, 31, 32, 33, 34, 35, 36, 37, 38, 39, 40, 41, 42] (by decide +kernel) (by decide +kernel)
set_option maxRecDepth 20000 in
theorem gX7_does_X7_takeOut : GoodIn wsX7_does (wsV RX7 131 RX7 yX7_takeOut wsX7_takeOut) := goodIn_app (goodIn_of _ (by decide +kernel)) ggX7_does_X7_takeOut
theorem dX7_does_0 : decode cX7_does 0 = .ok (.bipush 17, 2) := by decide +kernel
theorem dX7_does_2 : decode cX7_does 2 = .ok (.iload_n 1, 1) := by decide +kernel
theorem dX7_does_3 : decode cX7_does 3 = .ok (.imul, 1) := by decide +kernel
theorem dX7_does_4 : decode cX7_does 4 = .ok (.istore_n 2, 1) := by decide +kernel
theorem dX7_does_5 : decode cX7_does 5 = .ok (.aload_n 0, 1) := by decide +kernel
theorem dX7_does_6 : decode cX7_does 6 = .ok (.getfield 29, 3) := by decide +kernel
theorem dX7_does_9 : decode cX7_does 9 = .ok (.iload_n 2, 1) := by decide +kernel
theorem dX7_does_10 : decode cX7_does 10 = .ok (.iconst 0, 1) := by decide +kernel
theorem dX7_does_11 : decode cX7_does 11 = .ok (.iadd, 1) := by decide +kernel
theorem dX7_does_12 : decode cX7_does 12 = .ok (.laload, 1) := by decide +kernel
theorem dX7_does_13 : decode cX7_does 13 = .ok (.l2i, 1) := by decide +kernel
theorem dX7_does_14 : decode cX7_does 14 = .ok (.istore_n 3, 1) := by decide +kernel
theorem dX7_does_15 : decode cX7_does 15 = .ok (.iload_n 3, 1) := by decide +kernel
theorem dX7_does_16 : decode cX7_does 16 = .ok (.i2l, 1) := by decide +kernel
theorem dX7_does_17 : decode cX7_does 17 = .ok (.aload_n 0, 1) := by decide +kernel
theorem dX7_does_18 : decode cX7_does 18 = .ok (.getfield 29, 3) := by decide +kernel
theorem dX7_does_21 : decode cX7_does 21 = .ok (.iload_n 2, 1) := by decide +kernel
theorem dX7_does_22 : decode cX7_does 22 = .ok (.bipush 6, 2) := by decide +kernel
theorem dX7_does_24 : decode cX7_does 24 = .ok (.iadd, 1) := by decide +kernel
theorem dX7_does_25 : decode cX7_does 25 = .ok (.laload, 1) := by decide +kernel
theorem dX7_does_26 : decode cX7_does 26 = .ok (.invokestatic 109, 3) := by decide +kernel
theorem dX7_does_29 : decode cX7_does 29 = .ok (.istore 4, 2) := by decide +kernel
theorem dX7_does_31 : decode cX7_does 31 = .ok (.aload_n 0, 1) := by decide +kernel
theorem dX7_does_32 : decode cX7_does 32 = .ok (.getfield 29, 3) := by decide +kernel
theorem dX7_does_35 : decode cX7_does 35 = .ok (.iload_n 2, 1) := by decide +kernel
theorem dX7_does_36 : decode cX7_does 36 = .ok (.bipush 7, 2) := by decide +kernel
theorem dX7_does_38 : decode cX7_does 38 = .ok (.iadd, 1) := by decide +kernel
theorem dX7_does_39 : decode cX7_does 39 = .ok (.laload, 1) := by decide +kernel
theorem dX7_does_40 : decode cX7_does 40 = .ok (.l2i, 1) := by decide +kernel
theorem dX7_does_41 : decode cX7_does 41 = .ok (.istore 5, 2) := by decide +kernel
theorem dX7_does_43 : decode cX7_does 43 = .ok (.aload_n 0, 1) := by decide +kernel
theorem dX7_does_44 : decode cX7_does 44 = .ok (.getfield 29, 3) := by decide +kernel
theorem dX7_does_47 : decode cX7_does 47 = .ok (.iload_n 2, 1) := by decide +kernel
theorem dX7_does_48 : decode cX7_does 48 = .ok (.iconst 2, 1) := by decide +kernel
theorem dX7_does_49 : decode cX7_does 49 = .ok (.iadd, 1) := by decide +kernel
theorem dX7_does_50 : decode cX7_does 50 = .ok (.laload, 1) := by decide +kernel
theorem dX7_does_51 : decode cX7_does 51 = .ok (.lstore 6, 2) := by decide +kernel
theorem dX7_does_53 : decode cX7_does 53 = .ok (.lload 6, 2) := by decide +kernel
theorem dX7_does_55 : decode cX7_does 55 = .ok (.aload_n 0, 1) := by decide +kernel
theorem dX7_does_56 : decode cX7_does 56 = .ok (.getfield 29, 3) := by decide +kernel
theorem dX7_does_59 : decode cX7_does 59 = .ok (.iload_n 2, 1) := by decide +kernel
theorem dX7_does_60 : decode cX7_does 60 = .ok (.iconst 3, 1) := by decide +kernel
theorem dX7_does_61 : decode cX7_does 61 = .ok (.iadd, 1) := by decide +kernel
theorem dX7_does_62 : decode cX7_does 62 = .ok (.laload, 1) := by decide +kernel
theorem dX7_does_63 : decode cX7_does 63 = .ok (.lmul, 1) := by decide +kernel
theorem dX7_does_64 : decode cX7_does 64 = .ok (.lstore 8, 2) := by decide +kernel
theorem dX7_does_66 : decode cX7_does 66 = .ok (.aload_n 0, 1) := by decide +kernel
theorem dX7_does_67 : decode cX7_does 67 = .ok (.getfield 7, 3) := by decide +kernel
theorem dX7_does_70 : decode cX7_does 70 = .ok (.iload 4, 2) := by decide +kernel
theorem dX7_does_72 : decode cX7_does 72 = .ok (.laload, 1) := by decide +kernel
theorem dX7_does_73 : decode cX7_does 73 = .ok (.lload 8, 2) := by decide +kernel
theorem dX7_does_75 : decode cX7_does 75 = .ok (.lcmp, 1) := by decide +kernel
theorem dX7_does_76 : decode cX7_does 76 = .ok (.ifCond .ge 18, 3) := by decide +kernel
theorem dX7_does_79 : decode cX7_does 79 = .ok (.aload_n 0, 1) := by decide +kernel
theorem dX7_does_80 : decode cX7_does 80 = .ok (.iload 5, 2) := by decide +kernel
theorem dX7_does_82 : decode cX7_does 82 = .ok (.iconst 5, 1) := by decide +kernel
theorem dX7_does_83 : decode cX7_does 83 = .ok (.iconst 0, 1) := by decide +kernel
theorem dX7_does_84 : decode cX7_does 84 = .ok (.invokevirtual 127, 3) := by decide +kernel
theorem dX7_does_87 : decode cX7_does 87 = .ok (.aload_n 0, 1) := by decide +kernel
theorem dX7_does_88 : decode cX7_does 88 = .ok (.iload_n 1, 1) := by decide +kernel
theorem dX7_does_89 : decode cX7_does 89 = .ok (.invokevirtual 131, 3) := by decide +kernel
theorem dX7_does_92 : decode cX7_does 92 = .ok (.iconst 0, 1) := by decide +kernel
theorem dX7_does_93 : decode cX7_does 93 = .ok (.ireturn, 1) := by decide +kernel
theorem dX7_does_94 : decode cX7_does 94 = .ok (.aload_n 0, 1) := by decide +kernel
theorem dX7_does_95 : decode cX7_does 95 = .ok (.getfield 7, 3) := by decide +kernel
theorem dX7_does_98 : decode cX7_does 98 = .ok (.iload 4, 2) := by decide +kernel
theorem dX7_does_100 : decode cX7_does 100 = .ok (.dup2, 1) := by decide +kernel
theorem dX7_does_101 : decode cX7_does 101 = .ok (.laload, 1) := by decide +kernel
theorem dX7_does_102 : decode cX7_does 102 = .ok (.lload 8, 2) := by decide +kernel
theorem dX7_does_104 : decode cX7_does 104 = .ok (.lsub, 1) := by decide +kernel
theorem dX7_does_105 : decode cX7_does 105 = .ok (.lastore, 1) := by decide +kernel
theorem dX7_does_106 : decode cX7_does 106 = .ok (.aload_n 0, 1) := by decide +kernel
theorem dX7_does_107 : decode cX7_does 107 = .ok (.getfield 13, 3) := by decide +kernel
theorem dX7_does_110 : decode cX7_does 110 = .ok (.iload_n 3, 1) := by decide +kernel
theorem dX7_does_111 : decode cX7_does 111 = .ok (.dup2, 1) := by decide +kernel
theorem dX7_does_112 : decode cX7_does 112 = .ok (.iaload, 1) := by decide +kernel
theorem dX7_does_113 : decode cX7_does 113 = .ok (.iconst 1, 1) := by decide +kernel
theorem dX7_does_114 : decode cX7_does 114 = .ok (.iadd, 1) := by decide +kernel
theorem dX7_does_115 : decode cX7_does 115 = .ok (.iastore, 1) := by decide +kernel
theorem dX7_does_116 : decode cX7_does 116 = .ok (.iconst 0, 1) := by decide +kernel
theorem dX7_does_117 : decode cX7_does 117 = .ok (.istore 10, 2) := by decide +kernel
theorem dX7_does_119 : decode cX7_does 119 = .ok (.iload 10, 2) := by decide +kernel
theorem dX7_does_121 : decode cX7_does 121 = .ok (.bipush 12, 2) := by decide +kernel
theorem dX7_does_123 : decode cX7_does 123 = .ok (.if_icmp .ge 23, 3) := by decide +kernel
theorem dX7_does_126 : decode cX7_does 126 = .ok (.aload_n 0, 1) := by decide +kernel
theorem dX7_does_127 : decode cX7_does 127 = .ok (.getfield 42, 3) := by decide +kernel
theorem dX7_does_130 : decode cX7_does 130 = .ok (.iload 10, 2) := by decide +kernel
theorem dX7_does_132 : decode cX7_does 132 = .ok (.aload_n 0, 1) := by decide +kernel
theorem dX7_does_133 : decode cX7_does 133 = .ok (.getfield 7, 3) := by decide +kernel
theorem dX7_does_136 : decode cX7_does 136 = .ok (.iload 10, 2) := by decide +kernel
theorem dX7_does_138 : decode cX7_does 138 = .ok (.laload, 1) := by decide +kernel
theorem dX7_does_139 : decode cX7_does 139 = .ok (.lastore, 1) := by decide +kernel
theorem dX7_does_140 : decode cX7_does 140 = .ok (.iinc 10 1, 3) := by decide +kernel
theorem dX7_does_143 : decode cX7_does 143 = .ok (.goto (-24), 3) := by decide +kernel
theorem dX7_does_146 : decode cX7_does 146 = .ok (.iconst 0, 1) := by decide +kernel
theorem dX7_does_147 : decode cX7_does 147 = .ok (.istore 10, 2) := by decide +kernel
theorem dX7_does_149 : decode cX7_does 149 = .ok (.iconst 0, 1) := by decide +kernel
theorem dX7_does_150 : decode cX7_does 150 = .ok (.istore 11, 2) := by decide +kernel
theorem dX7_does_152 : decode cX7_does 152 = .ok (.iconst 0, 1) := by decide +kernel
theorem dX7_does_153 : decode cX7_does 153 = .ok (.istore 12, 2) := by decide +kernel
theorem dX7_does_155 : decode cX7_does 155 = .ok (.iload 12, 2) := by decide +kernel
theorem dX7_does_157 : decode cX7_does 157 = .ok (.i2l, 1) := by decide +kernel
theorem dX7_does_158 : decode cX7_does 158 = .ok (.aload_n 0, 1) := by decide +kernel
theorem dX7_does_159 : decode cX7_does 159 = .ok (.getfield 29, 3) := by decide +kernel
theorem dX7_does_162 : decode cX7_does 162 = .ok (.iload_n 2, 1) := by decide +kernel
theorem dX7_does_163 : decode cX7_does 163 = .ok (.bipush 8, 2) := by decide +kernel
theorem dX7_does_165 : decode cX7_does 165 = .ok (.iadd, 1) := by decide +kernel
theorem dX7_does_166 : decode cX7_does 166 = .ok (.laload, 1) := by decide +kernel
theorem dX7_does_167 : decode cX7_does 167 = .ok (.lcmp, 1) := by decide +kernel
theorem dX7_does_168 : decode cX7_does 168 = .ok (.ifCond .ge 127, 3) := by decide +kernel
theorem dX7_does_171 : decode cX7_does 171 = .ok (.iload 11, 2) := by decide +kernel
theorem dX7_does_173 : decode cX7_does 173 = .ok (.ifCond .ne 122, 3) := by decide +kernel
theorem dX7_does_176 : decode cX7_does 176 = .ok (.aload_n 0, 1) := by decide +kernel
theorem dX7_does_177 : decode cX7_does 177 = .ok (.getfield 29, 3) := by decide +kernel
theorem dX7_does_180 : decode cX7_does 180 = .ok (.iload_n 2, 1) := by decide +kernel
theorem dX7_does_181 : decode cX7_does 181 = .ok (.bipush 9, 2) := by decide +kernel
theorem dX7_does_183 : decode cX7_does 183 = .ok (.iadd, 1) := by decide +kernel
theorem dX7_does_184 : decode cX7_does 184 = .ok (.iconst 2, 1) := by decide +kernel
theorem dX7_does_185 : decode cX7_does 185 = .ok (.iload 12, 2) := by decide +kernel
theorem dX7_does_187 : decode cX7_does 187 = .ok (.imul, 1) := by decide +kernel
theorem dX7_does_188 : decode cX7_does 188 = .ok (.iadd, 1) := by decide +kernel
theorem dX7_does_189 : decode cX7_does 189 = .ok (.laload, 1) := by decide +kernel
theorem dX7_does_190 : decode cX7_does 190 = .ok (.l2i, 1) := by decide +kernel
theorem dX7_does_191 : decode cX7_does 191 = .ok (.istore 13, 2) := by decide +kernel
theorem dX7_does_193 : decode cX7_does 193 = .ok (.aload_n 0, 1) := by decide +kernel
theorem dX7_does_194 : decode cX7_does 194 = .ok (.getfield 29, 3) := by decide +kernel
theorem dX7_does_197 : decode cX7_does 197 = .ok (.iload_n 2, 1) := by decide +kernel
theorem dX7_does_198 : decode cX7_does 198 = .ok (.bipush 10, 2) := by decide +kernel
theorem dX7_does_200 : decode cX7_does 200 = .ok (.iadd, 1) := by decide +kernel
theorem dX7_does_201 : decode cX7_does 201 = .ok (.iconst 2, 1) := by decide +kernel
theorem dX7_does_202 : decode cX7_does 202 = .ok (.iload 12, 2) := by decide +kernel
theorem dX7_does_204 : decode cX7_does 204 = .ok (.imul, 1) := by decide +kernel
theorem dX7_does_205 : decode cX7_does 205 = .ok (.iadd, 1) := by decide +kernel
theorem dX7_does_206 : decode cX7_does 206 = .ok (.laload, 1) := by decide +kernel
theorem dX7_does_207 : decode cX7_does 207 = .ok (.lstore 14, 2) := by decide +kernel
theorem dX7_does_209 : decode cX7_does 209 = .ok (.iload 10, 2) := by decide +kernel
theorem dX7_does_211 : decode cX7_does 211 = .ok (.bipush 10, 2) := by decide +kernel
theorem dX7_does_213 : decode cX7_does 213 = .ok (.iadd, 1) := by decide +kernel
theorem dX7_does_214 : decode cX7_does 214 = .ok (.i2l, 1) := by decide +kernel
theorem dX7_does_215 : decode cX7_does 215 = .ok (.aload_n 0, 1) := by decide +kernel
theorem dX7_does_216 : decode cX7_does 216 = .ok (.getfield 29, 3) := by decide +kernel
theorem dX7_does_219 : decode cX7_does 219 = .ok (.iload_n 2, 1) := by decide +kernel
theorem dX7_does_220 : decode cX7_does 220 = .ok (.iconst 3, 1) := by decide +kernel
theorem dX7_does_221 : decode cX7_does 221 = .ok (.iadd, 1) := by decide +kernel
theorem dX7_does_222 : decode cX7_does 222 = .ok (.laload, 1) := by decide +kernel
theorem dX7_does_223 : decode cX7_does 223 = .ok (.lcmp, 1) := by decide +kernel
theorem dX7_does_224 : decode cX7_does 224 = .ok (.ifCond .le 7, 3) := by decide +kernel
theorem dX7_does_227 : decode cX7_does 227 = .ok (.iconst 1, 1) := by decide +kernel
theorem dX7_does_228 : decode cX7_does 228 = .ok (.goto 4, 3) := by decide +kernel
theorem dX7_does_231 : decode cX7_does 231 = .ok (.iconst 0, 1) := by decide +kernel
theorem dX7_does_232 : decode cX7_does 232 = .ok (.istore 11, 2) := by decide +kernel
theorem dX7_does_234 : decode cX7_does 234 = .ok (.iload 11, 2) := by decide +kernel
theorem dX7_does_236 : decode cX7_does 236 = .ok (.ifCond .ne 25, 3) := by decide +kernel
theorem dX7_does_239 : decode cX7_does 239 = .ok (.iinc 10 10, 3) := by decide +kernel
theorem dX7_does_242 : decode cX7_does 242 = .ok (.aload_n 0, 1) := by decide +kernel
theorem dX7_does_243 : decode cX7_does 243 = .ok (.getfield 7, 3) := by decide +kernel
theorem dX7_does_246 : decode cX7_does 246 = .ok (.iload_n 3, 1) := by decide +kernel
theorem dX7_does_247 : decode cX7_does 247 = .ok (.laload, 1) := by decide +kernel
theorem dX7_does_248 : decode cX7_does 248 = .ok (.lload 14, 2) := by decide +kernel
theorem dX7_does_250 : decode cX7_does 250 = .ok (.lcmp, 1) := by decide +kernel
theorem dX7_does_251 : decode cX7_does 251 = .ok (.ifCond .ge 7, 3) := by decide +kernel
theorem dX7_does_254 : decode cX7_does 254 = .ok (.iconst 1, 1) := by decide +kernel
theorem dX7_does_255 : decode cX7_does 255 = .ok (.goto 4, 3) := by decide +kernel
theorem dX7_does_258 : decode cX7_does 258 = .ok (.iconst 0, 1) := by decide +kernel
theorem dX7_does_259 : decode cX7_does 259 = .ok (.istore 11, 2) := by decide +kernel
theorem dX7_does_261 : decode cX7_does 261 = .ok (.iload 11, 2) := by decide +kernel
theorem dX7_does_263 : decode cX7_does 263 = .ok (.ifCond .ne 26, 3) := by decide +kernel
theorem dX7_does_266 : decode cX7_does 266 = .ok (.aload_n 0, 1) := by decide +kernel
theorem dX7_does_267 : decode cX7_does 267 = .ok (.getfield 7, 3) := by decide +kernel
theorem dX7_does_270 : decode cX7_does 270 = .ok (.iload_n 3, 1) := by decide +kernel
theorem dX7_does_271 : decode cX7_does 271 = .ok (.dup2, 1) := by decide +kernel
theorem dX7_does_272 : decode cX7_does 272 = .ok (.laload, 1) := by decide +kernel
theorem dX7_does_273 : decode cX7_does 273 = .ok (.lload 14, 2) := by decide +kernel
theorem dX7_does_275 : decode cX7_does 275 = .ok (.lsub, 1) := by decide +kernel
theorem dX7_does_276 : decode cX7_does 276 = .ok (.lastore, 1) := by decide +kernel
theorem dX7_does_277 : decode cX7_does 277 = .ok (.aload_n 0, 1) := by decide +kernel
theorem dX7_does_278 : decode cX7_does 278 = .ok (.getfield 7, 3) := by decide +kernel
theorem dX7_does_281 : decode cX7_does 281 = .ok (.iload 13, 2) := by decide +kernel
theorem dX7_does_283 : decode cX7_does 283 = .ok (.dup2, 1) := by decide +kernel
theorem dX7_does_284 : decode cX7_does 284 = .ok (.laload, 1) := by decide +kernel
theorem dX7_does_285 : decode cX7_does 285 = .ok (.lload 14, 2) := by decide +kernel
theorem dX7_does_287 : decode cX7_does 287 = .ok (.ladd, 1) := by decide +kernel
theorem dX7_does_288 : decode cX7_does 288 = .ok (.lastore, 1) := by decide +kernel
theorem dX7_does_289 : decode cX7_does 289 = .ok (.iinc 12 1, 3) := by decide +kernel
theorem dX7_does_292 : decode cX7_does 292 = .ok (.goto (-137), 3) := by decide +kernel
theorem dX7_does_295 : decode cX7_does 295 = .ok (.iconst 0, 1) := by decide +kernel
theorem dX7_does_296 : decode cX7_does 296 = .ok (.istore 12, 2) := by decide +kernel
theorem dX7_does_298 : decode cX7_does 298 = .ok (.iload 12, 2) := by decide +kernel
theorem dX7_does_300 : decode cX7_does 300 = .ok (.bipush 12, 2) := by decide +kernel
theorem dX7_does_302 : decode cX7_does 302 = .ok (.if_icmp .ge 28, 3) := by decide +kernel
theorem dX7_does_305 : decode cX7_does 305 = .ok (.iload 11, 2) := by decide +kernel
theorem dX7_does_307 : decode cX7_does 307 = .ok (.ifCond .eq 23, 3) := by decide +kernel
theorem dX7_does_310 : decode cX7_does 310 = .ok (.aload_n 0, 1) := by decide +kernel
theorem dX7_does_311 : decode cX7_does 311 = .ok (.getfield 7, 3) := by decide +kernel
theorem dX7_does_314 : decode cX7_does 314 = .ok (.iload 12, 2) := by decide +kernel
theorem dX7_does_316 : decode cX7_does 316 = .ok (.aload_n 0, 1) := by decide +kernel
theorem dX7_does_317 : decode cX7_does 317 = .ok (.getfield 42, 3) := by decide +kernel
theorem dX7_does_320 : decode cX7_does 320 = .ok (.iload 12, 2) := by decide +kernel
theorem dX7_does_322 : decode cX7_does 322 = .ok (.laload, 1) := by decide +kernel
theorem dX7_does_323 : decode cX7_does 323 = .ok (.lastore, 1) := by decide +kernel
theorem dX7_does_324 : decode cX7_does 324 = .ok (.iinc 12 1, 3) := by decide +kernel
theorem dX7_does_327 : decode cX7_does 327 = .ok (.goto (-29), 3) := by decide +kernel
theorem dX7_does_330 : decode cX7_does 330 = .ok (.aload_n 0, 1) := by decide +kernel
theorem dX7_does_331 : decode cX7_does 331 = .ok (.getfield 7, 3) := by decide +kernel
theorem dX7_does_334 : decode cX7_does 334 = .ok (.iload 4, 2) := by decide +kernel
theorem dX7_does_336 : decode cX7_does 336 = .ok (.dup2, 1) := by decide +kernel
theorem dX7_does_337 : decode cX7_does 337 = .ok (.laload, 1) := by decide +kernel
theorem dX7_does_338 : decode cX7_does 338 = .ok (.lload 8, 2) := by decide +kernel
theorem dX7_does_340 : decode cX7_does 340 = .ok (.lload 6, 2) := by decide +kernel
theorem dX7_does_342 : decode cX7_does 342 = .ok (.iload 10, 2) := by decide +kernel
theorem dX7_does_344 : decode cX7_does 344 = .ok (.i2l, 1) := by decide +kernel
theorem dX7_does_345 : decode cX7_does 345 = .ok (.lmul, 1) := by decide +kernel
theorem dX7_does_346 : decode cX7_does 346 = .ok (.lsub, 1) := by decide +kernel
theorem dX7_does_347 : decode cX7_does 347 = .ok (.ladd, 1) := by decide +kernel
theorem dX7_does_348 : decode cX7_does 348 = .ok (.lastore, 1) := by decide +kernel
theorem dX7_does_349 : decode cX7_does 349 = .ok (.aload_n 0, 1) := by decide +kernel
theorem dX7_does_350 : decode cX7_does 350 = .ok (.dup, 1) := by decide +kernel
theorem dX7_does_351 : decode cX7_does 351 = .ok (.getfield 138, 3) := by decide +kernel
theorem dX7_does_354 : decode cX7_does 354 = .ok (.iload 10, 2) := by decide +kernel
theorem dX7_does_356 : decode cX7_does 356 = .ok (.isub, 1) := by decide +kernel
theorem dX7_does_357 : decode cX7_does 357 = .ok (.putfield 138, 3) := by decide +kernel
theorem dX7_does_360 : decode cX7_does 360 = .ok (.aload_n 0, 1) := by decide +kernel
theorem dX7_does_361 : decode cX7_does 361 = .ok (.dup, 1) := by decide +kernel
theorem dX7_does_362 : decode cX7_does 362 = .ok (.getfield 141, 3) := by decide +kernel
theorem dX7_does_365 : decode cX7_does 365 = .ok (.lload 6, 2) := by decide +kernel
theorem dX7_does_367 : decode cX7_does 367 = .ok (.iload 10, 2) := by decide +kernel
theorem dX7_does_369 : decode cX7_does 369 = .ok (.i2l, 1) := by decide +kernel
theorem dX7_does_370 : decode cX7_does 370 = .ok (.lmul, 1) := by decide +kernel
theorem dX7_does_371 : decode cX7_does 371 = .ok (.ladd, 1) := by decide +kernel
theorem dX7_does_372 : decode cX7_does 372 = .ok (.putfield 141, 3) := by decide +kernel
theorem dX7_does_375 : decode cX7_does 375 = .ok (.aload_n 0, 1) := by decide +kernel
theorem dX7_does_376 : decode cX7_does 376 = .ok (.iload 5, 2) := by decide +kernel
theorem dX7_does_378 : decode cX7_does 378 = .ok (.iload 11, 2) := by decide +kernel
theorem dX7_does_380 : decode cX7_does 380 = .ok (.ifCond .eq 7, 3) := by decide +kernel
theorem dX7_does_383 : decode cX7_does 383 = .ok (.iconst 1, 1) := by decide +kernel
theorem dX7_does_384 : decode cX7_does 384 = .ok (.goto 4, 3) := by decide +kernel
theorem dX7_does_387 : decode cX7_does 387 = .ok (.iconst 0, 1) := by decide +kernel
theorem dX7_does_388 : decode cX7_does 388 = .ok (.iload 10, 2) := by decide +kernel
theorem dX7_does_390 : decode cX7_does 390 = .ok (.invokevirtual 127, 3) := by decide +kernel
theorem dX7_does_393 : decode cX7_does 393 = .ok (.aload_n 0, 1) := by decide +kernel
theorem dX7_does_394 : decode cX7_does 394 = .ok (.iload_n 1, 1) := by decide +kernel
theorem dX7_does_395 : decode cX7_does 395 = .ok (.invokevirtual 131, 3) := by decide +kernel
theorem dX7_does_398 : decode cX7_does 398 = .ok (.iload 11, 2) := by decide +kernel
theorem dX7_does_400 : decode cX7_does 400 = .ok (.ifCond .ne 7, 3) := by decide +kernel
theorem dX7_does_403 : decode cX7_does 403 = .ok (.iconst 1, 1) := by decide +kernel
theorem dX7_does_404 : decode cX7_does 404 = .ok (.goto 4, 3) := by decide +kernel
theorem dX7_does_407 : decode cX7_does 407 = .ok (.iconst 0, 1) := by decide +kernel
theorem dX7_does_408 : decode cX7_does 408 = .ok (.ireturn, 1) := by decide +kernel
set_option maxRecDepth 20000 in
theorem ggX7_block_X7_in : GoodIn wsX7_block wsX7_in := goodIn_r _ [7] (by decide +kernel) (by decide +kernel)
set_option maxRecDepth 20000 in
theorem gX7_block_X7_in : GoodIn wsX7_block (va_wsS RX7 48 yX7_in wsX7_in) := goodIn_app (goodIn_of _ (by decide +kernel)) ggX7_block_X7_in
set_option maxRecDepth 20000 in
theorem ggX7_block_X7_ends : GoodIn wsX7_block wsX7_ends := goodIn_r _ [11, 12, 13, 2, 14, 15, 16, 6, 17, 18, 19, 20, 21, 22, 23, 39, 40, 41, 42, 43, 44, 45, 46, 47, 48, 49, 50, 51, 52, 53, 54, 55, 56, 57, 58, 59] (by decide +kernel) (by decide +kernel)
set_option maxRecDepth 20000 in
theorem gX7_block_X7_ends : GoodIn wsX7_block (wsV RX7 147 RX7 yX7_ends wsX7_ends) := goodIn_app (goodIn_of _ (by decide +kernel)) ggX7_block_X7_ends
set_option maxRecDepth 20000 in
theorem ggX7_block_X7_dearest : GoodIn wsX7_block wsX7_dearest := goodIn_r _ [27, 12, 13, 28, 2, 3, 39, 40, 41, 42, 43, 44, 45, 46, 47, 48, 49, 50, 51, 52, 53, 54, 55, 56, 57, 58, 59] (by decide +kernel) (by decide +kernel)
set_option maxRecDepth 20000 in
theorem gX7_block_X7_dearest : GoodIn wsX7_block (wsV RX7 150 RX7 yX7_dearest wsX7_dearest) := goodIn_app (goodIn_of _ (by decide +kernel)) ggX7_block_X7_dearest
set_option maxRecDepth 20000 in
theorem ggX7_block_X7_does : GoodIn wsX7_block wsX7_does := goodIn_r _ [32, 13, 33, 28, 34, 3, 35, 36, 37, 6, 38, 14, 15, 16, 17, 18, 19, 20, 21, 22, 23, 12, 39, 40, 41, 42, 43, 44, 45, 46, 47, 48, 49, 50, 51, 52, 53, 54, 55, 56, 57, 58, 59] (by decide +kernel) (by decide +kernel)
set_option maxRecDepth 20000 in
theorem gX7_block_X7_does : GoodIn wsX7_block (wsV RX7 153 RX7 yX7_does wsX7_does) := goodIn_app (goodIn_of _ (by decide +kernel)) ggX7_block_X7_does
theorem dX7_block_0 : decode cX7_block 0 = .ok (.iload_n 1, 1) := by decide +kernel
theorem dX7_block_1 : decode cX7_block 1 = .ok (.i2l, 1) := by decide +kernel
theorem dX7_block_2 : decode cX7_block 2 = .ok (.lconst 0, 1) := by decide +kernel
theorem dX7_block_3 : decode cX7_block 3 = .ok (.ldc2_w 145, 3) := by decide +kernel
theorem dX7_block_6 : decode cX7_block 6 = .ok (.invokestatic 48, 3) := by decide +kernel
theorem dX7_block_9 : decode cX7_block 9 = .ok (.ifCond .ne 5, 3) := by decide +kernel
theorem dX7_block_12 : decode cX7_block 12 = .ok (.iconst (-1), 1) := by decide +kernel
theorem dX7_block_13 : decode cX7_block 13 = .ok (.ireturn, 1) := by decide +kernel
theorem dX7_block_14 : decode cX7_block 14 = .ok (.aload_n 0, 1) := by decide +kernel
theorem dX7_block_15 : decode cX7_block 15 = .ok (.dup, 1) := by decide +kernel
theorem dX7_block_16 : decode cX7_block 16 = .ok (.getfield 103, 3) := by decide +kernel
theorem dX7_block_19 : decode cX7_block 19 = .ok (.iconst 1, 1) := by decide +kernel
theorem dX7_block_20 : decode cX7_block 20 = .ok (.iadd, 1) := by decide +kernel
theorem dX7_block_21 : decode cX7_block 21 = .ok (.putfield 103, 3) := by decide +kernel
theorem dX7_block_24 : decode cX7_block 24 = .ok (.aload_n 0, 1) := by decide +kernel
theorem dX7_block_25 : decode cX7_block 25 = .ok (.invokevirtual 147, 3) := by decide +kernel
theorem dX7_block_28 : decode cX7_block 28 = .ok (.aload_n 0, 1) := by decide +kernel
theorem dX7_block_29 : decode cX7_block 29 = .ok (.iload_n 1, 1) := by decide +kernel
theorem dX7_block_30 : decode cX7_block 30 = .ok (.putfield 138, 3) := by decide +kernel
theorem dX7_block_33 : decode cX7_block 33 = .ok (.iconst 0, 1) := by decide +kernel
theorem dX7_block_34 : decode cX7_block 34 = .ok (.istore_n 2, 1) := by decide +kernel
theorem dX7_block_35 : decode cX7_block 35 = .ok (.aload_n 0, 1) := by decide +kernel
theorem dX7_block_36 : decode cX7_block 36 = .ok (.invokevirtual 150, 3) := by decide +kernel
theorem dX7_block_39 : decode cX7_block 39 = .ok (.istore_n 3, 1) := by decide +kernel
theorem dX7_block_40 : decode cX7_block 40 = .ok (.iload_n 3, 1) := by decide +kernel
theorem dX7_block_41 : decode cX7_block 41 = .ok (.ifCond .le 27, 3) := by decide +kernel
theorem dX7_block_44 : decode cX7_block 44 = .ok (.iload_n 2, 1) := by decide +kernel
theorem dX7_block_45 : decode cX7_block 45 = .ok (.aload_n 0, 1) := by decide +kernel
theorem dX7_block_46 : decode cX7_block 46 = .ok (.iload_n 3, 1) := by decide +kernel
theorem dX7_block_47 : decode cX7_block 47 = .ok (.invokevirtual 153, 3) := by decide +kernel
theorem dX7_block_50 : decode cX7_block 50 = .ok (.ifCond .eq 7, 3) := by decide +kernel
theorem dX7_block_53 : decode cX7_block 53 = .ok (.iconst 1, 1) := by decide +kernel
theorem dX7_block_54 : decode cX7_block 54 = .ok (.goto 4, 3) := by decide +kernel
theorem dX7_block_57 : decode cX7_block 57 = .ok (.iconst 0, 1) := by decide +kernel
theorem dX7_block_58 : decode cX7_block 58 = .ok (.iadd, 1) := by decide +kernel
theorem dX7_block_59 : decode cX7_block 59 = .ok (.istore_n 2, 1) := by decide +kernel
theorem dX7_block_60 : decode cX7_block 60 = .ok (.aload_n 0, 1) := by decide +kernel
theorem dX7_block_61 : decode cX7_block 61 = .ok (.invokevirtual 150, 3) := by decide +kernel
theorem dX7_block_64 : decode cX7_block 64 = .ok (.istore_n 3, 1) := by decide +kernel
theorem dX7_block_65 : decode cX7_block 65 = .ok (.goto (-25), 3) := by decide +kernel
theorem dX7_block_68 : decode cX7_block 68 = .ok (.iload_n 2, 1) := by decide +kernel
theorem dX7_block_69 : decode cX7_block 69 = .ok (.ireturn, 1) := by decide +kernel
set_option maxRecDepth 20000 in
theorem ggX7_waiting_X7_in : GoodIn wsX7_waiting wsX7_in := goodIn_r _ [7] (by decide +kernel) (by decide +kernel)
set_option maxRecDepth 20000 in
theorem gX7_waiting_X7_in : GoodIn wsX7_waiting (va_wsS RX7 48 yX7_in wsX7_in) := goodIn_app (goodIn_of _ (by decide +kernel)) ggX7_waiting_X7_in
theorem dX7_waiting_0 : decode cX7_waiting 0 = .ok (.iload_n 1, 1) := by decide +kernel
theorem dX7_waiting_1 : decode cX7_waiting 1 = .ok (.i2l, 1) := by decide +kernel
theorem dX7_waiting_2 : decode cX7_waiting 2 = .ok (.lconst 0, 1) := by decide +kernel
theorem dX7_waiting_3 : decode cX7_waiting 3 = .ok (.aload_n 0, 1) := by decide +kernel
theorem dX7_waiting_4 : decode cX7_waiting 4 = .ok (.getfield 100, 3) := by decide +kernel
theorem dX7_waiting_7 : decode cX7_waiting 7 = .ok (.iconst 1, 1) := by decide +kernel
theorem dX7_waiting_8 : decode cX7_waiting 8 = .ok (.isub, 1) := by decide +kernel
theorem dX7_waiting_9 : decode cX7_waiting 9 = .ok (.i2l, 1) := by decide +kernel
theorem dX7_waiting_10 : decode cX7_waiting 10 = .ok (.invokestatic 48, 3) := by decide +kernel
theorem dX7_waiting_13 : decode cX7_waiting 13 = .ok (.ifCond .eq 15, 3) := by decide +kernel
theorem dX7_waiting_16 : decode cX7_waiting 16 = .ok (.iload_n 2, 1) := by decide +kernel
theorem dX7_waiting_17 : decode cX7_waiting 17 = .ok (.i2l, 1) := by decide +kernel
theorem dX7_waiting_18 : decode cX7_waiting 18 = .ok (.lconst 0, 1) := by decide +kernel
theorem dX7_waiting_19 : decode cX7_waiting 19 = .ok (.ldc2_w 156, 3) := by decide +kernel
theorem dX7_waiting_22 : decode cX7_waiting 22 = .ok (.invokestatic 48, 3) := by decide +kernel
theorem dX7_waiting_25 : decode cX7_waiting 25 = .ok (.ifCond .ne 5, 3) := by decide +kernel
theorem dX7_waiting_28 : decode cX7_waiting 28 = .ok (.iconst (-1), 1) := by decide +kernel
theorem dX7_waiting_29 : decode cX7_waiting 29 = .ok (.ireturn, 1) := by decide +kernel
theorem dX7_waiting_30 : decode cX7_waiting 30 = .ok (.aload_n 0, 1) := by decide +kernel
theorem dX7_waiting_31 : decode cX7_waiting 31 = .ok (.getfield 29, 3) := by decide +kernel
theorem dX7_waiting_34 : decode cX7_waiting 34 = .ok (.bipush 17, 2) := by decide +kernel
theorem dX7_waiting_36 : decode cX7_waiting 36 = .ok (.iload_n 1, 1) := by decide +kernel
theorem dX7_waiting_37 : decode cX7_waiting 37 = .ok (.iconst 1, 1) := by decide +kernel
theorem dX7_waiting_38 : decode cX7_waiting 38 = .ok (.iadd, 1) := by decide +kernel
theorem dX7_waiting_39 : decode cX7_waiting 39 = .ok (.imul, 1) := by decide +kernel
theorem dX7_waiting_40 : decode cX7_waiting 40 = .ok (.iload_n 2, 1) := by decide +kernel
theorem dX7_waiting_41 : decode cX7_waiting 41 = .ok (.ifCond .ne 8, 3) := by decide +kernel
theorem dX7_waiting_44 : decode cX7_waiting 44 = .ok (.bipush 7, 2) := by decide +kernel
theorem dX7_waiting_46 : decode cX7_waiting 46 = .ok (.goto 6, 3) := by decide +kernel
theorem dX7_waiting_49 : decode cX7_waiting 49 = .ok (.iload_n 2, 1) := by decide +kernel
theorem dX7_waiting_50 : decode cX7_waiting 50 = .ok (.iconst 1, 1) := by decide +kernel
theorem dX7_waiting_51 : decode cX7_waiting 51 = .ok (.isub, 1) := by decide +kernel
theorem dX7_waiting_52 : decode cX7_waiting 52 = .ok (.iadd, 1) := by decide +kernel
theorem dX7_waiting_53 : decode cX7_waiting 53 = .ok (.laload, 1) := by decide +kernel
theorem dX7_waiting_54 : decode cX7_waiting 54 = .ok (.l2i, 1) := by decide +kernel
theorem dX7_waiting_55 : decode cX7_waiting 55 = .ok (.ireturn, 1) := by decide +kernel
set_option maxRecDepth 20000 in
theorem ggX7_event_X7_in : GoodIn wsX7_event wsX7_in := goodIn_r _ [7] (by decide +kernel) (by decide +kernel)
set_option maxRecDepth 20000 in
theorem gX7_event_X7_in : GoodIn wsX7_event (va_wsS RX7 48 yX7_in wsX7_in) := goodIn_app (goodIn_of _ (by decide +kernel)) ggX7_event_X7_in
theorem dX7_event_0 : decode cX7_event 0 = .ok (.iload_n 1, 1) := by decide +kernel
theorem dX7_event_1 : decode cX7_event 1 = .ok (.i2l, 1) := by decide +kernel
theorem dX7_event_2 : decode cX7_event 2 = .ok (.lconst 0, 1) := by decide +kernel
theorem dX7_event_3 : decode cX7_event 3 = .ok (.aload_n 0, 1) := by decide +kernel
theorem dX7_event_4 : decode cX7_event 4 = .ok (.getfield 117, 3) := by decide +kernel
theorem dX7_event_7 : decode cX7_event 7 = .ok (.bipush 60, 2) := by decide +kernel
theorem dX7_event_9 : decode cX7_event 9 = .ok (.if_icmp .ge 10, 3) := by decide +kernel
theorem dX7_event_12 : decode cX7_event 12 = .ok (.aload_n 0, 1) := by decide +kernel
theorem dX7_event_13 : decode cX7_event 13 = .ok (.getfield 117, 3) := by decide +kernel
theorem dX7_event_16 : decode cX7_event 16 = .ok (.goto 5, 3) := by decide +kernel
theorem dX7_event_19 : decode cX7_event 19 = .ok (.bipush 60, 2) := by decide +kernel
theorem dX7_event_21 : decode cX7_event 21 = .ok (.iconst 1, 1) := by decide +kernel
theorem dX7_event_22 : decode cX7_event 22 = .ok (.isub, 1) := by decide +kernel
theorem dX7_event_23 : decode cX7_event 23 = .ok (.i2l, 1) := by decide +kernel
theorem dX7_event_24 : decode cX7_event 24 = .ok (.invokestatic 48, 3) := by decide +kernel
theorem dX7_event_27 : decode cX7_event 27 = .ok (.ifCond .eq 15, 3) := by decide +kernel
theorem dX7_event_30 : decode cX7_event 30 = .ok (.iload_n 2, 1) := by decide +kernel
theorem dX7_event_31 : decode cX7_event 31 = .ok (.i2l, 1) := by decide +kernel
theorem dX7_event_32 : decode cX7_event 32 = .ok (.lconst 0, 1) := by decide +kernel
theorem dX7_event_33 : decode cX7_event 33 = .ok (.ldc2_w 94, 3) := by decide +kernel
theorem dX7_event_36 : decode cX7_event 36 = .ok (.invokestatic 48, 3) := by decide +kernel
theorem dX7_event_39 : decode cX7_event 39 = .ok (.ifCond .ne 5, 3) := by decide +kernel
theorem dX7_event_42 : decode cX7_event 42 = .ok (.iconst (-1), 1) := by decide +kernel
theorem dX7_event_43 : decode cX7_event 43 = .ok (.ireturn, 1) := by decide +kernel
theorem dX7_event_44 : decode cX7_event 44 = .ok (.aload_n 0, 1) := by decide +kernel
theorem dX7_event_45 : decode cX7_event 45 = .ok (.getfield 39, 3) := by decide +kernel
theorem dX7_event_48 : decode cX7_event 48 = .ok (.iconst 3, 1) := by decide +kernel
theorem dX7_event_49 : decode cX7_event 49 = .ok (.aload_n 0, 1) := by decide +kernel
theorem dX7_event_50 : decode cX7_event 50 = .ok (.getfield 117, 3) := by decide +kernel
theorem dX7_event_53 : decode cX7_event 53 = .ok (.iconst 1, 1) := by decide +kernel
theorem dX7_event_54 : decode cX7_event 54 = .ok (.isub, 1) := by decide +kernel
theorem dX7_event_55 : decode cX7_event 55 = .ok (.iload_n 1, 1) := by decide +kernel
theorem dX7_event_56 : decode cX7_event 56 = .ok (.isub, 1) := by decide +kernel
theorem dX7_event_57 : decode cX7_event 57 = .ok (.bipush 60, 2) := by decide +kernel
theorem dX7_event_59 : decode cX7_event 59 = .ok (.irem, 1) := by decide +kernel
theorem dX7_event_60 : decode cX7_event 60 = .ok (.imul, 1) := by decide +kernel
theorem dX7_event_61 : decode cX7_event 61 = .ok (.iload_n 2, 1) := by decide +kernel
theorem dX7_event_62 : decode cX7_event 62 = .ok (.iadd, 1) := by decide +kernel
theorem dX7_event_63 : decode cX7_event 63 = .ok (.iaload, 1) := by decide +kernel
theorem dX7_event_64 : decode cX7_event 64 = .ok (.ireturn, 1) := by decide +kernel
theorem dX7_paid_0 : decode cX7_paid 0 = .ok (.aload_n 0, 1) := by decide +kernel
theorem dX7_paid_1 : decode cX7_paid 1 = .ok (.getfield 141, 3) := by decide +kernel
theorem dX7_paid_4 : decode cX7_paid 4 = .ok (.lreturn, 1) := by decide +kernel
theorem dX7_told__0 : decode cX7_told_ 0 = .ok (.iload_n 1, 1) := by decide +kernel
theorem dX7_told__1 : decode cX7_told_ 1 = .ok (.tableswitch 69 0 5 #[39, 44, 49, 54, 59, 64], 39) := by decide +kernel
theorem dX7_told__40 : decode cX7_told_ 40 = .ok (.aload_n 0, 1) := by decide +kernel
theorem dX7_told__41 : decode cX7_told_ 41 = .ok (.getfield 45, 3) := by decide +kernel
theorem dX7_told__44 : decode cX7_told_ 44 = .ok (.ireturn, 1) := by decide +kernel
theorem dX7_told__45 : decode cX7_told_ 45 = .ok (.aload_n 0, 1) := by decide +kernel
theorem dX7_told__46 : decode cX7_told_ 46 = .ok (.getfield 68, 3) := by decide +kernel
theorem dX7_told__49 : decode cX7_told_ 49 = .ok (.ireturn, 1) := by decide +kernel
theorem dX7_told__50 : decode cX7_told_ 50 = .ok (.aload_n 0, 1) := by decide +kernel
theorem dX7_told__51 : decode cX7_told_ 51 = .ok (.getfield 100, 3) := by decide +kernel
theorem dX7_told__54 : decode cX7_told_ 54 = .ok (.ireturn, 1) := by decide +kernel
theorem dX7_told__55 : decode cX7_told_ 55 = .ok (.aload_n 0, 1) := by decide +kernel
theorem dX7_told__56 : decode cX7_told_ 56 = .ok (.getfield 135, 3) := by decide +kernel
theorem dX7_told__59 : decode cX7_told_ 59 = .ok (.ireturn, 1) := by decide +kernel
theorem dX7_told__60 : decode cX7_told_ 60 = .ok (.aload_n 0, 1) := by decide +kernel
theorem dX7_told__61 : decode cX7_told_ 61 = .ok (.getfield 117, 3) := by decide +kernel
theorem dX7_told__64 : decode cX7_told_ 64 = .ok (.ireturn, 1) := by decide +kernel
theorem dX7_told__65 : decode cX7_told_ 65 = .ok (.aload_n 0, 1) := by decide +kernel
theorem dX7_told__66 : decode cX7_told_ 66 = .ok (.getfield 103, 3) := by decide +kernel
theorem dX7_told__69 : decode cX7_told_ 69 = .ok (.ireturn, 1) := by decide +kernel
theorem dX7_told__70 : decode cX7_told_ 70 = .ok (.iconst (-1), 1) := by decide +kernel
theorem dX7_told__71 : decode cX7_told_ 71 = .ok (.ireturn, 1) := by decide +kernel
theorem dJ6_bitCount_0f7a4_0 : decode cJ6_bitCount_0f7a4 0 = .ok (.iload_n 0, 1) := by decide +kernel
theorem dJ6_bitCount_0f7a4_1 : decode cJ6_bitCount_0f7a4 1 = .ok (.iload_n 0, 1) := by decide +kernel
theorem dJ6_bitCount_0f7a4_2 : decode cJ6_bitCount_0f7a4 2 = .ok (.iconst 1, 1) := by decide +kernel
theorem dJ6_bitCount_0f7a4_3 : decode cJ6_bitCount_0f7a4 3 = .ok (.iushr, 1) := by decide +kernel
theorem dJ6_bitCount_0f7a4_4 : decode cJ6_bitCount_0f7a4 4 = .ok (.ldc_w 265, 3) := by decide +kernel
theorem dJ6_bitCount_0f7a4_7 : decode cJ6_bitCount_0f7a4 7 = .ok (.iand, 1) := by decide +kernel
theorem dJ6_bitCount_0f7a4_8 : decode cJ6_bitCount_0f7a4 8 = .ok (.isub, 1) := by decide +kernel
theorem dJ6_bitCount_0f7a4_9 : decode cJ6_bitCount_0f7a4 9 = .ok (.istore_n 0, 1) := by decide +kernel
theorem dJ6_bitCount_0f7a4_10 : decode cJ6_bitCount_0f7a4 10 = .ok (.iload_n 0, 1) := by decide +kernel
theorem dJ6_bitCount_0f7a4_11 : decode cJ6_bitCount_0f7a4 11 = .ok (.ldc_w 266, 3) := by decide +kernel
theorem dJ6_bitCount_0f7a4_14 : decode cJ6_bitCount_0f7a4 14 = .ok (.iand, 1) := by decide +kernel
theorem dJ6_bitCount_0f7a4_15 : decode cJ6_bitCount_0f7a4 15 = .ok (.iload_n 0, 1) := by decide +kernel
theorem dJ6_bitCount_0f7a4_16 : decode cJ6_bitCount_0f7a4 16 = .ok (.iconst 2, 1) := by decide +kernel
theorem dJ6_bitCount_0f7a4_17 : decode cJ6_bitCount_0f7a4 17 = .ok (.iushr, 1) := by decide +kernel
theorem dJ6_bitCount_0f7a4_18 : decode cJ6_bitCount_0f7a4 18 = .ok (.ldc_w 266, 3) := by decide +kernel
theorem dJ6_bitCount_0f7a4_21 : decode cJ6_bitCount_0f7a4 21 = .ok (.iand, 1) := by decide +kernel
theorem dJ6_bitCount_0f7a4_22 : decode cJ6_bitCount_0f7a4 22 = .ok (.iadd, 1) := by decide +kernel
theorem dJ6_bitCount_0f7a4_23 : decode cJ6_bitCount_0f7a4 23 = .ok (.istore_n 0, 1) := by decide +kernel
theorem dJ6_bitCount_0f7a4_24 : decode cJ6_bitCount_0f7a4 24 = .ok (.iload_n 0, 1) := by decide +kernel
theorem dJ6_bitCount_0f7a4_25 : decode cJ6_bitCount_0f7a4 25 = .ok (.iload_n 0, 1) := by decide +kernel
theorem dJ6_bitCount_0f7a4_26 : decode cJ6_bitCount_0f7a4 26 = .ok (.iconst 4, 1) := by decide +kernel
theorem dJ6_bitCount_0f7a4_27 : decode cJ6_bitCount_0f7a4 27 = .ok (.iushr, 1) := by decide +kernel
theorem dJ6_bitCount_0f7a4_28 : decode cJ6_bitCount_0f7a4 28 = .ok (.iadd, 1) := by decide +kernel
theorem dJ6_bitCount_0f7a4_29 : decode cJ6_bitCount_0f7a4 29 = .ok (.ldc_w 267, 3) := by decide +kernel
theorem dJ6_bitCount_0f7a4_32 : decode cJ6_bitCount_0f7a4 32 = .ok (.iand, 1) := by decide +kernel
theorem dJ6_bitCount_0f7a4_33 : decode cJ6_bitCount_0f7a4 33 = .ok (.istore_n 0, 1) := by decide +kernel
theorem dJ6_bitCount_0f7a4_34 : decode cJ6_bitCount_0f7a4 34 = .ok (.iload_n 0, 1) := by decide +kernel
theorem dJ6_bitCount_0f7a4_35 : decode cJ6_bitCount_0f7a4 35 = .ok (.iload_n 0, 1) := by decide +kernel
theorem dJ6_bitCount_0f7a4_36 : decode cJ6_bitCount_0f7a4 36 = .ok (.bipush 8, 2) := by decide +kernel
theorem dJ6_bitCount_0f7a4_38 : decode cJ6_bitCount_0f7a4 38 = .ok (.iushr, 1) := by decide +kernel
theorem dJ6_bitCount_0f7a4_39 : decode cJ6_bitCount_0f7a4 39 = .ok (.iadd, 1) := by decide +kernel
theorem dJ6_bitCount_0f7a4_40 : decode cJ6_bitCount_0f7a4 40 = .ok (.istore_n 0, 1) := by decide +kernel
theorem dJ6_bitCount_0f7a4_41 : decode cJ6_bitCount_0f7a4 41 = .ok (.iload_n 0, 1) := by decide +kernel
theorem dJ6_bitCount_0f7a4_42 : decode cJ6_bitCount_0f7a4 42 = .ok (.iload_n 0, 1) := by decide +kernel
theorem dJ6_bitCount_0f7a4_43 : decode cJ6_bitCount_0f7a4 43 = .ok (.bipush 16, 2) := by decide +kernel
theorem dJ6_bitCount_0f7a4_45 : decode cJ6_bitCount_0f7a4 45 = .ok (.iushr, 1) := by decide +kernel
theorem dJ6_bitCount_0f7a4_46 : decode cJ6_bitCount_0f7a4 46 = .ok (.iadd, 1) := by decide +kernel
theorem dJ6_bitCount_0f7a4_47 : decode cJ6_bitCount_0f7a4 47 = .ok (.istore_n 0, 1) := by decide +kernel
theorem dJ6_bitCount_0f7a4_48 : decode cJ6_bitCount_0f7a4 48 = .ok (.iload_n 0, 1) := by decide +kernel
theorem dJ6_bitCount_0f7a4_49 : decode cJ6_bitCount_0f7a4 49 = .ok (.bipush 63, 2) := by decide +kernel
theorem dJ6_bitCount_0f7a4_51 : decode cJ6_bitCount_0f7a4 51 = .ok (.iand, 1) := by decide +kernel
theorem dJ6_bitCount_0f7a4_52 : decode cJ6_bitCount_0f7a4 52 = .ok (.ireturn, 1) := by decide +kernel
theorem dJ9_min_7cf53_0 : decode cJ9_min_7cf53 0 = .ok (.iload_n 0, 1) := by decide +kernel
theorem dJ9_min_7cf53_1 : decode cJ9_min_7cf53 1 = .ok (.iload_n 1, 1) := by decide +kernel
theorem dJ9_min_7cf53_2 : decode cJ9_min_7cf53 2 = .ok (.if_icmp .gt 7, 3) := by decide +kernel
theorem dJ9_min_7cf53_5 : decode cJ9_min_7cf53 5 = .ok (.iload_n 0, 1) := by decide +kernel
theorem dJ9_min_7cf53_6 : decode cJ9_min_7cf53 6 = .ok (.goto 4, 3) := by decide +kernel
theorem dJ9_min_7cf53_9 : decode cJ9_min_7cf53 9 = .ok (.iload_n 1, 1) := by decide +kernel
theorem dJ9_min_7cf53_10 : decode cJ9_min_7cf53 10 = .ok (.ireturn, 1) := by decide +kernel
end
section
/-! ===== our own core: partial pure functions, states, worlds, rows ===== -/
def inb (i : Int32) (n : Nat) : Bool := decide (¬ i < 0) && decide (i.toNatClampNeg < n)
theorem og {α : Type} {i : Int32} {n : Nat} {X : Option α} {G : α} (h : (if inb i n = true then X else none) = some G) : vp_in i n ∧ X = some G := by
  by_cases hb : inb i n = true
  · rw [if_pos hb] at h
    refine ⟨?_, h⟩
    simp only [inb, Bool.and_eq_true, decide_eq_true_eq] at hb
    intro hq
    rcases hq with q | q
    · exact hb.1 q
    · omega
  · rw [if_neg hb] at h
    cases h
theorem ot {α : Type} {P : Prop} [Decidable P] {X : Option α} {G : α} (h : (if P then X else none) = some G) : P ∧ X = some G := by
  by_cases hb : P
  · rw [if_pos hb] at h
    exact ⟨hb, h⟩
  · rw [if_neg hb] at h
    cases h
theorem ob {α β : Type} {o : Option α} {f : α → Option β} {G : β} (h : o.bind f = some G) : ∃ q, o = some q ∧ f q = some G := by
  cases o with
  | none => cases h
  | some q => exact ⟨q, rfl, h⟩
theorem ip {α : Type} {P : Prop} [Decidable P] {a b G : α} (h : P) (hG : (if P then a else b) = G) : a = G := by rw [if_pos h] at hG; exact hG
theorem inn {α : Type} {P : Prop} [Decidable P] {a b G : α} (h : ¬ P) (hG : (if P then a else b) = G) : b = G := by rw [if_neg h] at hG; exact hG
theorem ret2 {α β : Type} {v r : α} {u w : β} (h : some (v, u) = some (r, w)) : v = r ∧ u = w := by cases h; exact ⟨rfl, rfl⟩
theorem ret1 {α β : Type} {v r : α} {u : β} (h : some v = some r) : v = r ∧ u = u := by cases h; exact ⟨rfl, rfl⟩
theorem retv {α : Type} {v r : α} (h : some v = some r) : v = r := by cases h; rfl
theorem ns {α : Type} {G : α} {P : Prop} (h : (none : Option α) = some G) : P := by cases h
theorem nz {v : Int32} (h : v = 0 ∨ v = 1) : narrow .boolean (.int v) = .int v := by rcases h with rfl | rfl <;> rfl
def up2 {α : Type} (f : Nat → Nat → α) (k c : Nat) (v : α) : Nat → Nat → α := fun k' c' => if k' = k ∧ c' = c then v else f k' c'
theorem tsw_in {x : Int32} {k : Nat} {lo : Int} (h : x = Int32.ofNat k) (hk : (k : Int) < 2 ^ 31) : x.toInt = (k : Int) := by
  subst h
  exact nI_toInt (n := k) (by omega)
theorem rg_get {α : Type} (pre : List α) (f : Nat → α) (n : Nat) (post : List α) {i k : Nat} (h : i < n) (hk : k = pre.length + i) : (pre ++ ((List.range n).map f ++ post))[k]? = some (f i) := by
  subst hk
  rw [List.getElem?_append_right (by omega), Nat.add_sub_cancel_left, List.getElem?_append_left (by simpa using h)]
  simp [h]
theorem rg_set {α : Type} (pre : List α) (f g : Nat → α) (n : Nat) (post : List α) {i k : Nat} (a : α) (h : i < n) (hk : k = pre.length + i) (hi : g i = a) (ho : ∀ j, j ≠ i → g j = f j) : (pre ++ ((List.range n).map f ++ post)).set k a = pre ++ ((List.range n).map g ++ post) := by
  subst hk
  apply List.ext_getElem?
  intro j
  by_cases hj : j = pre.length + i
  · subst hj
    rw [List.getElem?_set_self (by simp; omega), rg_get pre g n post h rfl, hi]
  · rw [List.getElem?_set_ne (Ne.symm hj)]
    by_cases hp : j < pre.length
    · rw [List.getElem?_append_left hp, List.getElem?_append_left hp]
    · rw [List.getElem?_append_right (Nat.le_of_not_lt hp), List.getElem?_append_right (Nat.le_of_not_lt hp)]
      by_cases hq : j - pre.length < n
      · rw [List.getElem?_append_left (l₁ := (List.range n).map f) (by simpa using hq), List.getElem?_append_left (l₁ := (List.range n).map g) (by simpa using hq)]
        simp [hq]
        exact (ho _ (by omega)).symm
      · rw [List.getElem?_append_right (l₁ := (List.range n).map f) (by simp; omega), List.getElem?_append_right (l₁ := (List.range n).map g) (by simp; omega)]
        simp
abbrev XS : Type := Int32 × (Nat → Int64) × (Nat → Int32) × (Nat → Int32) × (Nat → Int32) × Int32 × (Nat → Int32) × (Nat → Int64) × (Nat → Nat) × Int32 × (Nat → Int32) × Int32 × Int32 × Int32 × Int32 × Int32 × Int64 × Int32 × Int32 × Int32 × (Nat → Int32) × (Nat → Int32) × (Nat → Int32) × (Nat → Nat → Int32) × (Nat → Nat → Int32) × (Nat → Nat → Int64)
abbrev x_cnt (u : XS) : Int32 := u.1
abbrev xs_cnt (u : XS) (v : Int32) : XS := (v, u.2)
abbrev x_fun (u : XS) : Nat → Int64 := u.2.1
abbrev xs_fun (u : XS) (v : Nat → Int64) : XS := (u.1, v, u.2.2)
abbrev x_nxt (u : XS) : Nat → Int32 := u.2.2.1
abbrev xs_nxt (u : XS) (v : Nat → Int32) : XS := (u.1, u.2.1, v, u.2.2.2)
abbrev x_kys (u : XS) : Nat → Int32 := u.2.2.2.1
abbrev xs_kys (u : XS) (v : Nat → Int32) : XS := (u.1, u.2.1, u.2.2.1, v, u.2.2.2.2)
abbrev x_thr (u : XS) : Nat → Int32 := u.2.2.2.2.1
abbrev xs_thr (u : XS) (v : Nat → Int32) : XS := (u.1, u.2.1, u.2.2.1, u.2.2.2.1, v, u.2.2.2.2.2)
abbrev x_sgc (u : XS) : Int32 := u.2.2.2.2.2.1
abbrev xs_sgc (u : XS) (v : Int32) : XS := (u.1, u.2.1, u.2.2.1, u.2.2.2.1, u.2.2.2.2.1, v, u.2.2.2.2.2.2)
abbrev x_sky (u : XS) : Nat → Int32 := u.2.2.2.2.2.2.1
abbrev xs_sky (u : XS) (v : Nat → Int32) : XS := (u.1, u.2.1, u.2.2.1, u.2.2.2.1, u.2.2.2.2.1, u.2.2.2.2.2.1, v, u.2.2.2.2.2.2.2)
abbrev x_sdg (u : XS) : Nat → Int64 := u.2.2.2.2.2.2.2.1
abbrev xs_sdg (u : XS) (v : Nat → Int64) : XS := (u.1, u.2.1, u.2.2.1, u.2.2.2.1, u.2.2.2.2.1, u.2.2.2.2.2.1, u.2.2.2.2.2.2.1, v, u.2.2.2.2.2.2.2.2)
abbrev x_row (u : XS) : Nat → Nat := u.2.2.2.2.2.2.2.2.1
abbrev xs_row (u : XS) (v : Nat → Nat) : XS := (u.1, u.2.1, u.2.2.1, u.2.2.2.1, u.2.2.2.2.1, u.2.2.2.2.2.1, u.2.2.2.2.2.2.1, u.2.2.2.2.2.2.2.1, v, u.2.2.2.2.2.2.2.2.2)
abbrev x_the (u : XS) : Int32 := u.2.2.2.2.2.2.2.2.2.1
abbrev xs_the (u : XS) (v : Int32) : XS := (u.1, u.2.1, u.2.2.1, u.2.2.2.1, u.2.2.2.2.1, u.2.2.2.2.2.1, u.2.2.2.2.2.2.1, u.2.2.2.2.2.2.2.1, u.2.2.2.2.2.2.2.2.1, v, u.2.2.2.2.2.2.2.2.2.2)
abbrev x_dsg (u : XS) : Nat → Int32 := u.2.2.2.2.2.2.2.2.2.2.1
abbrev xs_dsg (u : XS) (v : Nat → Int32) : XS := (u.1, u.2.1, u.2.2.1, u.2.2.2.1, u.2.2.2.2.1, u.2.2.2.2.2.1, u.2.2.2.2.2.2.1, u.2.2.2.2.2.2.2.1, u.2.2.2.2.2.2.2.2.1, u.2.2.2.2.2.2.2.2.2.1, v, u.2.2.2.2.2.2.2.2.2.2.2)
abbrev x_add (u : XS) : Int32 := u.2.2.2.2.2.2.2.2.2.2.2.1
abbrev xs_add (u : XS) (v : Int32) : XS := (u.1, u.2.1, u.2.2.1, u.2.2.2.1, u.2.2.2.2.1, u.2.2.2.2.2.1, u.2.2.2.2.2.2.1, u.2.2.2.2.2.2.2.1, u.2.2.2.2.2.2.2.2.1, u.2.2.2.2.2.2.2.2.2.1, u.2.2.2.2.2.2.2.2.2.2.1, v, u.2.2.2.2.2.2.2.2.2.2.2.2)
abbrev x_rwc (u : XS) : Int32 := u.2.2.2.2.2.2.2.2.2.2.2.2.1
abbrev xs_rwc (u : XS) (v : Int32) : XS := (u.1, u.2.1, u.2.2.1, u.2.2.2.1, u.2.2.2.2.1, u.2.2.2.2.2.1, u.2.2.2.2.2.2.1, u.2.2.2.2.2.2.2.1, u.2.2.2.2.2.2.2.2.1, u.2.2.2.2.2.2.2.2.2.1, u.2.2.2.2.2.2.2.2.2.2.1, u.2.2.2.2.2.2.2.2.2.2.2.1, v, u.2.2.2.2.2.2.2.2.2.2.2.2.2)
abbrev x_tik (u : XS) : Int32 := u.2.2.2.2.2.2.2.2.2.2.2.2.2.1
abbrev xs_tik (u : XS) (v : Int32) : XS := (u.1, u.2.1, u.2.2.1, u.2.2.2.1, u.2.2.2.2.1, u.2.2.2.2.2.1, u.2.2.2.2.2.2.1, u.2.2.2.2.2.2.2.1, u.2.2.2.2.2.2.2.2.1, u.2.2.2.2.2.2.2.2.2.1, u.2.2.2.2.2.2.2.2.2.2.1, u.2.2.2.2.2.2.2.2.2.2.2.1, u.2.2.2.2.2.2.2.2.2.2.2.2.1, v, u.2.2.2.2.2.2.2.2.2.2.2.2.2.2)
abbrev x_stp (u : XS) : Int32 := u.2.2.2.2.2.2.2.2.2.2.2.2.2.2.1
abbrev xs_stp (u : XS) (v : Int32) : XS := (u.1, u.2.1, u.2.2.1, u.2.2.2.1, u.2.2.2.2.1, u.2.2.2.2.2.1, u.2.2.2.2.2.2.1, u.2.2.2.2.2.2.2.1, u.2.2.2.2.2.2.2.2.1, u.2.2.2.2.2.2.2.2.2.1, u.2.2.2.2.2.2.2.2.2.2.1, u.2.2.2.2.2.2.2.2.2.2.2.1, u.2.2.2.2.2.2.2.2.2.2.2.2.1, u.2.2.2.2.2.2.2.2.2.2.2.2.2.1, v, u.2.2.2.2.2.2.2.2.2.2.2.2.2.2.2)
abbrev x_hgt (u : XS) : Int32 := u.2.2.2.2.2.2.2.2.2.2.2.2.2.2.2.1
abbrev xs_hgt (u : XS) (v : Int32) : XS := (u.1, u.2.1, u.2.2.1, u.2.2.2.1, u.2.2.2.2.1, u.2.2.2.2.2.1, u.2.2.2.2.2.2.1, u.2.2.2.2.2.2.2.1, u.2.2.2.2.2.2.2.2.1, u.2.2.2.2.2.2.2.2.2.1, u.2.2.2.2.2.2.2.2.2.2.1, u.2.2.2.2.2.2.2.2.2.2.2.1, u.2.2.2.2.2.2.2.2.2.2.2.2.1, u.2.2.2.2.2.2.2.2.2.2.2.2.2.1, u.2.2.2.2.2.2.2.2.2.2.2.2.2.2.1, v, u.2.2.2.2.2.2.2.2.2.2.2.2.2.2.2.2)
abbrev x_pai (u : XS) : Int64 := u.2.2.2.2.2.2.2.2.2.2.2.2.2.2.2.2.1
abbrev xs_pai (u : XS) (v : Int64) : XS := (u.1, u.2.1, u.2.2.1, u.2.2.2.1, u.2.2.2.2.1, u.2.2.2.2.2.1, u.2.2.2.2.2.2.1, u.2.2.2.2.2.2.2.1, u.2.2.2.2.2.2.2.2.1, u.2.2.2.2.2.2.2.2.2.1, u.2.2.2.2.2.2.2.2.2.2.1, u.2.2.2.2.2.2.2.2.2.2.2.1, u.2.2.2.2.2.2.2.2.2.2.2.2.1, u.2.2.2.2.2.2.2.2.2.2.2.2.2.1, u.2.2.2.2.2.2.2.2.2.2.2.2.2.2.1, u.2.2.2.2.2.2.2.2.2.2.2.2.2.2.2.1, v, u.2.2.2.2.2.2.2.2.2.2.2.2.2.2.2.2.2)
abbrev x_ina (u : XS) : Int32 := u.2.2.2.2.2.2.2.2.2.2.2.2.2.2.2.2.2.1
abbrev xs_ina (u : XS) (v : Int32) : XS := (u.1, u.2.1, u.2.2.1, u.2.2.2.1, u.2.2.2.2.1, u.2.2.2.2.2.1, u.2.2.2.2.2.2.1, u.2.2.2.2.2.2.2.1, u.2.2.2.2.2.2.2.2.1, u.2.2.2.2.2.2.2.2.2.1, u.2.2.2.2.2.2.2.2.2.2.1, u.2.2.2.2.2.2.2.2.2.2.2.1, u.2.2.2.2.2.2.2.2.2.2.2.2.1, u.2.2.2.2.2.2.2.2.2.2.2.2.2.1, u.2.2.2.2.2.2.2.2.2.2.2.2.2.2.1, u.2.2.2.2.2.2.2.2.2.2.2.2.2.2.2.1, u.2.2.2.2.2.2.2.2.2.2.2.2.2.2.2.2.1, v, u.2.2.2.2.2.2.2.2.2.2.2.2.2.2.2.2.2.2)
abbrev x_kep (u : XS) : Int32 := u.2.2.2.2.2.2.2.2.2.2.2.2.2.2.2.2.2.2.1
abbrev xs_kep (u : XS) (v : Int32) : XS := (u.1, u.2.1, u.2.2.1, u.2.2.2.1, u.2.2.2.2.1, u.2.2.2.2.2.1, u.2.2.2.2.2.2.1, u.2.2.2.2.2.2.2.1, u.2.2.2.2.2.2.2.2.1, u.2.2.2.2.2.2.2.2.2.1, u.2.2.2.2.2.2.2.2.2.2.1, u.2.2.2.2.2.2.2.2.2.2.2.1, u.2.2.2.2.2.2.2.2.2.2.2.2.1, u.2.2.2.2.2.2.2.2.2.2.2.2.2.1, u.2.2.2.2.2.2.2.2.2.2.2.2.2.2.1, u.2.2.2.2.2.2.2.2.2.2.2.2.2.2.2.1, u.2.2.2.2.2.2.2.2.2.2.2.2.2.2.2.2.1, u.2.2.2.2.2.2.2.2.2.2.2.2.2.2.2.2.2.1, v, u.2.2.2.2.2.2.2.2.2.2.2.2.2.2.2.2.2.2.2)
abbrev x_nws (u : XS) : Int32 := u.2.2.2.2.2.2.2.2.2.2.2.2.2.2.2.2.2.2.2.1
abbrev xs_nws (u : XS) (v : Int32) : XS := (u.1, u.2.1, u.2.2.1, u.2.2.2.1, u.2.2.2.2.1, u.2.2.2.2.2.1, u.2.2.2.2.2.2.1, u.2.2.2.2.2.2.2.1, u.2.2.2.2.2.2.2.2.1, u.2.2.2.2.2.2.2.2.2.1, u.2.2.2.2.2.2.2.2.2.2.1, u.2.2.2.2.2.2.2.2.2.2.2.1, u.2.2.2.2.2.2.2.2.2.2.2.2.1, u.2.2.2.2.2.2.2.2.2.2.2.2.2.1, u.2.2.2.2.2.2.2.2.2.2.2.2.2.2.1, u.2.2.2.2.2.2.2.2.2.2.2.2.2.2.2.1, u.2.2.2.2.2.2.2.2.2.2.2.2.2.2.2.2.1, u.2.2.2.2.2.2.2.2.2.2.2.2.2.2.2.2.2.1, u.2.2.2.2.2.2.2.2.2.2.2.2.2.2.2.2.2.2.1, v, u.2.2.2.2.2.2.2.2.2.2.2.2.2.2.2.2.2.2.2.2)
abbrev x_etk (u : XS) : Nat → Int32 := u.2.2.2.2.2.2.2.2.2.2.2.2.2.2.2.2.2.2.2.2.1
abbrev xs_etk (u : XS) (v : Nat → Int32) : XS := (u.1, u.2.1, u.2.2.1, u.2.2.2.1, u.2.2.2.2.1, u.2.2.2.2.2.1, u.2.2.2.2.2.2.1, u.2.2.2.2.2.2.2.1, u.2.2.2.2.2.2.2.2.1, u.2.2.2.2.2.2.2.2.2.1, u.2.2.2.2.2.2.2.2.2.2.1, u.2.2.2.2.2.2.2.2.2.2.2.1, u.2.2.2.2.2.2.2.2.2.2.2.2.1, u.2.2.2.2.2.2.2.2.2.2.2.2.2.1, u.2.2.2.2.2.2.2.2.2.2.2.2.2.2.1, u.2.2.2.2.2.2.2.2.2.2.2.2.2.2.2.1, u.2.2.2.2.2.2.2.2.2.2.2.2.2.2.2.2.1, u.2.2.2.2.2.2.2.2.2.2.2.2.2.2.2.2.2.1, u.2.2.2.2.2.2.2.2.2.2.2.2.2.2.2.2.2.2.1, u.2.2.2.2.2.2.2.2.2.2.2.2.2.2.2.2.2.2.2.1, v, u.2.2.2.2.2.2.2.2.2.2.2.2.2.2.2.2.2.2.2.2.2)
abbrev x_ewh (u : XS) : Nat → Int32 := u.2.2.2.2.2.2.2.2.2.2.2.2.2.2.2.2.2.2.2.2.2.1
abbrev xs_ewh (u : XS) (v : Nat → Int32) : XS := (u.1, u.2.1, u.2.2.1, u.2.2.2.1, u.2.2.2.2.1, u.2.2.2.2.2.1, u.2.2.2.2.2.2.1, u.2.2.2.2.2.2.2.1, u.2.2.2.2.2.2.2.2.1, u.2.2.2.2.2.2.2.2.2.1, u.2.2.2.2.2.2.2.2.2.2.1, u.2.2.2.2.2.2.2.2.2.2.2.1, u.2.2.2.2.2.2.2.2.2.2.2.2.1, u.2.2.2.2.2.2.2.2.2.2.2.2.2.1, u.2.2.2.2.2.2.2.2.2.2.2.2.2.2.1, u.2.2.2.2.2.2.2.2.2.2.2.2.2.2.2.1, u.2.2.2.2.2.2.2.2.2.2.2.2.2.2.2.2.1, u.2.2.2.2.2.2.2.2.2.2.2.2.2.2.2.2.2.1, u.2.2.2.2.2.2.2.2.2.2.2.2.2.2.2.2.2.2.1, u.2.2.2.2.2.2.2.2.2.2.2.2.2.2.2.2.2.2.2.1, u.2.2.2.2.2.2.2.2.2.2.2.2.2.2.2.2.2.2.2.2.1, v, u.2.2.2.2.2.2.2.2.2.2.2.2.2.2.2.2.2.2.2.2.2.2)
abbrev x_eun (u : XS) : Nat → Int32 := u.2.2.2.2.2.2.2.2.2.2.2.2.2.2.2.2.2.2.2.2.2.2.1
abbrev xs_eun (u : XS) (v : Nat → Int32) : XS := (u.1, u.2.1, u.2.2.1, u.2.2.2.1, u.2.2.2.2.1, u.2.2.2.2.2.1, u.2.2.2.2.2.2.1, u.2.2.2.2.2.2.2.1, u.2.2.2.2.2.2.2.2.1, u.2.2.2.2.2.2.2.2.2.1, u.2.2.2.2.2.2.2.2.2.2.1, u.2.2.2.2.2.2.2.2.2.2.2.1, u.2.2.2.2.2.2.2.2.2.2.2.2.1, u.2.2.2.2.2.2.2.2.2.2.2.2.2.1, u.2.2.2.2.2.2.2.2.2.2.2.2.2.2.1, u.2.2.2.2.2.2.2.2.2.2.2.2.2.2.2.1, u.2.2.2.2.2.2.2.2.2.2.2.2.2.2.2.2.1, u.2.2.2.2.2.2.2.2.2.2.2.2.2.2.2.2.2.1, u.2.2.2.2.2.2.2.2.2.2.2.2.2.2.2.2.2.2.1, u.2.2.2.2.2.2.2.2.2.2.2.2.2.2.2.2.2.2.2.1, u.2.2.2.2.2.2.2.2.2.2.2.2.2.2.2.2.2.2.2.2.1, u.2.2.2.2.2.2.2.2.2.2.2.2.2.2.2.2.2.2.2.2.2.1, v, u.2.2.2.2.2.2.2.2.2.2.2.2.2.2.2.2.2.2.2.2.2.2.2)
abbrev x_cf (u : XS) : Nat → Nat → Int32 := u.2.2.2.2.2.2.2.2.2.2.2.2.2.2.2.2.2.2.2.2.2.2.2.1
abbrev xs_cf (u : XS) (v : Nat → Nat → Int32) : XS := (u.1, u.2.1, u.2.2.1, u.2.2.2.1, u.2.2.2.2.1, u.2.2.2.2.2.1, u.2.2.2.2.2.2.1, u.2.2.2.2.2.2.2.1, u.2.2.2.2.2.2.2.2.1, u.2.2.2.2.2.2.2.2.2.1, u.2.2.2.2.2.2.2.2.2.2.1, u.2.2.2.2.2.2.2.2.2.2.2.1, u.2.2.2.2.2.2.2.2.2.2.2.2.1, u.2.2.2.2.2.2.2.2.2.2.2.2.2.1, u.2.2.2.2.2.2.2.2.2.2.2.2.2.2.1, u.2.2.2.2.2.2.2.2.2.2.2.2.2.2.2.1, u.2.2.2.2.2.2.2.2.2.2.2.2.2.2.2.2.1, u.2.2.2.2.2.2.2.2.2.2.2.2.2.2.2.2.2.1, u.2.2.2.2.2.2.2.2.2.2.2.2.2.2.2.2.2.2.1, u.2.2.2.2.2.2.2.2.2.2.2.2.2.2.2.2.2.2.2.1, u.2.2.2.2.2.2.2.2.2.2.2.2.2.2.2.2.2.2.2.2.1, u.2.2.2.2.2.2.2.2.2.2.2.2.2.2.2.2.2.2.2.2.2.1, u.2.2.2.2.2.2.2.2.2.2.2.2.2.2.2.2.2.2.2.2.2.2.1, v, u.2.2.2.2.2.2.2.2.2.2.2.2.2.2.2.2.2.2.2.2.2.2.2.2)
abbrev x_rc (u : XS) : Nat → Nat → Int32 := u.2.2.2.2.2.2.2.2.2.2.2.2.2.2.2.2.2.2.2.2.2.2.2.2.1
abbrev xs_rc (u : XS) (v : Nat → Nat → Int32) : XS := (u.1, u.2.1, u.2.2.1, u.2.2.2.1, u.2.2.2.2.1, u.2.2.2.2.2.1, u.2.2.2.2.2.2.1, u.2.2.2.2.2.2.2.1, u.2.2.2.2.2.2.2.2.1, u.2.2.2.2.2.2.2.2.2.1, u.2.2.2.2.2.2.2.2.2.2.1, u.2.2.2.2.2.2.2.2.2.2.2.1, u.2.2.2.2.2.2.2.2.2.2.2.2.1, u.2.2.2.2.2.2.2.2.2.2.2.2.2.1, u.2.2.2.2.2.2.2.2.2.2.2.2.2.2.1, u.2.2.2.2.2.2.2.2.2.2.2.2.2.2.2.1, u.2.2.2.2.2.2.2.2.2.2.2.2.2.2.2.2.1, u.2.2.2.2.2.2.2.2.2.2.2.2.2.2.2.2.2.1, u.2.2.2.2.2.2.2.2.2.2.2.2.2.2.2.2.2.2.1, u.2.2.2.2.2.2.2.2.2.2.2.2.2.2.2.2.2.2.2.1, u.2.2.2.2.2.2.2.2.2.2.2.2.2.2.2.2.2.2.2.2.1, u.2.2.2.2.2.2.2.2.2.2.2.2.2.2.2.2.2.2.2.2.2.1, u.2.2.2.2.2.2.2.2.2.2.2.2.2.2.2.2.2.2.2.2.2.2.1, u.2.2.2.2.2.2.2.2.2.2.2.2.2.2.2.2.2.2.2.2.2.2.2.1, v, u.2.2.2.2.2.2.2.2.2.2.2.2.2.2.2.2.2.2.2.2.2.2.2.2.2)
abbrev x_am (u : XS) : Nat → Nat → Int64 := u.2.2.2.2.2.2.2.2.2.2.2.2.2.2.2.2.2.2.2.2.2.2.2.2.2
abbrev xs_am (u : XS) (v : Nat → Nat → Int64) : XS := (u.1, u.2.1, u.2.2.1, u.2.2.2.1, u.2.2.2.2.1, u.2.2.2.2.2.1, u.2.2.2.2.2.2.1, u.2.2.2.2.2.2.2.1, u.2.2.2.2.2.2.2.2.1, u.2.2.2.2.2.2.2.2.2.1, u.2.2.2.2.2.2.2.2.2.2.1, u.2.2.2.2.2.2.2.2.2.2.2.1, u.2.2.2.2.2.2.2.2.2.2.2.2.1, u.2.2.2.2.2.2.2.2.2.2.2.2.2.1, u.2.2.2.2.2.2.2.2.2.2.2.2.2.2.1, u.2.2.2.2.2.2.2.2.2.2.2.2.2.2.2.1, u.2.2.2.2.2.2.2.2.2.2.2.2.2.2.2.2.1, u.2.2.2.2.2.2.2.2.2.2.2.2.2.2.2.2.2.1, u.2.2.2.2.2.2.2.2.2.2.2.2.2.2.2.2.2.2.1, u.2.2.2.2.2.2.2.2.2.2.2.2.2.2.2.2.2.2.2.1, u.2.2.2.2.2.2.2.2.2.2.2.2.2.2.2.2.2.2.2.2.1, u.2.2.2.2.2.2.2.2.2.2.2.2.2.2.2.2.2.2.2.2.2.1, u.2.2.2.2.2.2.2.2.2.2.2.2.2.2.2.2.2.2.2.2.2.2.1, u.2.2.2.2.2.2.2.2.2.2.2.2.2.2.2.2.2.2.2.2.2.2.2.1, u.2.2.2.2.2.2.2.2.2.2.2.2.2.2.2.2.2.2.2.2.2.2.2.2.1, v)
abbrev MS : Type := Int32 × (Nat → Int64) × (Nat → Int32) × (Nat → Int32) × (Nat → Int32) × Int32 × (Nat → Int32) × (Nat → Int64) × (Nat → Int64) × Int32 × (Nat → Int32) × Int32 × Int32 × Int32 × Int32 × Int32 × Int64 × Int32 × (Nat → Int32) × Int32 × (Nat → Int64)
abbrev m_cnt (u : MS) : Int32 := u.1
abbrev ms_cnt (u : MS) (v : Int32) : MS := (v, u.2)
abbrev m_fun (u : MS) : Nat → Int64 := u.2.1
abbrev ms_fun (u : MS) (v : Nat → Int64) : MS := (u.1, v, u.2.2)
abbrev m_nxt (u : MS) : Nat → Int32 := u.2.2.1
abbrev ms_nxt (u : MS) (v : Nat → Int32) : MS := (u.1, u.2.1, v, u.2.2.2)
abbrev m_kys (u : MS) : Nat → Int32 := u.2.2.2.1
abbrev ms_kys (u : MS) (v : Nat → Int32) : MS := (u.1, u.2.1, u.2.2.1, v, u.2.2.2.2)
abbrev m_thr (u : MS) : Nat → Int32 := u.2.2.2.2.1
abbrev ms_thr (u : MS) (v : Nat → Int32) : MS := (u.1, u.2.1, u.2.2.1, u.2.2.2.1, v, u.2.2.2.2.2)
abbrev m_sgc (u : MS) : Int32 := u.2.2.2.2.2.1
abbrev ms_sgc (u : MS) (v : Int32) : MS := (u.1, u.2.1, u.2.2.1, u.2.2.2.1, u.2.2.2.2.1, v, u.2.2.2.2.2.2)
abbrev m_sky (u : MS) : Nat → Int32 := u.2.2.2.2.2.2.1
abbrev ms_sky (u : MS) (v : Nat → Int32) : MS := (u.1, u.2.1, u.2.2.1, u.2.2.2.1, u.2.2.2.2.1, u.2.2.2.2.2.1, v, u.2.2.2.2.2.2.2)
abbrev m_sdg (u : MS) : Nat → Int64 := u.2.2.2.2.2.2.2.1
abbrev ms_sdg (u : MS) (v : Nat → Int64) : MS := (u.1, u.2.1, u.2.2.1, u.2.2.2.1, u.2.2.2.2.1, u.2.2.2.2.2.1, u.2.2.2.2.2.2.1, v, u.2.2.2.2.2.2.2.2)
abbrev m_cal (u : MS) : Nat → Int64 := u.2.2.2.2.2.2.2.2.1
abbrev ms_cal (u : MS) (v : Nat → Int64) : MS := (u.1, u.2.1, u.2.2.1, u.2.2.2.1, u.2.2.2.2.1, u.2.2.2.2.2.1, u.2.2.2.2.2.2.1, u.2.2.2.2.2.2.2.1, v, u.2.2.2.2.2.2.2.2.2)
abbrev m_dra (u : MS) : Int32 := u.2.2.2.2.2.2.2.2.2.1
abbrev ms_dra (u : MS) (v : Int32) : MS := (u.1, u.2.1, u.2.2.1, u.2.2.2.1, u.2.2.2.2.1, u.2.2.2.2.2.1, u.2.2.2.2.2.2.1, u.2.2.2.2.2.2.2.1, u.2.2.2.2.2.2.2.2.1, v, u.2.2.2.2.2.2.2.2.2.2)
abbrev m_min (u : MS) : Nat → Int32 := u.2.2.2.2.2.2.2.2.2.2.1
abbrev ms_min (u : MS) (v : Nat → Int32) : MS := (u.1, u.2.1, u.2.2.1, u.2.2.2.1, u.2.2.2.2.1, u.2.2.2.2.2.1, u.2.2.2.2.2.2.1, u.2.2.2.2.2.2.2.1, u.2.2.2.2.2.2.2.2.1, u.2.2.2.2.2.2.2.2.2.1, v, u.2.2.2.2.2.2.2.2.2.2.2)
abbrev m_mny (u : MS) : Int32 := u.2.2.2.2.2.2.2.2.2.2.2.1
abbrev ms_mny (u : MS) (v : Int32) : MS := (u.1, u.2.1, u.2.2.1, u.2.2.2.1, u.2.2.2.2.1, u.2.2.2.2.2.1, u.2.2.2.2.2.2.1, u.2.2.2.2.2.2.2.1, u.2.2.2.2.2.2.2.2.1, u.2.2.2.2.2.2.2.2.2.1, u.2.2.2.2.2.2.2.2.2.2.1, v, u.2.2.2.2.2.2.2.2.2.2.2.2)
abbrev m_wts (u : MS) : Int32 := u.2.2.2.2.2.2.2.2.2.2.2.2.1
abbrev ms_wts (u : MS) (v : Int32) : MS := (u.1, u.2.1, u.2.2.1, u.2.2.2.1, u.2.2.2.2.1, u.2.2.2.2.2.1, u.2.2.2.2.2.2.1, u.2.2.2.2.2.2.2.1, u.2.2.2.2.2.2.2.2.1, u.2.2.2.2.2.2.2.2.2.1, u.2.2.2.2.2.2.2.2.2.2.1, u.2.2.2.2.2.2.2.2.2.2.2.1, v, u.2.2.2.2.2.2.2.2.2.2.2.2.2)
abbrev m_tik (u : MS) : Int32 := u.2.2.2.2.2.2.2.2.2.2.2.2.2.1
abbrev ms_tik (u : MS) (v : Int32) : MS := (u.1, u.2.1, u.2.2.1, u.2.2.2.1, u.2.2.2.2.1, u.2.2.2.2.2.1, u.2.2.2.2.2.2.1, u.2.2.2.2.2.2.2.1, u.2.2.2.2.2.2.2.2.1, u.2.2.2.2.2.2.2.2.2.1, u.2.2.2.2.2.2.2.2.2.2.1, u.2.2.2.2.2.2.2.2.2.2.2.1, u.2.2.2.2.2.2.2.2.2.2.2.2.1, v, u.2.2.2.2.2.2.2.2.2.2.2.2.2.2)
abbrev m_stp (u : MS) : Int32 := u.2.2.2.2.2.2.2.2.2.2.2.2.2.2.1
abbrev ms_stp (u : MS) (v : Int32) : MS := (u.1, u.2.1, u.2.2.1, u.2.2.2.1, u.2.2.2.2.1, u.2.2.2.2.2.1, u.2.2.2.2.2.2.1, u.2.2.2.2.2.2.2.1, u.2.2.2.2.2.2.2.2.1, u.2.2.2.2.2.2.2.2.2.1, u.2.2.2.2.2.2.2.2.2.2.1, u.2.2.2.2.2.2.2.2.2.2.2.1, u.2.2.2.2.2.2.2.2.2.2.2.2.1, u.2.2.2.2.2.2.2.2.2.2.2.2.2.1, v, u.2.2.2.2.2.2.2.2.2.2.2.2.2.2.2)
abbrev m_hgt (u : MS) : Int32 := u.2.2.2.2.2.2.2.2.2.2.2.2.2.2.2.1
abbrev ms_hgt (u : MS) (v : Int32) : MS := (u.1, u.2.1, u.2.2.1, u.2.2.2.1, u.2.2.2.2.1, u.2.2.2.2.2.1, u.2.2.2.2.2.2.1, u.2.2.2.2.2.2.2.1, u.2.2.2.2.2.2.2.2.1, u.2.2.2.2.2.2.2.2.2.1, u.2.2.2.2.2.2.2.2.2.2.1, u.2.2.2.2.2.2.2.2.2.2.2.1, u.2.2.2.2.2.2.2.2.2.2.2.2.1, u.2.2.2.2.2.2.2.2.2.2.2.2.2.1, u.2.2.2.2.2.2.2.2.2.2.2.2.2.2.1, v, u.2.2.2.2.2.2.2.2.2.2.2.2.2.2.2.2)
abbrev m_pai (u : MS) : Int64 := u.2.2.2.2.2.2.2.2.2.2.2.2.2.2.2.2.1
abbrev ms_pai (u : MS) (v : Int64) : MS := (u.1, u.2.1, u.2.2.1, u.2.2.2.1, u.2.2.2.2.1, u.2.2.2.2.2.1, u.2.2.2.2.2.2.1, u.2.2.2.2.2.2.2.1, u.2.2.2.2.2.2.2.2.1, u.2.2.2.2.2.2.2.2.2.1, u.2.2.2.2.2.2.2.2.2.2.1, u.2.2.2.2.2.2.2.2.2.2.2.1, u.2.2.2.2.2.2.2.2.2.2.2.2.1, u.2.2.2.2.2.2.2.2.2.2.2.2.2.1, u.2.2.2.2.2.2.2.2.2.2.2.2.2.2.1, u.2.2.2.2.2.2.2.2.2.2.2.2.2.2.2.1, v, u.2.2.2.2.2.2.2.2.2.2.2.2.2.2.2.2.2)
abbrev m_evs (u : MS) : Int32 := u.2.2.2.2.2.2.2.2.2.2.2.2.2.2.2.2.2.1
abbrev ms_evs (u : MS) (v : Int32) : MS := (u.1, u.2.1, u.2.2.1, u.2.2.2.1, u.2.2.2.2.1, u.2.2.2.2.2.1, u.2.2.2.2.2.2.1, u.2.2.2.2.2.2.2.1, u.2.2.2.2.2.2.2.2.1, u.2.2.2.2.2.2.2.2.2.1, u.2.2.2.2.2.2.2.2.2.2.1, u.2.2.2.2.2.2.2.2.2.2.2.1, u.2.2.2.2.2.2.2.2.2.2.2.2.1, u.2.2.2.2.2.2.2.2.2.2.2.2.2.1, u.2.2.2.2.2.2.2.2.2.2.2.2.2.2.1, u.2.2.2.2.2.2.2.2.2.2.2.2.2.2.2.1, u.2.2.2.2.2.2.2.2.2.2.2.2.2.2.2.2.1, v, u.2.2.2.2.2.2.2.2.2.2.2.2.2.2.2.2.2.2)
abbrev m_evr (u : MS) : Nat → Int32 := u.2.2.2.2.2.2.2.2.2.2.2.2.2.2.2.2.2.2.1
abbrev ms_evr (u : MS) (v : Nat → Int32) : MS := (u.1, u.2.1, u.2.2.1, u.2.2.2.1, u.2.2.2.2.1, u.2.2.2.2.2.1, u.2.2.2.2.2.2.1, u.2.2.2.2.2.2.2.1, u.2.2.2.2.2.2.2.2.1, u.2.2.2.2.2.2.2.2.2.1, u.2.2.2.2.2.2.2.2.2.2.1, u.2.2.2.2.2.2.2.2.2.2.2.1, u.2.2.2.2.2.2.2.2.2.2.2.2.1, u.2.2.2.2.2.2.2.2.2.2.2.2.2.1, u.2.2.2.2.2.2.2.2.2.2.2.2.2.2.1, u.2.2.2.2.2.2.2.2.2.2.2.2.2.2.2.1, u.2.2.2.2.2.2.2.2.2.2.2.2.2.2.2.2.1, u.2.2.2.2.2.2.2.2.2.2.2.2.2.2.2.2.2.1, v, u.2.2.2.2.2.2.2.2.2.2.2.2.2.2.2.2.2.2.2)
abbrev m_rom (u : MS) : Int32 := u.2.2.2.2.2.2.2.2.2.2.2.2.2.2.2.2.2.2.2.1
abbrev ms_rom (u : MS) (v : Int32) : MS := (u.1, u.2.1, u.2.2.1, u.2.2.2.1, u.2.2.2.2.1, u.2.2.2.2.2.1, u.2.2.2.2.2.2.1, u.2.2.2.2.2.2.2.1, u.2.2.2.2.2.2.2.2.1, u.2.2.2.2.2.2.2.2.2.1, u.2.2.2.2.2.2.2.2.2.2.1, u.2.2.2.2.2.2.2.2.2.2.2.1, u.2.2.2.2.2.2.2.2.2.2.2.2.1, u.2.2.2.2.2.2.2.2.2.2.2.2.2.1, u.2.2.2.2.2.2.2.2.2.2.2.2.2.2.1, u.2.2.2.2.2.2.2.2.2.2.2.2.2.2.2.1, u.2.2.2.2.2.2.2.2.2.2.2.2.2.2.2.2.1, u.2.2.2.2.2.2.2.2.2.2.2.2.2.2.2.2.2.1, u.2.2.2.2.2.2.2.2.2.2.2.2.2.2.2.2.2.2.1, v, u.2.2.2.2.2.2.2.2.2.2.2.2.2.2.2.2.2.2.2.2)
abbrev m_bef (u : MS) : Nat → Int64 := u.2.2.2.2.2.2.2.2.2.2.2.2.2.2.2.2.2.2.2.2
abbrev ms_bef (u : MS) (v : Nat → Int64) : MS := (u.1, u.2.1, u.2.2.1, u.2.2.2.1, u.2.2.2.2.1, u.2.2.2.2.2.1, u.2.2.2.2.2.2.1, u.2.2.2.2.2.2.2.1, u.2.2.2.2.2.2.2.2.1, u.2.2.2.2.2.2.2.2.2.1, u.2.2.2.2.2.2.2.2.2.2.1, u.2.2.2.2.2.2.2.2.2.2.2.1, u.2.2.2.2.2.2.2.2.2.2.2.2.1, u.2.2.2.2.2.2.2.2.2.2.2.2.2.1, u.2.2.2.2.2.2.2.2.2.2.2.2.2.2.1, u.2.2.2.2.2.2.2.2.2.2.2.2.2.2.2.1, u.2.2.2.2.2.2.2.2.2.2.2.2.2.2.2.2.1, u.2.2.2.2.2.2.2.2.2.2.2.2.2.2.2.2.2.1, u.2.2.2.2.2.2.2.2.2.2.2.2.2.2.2.2.2.2.1, u.2.2.2.2.2.2.2.2.2.2.2.2.2.2.2.2.2.2.2.1, v)
abbrev wXp (ad : Nat → Nat) (cI cJ cR : ClassId) (u : XS) : va_W :=
   [(ad 0, .inr (6, [.ref (ad 1), .ref (ad 6), .ref (ad 9), .ref (ad 11), .ref (ad 13), .int (x_stp u), .int (x_hgt u), .long (x_pai u)])),
    (ad 1, .inr (0, [.ref (ad 2), .ref (ad 3), .ref (ad 4), .ref (ad 5), .int (x_cnt u)])),
    (ad 2, .inl (cJ, 12, .inr (.inl (x_fun u)))),
    (ad 3, .inl (cI, 12, .inl (x_nxt u))),
    (ad 4, .inl (cI, 12, .inl (x_kys u))),
    (ad 5, .inl (cI, 12, .inl (x_thr u))),
    (ad 6, .inr (4, [.ref (ad 7), .ref (ad 8), .int (x_sgc u)])),
    (ad 7, .inl (cI, 200, .inl (x_sky u))),
    (ad 8, .inl (cJ, 200, .inr (.inl (x_sdg u)))),
    (ad 9, .inr (2, [.ref (ad 17), .ref (ad 10), .int (x_add u), .int (x_the u)])),
    (ad 10, .inl (cI, 12, .inl (x_dsg u))),
    (ad 11, .inr (5, [.ref (ad 12), .int (x_rwc u), .int (x_tik u)])),
    (ad 12, .inl (cR, 24, .inr (.inr (.inr (.inr (fun i => some (ad (17 + x_row u i)))))))),
    (ad 13, .inr (3, [.ref (ad 14), .ref (ad 15), .ref (ad 16), .int (x_kep u), .int (x_nws u), .int (x_ina u)])),
    (ad 14, .inl (cI, 60, .inl (x_etk u))),
    (ad 15, .inl (cI, 60, .inl (x_ewh u))),
    (ad 16, .inl (cI, 60, .inl (x_eun u)))]
abbrev wXc (ad : Nat → Nat) (u : XS) (c : Nat) : Nat × va_E := (ad (17 + c), .inr (1, [.ref (ad (42 + c)), .ref (ad (67 + c)), .int (x_cf u 2 c), .int (x_cf u 3 c), .int (x_cf u 4 c), .int (x_cf u 5 c), .int (x_cf u 6 c), .int (x_cf u 7 c), .int (x_cf u 8 c), .int (x_cf u 9 c), .int (x_cf u 10 c), .int (x_cf u 11 c)]))
abbrev wXr (ad : Nat → Nat) (cI : ClassId) (u : XS) (c : Nat) : Nat × va_E := (ad (42 + c), .inl (cI, 4, .inl (x_rc u c)))
abbrev wXa (ad : Nat → Nat) (cJ : ClassId) (u : XS) (c : Nat) : Nat × va_E := (ad (67 + c), .inl (cJ, 4, .inr (.inl (x_am u c))))
abbrev wX (ad : Nat → Nat) (cI cJ cR : ClassId) (u : XS) : va_W := wXp ad cI cJ cR u ++ ((List.range 25).map (wXc ad u) ++ ((List.range 25).map (wXr ad cI u) ++ ((List.range 25).map (wXa ad cJ u) ++ [])))
abbrev wM (ad : Nat → Nat) (cI cJ : ClassId) (u : MS) : va_W :=
   [(ad 0, .inr (7, [.int (m_cnt u), .ref (ad 1), .ref (ad 2), .ref (ad 3), .ref (ad 4), .int (m_sgc u), .ref (ad 5), .ref (ad 6), .ref (ad 7), .int (m_dra u), .ref (ad 8), .int (m_mny u), .int (m_wts u), .int (m_tik u), .int (m_stp u), .int (m_hgt u), .long (m_pai u), .int (m_evs u), .ref (ad 9), .int (m_rom u), .ref (ad 10)])),
    (ad 1, .inl (cJ, 12, .inr (.inl (m_fun u)))),
    (ad 2, .inl (cI, 12, .inl (m_nxt u))),
    (ad 3, .inl (cI, 12, .inl (m_kys u))),
    (ad 4, .inl (cI, 12, .inl (m_thr u))),
    (ad 5, .inl (cI, 200, .inl (m_sky u))),
    (ad 6, .inl (cJ, 200, .inr (.inl (m_sdg u)))),
    (ad 7, .inl (cJ, 442, .inr (.inl (m_cal u)))),
    (ad 8, .inl (cI, 12, .inl (m_min u))),
    (ad 9, .inl (cI, 180, .inl (m_evr u))),
    (ad 10, .inl (cJ, 12, .inr (.inl (m_bef u))))]
abbrev xT (cI cJ cR : ClassId) : List (ClassId × FieldType) := [(cI, .int), (cJ, .long), (cR, .object "SignedCalls$Call")]
def AX (ad : Nat → Nat) : Nat → Prop := fun q => ∃ i : Nat, i < 92 ∧ q = ad i
abbrev XW (D : va_G) (ad : Nat → Nat) (cI cJ cR : ClassId) (H0 H : Heap) (locs : List Loc) (u : XS) : Prop := va_P D vwCl (wX ad cI cJ cR u) H ∧ va_D (AX ad) (wX ad cI cJ cR u) ∧ va_S (AX ad) H0 H locs
abbrev XB (D : va_G) (ad : Nat → Nat) (cI cJ cR : ClassId) (u : XS) (t : State) : Prop := va_P D vwCl (wX ad cI cJ cR u) t.heap ∧ va_K D vwCl (xT cI cJ cR) t ∧ va_D (AX ad) (wX ad cI cJ cR u)
theorem XB_blind {D : va_G} {ad : Nat → Nat} {cI cJ cR : ClassId} {u : XS} {vs : List Value} : FrameBlind (va_Pc vs (XB D ad cI cJ cR u)) := fun a U g mk q => ⟨q.1, q.2.1, va_K.moved (u := U) (U := U.calling g mk a) (Vm.Alike.refl U.vm) q.2.2.1, q.2.2.2⟩
abbrev mT (cI cJ : ClassId) : List (ClassId × FieldType) := [(cI, .int), (cJ, .long)]
def AM (ad : Nat → Nat) : Nat → Prop := fun q => ∃ i : Nat, i < 11 ∧ q = ad i
abbrev MW (D : va_G) (ad : Nat → Nat) (cI cJ : ClassId) (H0 H : Heap) (locs : List Loc) (u : MS) : Prop := va_P D vwCl (wM ad cI cJ u) H ∧ va_D (AM ad) (wM ad cI cJ u) ∧ va_S (AM ad) H0 H locs
abbrev MB (D : va_G) (ad : Nat → Nat) (cI cJ : ClassId) (u : MS) (t : State) : Prop := va_P D vwCl (wM ad cI cJ u) t.heap ∧ va_K D vwCl (mT cI cJ) t ∧ va_D (AM ad) (wM ad cI cJ u)
theorem MB_blind {D : va_G} {ad : Nat → Nat} {cI cJ : ClassId} {u : MS} {vs : List Value} : FrameBlind (va_Pc vs (MB D ad cI cJ u)) := fun a U g mk q => ⟨q.1, q.2.1, va_K.moved (u := U) (U := U.calling g mk a) (Vm.Alike.refl U.vm) q.2.2.1, q.2.2.2⟩
end
section
section XR
variable {p : Program} {l : Launch} {e : Env} {R : Room} {s : State} {m : MethodId} {args : Array Value} {below : List Frame} {meth : Method} {c : Code} {H : Heap} {locs : List Loc} {cells slots : Nat} {Q : State → Prop}
variable {cc : ByteArray} {nL : Nat} {Ts : List Cond} {own : String} {pc index : Nat} {ls : Array Slot} {rest st0 : List Value} {D : va_G} {ad : Nat → Nat} {cI cJ cR : ClassId} {H0 : Heap}
variable {u : XS}
theorem xg_0_0 (C : CallFix p m c cc nL s args Ts own) (hK : va_K D vwCl (xT cI cJ cR) s) (hw : XW D ad cI cJ cR H0 H locs u) (hin : ∀ w ∈ wsX60, w ∈ Ts) (hl : Cond.fieldLink own index "SignedCalls" "accounts" "LSignedCalls$Accounts;" ∈ Ts) (hdg : decode cc pc = .ok (.getfield index, 3)) (kk : W p l e R s m args below meth c H locs cells slots Q (F0 m (pc + 3) ls (.ref (ad 1) :: rest))) : W p l e R s m args below meth c H locs cells slots Q (F0 m pc ls (.ref (ad 0) :: rest)) :=
  va_get (C := RX6) (T := TX6) (N := 8) C.1 C.2.1 C.2.2.2.2 hin C.2.2.2.1 hK hw.1 0 rfl rfl 0 (by decide) (C.2.2.2.2 _ hl) (fun _ h => h) rfl hdg kk
theorem xg_0_1 (C : CallFix p m c cc nL s args Ts own) (hK : va_K D vwCl (xT cI cJ cR) s) (hw : XW D ad cI cJ cR H0 H locs u) (hin : ∀ w ∈ wsX60, w ∈ Ts) (hl : Cond.fieldLink own index "SignedCalls" "signatures" "LSignedCalls$Signatures;" ∈ Ts) (hdg : decode cc pc = .ok (.getfield index, 3)) (kk : W p l e R s m args below meth c H locs cells slots Q (F0 m (pc + 3) ls (.ref (ad 6) :: rest))) : W p l e R s m args below meth c H locs cells slots Q (F0 m pc ls (.ref (ad 0) :: rest)) :=
  va_get (C := RX6) (T := TX6) (N := 8) C.1 C.2.1 C.2.2.2.2 hin C.2.2.2.1 hK hw.1 0 rfl rfl 1 (by decide) (C.2.2.2.2 _ hl) (fun _ h => h) rfl hdg kk
theorem xg_0_2 (C : CallFix p m c cc nL s args Ts own) (hK : va_K D vwCl (xT cI cJ cR) s) (hw : XW D ad cI cJ cR H0 H locs u) (hin : ∀ w ∈ wsX60, w ∈ Ts) (hl : Cond.fieldLink own index "SignedCalls" "draft" "LSignedCalls$Draft;" ∈ Ts) (hdg : decode cc pc = .ok (.getfield index, 3)) (kk : W p l e R s m args below meth c H locs cells slots Q (F0 m (pc + 3) ls (.ref (ad 9) :: rest))) : W p l e R s m args below meth c H locs cells slots Q (F0 m pc ls (.ref (ad 0) :: rest)) :=
  va_get (C := RX6) (T := TX6) (N := 8) C.1 C.2.1 C.2.2.2.2 hin C.2.2.2.1 hK hw.1 0 rfl rfl 2 (by decide) (C.2.2.2.2 _ hl) (fun _ h => h) rfl hdg kk
theorem xg_0_3 (C : CallFix p m c cc nL s args Ts own) (hK : va_K D vwCl (xT cI cJ cR) s) (hw : XW D ad cI cJ cR H0 H locs u) (hin : ∀ w ∈ wsX60, w ∈ Ts) (hl : Cond.fieldLink own index "SignedCalls" "row" "LSignedCalls$WaitingRow;" ∈ Ts) (hdg : decode cc pc = .ok (.getfield index, 3)) (kk : W p l e R s m args below meth c H locs cells slots Q (F0 m (pc + 3) ls (.ref (ad 11) :: rest))) : W p l e R s m args below meth c H locs cells slots Q (F0 m pc ls (.ref (ad 0) :: rest)) :=
  va_get (C := RX6) (T := TX6) (N := 8) C.1 C.2.1 C.2.2.2.2 hin C.2.2.2.1 hK hw.1 0 rfl rfl 3 (by decide) (C.2.2.2.2 _ hl) (fun _ h => h) rfl hdg kk
theorem xg_0_4 (C : CallFix p m c cc nL s args Ts own) (hK : va_K D vwCl (xT cI cJ cR) s) (hw : XW D ad cI cJ cR H0 H locs u) (hin : ∀ w ∈ wsX60, w ∈ Ts) (hl : Cond.fieldLink own index "SignedCalls" "log" "LSignedCalls$EventLog;" ∈ Ts) (hdg : decode cc pc = .ok (.getfield index, 3)) (kk : W p l e R s m args below meth c H locs cells slots Q (F0 m (pc + 3) ls (.ref (ad 13) :: rest))) : W p l e R s m args below meth c H locs cells slots Q (F0 m pc ls (.ref (ad 0) :: rest)) :=
  va_get (C := RX6) (T := TX6) (N := 8) C.1 C.2.1 C.2.2.2.2 hin C.2.2.2.1 hK hw.1 0 rfl rfl 4 (by decide) (C.2.2.2.2 _ hl) (fun _ h => h) rfl hdg kk
theorem xg_0_5 (C : CallFix p m c cc nL s args Ts own) (hK : va_K D vwCl (xT cI cJ cR) s) (hw : XW D ad cI cJ cR H0 H locs u) (hin : ∀ w ∈ wsX60, w ∈ Ts) (hl : Cond.fieldLink own index "SignedCalls" "priceStep" "I" ∈ Ts) (hdg : decode cc pc = .ok (.getfield index, 3)) (kk : W p l e R s m args below meth c H locs cells slots Q (F0 m (pc + 3) ls (.int (x_stp u) :: rest))) : W p l e R s m args below meth c H locs cells slots Q (F0 m pc ls (.ref (ad 0) :: rest)) :=
  va_get (C := RX6) (T := TX6) (N := 8) C.1 C.2.1 C.2.2.2.2 hin C.2.2.2.1 hK hw.1 0 rfl rfl 5 (by decide) (C.2.2.2.2 _ hl) (fun _ h => h) rfl hdg kk
theorem xp_0_5 (C : CallFix p m c cc nL s args Ts own) (hK : va_K D vwCl (xT cI cJ cR) s) (hw : XW D ad cI cJ cR H0 H locs u) (hin : ∀ w ∈ wsX60, w ∈ Ts) (hl : Cond.fieldLink own index "SignedCalls" "priceStep" "I" ∈ Ts) {v : Int32} (hdg : decode cc pc = .ok (.putfield index, 3)) (kk : ∀ (H1 : Heap) (locs1 : List Loc), XW D ad cI cJ cR H0 H1 locs1 (xs_stp u v) → W p l e R s m args below meth c H1 locs1 cells slots Q (F0 m (pc + 3) ls rest)) : W p l e R s m args below meth c H locs cells slots Q (F0 m pc ls (.int v :: .ref (ad 0) :: rest)) :=
  va_put (C := RX6) (T := TX6) (N := 8) (ty := .int) C.1 C.2.1 C.2.2.2.2 hin tyX6 tyX6_ok nmX6 C.2.2.2.1 hK hw.1 hw.2.1 hw.2.2 0 rfl rfl 5 (by decide) (C.2.2.2.2 _ hl) (fun _ h => h) rfl (by decide +kernel) rfl rfl (Nat.le_of_ble_eq_true rfl) hdg (fun H1 locs1 h1 h2 h3 => kk H1 locs1 ⟨h1, h2, h3⟩)
theorem xg_0_6 (C : CallFix p m c cc nL s args Ts own) (hK : va_K D vwCl (xT cI cJ cR) s) (hw : XW D ad cI cJ cR H0 H locs u) (hin : ∀ w ∈ wsX60, w ∈ Ts) (hl : Cond.fieldLink own index "SignedCalls" "height" "I" ∈ Ts) (hdg : decode cc pc = .ok (.getfield index, 3)) (kk : W p l e R s m args below meth c H locs cells slots Q (F0 m (pc + 3) ls (.int (x_hgt u) :: rest))) : W p l e R s m args below meth c H locs cells slots Q (F0 m pc ls (.ref (ad 0) :: rest)) :=
  va_get (C := RX6) (T := TX6) (N := 8) C.1 C.2.1 C.2.2.2.2 hin C.2.2.2.1 hK hw.1 0 rfl rfl 6 (by decide) (C.2.2.2.2 _ hl) (fun _ h => h) rfl hdg kk
theorem xp_0_6 (C : CallFix p m c cc nL s args Ts own) (hK : va_K D vwCl (xT cI cJ cR) s) (hw : XW D ad cI cJ cR H0 H locs u) (hin : ∀ w ∈ wsX60, w ∈ Ts) (hl : Cond.fieldLink own index "SignedCalls" "height" "I" ∈ Ts) {v : Int32} (hdg : decode cc pc = .ok (.putfield index, 3)) (kk : ∀ (H1 : Heap) (locs1 : List Loc), XW D ad cI cJ cR H0 H1 locs1 (xs_hgt u v) → W p l e R s m args below meth c H1 locs1 cells slots Q (F0 m (pc + 3) ls rest)) : W p l e R s m args below meth c H locs cells slots Q (F0 m pc ls (.int v :: .ref (ad 0) :: rest)) :=
  va_put (C := RX6) (T := TX6) (N := 8) (ty := .int) C.1 C.2.1 C.2.2.2.2 hin tyX6 tyX6_ok nmX6 C.2.2.2.1 hK hw.1 hw.2.1 hw.2.2 0 rfl rfl 6 (by decide) (C.2.2.2.2 _ hl) (fun _ h => h) rfl (by decide +kernel) rfl rfl (Nat.le_of_ble_eq_true rfl) hdg (fun H1 locs1 h1 h2 h3 => kk H1 locs1 ⟨h1, h2, h3⟩)
theorem xg_0_7 (C : CallFix p m c cc nL s args Ts own) (hK : va_K D vwCl (xT cI cJ cR) s) (hw : XW D ad cI cJ cR H0 H locs u) (hin : ∀ w ∈ wsX60, w ∈ Ts) (hl : Cond.fieldLink own index "SignedCalls" "paidInAll" "J" ∈ Ts) (hdg : decode cc pc = .ok (.getfield index, 3)) (kk : W p l e R s m args below meth c H locs cells slots Q (F0 m (pc + 3) ls (.long (x_pai u) :: rest))) : W p l e R s m args below meth c H locs cells slots Q (F0 m pc ls (.ref (ad 0) :: rest)) :=
  va_get (C := RX6) (T := TX6) (N := 8) C.1 C.2.1 C.2.2.2.2 hin C.2.2.2.1 hK hw.1 0 rfl rfl 7 (by decide) (C.2.2.2.2 _ hl) (fun _ h => h) rfl hdg kk
theorem xp_0_7 (C : CallFix p m c cc nL s args Ts own) (hK : va_K D vwCl (xT cI cJ cR) s) (hw : XW D ad cI cJ cR H0 H locs u) (hin : ∀ w ∈ wsX60, w ∈ Ts) (hl : Cond.fieldLink own index "SignedCalls" "paidInAll" "J" ∈ Ts) {v : Int64} (hdg : decode cc pc = .ok (.putfield index, 3)) (kk : ∀ (H1 : Heap) (locs1 : List Loc), XW D ad cI cJ cR H0 H1 locs1 (xs_pai u v) → W p l e R s m args below meth c H1 locs1 cells slots Q (F0 m (pc + 3) ls rest)) : W p l e R s m args below meth c H locs cells slots Q (F0 m pc ls (.long v :: .ref (ad 0) :: rest)) :=
  va_put (C := RX6) (T := TX6) (N := 8) (ty := .long) C.1 C.2.1 C.2.2.2.2 hin tyX6 tyX6_ok nmX6 C.2.2.2.1 hK hw.1 hw.2.1 hw.2.2 0 rfl rfl 7 (by decide) (C.2.2.2.2 _ hl) (fun _ h => h) rfl (by decide +kernel) rfl rfl (Nat.le_of_ble_eq_true rfl) hdg (fun H1 locs1 h1 h2 h3 => kk H1 locs1 ⟨h1, h2, h3⟩)
theorem xg_1_0 (C : CallFix p m c cc nL s args Ts own) (hK : va_K D vwCl (xT cI cJ cR) s) (hw : XW D ad cI cJ cR H0 H locs u) (hin : ∀ w ∈ wsX00, w ∈ Ts) (hl : Cond.fieldLink own index "SignedCalls$Accounts" "funds" "[J" ∈ Ts) (hdg : decode cc pc = .ok (.getfield index, 3)) (kk : W p l e R s m args below meth c H locs cells slots Q (F0 m (pc + 3) ls (.ref (ad 2) :: rest))) : W p l e R s m args below meth c H locs cells slots Q (F0 m pc ls (.ref (ad 1) :: rest)) :=
  va_get (C := RX0) (T := TX0) (N := 5) C.1 C.2.1 C.2.2.2.2 hin C.2.2.2.1 hK hw.1 1 rfl rfl 0 (by decide) (C.2.2.2.2 _ hl) (fun _ h => h) rfl hdg kk
theorem xg_1_1 (C : CallFix p m c cc nL s args Ts own) (hK : va_K D vwCl (xT cI cJ cR) s) (hw : XW D ad cI cJ cR H0 H locs u) (hin : ∀ w ∈ wsX00, w ∈ Ts) (hl : Cond.fieldLink own index "SignedCalls$Accounts" "nexts" "[I" ∈ Ts) (hdg : decode cc pc = .ok (.getfield index, 3)) (kk : W p l e R s m args below meth c H locs cells slots Q (F0 m (pc + 3) ls (.ref (ad 3) :: rest))) : W p l e R s m args below meth c H locs cells slots Q (F0 m pc ls (.ref (ad 1) :: rest)) :=
  va_get (C := RX0) (T := TX0) (N := 5) C.1 C.2.1 C.2.2.2.2 hin C.2.2.2.1 hK hw.1 1 rfl rfl 1 (by decide) (C.2.2.2.2 _ hl) (fun _ h => h) rfl hdg kk
theorem xg_1_2 (C : CallFix p m c cc nL s args Ts own) (hK : va_K D vwCl (xT cI cJ cR) s) (hw : XW D ad cI cJ cR H0 H locs u) (hin : ∀ w ∈ wsX00, w ∈ Ts) (hl : Cond.fieldLink own index "SignedCalls$Accounts" "keys" "[I" ∈ Ts) (hdg : decode cc pc = .ok (.getfield index, 3)) (kk : W p l e R s m args below meth c H locs cells slots Q (F0 m (pc + 3) ls (.ref (ad 4) :: rest))) : W p l e R s m args below meth c H locs cells slots Q (F0 m pc ls (.ref (ad 1) :: rest)) :=
  va_get (C := RX0) (T := TX0) (N := 5) C.1 C.2.1 C.2.2.2.2 hin C.2.2.2.1 hK hw.1 1 rfl rfl 2 (by decide) (C.2.2.2.2 _ hl) (fun _ h => h) rfl hdg kk
theorem xg_1_3 (C : CallFix p m c cc nL s args Ts own) (hK : va_K D vwCl (xT cI cJ cR) s) (hw : XW D ad cI cJ cR H0 H locs u) (hin : ∀ w ∈ wsX00, w ∈ Ts) (hl : Cond.fieldLink own index "SignedCalls$Accounts" "thresholds" "[I" ∈ Ts) (hdg : decode cc pc = .ok (.getfield index, 3)) (kk : W p l e R s m args below meth c H locs cells slots Q (F0 m (pc + 3) ls (.ref (ad 5) :: rest))) : W p l e R s m args below meth c H locs cells slots Q (F0 m pc ls (.ref (ad 1) :: rest)) :=
  va_get (C := RX0) (T := TX0) (N := 5) C.1 C.2.1 C.2.2.2.2 hin C.2.2.2.1 hK hw.1 1 rfl rfl 3 (by decide) (C.2.2.2.2 _ hl) (fun _ h => h) rfl hdg kk
theorem xg_1_4 (C : CallFix p m c cc nL s args Ts own) (hK : va_K D vwCl (xT cI cJ cR) s) (hw : XW D ad cI cJ cR H0 H locs u) (hin : ∀ w ∈ wsX00, w ∈ Ts) (hl : Cond.fieldLink own index "SignedCalls$Accounts" "count" "I" ∈ Ts) (hdg : decode cc pc = .ok (.getfield index, 3)) (kk : W p l e R s m args below meth c H locs cells slots Q (F0 m (pc + 3) ls (.int (x_cnt u) :: rest))) : W p l e R s m args below meth c H locs cells slots Q (F0 m pc ls (.ref (ad 1) :: rest)) :=
  va_get (C := RX0) (T := TX0) (N := 5) C.1 C.2.1 C.2.2.2.2 hin C.2.2.2.1 hK hw.1 1 rfl rfl 4 (by decide) (C.2.2.2.2 _ hl) (fun _ h => h) rfl hdg kk
theorem xp_1_4 (C : CallFix p m c cc nL s args Ts own) (hK : va_K D vwCl (xT cI cJ cR) s) (hw : XW D ad cI cJ cR H0 H locs u) (hin : ∀ w ∈ wsX00, w ∈ Ts) (hl : Cond.fieldLink own index "SignedCalls$Accounts" "count" "I" ∈ Ts) {v : Int32} (hdg : decode cc pc = .ok (.putfield index, 3)) (kk : ∀ (H1 : Heap) (locs1 : List Loc), XW D ad cI cJ cR H0 H1 locs1 (xs_cnt u v) → W p l e R s m args below meth c H1 locs1 cells slots Q (F0 m (pc + 3) ls rest)) : W p l e R s m args below meth c H locs cells slots Q (F0 m pc ls (.int v :: .ref (ad 1) :: rest)) :=
  va_put (C := RX0) (T := TX0) (N := 5) (ty := .int) C.1 C.2.1 C.2.2.2.2 hin tyX0 tyX0_ok nmX0 C.2.2.2.1 hK hw.1 hw.2.1 hw.2.2 1 rfl rfl 4 (by decide) (C.2.2.2.2 _ hl) (fun _ h => h) rfl (by decide +kernel) rfl rfl (Nat.le_of_ble_eq_true rfl) hdg (fun H1 locs1 h1 h2 h3 => kk H1 locs1 ⟨h1, h2, h3⟩)
theorem xg_6_0 (C : CallFix p m c cc nL s args Ts own) (hK : va_K D vwCl (xT cI cJ cR) s) (hw : XW D ad cI cJ cR H0 H locs u) (hin : ∀ w ∈ wsX40, w ∈ Ts) (hl : Cond.fieldLink own index "SignedCalls$Signatures" "keys" "[I" ∈ Ts) (hdg : decode cc pc = .ok (.getfield index, 3)) (kk : W p l e R s m args below meth c H locs cells slots Q (F0 m (pc + 3) ls (.ref (ad 7) :: rest))) : W p l e R s m args below meth c H locs cells slots Q (F0 m pc ls (.ref (ad 6) :: rest)) :=
  va_get (C := RX4) (T := TX4) (N := 3) C.1 C.2.1 C.2.2.2.2 hin C.2.2.2.1 hK hw.1 6 rfl rfl 0 (by decide) (C.2.2.2.2 _ hl) (fun _ h => h) rfl hdg kk
theorem xg_6_1 (C : CallFix p m c cc nL s args Ts own) (hK : va_K D vwCl (xT cI cJ cR) s) (hw : XW D ad cI cJ cR H0 H locs u) (hin : ∀ w ∈ wsX40, w ∈ Ts) (hl : Cond.fieldLink own index "SignedCalls$Signatures" "digests" "[J" ∈ Ts) (hdg : decode cc pc = .ok (.getfield index, 3)) (kk : W p l e R s m args below meth c H locs cells slots Q (F0 m (pc + 3) ls (.ref (ad 8) :: rest))) : W p l e R s m args below meth c H locs cells slots Q (F0 m pc ls (.ref (ad 6) :: rest)) :=
  va_get (C := RX4) (T := TX4) (N := 3) C.1 C.2.1 C.2.2.2.2 hin C.2.2.2.1 hK hw.1 6 rfl rfl 1 (by decide) (C.2.2.2.2 _ hl) (fun _ h => h) rfl hdg kk
theorem xg_6_2 (C : CallFix p m c cc nL s args Ts own) (hK : va_K D vwCl (xT cI cJ cR) s) (hw : XW D ad cI cJ cR H0 H locs u) (hin : ∀ w ∈ wsX40, w ∈ Ts) (hl : Cond.fieldLink own index "SignedCalls$Signatures" "count" "I" ∈ Ts) (hdg : decode cc pc = .ok (.getfield index, 3)) (kk : W p l e R s m args below meth c H locs cells slots Q (F0 m (pc + 3) ls (.int (x_sgc u) :: rest))) : W p l e R s m args below meth c H locs cells slots Q (F0 m pc ls (.ref (ad 6) :: rest)) :=
  va_get (C := RX4) (T := TX4) (N := 3) C.1 C.2.1 C.2.2.2.2 hin C.2.2.2.1 hK hw.1 6 rfl rfl 2 (by decide) (C.2.2.2.2 _ hl) (fun _ h => h) rfl hdg kk
theorem xp_6_2 (C : CallFix p m c cc nL s args Ts own) (hK : va_K D vwCl (xT cI cJ cR) s) (hw : XW D ad cI cJ cR H0 H locs u) (hin : ∀ w ∈ wsX40, w ∈ Ts) (hl : Cond.fieldLink own index "SignedCalls$Signatures" "count" "I" ∈ Ts) {v : Int32} (hdg : decode cc pc = .ok (.putfield index, 3)) (kk : ∀ (H1 : Heap) (locs1 : List Loc), XW D ad cI cJ cR H0 H1 locs1 (xs_sgc u v) → W p l e R s m args below meth c H1 locs1 cells slots Q (F0 m (pc + 3) ls rest)) : W p l e R s m args below meth c H locs cells slots Q (F0 m pc ls (.int v :: .ref (ad 6) :: rest)) :=
  va_put (C := RX4) (T := TX4) (N := 3) (ty := .int) C.1 C.2.1 C.2.2.2.2 hin tyX4 tyX4_ok nmX4 C.2.2.2.1 hK hw.1 hw.2.1 hw.2.2 6 rfl rfl 2 (by decide) (C.2.2.2.2 _ hl) (fun _ h => h) rfl (by decide +kernel) rfl rfl (Nat.le_of_ble_eq_true rfl) hdg (fun H1 locs1 h1 h2 h3 => kk H1 locs1 ⟨h1, h2, h3⟩)
theorem xg_9_0 (C : CallFix p m c cc nL s args Ts own) (hK : va_K D vwCl (xT cI cJ cR) s) (hw : XW D ad cI cJ cR H0 H locs u) (hin : ∀ w ∈ wsX20, w ∈ Ts) (hl : Cond.fieldLink own index "SignedCalls$Draft" "call" "LSignedCalls$Call;" ∈ Ts) (hdg : decode cc pc = .ok (.getfield index, 3)) (kk : W p l e R s m args below meth c H locs cells slots Q (F0 m (pc + 3) ls (.ref (ad 17) :: rest))) : W p l e R s m args below meth c H locs cells slots Q (F0 m pc ls (.ref (ad 9) :: rest)) :=
  va_get (C := RX2) (T := TX2) (N := 4) C.1 C.2.1 C.2.2.2.2 hin C.2.2.2.1 hK hw.1 9 rfl rfl 0 (by decide) (C.2.2.2.2 _ hl) (fun _ h => h) rfl hdg kk
theorem xg_9_1 (C : CallFix p m c cc nL s args Ts own) (hK : va_K D vwCl (xT cI cJ cR) s) (hw : XW D ad cI cJ cR H0 H locs u) (hin : ∀ w ∈ wsX20, w ∈ Ts) (hl : Cond.fieldLink own index "SignedCalls$Draft" "signatures" "[I" ∈ Ts) (hdg : decode cc pc = .ok (.getfield index, 3)) (kk : W p l e R s m args below meth c H locs cells slots Q (F0 m (pc + 3) ls (.ref (ad 10) :: rest))) : W p l e R s m args below meth c H locs cells slots Q (F0 m pc ls (.ref (ad 9) :: rest)) :=
  va_get (C := RX2) (T := TX2) (N := 4) C.1 C.2.1 C.2.2.2.2 hin C.2.2.2.1 hK hw.1 9 rfl rfl 1 (by decide) (C.2.2.2.2 _ hl) (fun _ h => h) rfl hdg kk
theorem xg_9_2 (C : CallFix p m c cc nL s args Ts own) (hK : va_K D vwCl (xT cI cJ cR) s) (hw : XW D ad cI cJ cR H0 H locs u) (hin : ∀ w ∈ wsX20, w ∈ Ts) (hl : Cond.fieldLink own index "SignedCalls$Draft" "added" "I" ∈ Ts) (hdg : decode cc pc = .ok (.getfield index, 3)) (kk : W p l e R s m args below meth c H locs cells slots Q (F0 m (pc + 3) ls (.int (x_add u) :: rest))) : W p l e R s m args below meth c H locs cells slots Q (F0 m pc ls (.ref (ad 9) :: rest)) :=
  va_get (C := RX2) (T := TX2) (N := 4) C.1 C.2.1 C.2.2.2.2 hin C.2.2.2.1 hK hw.1 9 rfl rfl 2 (by decide) (C.2.2.2.2 _ hl) (fun _ h => h) rfl hdg kk
theorem xp_9_2 (C : CallFix p m c cc nL s args Ts own) (hK : va_K D vwCl (xT cI cJ cR) s) (hw : XW D ad cI cJ cR H0 H locs u) (hin : ∀ w ∈ wsX20, w ∈ Ts) (hl : Cond.fieldLink own index "SignedCalls$Draft" "added" "I" ∈ Ts) {v : Int32} (hdg : decode cc pc = .ok (.putfield index, 3)) (kk : ∀ (H1 : Heap) (locs1 : List Loc), XW D ad cI cJ cR H0 H1 locs1 (xs_add u v) → W p l e R s m args below meth c H1 locs1 cells slots Q (F0 m (pc + 3) ls rest)) : W p l e R s m args below meth c H locs cells slots Q (F0 m pc ls (.int v :: .ref (ad 9) :: rest)) :=
  va_put (C := RX2) (T := TX2) (N := 4) (ty := .int) C.1 C.2.1 C.2.2.2.2 hin tyX2 tyX2_ok nmX2 C.2.2.2.1 hK hw.1 hw.2.1 hw.2.2 9 rfl rfl 2 (by decide) (C.2.2.2.2 _ hl) (fun _ h => h) rfl (by decide +kernel) rfl rfl (Nat.le_of_ble_eq_true rfl) hdg (fun H1 locs1 h1 h2 h3 => kk H1 locs1 ⟨h1, h2, h3⟩)
theorem xg_9_3 (C : CallFix p m c cc nL s args Ts own) (hK : va_K D vwCl (xT cI cJ cR) s) (hw : XW D ad cI cJ cR H0 H locs u) (hin : ∀ w ∈ wsX20, w ∈ Ts) (hl : Cond.fieldLink own index "SignedCalls$Draft" "isThere" "Z" ∈ Ts) (hdg : decode cc pc = .ok (.getfield index, 3)) (kk : W p l e R s m args below meth c H locs cells slots Q (F0 m (pc + 3) ls (.int (x_the u) :: rest))) : W p l e R s m args below meth c H locs cells slots Q (F0 m pc ls (.ref (ad 9) :: rest)) :=
  va_get (C := RX2) (T := TX2) (N := 4) C.1 C.2.1 C.2.2.2.2 hin C.2.2.2.1 hK hw.1 9 rfl rfl 3 (by decide) (C.2.2.2.2 _ hl) (fun _ h => h) rfl hdg kk
theorem xp_9_3 (C : CallFix p m c cc nL s args Ts own) (hK : va_K D vwCl (xT cI cJ cR) s) (hw : XW D ad cI cJ cR H0 H locs u) (hin : ∀ w ∈ wsX20, w ∈ Ts) (hl : Cond.fieldLink own index "SignedCalls$Draft" "isThere" "Z" ∈ Ts) {v : Int32} (hn : narrow .boolean (.int v) = .int v) (hf : fits .boolean (.int v) = true) (hdg : decode cc pc = .ok (.putfield index, 3)) (kk : ∀ (H1 : Heap) (locs1 : List Loc), XW D ad cI cJ cR H0 H1 locs1 (xs_the u v) → W p l e R s m args below meth c H1 locs1 cells slots Q (F0 m (pc + 3) ls rest)) : W p l e R s m args below meth c H locs cells slots Q (F0 m pc ls (.int v :: .ref (ad 9) :: rest)) :=
  va_put (C := RX2) (T := TX2) (N := 4) (ty := .boolean) C.1 C.2.1 C.2.2.2.2 hin tyX2 tyX2_ok nmX2 C.2.2.2.1 hK hw.1 hw.2.1 hw.2.2 9 rfl rfl 3 (by decide) (C.2.2.2.2 _ hl) (fun _ h => h) rfl (by decide +kernel) hn hf (Nat.le_of_ble_eq_true rfl) hdg (fun H1 locs1 h1 h2 h3 => kk H1 locs1 ⟨h1, h2, h3⟩)
theorem xg_11_0 (C : CallFix p m c cc nL s args Ts own) (hK : va_K D vwCl (xT cI cJ cR) s) (hw : XW D ad cI cJ cR H0 H locs u) (hin : ∀ w ∈ wsX50, w ∈ Ts) (hl : Cond.fieldLink own index "SignedCalls$WaitingRow" "calls" "[LSignedCalls$Call;" ∈ Ts) (hdg : decode cc pc = .ok (.getfield index, 3)) (kk : W p l e R s m args below meth c H locs cells slots Q (F0 m (pc + 3) ls (.ref (ad 12) :: rest))) : W p l e R s m args below meth c H locs cells slots Q (F0 m pc ls (.ref (ad 11) :: rest)) :=
  va_get (C := RX5) (T := TX5) (N := 3) C.1 C.2.1 C.2.2.2.2 hin C.2.2.2.1 hK hw.1 11 rfl rfl 0 (by decide) (C.2.2.2.2 _ hl) (fun _ h => h) rfl hdg kk
theorem xg_11_1 (C : CallFix p m c cc nL s args Ts own) (hK : va_K D vwCl (xT cI cJ cR) s) (hw : XW D ad cI cJ cR H0 H locs u) (hin : ∀ w ∈ wsX50, w ∈ Ts) (hl : Cond.fieldLink own index "SignedCalls$WaitingRow" "count" "I" ∈ Ts) (hdg : decode cc pc = .ok (.getfield index, 3)) (kk : W p l e R s m args below meth c H locs cells slots Q (F0 m (pc + 3) ls (.int (x_rwc u) :: rest))) : W p l e R s m args below meth c H locs cells slots Q (F0 m pc ls (.ref (ad 11) :: rest)) :=
  va_get (C := RX5) (T := TX5) (N := 3) C.1 C.2.1 C.2.2.2.2 hin C.2.2.2.1 hK hw.1 11 rfl rfl 1 (by decide) (C.2.2.2.2 _ hl) (fun _ h => h) rfl hdg kk
theorem xp_11_1 (C : CallFix p m c cc nL s args Ts own) (hK : va_K D vwCl (xT cI cJ cR) s) (hw : XW D ad cI cJ cR H0 H locs u) (hin : ∀ w ∈ wsX50, w ∈ Ts) (hl : Cond.fieldLink own index "SignedCalls$WaitingRow" "count" "I" ∈ Ts) {v : Int32} (hdg : decode cc pc = .ok (.putfield index, 3)) (kk : ∀ (H1 : Heap) (locs1 : List Loc), XW D ad cI cJ cR H0 H1 locs1 (xs_rwc u v) → W p l e R s m args below meth c H1 locs1 cells slots Q (F0 m (pc + 3) ls rest)) : W p l e R s m args below meth c H locs cells slots Q (F0 m pc ls (.int v :: .ref (ad 11) :: rest)) :=
  va_put (C := RX5) (T := TX5) (N := 3) (ty := .int) C.1 C.2.1 C.2.2.2.2 hin tyX5 tyX5_ok nmX5 C.2.2.2.1 hK hw.1 hw.2.1 hw.2.2 11 rfl rfl 1 (by decide) (C.2.2.2.2 _ hl) (fun _ h => h) rfl (by decide +kernel) rfl rfl (Nat.le_of_ble_eq_true rfl) hdg (fun H1 locs1 h1 h2 h3 => kk H1 locs1 ⟨h1, h2, h3⟩)
theorem xg_11_2 (C : CallFix p m c cc nL s args Ts own) (hK : va_K D vwCl (xT cI cJ cR) s) (hw : XW D ad cI cJ cR H0 H locs u) (hin : ∀ w ∈ wsX50, w ∈ Ts) (hl : Cond.fieldLink own index "SignedCalls$WaitingRow" "ticketsGiven" "I" ∈ Ts) (hdg : decode cc pc = .ok (.getfield index, 3)) (kk : W p l e R s m args below meth c H locs cells slots Q (F0 m (pc + 3) ls (.int (x_tik u) :: rest))) : W p l e R s m args below meth c H locs cells slots Q (F0 m pc ls (.ref (ad 11) :: rest)) :=
  va_get (C := RX5) (T := TX5) (N := 3) C.1 C.2.1 C.2.2.2.2 hin C.2.2.2.1 hK hw.1 11 rfl rfl 2 (by decide) (C.2.2.2.2 _ hl) (fun _ h => h) rfl hdg kk
theorem xp_11_2 (C : CallFix p m c cc nL s args Ts own) (hK : va_K D vwCl (xT cI cJ cR) s) (hw : XW D ad cI cJ cR H0 H locs u) (hin : ∀ w ∈ wsX50, w ∈ Ts) (hl : Cond.fieldLink own index "SignedCalls$WaitingRow" "ticketsGiven" "I" ∈ Ts) {v : Int32} (hdg : decode cc pc = .ok (.putfield index, 3)) (kk : ∀ (H1 : Heap) (locs1 : List Loc), XW D ad cI cJ cR H0 H1 locs1 (xs_tik u v) → W p l e R s m args below meth c H1 locs1 cells slots Q (F0 m (pc + 3) ls rest)) : W p l e R s m args below meth c H locs cells slots Q (F0 m pc ls (.int v :: .ref (ad 11) :: rest)) :=
  va_put (C := RX5) (T := TX5) (N := 3) (ty := .int) C.1 C.2.1 C.2.2.2.2 hin tyX5 tyX5_ok nmX5 C.2.2.2.1 hK hw.1 hw.2.1 hw.2.2 11 rfl rfl 2 (by decide) (C.2.2.2.2 _ hl) (fun _ h => h) rfl (by decide +kernel) rfl rfl (Nat.le_of_ble_eq_true rfl) hdg (fun H1 locs1 h1 h2 h3 => kk H1 locs1 ⟨h1, h2, h3⟩)
theorem xg_13_0 (C : CallFix p m c cc nL s args Ts own) (hK : va_K D vwCl (xT cI cJ cR) s) (hw : XW D ad cI cJ cR H0 H locs u) (hin : ∀ w ∈ wsX30, w ∈ Ts) (hl : Cond.fieldLink own index "SignedCalls$EventLog" "tickets" "[I" ∈ Ts) (hdg : decode cc pc = .ok (.getfield index, 3)) (kk : W p l e R s m args below meth c H locs cells slots Q (F0 m (pc + 3) ls (.ref (ad 14) :: rest))) : W p l e R s m args below meth c H locs cells slots Q (F0 m pc ls (.ref (ad 13) :: rest)) :=
  va_get (C := RX3) (T := TX3) (N := 6) C.1 C.2.1 C.2.2.2.2 hin C.2.2.2.1 hK hw.1 13 rfl rfl 0 (by decide) (C.2.2.2.2 _ hl) (fun _ h => h) rfl hdg kk
theorem xg_13_1 (C : CallFix p m c cc nL s args Ts own) (hK : va_K D vwCl (xT cI cJ cR) s) (hw : XW D ad cI cJ cR H0 H locs u) (hin : ∀ w ∈ wsX30, w ∈ Ts) (hl : Cond.fieldLink own index "SignedCalls$EventLog" "whys" "[I" ∈ Ts) (hdg : decode cc pc = .ok (.getfield index, 3)) (kk : W p l e R s m args below meth c H locs cells slots Q (F0 m (pc + 3) ls (.ref (ad 15) :: rest))) : W p l e R s m args below meth c H locs cells slots Q (F0 m pc ls (.ref (ad 13) :: rest)) :=
  va_get (C := RX3) (T := TX3) (N := 6) C.1 C.2.1 C.2.2.2.2 hin C.2.2.2.1 hK hw.1 13 rfl rfl 1 (by decide) (C.2.2.2.2 _ hl) (fun _ h => h) rfl hdg kk
theorem xg_13_2 (C : CallFix p m c cc nL s args Ts own) (hK : va_K D vwCl (xT cI cJ cR) s) (hw : XW D ad cI cJ cR H0 H locs u) (hin : ∀ w ∈ wsX30, w ∈ Ts) (hl : Cond.fieldLink own index "SignedCalls$EventLog" "units" "[I" ∈ Ts) (hdg : decode cc pc = .ok (.getfield index, 3)) (kk : W p l e R s m args below meth c H locs cells slots Q (F0 m (pc + 3) ls (.ref (ad 16) :: rest))) : W p l e R s m args below meth c H locs cells slots Q (F0 m pc ls (.ref (ad 13) :: rest)) :=
  va_get (C := RX3) (T := TX3) (N := 6) C.1 C.2.1 C.2.2.2.2 hin C.2.2.2.1 hK hw.1 13 rfl rfl 2 (by decide) (C.2.2.2.2 _ hl) (fun _ h => h) rfl hdg kk
theorem xg_13_3 (C : CallFix p m c cc nL s args Ts own) (hK : va_K D vwCl (xT cI cJ cR) s) (hw : XW D ad cI cJ cR H0 H locs u) (hin : ∀ w ∈ wsX30, w ∈ Ts) (hl : Cond.fieldLink own index "SignedCalls$EventLog" "kept" "I" ∈ Ts) (hdg : decode cc pc = .ok (.getfield index, 3)) (kk : W p l e R s m args below meth c H locs cells slots Q (F0 m (pc + 3) ls (.int (x_kep u) :: rest))) : W p l e R s m args below meth c H locs cells slots Q (F0 m pc ls (.ref (ad 13) :: rest)) :=
  va_get (C := RX3) (T := TX3) (N := 6) C.1 C.2.1 C.2.2.2.2 hin C.2.2.2.1 hK hw.1 13 rfl rfl 3 (by decide) (C.2.2.2.2 _ hl) (fun _ h => h) rfl hdg kk
theorem xp_13_3 (C : CallFix p m c cc nL s args Ts own) (hK : va_K D vwCl (xT cI cJ cR) s) (hw : XW D ad cI cJ cR H0 H locs u) (hin : ∀ w ∈ wsX30, w ∈ Ts) (hl : Cond.fieldLink own index "SignedCalls$EventLog" "kept" "I" ∈ Ts) {v : Int32} (hdg : decode cc pc = .ok (.putfield index, 3)) (kk : ∀ (H1 : Heap) (locs1 : List Loc), XW D ad cI cJ cR H0 H1 locs1 (xs_kep u v) → W p l e R s m args below meth c H1 locs1 cells slots Q (F0 m (pc + 3) ls rest)) : W p l e R s m args below meth c H locs cells slots Q (F0 m pc ls (.int v :: .ref (ad 13) :: rest)) :=
  va_put (C := RX3) (T := TX3) (N := 6) (ty := .int) C.1 C.2.1 C.2.2.2.2 hin tyX3 tyX3_ok nmX3 C.2.2.2.1 hK hw.1 hw.2.1 hw.2.2 13 rfl rfl 3 (by decide) (C.2.2.2.2 _ hl) (fun _ h => h) rfl (by decide +kernel) rfl rfl (Nat.le_of_ble_eq_true rfl) hdg (fun H1 locs1 h1 h2 h3 => kk H1 locs1 ⟨h1, h2, h3⟩)
theorem xg_13_4 (C : CallFix p m c cc nL s args Ts own) (hK : va_K D vwCl (xT cI cJ cR) s) (hw : XW D ad cI cJ cR H0 H locs u) (hin : ∀ w ∈ wsX30, w ∈ Ts) (hl : Cond.fieldLink own index "SignedCalls$EventLog" "newest" "I" ∈ Ts) (hdg : decode cc pc = .ok (.getfield index, 3)) (kk : W p l e R s m args below meth c H locs cells slots Q (F0 m (pc + 3) ls (.int (x_nws u) :: rest))) : W p l e R s m args below meth c H locs cells slots Q (F0 m pc ls (.ref (ad 13) :: rest)) :=
  va_get (C := RX3) (T := TX3) (N := 6) C.1 C.2.1 C.2.2.2.2 hin C.2.2.2.1 hK hw.1 13 rfl rfl 4 (by decide) (C.2.2.2.2 _ hl) (fun _ h => h) rfl hdg kk
theorem xp_13_4 (C : CallFix p m c cc nL s args Ts own) (hK : va_K D vwCl (xT cI cJ cR) s) (hw : XW D ad cI cJ cR H0 H locs u) (hin : ∀ w ∈ wsX30, w ∈ Ts) (hl : Cond.fieldLink own index "SignedCalls$EventLog" "newest" "I" ∈ Ts) {v : Int32} (hdg : decode cc pc = .ok (.putfield index, 3)) (kk : ∀ (H1 : Heap) (locs1 : List Loc), XW D ad cI cJ cR H0 H1 locs1 (xs_nws u v) → W p l e R s m args below meth c H1 locs1 cells slots Q (F0 m (pc + 3) ls rest)) : W p l e R s m args below meth c H locs cells slots Q (F0 m pc ls (.int v :: .ref (ad 13) :: rest)) :=
  va_put (C := RX3) (T := TX3) (N := 6) (ty := .int) C.1 C.2.1 C.2.2.2.2 hin tyX3 tyX3_ok nmX3 C.2.2.2.1 hK hw.1 hw.2.1 hw.2.2 13 rfl rfl 4 (by decide) (C.2.2.2.2 _ hl) (fun _ h => h) rfl (by decide +kernel) rfl rfl (Nat.le_of_ble_eq_true rfl) hdg (fun H1 locs1 h1 h2 h3 => kk H1 locs1 ⟨h1, h2, h3⟩)
theorem xg_13_5 (C : CallFix p m c cc nL s args Ts own) (hK : va_K D vwCl (xT cI cJ cR) s) (hw : XW D ad cI cJ cR H0 H locs u) (hin : ∀ w ∈ wsX30, w ∈ Ts) (hl : Cond.fieldLink own index "SignedCalls$EventLog" "inAll" "I" ∈ Ts) (hdg : decode cc pc = .ok (.getfield index, 3)) (kk : W p l e R s m args below meth c H locs cells slots Q (F0 m (pc + 3) ls (.int (x_ina u) :: rest))) : W p l e R s m args below meth c H locs cells slots Q (F0 m pc ls (.ref (ad 13) :: rest)) :=
  va_get (C := RX3) (T := TX3) (N := 6) C.1 C.2.1 C.2.2.2.2 hin C.2.2.2.1 hK hw.1 13 rfl rfl 5 (by decide) (C.2.2.2.2 _ hl) (fun _ h => h) rfl hdg kk
theorem xp_13_5 (C : CallFix p m c cc nL s args Ts own) (hK : va_K D vwCl (xT cI cJ cR) s) (hw : XW D ad cI cJ cR H0 H locs u) (hin : ∀ w ∈ wsX30, w ∈ Ts) (hl : Cond.fieldLink own index "SignedCalls$EventLog" "inAll" "I" ∈ Ts) {v : Int32} (hdg : decode cc pc = .ok (.putfield index, 3)) (kk : ∀ (H1 : Heap) (locs1 : List Loc), XW D ad cI cJ cR H0 H1 locs1 (xs_ina u v) → W p l e R s m args below meth c H1 locs1 cells slots Q (F0 m (pc + 3) ls rest)) : W p l e R s m args below meth c H locs cells slots Q (F0 m pc ls (.int v :: .ref (ad 13) :: rest)) :=
  va_put (C := RX3) (T := TX3) (N := 6) (ty := .int) C.1 C.2.1 C.2.2.2.2 hin tyX3 tyX3_ok nmX3 C.2.2.2.1 hK hw.1 hw.2.1 hw.2.2 13 rfl rfl 5 (by decide) (C.2.2.2.2 _ hl) (fun _ h => h) rfl (by decide +kernel) rfl rfl (Nat.le_of_ble_eq_true rfl) hdg (fun H1 locs1 h1 h2 h3 => kk H1 locs1 ⟨h1, h2, h3⟩)
theorem xl_2 (C : CallFix p m c cc nL s args Ts own) (hK : va_K D vwCl (xT cI cJ cR) s) (hw : XW D ad cI cJ cR H0 H locs u) {i : Int32} (hi : vp_in i 12) (hdg : decode cc pc = .ok (.laload, 1)) (kk : W p l e R s m args below meth c H locs cells slots Q (F0 m (pc + 1) ls (.long (x_fun u i.toNatClampNeg) :: rest))) : W p l e R s m args below meth c H locs cells slots Q (F0 m pc ls (.int i :: .ref (ad 2) :: rest)) :=
  va_lald C.1 C.2.1 hK hw.1 2 1 rfl rfl hi hdg kk
theorem xt_2 (C : CallFix p m c cc nL s args Ts own) (hK : va_K D vwCl (xT cI cJ cR) s) (hw : XW D ad cI cJ cR H0 H locs u) {i : Int32} {x : Int64} (hi : vp_in i 12) (hdg : decode cc pc = .ok (.lastore, 1)) (kk : ∀ (H1 : Heap) (locs1 : List Loc), XW D ad cI cJ cR H0 H1 locs1 (xs_fun u (vp_updL (x_fun u) i.toNatClampNeg x)) → W p l e R s m args below meth c H1 locs1 cells slots Q (F0 m (pc + 1) ls rest)) : W p l e R s m args below meth c H locs cells slots Q (F0 m pc ls (.long x :: .int i :: .ref (ad 2) :: rest)) :=
  va_last C.1 C.2.1 hK hw.1 hw.2.1 hw.2.2 2 1 rfl rfl hi hdg (fun H1 locs1 h1 h2 h3 => kk H1 locs1 ⟨h1, h2, h3⟩)
theorem xl_3 (C : CallFix p m c cc nL s args Ts own) (hK : va_K D vwCl (xT cI cJ cR) s) (hw : XW D ad cI cJ cR H0 H locs u) {i : Int32} (hi : vp_in i 12) (hdg : decode cc pc = .ok (.iaload, 1)) (kk : W p l e R s m args below meth c H locs cells slots Q (F0 m (pc + 1) ls (.int (x_nxt u i.toNatClampNeg) :: rest))) : W p l e R s m args below meth c H locs cells slots Q (F0 m pc ls (.int i :: .ref (ad 3) :: rest)) :=
  va_iald C.1 C.2.1 hK hw.1 3 0 rfl rfl hi hdg kk
theorem xt_3 (C : CallFix p m c cc nL s args Ts own) (hK : va_K D vwCl (xT cI cJ cR) s) (hw : XW D ad cI cJ cR H0 H locs u) {i : Int32} {x : Int32} (hi : vp_in i 12) (hdg : decode cc pc = .ok (.iastore, 1)) (kk : ∀ (H1 : Heap) (locs1 : List Loc), XW D ad cI cJ cR H0 H1 locs1 (xs_nxt u (upd (x_nxt u) i.toNatClampNeg x)) → W p l e R s m args below meth c H1 locs1 cells slots Q (F0 m (pc + 1) ls rest)) : W p l e R s m args below meth c H locs cells slots Q (F0 m pc ls (.int x :: .int i :: .ref (ad 3) :: rest)) :=
  va_iast C.1 C.2.1 hK hw.1 hw.2.1 hw.2.2 3 0 rfl rfl hi hdg (fun H1 locs1 h1 h2 h3 => kk H1 locs1 ⟨h1, h2, h3⟩)
theorem xl_4 (C : CallFix p m c cc nL s args Ts own) (hK : va_K D vwCl (xT cI cJ cR) s) (hw : XW D ad cI cJ cR H0 H locs u) {i : Int32} (hi : vp_in i 12) (hdg : decode cc pc = .ok (.iaload, 1)) (kk : W p l e R s m args below meth c H locs cells slots Q (F0 m (pc + 1) ls (.int (x_kys u i.toNatClampNeg) :: rest))) : W p l e R s m args below meth c H locs cells slots Q (F0 m pc ls (.int i :: .ref (ad 4) :: rest)) :=
  va_iald C.1 C.2.1 hK hw.1 4 0 rfl rfl hi hdg kk
theorem xt_4 (C : CallFix p m c cc nL s args Ts own) (hK : va_K D vwCl (xT cI cJ cR) s) (hw : XW D ad cI cJ cR H0 H locs u) {i : Int32} {x : Int32} (hi : vp_in i 12) (hdg : decode cc pc = .ok (.iastore, 1)) (kk : ∀ (H1 : Heap) (locs1 : List Loc), XW D ad cI cJ cR H0 H1 locs1 (xs_kys u (upd (x_kys u) i.toNatClampNeg x)) → W p l e R s m args below meth c H1 locs1 cells slots Q (F0 m (pc + 1) ls rest)) : W p l e R s m args below meth c H locs cells slots Q (F0 m pc ls (.int x :: .int i :: .ref (ad 4) :: rest)) :=
  va_iast C.1 C.2.1 hK hw.1 hw.2.1 hw.2.2 4 0 rfl rfl hi hdg (fun H1 locs1 h1 h2 h3 => kk H1 locs1 ⟨h1, h2, h3⟩)
theorem xl_5 (C : CallFix p m c cc nL s args Ts own) (hK : va_K D vwCl (xT cI cJ cR) s) (hw : XW D ad cI cJ cR H0 H locs u) {i : Int32} (hi : vp_in i 12) (hdg : decode cc pc = .ok (.iaload, 1)) (kk : W p l e R s m args below meth c H locs cells slots Q (F0 m (pc + 1) ls (.int (x_thr u i.toNatClampNeg) :: rest))) : W p l e R s m args below meth c H locs cells slots Q (F0 m pc ls (.int i :: .ref (ad 5) :: rest)) :=
  va_iald C.1 C.2.1 hK hw.1 5 0 rfl rfl hi hdg kk
theorem xt_5 (C : CallFix p m c cc nL s args Ts own) (hK : va_K D vwCl (xT cI cJ cR) s) (hw : XW D ad cI cJ cR H0 H locs u) {i : Int32} {x : Int32} (hi : vp_in i 12) (hdg : decode cc pc = .ok (.iastore, 1)) (kk : ∀ (H1 : Heap) (locs1 : List Loc), XW D ad cI cJ cR H0 H1 locs1 (xs_thr u (upd (x_thr u) i.toNatClampNeg x)) → W p l e R s m args below meth c H1 locs1 cells slots Q (F0 m (pc + 1) ls rest)) : W p l e R s m args below meth c H locs cells slots Q (F0 m pc ls (.int x :: .int i :: .ref (ad 5) :: rest)) :=
  va_iast C.1 C.2.1 hK hw.1 hw.2.1 hw.2.2 5 0 rfl rfl hi hdg (fun H1 locs1 h1 h2 h3 => kk H1 locs1 ⟨h1, h2, h3⟩)
theorem xl_7 (C : CallFix p m c cc nL s args Ts own) (hK : va_K D vwCl (xT cI cJ cR) s) (hw : XW D ad cI cJ cR H0 H locs u) {i : Int32} (hi : vp_in i 200) (hdg : decode cc pc = .ok (.iaload, 1)) (kk : W p l e R s m args below meth c H locs cells slots Q (F0 m (pc + 1) ls (.int (x_sky u i.toNatClampNeg) :: rest))) : W p l e R s m args below meth c H locs cells slots Q (F0 m pc ls (.int i :: .ref (ad 7) :: rest)) :=
  va_iald C.1 C.2.1 hK hw.1 7 0 rfl rfl hi hdg kk
theorem xt_7 (C : CallFix p m c cc nL s args Ts own) (hK : va_K D vwCl (xT cI cJ cR) s) (hw : XW D ad cI cJ cR H0 H locs u) {i : Int32} {x : Int32} (hi : vp_in i 200) (hdg : decode cc pc = .ok (.iastore, 1)) (kk : ∀ (H1 : Heap) (locs1 : List Loc), XW D ad cI cJ cR H0 H1 locs1 (xs_sky u (upd (x_sky u) i.toNatClampNeg x)) → W p l e R s m args below meth c H1 locs1 cells slots Q (F0 m (pc + 1) ls rest)) : W p l e R s m args below meth c H locs cells slots Q (F0 m pc ls (.int x :: .int i :: .ref (ad 7) :: rest)) :=
  va_iast C.1 C.2.1 hK hw.1 hw.2.1 hw.2.2 7 0 rfl rfl hi hdg (fun H1 locs1 h1 h2 h3 => kk H1 locs1 ⟨h1, h2, h3⟩)
theorem xl_8 (C : CallFix p m c cc nL s args Ts own) (hK : va_K D vwCl (xT cI cJ cR) s) (hw : XW D ad cI cJ cR H0 H locs u) {i : Int32} (hi : vp_in i 200) (hdg : decode cc pc = .ok (.laload, 1)) (kk : W p l e R s m args below meth c H locs cells slots Q (F0 m (pc + 1) ls (.long (x_sdg u i.toNatClampNeg) :: rest))) : W p l e R s m args below meth c H locs cells slots Q (F0 m pc ls (.int i :: .ref (ad 8) :: rest)) :=
  va_lald C.1 C.2.1 hK hw.1 8 1 rfl rfl hi hdg kk
theorem xt_8 (C : CallFix p m c cc nL s args Ts own) (hK : va_K D vwCl (xT cI cJ cR) s) (hw : XW D ad cI cJ cR H0 H locs u) {i : Int32} {x : Int64} (hi : vp_in i 200) (hdg : decode cc pc = .ok (.lastore, 1)) (kk : ∀ (H1 : Heap) (locs1 : List Loc), XW D ad cI cJ cR H0 H1 locs1 (xs_sdg u (vp_updL (x_sdg u) i.toNatClampNeg x)) → W p l e R s m args below meth c H1 locs1 cells slots Q (F0 m (pc + 1) ls rest)) : W p l e R s m args below meth c H locs cells slots Q (F0 m pc ls (.long x :: .int i :: .ref (ad 8) :: rest)) :=
  va_last C.1 C.2.1 hK hw.1 hw.2.1 hw.2.2 8 1 rfl rfl hi hdg (fun H1 locs1 h1 h2 h3 => kk H1 locs1 ⟨h1, h2, h3⟩)
theorem xl_10 (C : CallFix p m c cc nL s args Ts own) (hK : va_K D vwCl (xT cI cJ cR) s) (hw : XW D ad cI cJ cR H0 H locs u) {i : Int32} (hi : vp_in i 12) (hdg : decode cc pc = .ok (.iaload, 1)) (kk : W p l e R s m args below meth c H locs cells slots Q (F0 m (pc + 1) ls (.int (x_dsg u i.toNatClampNeg) :: rest))) : W p l e R s m args below meth c H locs cells slots Q (F0 m pc ls (.int i :: .ref (ad 10) :: rest)) :=
  va_iald C.1 C.2.1 hK hw.1 10 0 rfl rfl hi hdg kk
theorem xt_10 (C : CallFix p m c cc nL s args Ts own) (hK : va_K D vwCl (xT cI cJ cR) s) (hw : XW D ad cI cJ cR H0 H locs u) {i : Int32} {x : Int32} (hi : vp_in i 12) (hdg : decode cc pc = .ok (.iastore, 1)) (kk : ∀ (H1 : Heap) (locs1 : List Loc), XW D ad cI cJ cR H0 H1 locs1 (xs_dsg u (upd (x_dsg u) i.toNatClampNeg x)) → W p l e R s m args below meth c H1 locs1 cells slots Q (F0 m (pc + 1) ls rest)) : W p l e R s m args below meth c H locs cells slots Q (F0 m pc ls (.int x :: .int i :: .ref (ad 10) :: rest)) :=
  va_iast C.1 C.2.1 hK hw.1 hw.2.1 hw.2.2 10 0 rfl rfl hi hdg (fun H1 locs1 h1 h2 h3 => kk H1 locs1 ⟨h1, h2, h3⟩)
theorem xl_14 (C : CallFix p m c cc nL s args Ts own) (hK : va_K D vwCl (xT cI cJ cR) s) (hw : XW D ad cI cJ cR H0 H locs u) {i : Int32} (hi : vp_in i 60) (hdg : decode cc pc = .ok (.iaload, 1)) (kk : W p l e R s m args below meth c H locs cells slots Q (F0 m (pc + 1) ls (.int (x_etk u i.toNatClampNeg) :: rest))) : W p l e R s m args below meth c H locs cells slots Q (F0 m pc ls (.int i :: .ref (ad 14) :: rest)) :=
  va_iald C.1 C.2.1 hK hw.1 14 0 rfl rfl hi hdg kk
theorem xt_14 (C : CallFix p m c cc nL s args Ts own) (hK : va_K D vwCl (xT cI cJ cR) s) (hw : XW D ad cI cJ cR H0 H locs u) {i : Int32} {x : Int32} (hi : vp_in i 60) (hdg : decode cc pc = .ok (.iastore, 1)) (kk : ∀ (H1 : Heap) (locs1 : List Loc), XW D ad cI cJ cR H0 H1 locs1 (xs_etk u (upd (x_etk u) i.toNatClampNeg x)) → W p l e R s m args below meth c H1 locs1 cells slots Q (F0 m (pc + 1) ls rest)) : W p l e R s m args below meth c H locs cells slots Q (F0 m pc ls (.int x :: .int i :: .ref (ad 14) :: rest)) :=
  va_iast C.1 C.2.1 hK hw.1 hw.2.1 hw.2.2 14 0 rfl rfl hi hdg (fun H1 locs1 h1 h2 h3 => kk H1 locs1 ⟨h1, h2, h3⟩)
theorem xl_15 (C : CallFix p m c cc nL s args Ts own) (hK : va_K D vwCl (xT cI cJ cR) s) (hw : XW D ad cI cJ cR H0 H locs u) {i : Int32} (hi : vp_in i 60) (hdg : decode cc pc = .ok (.iaload, 1)) (kk : W p l e R s m args below meth c H locs cells slots Q (F0 m (pc + 1) ls (.int (x_ewh u i.toNatClampNeg) :: rest))) : W p l e R s m args below meth c H locs cells slots Q (F0 m pc ls (.int i :: .ref (ad 15) :: rest)) :=
  va_iald C.1 C.2.1 hK hw.1 15 0 rfl rfl hi hdg kk
theorem xt_15 (C : CallFix p m c cc nL s args Ts own) (hK : va_K D vwCl (xT cI cJ cR) s) (hw : XW D ad cI cJ cR H0 H locs u) {i : Int32} {x : Int32} (hi : vp_in i 60) (hdg : decode cc pc = .ok (.iastore, 1)) (kk : ∀ (H1 : Heap) (locs1 : List Loc), XW D ad cI cJ cR H0 H1 locs1 (xs_ewh u (upd (x_ewh u) i.toNatClampNeg x)) → W p l e R s m args below meth c H1 locs1 cells slots Q (F0 m (pc + 1) ls rest)) : W p l e R s m args below meth c H locs cells slots Q (F0 m pc ls (.int x :: .int i :: .ref (ad 15) :: rest)) :=
  va_iast C.1 C.2.1 hK hw.1 hw.2.1 hw.2.2 15 0 rfl rfl hi hdg (fun H1 locs1 h1 h2 h3 => kk H1 locs1 ⟨h1, h2, h3⟩)
theorem xl_16 (C : CallFix p m c cc nL s args Ts own) (hK : va_K D vwCl (xT cI cJ cR) s) (hw : XW D ad cI cJ cR H0 H locs u) {i : Int32} (hi : vp_in i 60) (hdg : decode cc pc = .ok (.iaload, 1)) (kk : W p l e R s m args below meth c H locs cells slots Q (F0 m (pc + 1) ls (.int (x_eun u i.toNatClampNeg) :: rest))) : W p l e R s m args below meth c H locs cells slots Q (F0 m pc ls (.int i :: .ref (ad 16) :: rest)) :=
  va_iald C.1 C.2.1 hK hw.1 16 0 rfl rfl hi hdg kk
theorem xt_16 (C : CallFix p m c cc nL s args Ts own) (hK : va_K D vwCl (xT cI cJ cR) s) (hw : XW D ad cI cJ cR H0 H locs u) {i : Int32} {x : Int32} (hi : vp_in i 60) (hdg : decode cc pc = .ok (.iastore, 1)) (kk : ∀ (H1 : Heap) (locs1 : List Loc), XW D ad cI cJ cR H0 H1 locs1 (xs_eun u (upd (x_eun u) i.toNatClampNeg x)) → W p l e R s m args below meth c H1 locs1 cells slots Q (F0 m (pc + 1) ls rest)) : W p l e R s m args below meth c H locs cells slots Q (F0 m pc ls (.int x :: .int i :: .ref (ad 16) :: rest)) :=
  va_iast C.1 C.2.1 hK hw.1 hw.2.1 hw.2.2 16 0 rfl rfl hi hdg (fun H1 locs1 h1 h2 h3 => kk H1 locs1 ⟨h1, h2, h3⟩)
theorem wX_c {cI cJ cR : ClassId} {c : Nat} (h : c < 25) : (wX ad cI cJ cR u)[17 + c]? = some (wXc ad u c) := rg_get (wXp ad cI cJ cR u) (wXc ad u) 25 _ h rfl
theorem wX_r {cI cJ cR : ClassId} {c : Nat} (h : c < 25) : (wX ad cI cJ cR u)[42 + c]? = some (wXr ad cI u c) := by
  show (wXp ad cI cJ cR u ++ ((List.range 25).map (wXc ad u) ++ ((List.range 25).map (wXr ad cI u) ++ ((List.range 25).map (wXa ad cJ u) ++ []))))[42 + c]? = _
  rw [← List.append_assoc]
  exact rg_get _ (wXr ad cI u) 25 _ h rfl
theorem wX_a {cI cJ cR : ClassId} {c : Nat} (h : c < 25) : (wX ad cI cJ cR u)[67 + c]? = some (wXa ad cJ u c) := by
  show (wXp ad cI cJ cR u ++ ((List.range 25).map (wXc ad u) ++ ((List.range 25).map (wXr ad cI u) ++ ((List.range 25).map (wXa ad cJ u) ++ []))))[67 + c]? = _
  rw [← List.append_assoc, ← List.append_assoc]
  exact rg_get _ (wXa ad cJ u) 25 _ h rfl
theorem xgc_0 (C : CallFix p m c cc nL s args Ts own) (hK : va_K D vwCl (xT cI cJ cR) s) (hw : XW D ad cI cJ cR H0 H locs u) {q : Nat} (hq : q < 25) (hin : ∀ w ∈ wsX10, w ∈ Ts) (hl : Cond.fieldLink own index "SignedCalls$Call" "receivers" "[I" ∈ Ts) (hdg : decode cc pc = .ok (.getfield index, 3)) (kk : W p l e R s m args below meth c H locs cells slots Q (F0 m (pc + 3) ls (.ref (ad (42 + q)) :: rest))) : W p l e R s m args below meth c H locs cells slots Q (F0 m pc ls (.ref (ad (17 + q)) :: rest)) :=
  va_get (C := RX1) (T := TX1) (N := 12) C.1 C.2.1 C.2.2.2.2 hin C.2.2.2.1 hK hw.1 (17 + q) (wX_c hq) rfl 0 (by decide) (C.2.2.2.2 _ hl) (fun _ h => h) rfl hdg kk
theorem xgc_1 (C : CallFix p m c cc nL s args Ts own) (hK : va_K D vwCl (xT cI cJ cR) s) (hw : XW D ad cI cJ cR H0 H locs u) {q : Nat} (hq : q < 25) (hin : ∀ w ∈ wsX10, w ∈ Ts) (hl : Cond.fieldLink own index "SignedCalls$Call" "amounts" "[J" ∈ Ts) (hdg : decode cc pc = .ok (.getfield index, 3)) (kk : W p l e R s m args below meth c H locs cells slots Q (F0 m (pc + 3) ls (.ref (ad (67 + q)) :: rest))) : W p l e R s m args below meth c H locs cells slots Q (F0 m pc ls (.ref (ad (17 + q)) :: rest)) :=
  va_get (C := RX1) (T := TX1) (N := 12) C.1 C.2.1 C.2.2.2.2 hin C.2.2.2.1 hK hw.1 (17 + q) (wX_c hq) rfl 1 (by decide) (C.2.2.2.2 _ hl) (fun _ h => h) rfl hdg kk
theorem xgc_2 (C : CallFix p m c cc nL s args Ts own) (hK : va_K D vwCl (xT cI cJ cR) s) (hw : XW D ad cI cJ cR H0 H locs u) {q : Nat} (hq : q < 25) (hin : ∀ w ∈ wsX10, w ∈ Ts) (hl : Cond.fieldLink own index "SignedCalls$Call" "acts" "I" ∈ Ts) (hdg : decode cc pc = .ok (.getfield index, 3)) (kk : W p l e R s m args below meth c H locs cells slots Q (F0 m (pc + 3) ls (.int (x_cf u 2 q) :: rest))) : W p l e R s m args below meth c H locs cells slots Q (F0 m pc ls (.ref (ad (17 + q)) :: rest)) :=
  va_get (C := RX1) (T := TX1) (N := 12) C.1 C.2.1 C.2.2.2.2 hin C.2.2.2.1 hK hw.1 (17 + q) (wX_c hq) rfl 2 (by decide) (C.2.2.2.2 _ hl) (fun _ h => h) rfl hdg kk
theorem wX_cs2 {q : Nat} (hq : q < 25) {v : Int32} : (wX ad cI cJ cR u).set (17 + q) (ad (17 + q), .inr (1, [.ref (ad (42 + q)), .ref (ad (67 + q)), .int (x_cf u 2 q), .int (x_cf u 3 q), .int (x_cf u 4 q), .int (x_cf u 5 q), .int (x_cf u 6 q), .int (x_cf u 7 q), .int (x_cf u 8 q), .int (x_cf u 9 q), .int (x_cf u 10 q), .int (x_cf u 11 q)].set 2 (.int v))) = wX ad cI cJ cR (xs_cf u (up2 (x_cf u) 2 q v)) := by
  refine rg_set (wXp ad cI cJ cR u) (wXc ad u) (wXc ad (xs_cf u (up2 (x_cf u) 2 q v))) 25 _ _ hq rfl ?_ ?_
  · simp [wXc, up2, x_cf, xs_cf]
  · intro j hj
    simp [wXc, up2, x_cf, xs_cf, hj]
theorem xpc_2 (C : CallFix p m c cc nL s args Ts own) (hK : va_K D vwCl (xT cI cJ cR) s) (hw : XW D ad cI cJ cR H0 H locs u) {q : Nat} (hq : q < 25) (hin : ∀ w ∈ wsX10, w ∈ Ts) (hl : Cond.fieldLink own index "SignedCalls$Call" "acts" "I" ∈ Ts) {v : Int32} (hdg : decode cc pc = .ok (.putfield index, 3)) (kk : ∀ (H1 : Heap) (locs1 : List Loc), XW D ad cI cJ cR H0 H1 locs1 (xs_cf u (up2 (x_cf u) 2 q v)) → W p l e R s m args below meth c H1 locs1 cells slots Q (F0 m (pc + 3) ls rest)) : W p l e R s m args below meth c H locs cells slots Q (F0 m pc ls (.int v :: .ref (ad (17 + q)) :: rest)) :=
  va_put (C := RX1) (T := TX1) (N := 12) (ty := .int) C.1 C.2.1 C.2.2.2.2 hin tyX1 tyX1_ok nmX1 C.2.2.2.1 hK hw.1 hw.2.1 hw.2.2 (17 + q) (wX_c hq) rfl 2 (by decide) (C.2.2.2.2 _ hl) (fun _ h => h) rfl (by decide +kernel) rfl rfl (by simp) hdg (fun H1 locs1 h1 h2 h3 => kk H1 locs1 ⟨(wX_cs2 hq) ▸ h1, (wX_cs2 hq) ▸ h2, h3⟩)
theorem xgc_3 (C : CallFix p m c cc nL s args Ts own) (hK : va_K D vwCl (xT cI cJ cR) s) (hw : XW D ad cI cJ cR H0 H locs u) {q : Nat} (hq : q < 25) (hin : ∀ w ∈ wsX10, w ∈ Ts) (hl : Cond.fieldLink own index "SignedCalls$Call" "owner" "I" ∈ Ts) (hdg : decode cc pc = .ok (.getfield index, 3)) (kk : W p l e R s m args below meth c H locs cells slots Q (F0 m (pc + 3) ls (.int (x_cf u 3 q) :: rest))) : W p l e R s m args below meth c H locs cells slots Q (F0 m pc ls (.ref (ad (17 + q)) :: rest)) :=
  va_get (C := RX1) (T := TX1) (N := 12) C.1 C.2.1 C.2.2.2.2 hin C.2.2.2.1 hK hw.1 (17 + q) (wX_c hq) rfl 3 (by decide) (C.2.2.2.2 _ hl) (fun _ h => h) rfl hdg kk
theorem wX_cs3 {q : Nat} (hq : q < 25) {v : Int32} : (wX ad cI cJ cR u).set (17 + q) (ad (17 + q), .inr (1, [.ref (ad (42 + q)), .ref (ad (67 + q)), .int (x_cf u 2 q), .int (x_cf u 3 q), .int (x_cf u 4 q), .int (x_cf u 5 q), .int (x_cf u 6 q), .int (x_cf u 7 q), .int (x_cf u 8 q), .int (x_cf u 9 q), .int (x_cf u 10 q), .int (x_cf u 11 q)].set 3 (.int v))) = wX ad cI cJ cR (xs_cf u (up2 (x_cf u) 3 q v)) := by
  refine rg_set (wXp ad cI cJ cR u) (wXc ad u) (wXc ad (xs_cf u (up2 (x_cf u) 3 q v))) 25 _ _ hq rfl ?_ ?_
  · simp [wXc, up2, x_cf, xs_cf]
  · intro j hj
    simp [wXc, up2, x_cf, xs_cf, hj]
theorem xpc_3 (C : CallFix p m c cc nL s args Ts own) (hK : va_K D vwCl (xT cI cJ cR) s) (hw : XW D ad cI cJ cR H0 H locs u) {q : Nat} (hq : q < 25) (hin : ∀ w ∈ wsX10, w ∈ Ts) (hl : Cond.fieldLink own index "SignedCalls$Call" "owner" "I" ∈ Ts) {v : Int32} (hdg : decode cc pc = .ok (.putfield index, 3)) (kk : ∀ (H1 : Heap) (locs1 : List Loc), XW D ad cI cJ cR H0 H1 locs1 (xs_cf u (up2 (x_cf u) 3 q v)) → W p l e R s m args below meth c H1 locs1 cells slots Q (F0 m (pc + 3) ls rest)) : W p l e R s m args below meth c H locs cells slots Q (F0 m pc ls (.int v :: .ref (ad (17 + q)) :: rest)) :=
  va_put (C := RX1) (T := TX1) (N := 12) (ty := .int) C.1 C.2.1 C.2.2.2.2 hin tyX1 tyX1_ok nmX1 C.2.2.2.1 hK hw.1 hw.2.1 hw.2.2 (17 + q) (wX_c hq) rfl 3 (by decide) (C.2.2.2.2 _ hl) (fun _ h => h) rfl (by decide +kernel) rfl rfl (by simp) hdg (fun H1 locs1 h1 h2 h3 => kk H1 locs1 ⟨(wX_cs3 hq) ▸ h1, (wX_cs3 hq) ▸ h2, h3⟩)
theorem xgc_4 (C : CallFix p m c cc nL s args Ts own) (hK : va_K D vwCl (xT cI cJ cR) s) (hw : XW D ad cI cJ cR H0 H locs u) {q : Nat} (hq : q < 25) (hin : ∀ w ∈ wsX10, w ∈ Ts) (hl : Cond.fieldLink own index "SignedCalls$Call" "number" "I" ∈ Ts) (hdg : decode cc pc = .ok (.getfield index, 3)) (kk : W p l e R s m args below meth c H locs cells slots Q (F0 m (pc + 3) ls (.int (x_cf u 4 q) :: rest))) : W p l e R s m args below meth c H locs cells slots Q (F0 m pc ls (.ref (ad (17 + q)) :: rest)) :=
  va_get (C := RX1) (T := TX1) (N := 12) C.1 C.2.1 C.2.2.2.2 hin C.2.2.2.1 hK hw.1 (17 + q) (wX_c hq) rfl 4 (by decide) (C.2.2.2.2 _ hl) (fun _ h => h) rfl hdg kk
theorem wX_cs4 {q : Nat} (hq : q < 25) {v : Int32} : (wX ad cI cJ cR u).set (17 + q) (ad (17 + q), .inr (1, [.ref (ad (42 + q)), .ref (ad (67 + q)), .int (x_cf u 2 q), .int (x_cf u 3 q), .int (x_cf u 4 q), .int (x_cf u 5 q), .int (x_cf u 6 q), .int (x_cf u 7 q), .int (x_cf u 8 q), .int (x_cf u 9 q), .int (x_cf u 10 q), .int (x_cf u 11 q)].set 4 (.int v))) = wX ad cI cJ cR (xs_cf u (up2 (x_cf u) 4 q v)) := by
  refine rg_set (wXp ad cI cJ cR u) (wXc ad u) (wXc ad (xs_cf u (up2 (x_cf u) 4 q v))) 25 _ _ hq rfl ?_ ?_
  · simp [wXc, up2, x_cf, xs_cf]
  · intro j hj
    simp [wXc, up2, x_cf, xs_cf, hj]
theorem xpc_4 (C : CallFix p m c cc nL s args Ts own) (hK : va_K D vwCl (xT cI cJ cR) s) (hw : XW D ad cI cJ cR H0 H locs u) {q : Nat} (hq : q < 25) (hin : ∀ w ∈ wsX10, w ∈ Ts) (hl : Cond.fieldLink own index "SignedCalls$Call" "number" "I" ∈ Ts) {v : Int32} (hdg : decode cc pc = .ok (.putfield index, 3)) (kk : ∀ (H1 : Heap) (locs1 : List Loc), XW D ad cI cJ cR H0 H1 locs1 (xs_cf u (up2 (x_cf u) 4 q v)) → W p l e R s m args below meth c H1 locs1 cells slots Q (F0 m (pc + 3) ls rest)) : W p l e R s m args below meth c H locs cells slots Q (F0 m pc ls (.int v :: .ref (ad (17 + q)) :: rest)) :=
  va_put (C := RX1) (T := TX1) (N := 12) (ty := .int) C.1 C.2.1 C.2.2.2.2 hin tyX1 tyX1_ok nmX1 C.2.2.2.1 hK hw.1 hw.2.1 hw.2.2 (17 + q) (wX_c hq) rfl 4 (by decide) (C.2.2.2.2 _ hl) (fun _ h => h) rfl (by decide +kernel) rfl rfl (by simp) hdg (fun H1 locs1 h1 h2 h3 => kk H1 locs1 ⟨(wX_cs4 hq) ▸ h1, (wX_cs4 hq) ▸ h2, h3⟩)
theorem xgc_5 (C : CallFix p m c cc nL s args Ts own) (hK : va_K D vwCl (xT cI cJ cR) s) (hw : XW D ad cI cJ cR H0 H locs u) {q : Nat} (hq : q < 25) (hin : ∀ w ∈ wsX10, w ∈ Ts) (hl : Cond.fieldLink own index "SignedCalls$Call" "price" "I" ∈ Ts) (hdg : decode cc pc = .ok (.getfield index, 3)) (kk : W p l e R s m args below meth c H locs cells slots Q (F0 m (pc + 3) ls (.int (x_cf u 5 q) :: rest))) : W p l e R s m args below meth c H locs cells slots Q (F0 m pc ls (.ref (ad (17 + q)) :: rest)) :=
  va_get (C := RX1) (T := TX1) (N := 12) C.1 C.2.1 C.2.2.2.2 hin C.2.2.2.1 hK hw.1 (17 + q) (wX_c hq) rfl 5 (by decide) (C.2.2.2.2 _ hl) (fun _ h => h) rfl hdg kk
theorem wX_cs5 {q : Nat} (hq : q < 25) {v : Int32} : (wX ad cI cJ cR u).set (17 + q) (ad (17 + q), .inr (1, [.ref (ad (42 + q)), .ref (ad (67 + q)), .int (x_cf u 2 q), .int (x_cf u 3 q), .int (x_cf u 4 q), .int (x_cf u 5 q), .int (x_cf u 6 q), .int (x_cf u 7 q), .int (x_cf u 8 q), .int (x_cf u 9 q), .int (x_cf u 10 q), .int (x_cf u 11 q)].set 5 (.int v))) = wX ad cI cJ cR (xs_cf u (up2 (x_cf u) 5 q v)) := by
  refine rg_set (wXp ad cI cJ cR u) (wXc ad u) (wXc ad (xs_cf u (up2 (x_cf u) 5 q v))) 25 _ _ hq rfl ?_ ?_
  · simp [wXc, up2, x_cf, xs_cf]
  · intro j hj
    simp [wXc, up2, x_cf, xs_cf, hj]
theorem xpc_5 (C : CallFix p m c cc nL s args Ts own) (hK : va_K D vwCl (xT cI cJ cR) s) (hw : XW D ad cI cJ cR H0 H locs u) {q : Nat} (hq : q < 25) (hin : ∀ w ∈ wsX10, w ∈ Ts) (hl : Cond.fieldLink own index "SignedCalls$Call" "price" "I" ∈ Ts) {v : Int32} (hdg : decode cc pc = .ok (.putfield index, 3)) (kk : ∀ (H1 : Heap) (locs1 : List Loc), XW D ad cI cJ cR H0 H1 locs1 (xs_cf u (up2 (x_cf u) 5 q v)) → W p l e R s m args below meth c H1 locs1 cells slots Q (F0 m (pc + 3) ls rest)) : W p l e R s m args below meth c H locs cells slots Q (F0 m pc ls (.int v :: .ref (ad (17 + q)) :: rest)) :=
  va_put (C := RX1) (T := TX1) (N := 12) (ty := .int) C.1 C.2.1 C.2.2.2.2 hin tyX1 tyX1_ok nmX1 C.2.2.2.1 hK hw.1 hw.2.1 hw.2.2 (17 + q) (wX_c hq) rfl 5 (by decide) (C.2.2.2.2 _ hl) (fun _ h => h) rfl (by decide +kernel) rfl rfl (by simp) hdg (fun H1 locs1 h1 h2 h3 => kk H1 locs1 ⟨(wX_cs5 hq) ▸ h1, (wX_cs5 hq) ▸ h2, h3⟩)
theorem xgc_6 (C : CallFix p m c cc nL s args Ts own) (hK : va_K D vwCl (xT cI cJ cR) s) (hw : XW D ad cI cJ cR H0 H locs u) {q : Nat} (hq : q < 25) (hin : ∀ w ∈ wsX10, w ∈ Ts) (hl : Cond.fieldLink own index "SignedCalls$Call" "limit" "I" ∈ Ts) (hdg : decode cc pc = .ok (.getfield index, 3)) (kk : W p l e R s m args below meth c H locs cells slots Q (F0 m (pc + 3) ls (.int (x_cf u 6 q) :: rest))) : W p l e R s m args below meth c H locs cells slots Q (F0 m pc ls (.ref (ad (17 + q)) :: rest)) :=
  va_get (C := RX1) (T := TX1) (N := 12) C.1 C.2.1 C.2.2.2.2 hin C.2.2.2.1 hK hw.1 (17 + q) (wX_c hq) rfl 6 (by decide) (C.2.2.2.2 _ hl) (fun _ h => h) rfl hdg kk
theorem wX_cs6 {q : Nat} (hq : q < 25) {v : Int32} : (wX ad cI cJ cR u).set (17 + q) (ad (17 + q), .inr (1, [.ref (ad (42 + q)), .ref (ad (67 + q)), .int (x_cf u 2 q), .int (x_cf u 3 q), .int (x_cf u 4 q), .int (x_cf u 5 q), .int (x_cf u 6 q), .int (x_cf u 7 q), .int (x_cf u 8 q), .int (x_cf u 9 q), .int (x_cf u 10 q), .int (x_cf u 11 q)].set 6 (.int v))) = wX ad cI cJ cR (xs_cf u (up2 (x_cf u) 6 q v)) := by
  refine rg_set (wXp ad cI cJ cR u) (wXc ad u) (wXc ad (xs_cf u (up2 (x_cf u) 6 q v))) 25 _ _ hq rfl ?_ ?_
  · simp [wXc, up2, x_cf, xs_cf]
  · intro j hj
    simp [wXc, up2, x_cf, xs_cf, hj]
theorem xpc_6 (C : CallFix p m c cc nL s args Ts own) (hK : va_K D vwCl (xT cI cJ cR) s) (hw : XW D ad cI cJ cR H0 H locs u) {q : Nat} (hq : q < 25) (hin : ∀ w ∈ wsX10, w ∈ Ts) (hl : Cond.fieldLink own index "SignedCalls$Call" "limit" "I" ∈ Ts) {v : Int32} (hdg : decode cc pc = .ok (.putfield index, 3)) (kk : ∀ (H1 : Heap) (locs1 : List Loc), XW D ad cI cJ cR H0 H1 locs1 (xs_cf u (up2 (x_cf u) 6 q v)) → W p l e R s m args below meth c H1 locs1 cells slots Q (F0 m (pc + 3) ls rest)) : W p l e R s m args below meth c H locs cells slots Q (F0 m pc ls (.int v :: .ref (ad (17 + q)) :: rest)) :=
  va_put (C := RX1) (T := TX1) (N := 12) (ty := .int) C.1 C.2.1 C.2.2.2.2 hin tyX1 tyX1_ok nmX1 C.2.2.2.1 hK hw.1 hw.2.1 hw.2.2 (17 + q) (wX_c hq) rfl 6 (by decide) (C.2.2.2.2 _ hl) (fun _ h => h) rfl (by decide +kernel) rfl rfl (by simp) hdg (fun H1 locs1 h1 h2 h3 => kk H1 locs1 ⟨(wX_cs6 hq) ▸ h1, (wX_cs6 hq) ▸ h2, h3⟩)
theorem xgc_7 (C : CallFix p m c cc nL s args Ts own) (hK : va_K D vwCl (xT cI cJ cR) s) (hw : XW D ad cI cJ cR H0 H locs u) {q : Nat} (hq : q < 25) (hin : ∀ w ∈ wsX10, w ∈ Ts) (hl : Cond.fieldLink own index "SignedCalls$Call" "end" "I" ∈ Ts) (hdg : decode cc pc = .ok (.getfield index, 3)) (kk : W p l e R s m args below meth c H locs cells slots Q (F0 m (pc + 3) ls (.int (x_cf u 7 q) :: rest))) : W p l e R s m args below meth c H locs cells slots Q (F0 m pc ls (.ref (ad (17 + q)) :: rest)) :=
  va_get (C := RX1) (T := TX1) (N := 12) C.1 C.2.1 C.2.2.2.2 hin C.2.2.2.1 hK hw.1 (17 + q) (wX_c hq) rfl 7 (by decide) (C.2.2.2.2 _ hl) (fun _ h => h) rfl hdg kk
theorem wX_cs7 {q : Nat} (hq : q < 25) {v : Int32} : (wX ad cI cJ cR u).set (17 + q) (ad (17 + q), .inr (1, [.ref (ad (42 + q)), .ref (ad (67 + q)), .int (x_cf u 2 q), .int (x_cf u 3 q), .int (x_cf u 4 q), .int (x_cf u 5 q), .int (x_cf u 6 q), .int (x_cf u 7 q), .int (x_cf u 8 q), .int (x_cf u 9 q), .int (x_cf u 10 q), .int (x_cf u 11 q)].set 7 (.int v))) = wX ad cI cJ cR (xs_cf u (up2 (x_cf u) 7 q v)) := by
  refine rg_set (wXp ad cI cJ cR u) (wXc ad u) (wXc ad (xs_cf u (up2 (x_cf u) 7 q v))) 25 _ _ hq rfl ?_ ?_
  · simp [wXc, up2, x_cf, xs_cf]
  · intro j hj
    simp [wXc, up2, x_cf, xs_cf, hj]
theorem xpc_7 (C : CallFix p m c cc nL s args Ts own) (hK : va_K D vwCl (xT cI cJ cR) s) (hw : XW D ad cI cJ cR H0 H locs u) {q : Nat} (hq : q < 25) (hin : ∀ w ∈ wsX10, w ∈ Ts) (hl : Cond.fieldLink own index "SignedCalls$Call" "end" "I" ∈ Ts) {v : Int32} (hdg : decode cc pc = .ok (.putfield index, 3)) (kk : ∀ (H1 : Heap) (locs1 : List Loc), XW D ad cI cJ cR H0 H1 locs1 (xs_cf u (up2 (x_cf u) 7 q v)) → W p l e R s m args below meth c H1 locs1 cells slots Q (F0 m (pc + 3) ls rest)) : W p l e R s m args below meth c H locs cells slots Q (F0 m pc ls (.int v :: .ref (ad (17 + q)) :: rest)) :=
  va_put (C := RX1) (T := TX1) (N := 12) (ty := .int) C.1 C.2.1 C.2.2.2.2 hin tyX1 tyX1_ok nmX1 C.2.2.2.1 hK hw.1 hw.2.1 hw.2.2 (17 + q) (wX_c hq) rfl 7 (by decide) (C.2.2.2.2 _ hl) (fun _ h => h) rfl (by decide +kernel) rfl rfl (by simp) hdg (fun H1 locs1 h1 h2 h3 => kk H1 locs1 ⟨(wX_cs7 hq) ▸ h1, (wX_cs7 hq) ▸ h2, h3⟩)
theorem xgc_8 (C : CallFix p m c cc nL s args Ts own) (hK : va_K D vwCl (xT cI cJ cR) s) (hw : XW D ad cI cJ cR H0 H locs u) {q : Nat} (hq : q < 25) (hin : ∀ w ∈ wsX10, w ∈ Ts) (hl : Cond.fieldLink own index "SignedCalls$Call" "start" "I" ∈ Ts) (hdg : decode cc pc = .ok (.getfield index, 3)) (kk : W p l e R s m args below meth c H locs cells slots Q (F0 m (pc + 3) ls (.int (x_cf u 8 q) :: rest))) : W p l e R s m args below meth c H locs cells slots Q (F0 m pc ls (.ref (ad (17 + q)) :: rest)) :=
  va_get (C := RX1) (T := TX1) (N := 12) C.1 C.2.1 C.2.2.2.2 hin C.2.2.2.1 hK hw.1 (17 + q) (wX_c hq) rfl 8 (by decide) (C.2.2.2.2 _ hl) (fun _ h => h) rfl hdg kk
theorem wX_cs8 {q : Nat} (hq : q < 25) {v : Int32} : (wX ad cI cJ cR u).set (17 + q) (ad (17 + q), .inr (1, [.ref (ad (42 + q)), .ref (ad (67 + q)), .int (x_cf u 2 q), .int (x_cf u 3 q), .int (x_cf u 4 q), .int (x_cf u 5 q), .int (x_cf u 6 q), .int (x_cf u 7 q), .int (x_cf u 8 q), .int (x_cf u 9 q), .int (x_cf u 10 q), .int (x_cf u 11 q)].set 8 (.int v))) = wX ad cI cJ cR (xs_cf u (up2 (x_cf u) 8 q v)) := by
  refine rg_set (wXp ad cI cJ cR u) (wXc ad u) (wXc ad (xs_cf u (up2 (x_cf u) 8 q v))) 25 _ _ hq rfl ?_ ?_
  · simp [wXc, up2, x_cf, xs_cf]
  · intro j hj
    simp [wXc, up2, x_cf, xs_cf, hj]
theorem xpc_8 (C : CallFix p m c cc nL s args Ts own) (hK : va_K D vwCl (xT cI cJ cR) s) (hw : XW D ad cI cJ cR H0 H locs u) {q : Nat} (hq : q < 25) (hin : ∀ w ∈ wsX10, w ∈ Ts) (hl : Cond.fieldLink own index "SignedCalls$Call" "start" "I" ∈ Ts) {v : Int32} (hdg : decode cc pc = .ok (.putfield index, 3)) (kk : ∀ (H1 : Heap) (locs1 : List Loc), XW D ad cI cJ cR H0 H1 locs1 (xs_cf u (up2 (x_cf u) 8 q v)) → W p l e R s m args below meth c H1 locs1 cells slots Q (F0 m (pc + 3) ls rest)) : W p l e R s m args below meth c H locs cells slots Q (F0 m pc ls (.int v :: .ref (ad (17 + q)) :: rest)) :=
  va_put (C := RX1) (T := TX1) (N := 12) (ty := .int) C.1 C.2.1 C.2.2.2.2 hin tyX1 tyX1_ok nmX1 C.2.2.2.1 hK hw.1 hw.2.1 hw.2.2 (17 + q) (wX_c hq) rfl 8 (by decide) (C.2.2.2.2 _ hl) (fun _ h => h) rfl (by decide +kernel) rfl rfl (by simp) hdg (fun H1 locs1 h1 h2 h3 => kk H1 locs1 ⟨(wX_cs8 hq) ▸ h1, (wX_cs8 hq) ▸ h2, h3⟩)
theorem xgc_9 (C : CallFix p m c cc nL s args Ts own) (hK : va_K D vwCl (xT cI cJ cR) s) (hw : XW D ad cI cJ cR H0 H locs u) {q : Nat} (hq : q < 25) (hin : ∀ w ∈ wsX10, w ∈ Ts) (hl : Cond.fieldLink own index "SignedCalls$Call" "sponsor" "I" ∈ Ts) (hdg : decode cc pc = .ok (.getfield index, 3)) (kk : W p l e R s m args below meth c H locs cells slots Q (F0 m (pc + 3) ls (.int (x_cf u 9 q) :: rest))) : W p l e R s m args below meth c H locs cells slots Q (F0 m pc ls (.ref (ad (17 + q)) :: rest)) :=
  va_get (C := RX1) (T := TX1) (N := 12) C.1 C.2.1 C.2.2.2.2 hin C.2.2.2.1 hK hw.1 (17 + q) (wX_c hq) rfl 9 (by decide) (C.2.2.2.2 _ hl) (fun _ h => h) rfl hdg kk
theorem wX_cs9 {q : Nat} (hq : q < 25) {v : Int32} : (wX ad cI cJ cR u).set (17 + q) (ad (17 + q), .inr (1, [.ref (ad (42 + q)), .ref (ad (67 + q)), .int (x_cf u 2 q), .int (x_cf u 3 q), .int (x_cf u 4 q), .int (x_cf u 5 q), .int (x_cf u 6 q), .int (x_cf u 7 q), .int (x_cf u 8 q), .int (x_cf u 9 q), .int (x_cf u 10 q), .int (x_cf u 11 q)].set 9 (.int v))) = wX ad cI cJ cR (xs_cf u (up2 (x_cf u) 9 q v)) := by
  refine rg_set (wXp ad cI cJ cR u) (wXc ad u) (wXc ad (xs_cf u (up2 (x_cf u) 9 q v))) 25 _ _ hq rfl ?_ ?_
  · simp [wXc, up2, x_cf, xs_cf]
  · intro j hj
    simp [wXc, up2, x_cf, xs_cf, hj]
theorem xpc_9 (C : CallFix p m c cc nL s args Ts own) (hK : va_K D vwCl (xT cI cJ cR) s) (hw : XW D ad cI cJ cR H0 H locs u) {q : Nat} (hq : q < 25) (hin : ∀ w ∈ wsX10, w ∈ Ts) (hl : Cond.fieldLink own index "SignedCalls$Call" "sponsor" "I" ∈ Ts) {v : Int32} (hdg : decode cc pc = .ok (.putfield index, 3)) (kk : ∀ (H1 : Heap) (locs1 : List Loc), XW D ad cI cJ cR H0 H1 locs1 (xs_cf u (up2 (x_cf u) 9 q v)) → W p l e R s m args below meth c H1 locs1 cells slots Q (F0 m (pc + 3) ls rest)) : W p l e R s m args below meth c H locs cells slots Q (F0 m pc ls (.int v :: .ref (ad (17 + q)) :: rest)) :=
  va_put (C := RX1) (T := TX1) (N := 12) (ty := .int) C.1 C.2.1 C.2.2.2.2 hin tyX1 tyX1_ok nmX1 C.2.2.2.1 hK hw.1 hw.2.1 hw.2.2 (17 + q) (wX_c hq) rfl 9 (by decide) (C.2.2.2.2 _ hl) (fun _ h => h) rfl (by decide +kernel) rfl rfl (by simp) hdg (fun H1 locs1 h1 h2 h3 => kk H1 locs1 ⟨(wX_cs9 hq) ▸ h1, (wX_cs9 hq) ▸ h2, h3⟩)
theorem xgc_10 (C : CallFix p m c cc nL s args Ts own) (hK : va_K D vwCl (xT cI cJ cR) s) (hw : XW D ad cI cJ cR H0 H locs u) {q : Nat} (hq : q < 25) (hin : ∀ w ∈ wsX10, w ∈ Ts) (hl : Cond.fieldLink own index "SignedCalls$Call" "ticket" "I" ∈ Ts) (hdg : decode cc pc = .ok (.getfield index, 3)) (kk : W p l e R s m args below meth c H locs cells slots Q (F0 m (pc + 3) ls (.int (x_cf u 10 q) :: rest))) : W p l e R s m args below meth c H locs cells slots Q (F0 m pc ls (.ref (ad (17 + q)) :: rest)) :=
  va_get (C := RX1) (T := TX1) (N := 12) C.1 C.2.1 C.2.2.2.2 hin C.2.2.2.1 hK hw.1 (17 + q) (wX_c hq) rfl 10 (by decide) (C.2.2.2.2 _ hl) (fun _ h => h) rfl hdg kk
theorem wX_cs10 {q : Nat} (hq : q < 25) {v : Int32} : (wX ad cI cJ cR u).set (17 + q) (ad (17 + q), .inr (1, [.ref (ad (42 + q)), .ref (ad (67 + q)), .int (x_cf u 2 q), .int (x_cf u 3 q), .int (x_cf u 4 q), .int (x_cf u 5 q), .int (x_cf u 6 q), .int (x_cf u 7 q), .int (x_cf u 8 q), .int (x_cf u 9 q), .int (x_cf u 10 q), .int (x_cf u 11 q)].set 10 (.int v))) = wX ad cI cJ cR (xs_cf u (up2 (x_cf u) 10 q v)) := by
  refine rg_set (wXp ad cI cJ cR u) (wXc ad u) (wXc ad (xs_cf u (up2 (x_cf u) 10 q v))) 25 _ _ hq rfl ?_ ?_
  · simp [wXc, up2, x_cf, xs_cf]
  · intro j hj
    simp [wXc, up2, x_cf, xs_cf, hj]
theorem xpc_10 (C : CallFix p m c cc nL s args Ts own) (hK : va_K D vwCl (xT cI cJ cR) s) (hw : XW D ad cI cJ cR H0 H locs u) {q : Nat} (hq : q < 25) (hin : ∀ w ∈ wsX10, w ∈ Ts) (hl : Cond.fieldLink own index "SignedCalls$Call" "ticket" "I" ∈ Ts) {v : Int32} (hdg : decode cc pc = .ok (.putfield index, 3)) (kk : ∀ (H1 : Heap) (locs1 : List Loc), XW D ad cI cJ cR H0 H1 locs1 (xs_cf u (up2 (x_cf u) 10 q v)) → W p l e R s m args below meth c H1 locs1 cells slots Q (F0 m (pc + 3) ls rest)) : W p l e R s m args below meth c H locs cells slots Q (F0 m pc ls (.int v :: .ref (ad (17 + q)) :: rest)) :=
  va_put (C := RX1) (T := TX1) (N := 12) (ty := .int) C.1 C.2.1 C.2.2.2.2 hin tyX1 tyX1_ok nmX1 C.2.2.2.1 hK hw.1 hw.2.1 hw.2.2 (17 + q) (wX_c hq) rfl 10 (by decide) (C.2.2.2.2 _ hl) (fun _ h => h) rfl (by decide +kernel) rfl rfl (by simp) hdg (fun H1 locs1 h1 h2 h3 => kk H1 locs1 ⟨(wX_cs10 hq) ▸ h1, (wX_cs10 hq) ▸ h2, h3⟩)
theorem xgc_11 (C : CallFix p m c cc nL s args Ts own) (hK : va_K D vwCl (xT cI cJ cR) s) (hw : XW D ad cI cJ cR H0 H locs u) {q : Nat} (hq : q < 25) (hin : ∀ w ∈ wsX10, w ∈ Ts) (hl : Cond.fieldLink own index "SignedCalls$Call" "used" "I" ∈ Ts) (hdg : decode cc pc = .ok (.getfield index, 3)) (kk : W p l e R s m args below meth c H locs cells slots Q (F0 m (pc + 3) ls (.int (x_cf u 11 q) :: rest))) : W p l e R s m args below meth c H locs cells slots Q (F0 m pc ls (.ref (ad (17 + q)) :: rest)) :=
  va_get (C := RX1) (T := TX1) (N := 12) C.1 C.2.1 C.2.2.2.2 hin C.2.2.2.1 hK hw.1 (17 + q) (wX_c hq) rfl 11 (by decide) (C.2.2.2.2 _ hl) (fun _ h => h) rfl hdg kk
theorem wX_cs11 {q : Nat} (hq : q < 25) {v : Int32} : (wX ad cI cJ cR u).set (17 + q) (ad (17 + q), .inr (1, [.ref (ad (42 + q)), .ref (ad (67 + q)), .int (x_cf u 2 q), .int (x_cf u 3 q), .int (x_cf u 4 q), .int (x_cf u 5 q), .int (x_cf u 6 q), .int (x_cf u 7 q), .int (x_cf u 8 q), .int (x_cf u 9 q), .int (x_cf u 10 q), .int (x_cf u 11 q)].set 11 (.int v))) = wX ad cI cJ cR (xs_cf u (up2 (x_cf u) 11 q v)) := by
  refine rg_set (wXp ad cI cJ cR u) (wXc ad u) (wXc ad (xs_cf u (up2 (x_cf u) 11 q v))) 25 _ _ hq rfl ?_ ?_
  · simp [wXc, up2, x_cf, xs_cf]
  · intro j hj
    simp [wXc, up2, x_cf, xs_cf, hj]
theorem xpc_11 (C : CallFix p m c cc nL s args Ts own) (hK : va_K D vwCl (xT cI cJ cR) s) (hw : XW D ad cI cJ cR H0 H locs u) {q : Nat} (hq : q < 25) (hin : ∀ w ∈ wsX10, w ∈ Ts) (hl : Cond.fieldLink own index "SignedCalls$Call" "used" "I" ∈ Ts) {v : Int32} (hdg : decode cc pc = .ok (.putfield index, 3)) (kk : ∀ (H1 : Heap) (locs1 : List Loc), XW D ad cI cJ cR H0 H1 locs1 (xs_cf u (up2 (x_cf u) 11 q v)) → W p l e R s m args below meth c H1 locs1 cells slots Q (F0 m (pc + 3) ls rest)) : W p l e R s m args below meth c H locs cells slots Q (F0 m pc ls (.int v :: .ref (ad (17 + q)) :: rest)) :=
  va_put (C := RX1) (T := TX1) (N := 12) (ty := .int) C.1 C.2.1 C.2.2.2.2 hin tyX1 tyX1_ok nmX1 C.2.2.2.1 hK hw.1 hw.2.1 hw.2.2 (17 + q) (wX_c hq) rfl 11 (by decide) (C.2.2.2.2 _ hl) (fun _ h => h) rfl (by decide +kernel) rfl rfl (by simp) hdg (fun H1 locs1 h1 h2 h3 => kk H1 locs1 ⟨(wX_cs11 hq) ▸ h1, (wX_cs11 hq) ▸ h2, h3⟩)
theorem xl_rc (C : CallFix p m c cc nL s args Ts own) (hK : va_K D vwCl (xT cI cJ cR) s) (hw : XW D ad cI cJ cR H0 H locs u) {q : Nat} (hq : q < 25) {i : Int32} (hi : vp_in i 4) (hdg : decode cc pc = .ok (.iaload, 1)) (kk : W p l e R s m args below meth c H locs cells slots Q (F0 m (pc + 1) ls (.int (x_rc u q i.toNatClampNeg) :: rest))) : W p l e R s m args below meth c H locs cells slots Q (F0 m pc ls (.int i :: .ref (ad (42 + q)) :: rest)) :=
  va_iald C.1 C.2.1 hK hw.1 (42 + q) 0 (wX_r hq) rfl hi hdg kk
theorem xl_am (C : CallFix p m c cc nL s args Ts own) (hK : va_K D vwCl (xT cI cJ cR) s) (hw : XW D ad cI cJ cR H0 H locs u) {q : Nat} (hq : q < 25) {i : Int32} (hi : vp_in i 4) (hdg : decode cc pc = .ok (.laload, 1)) (kk : W p l e R s m args below meth c H locs cells slots Q (F0 m (pc + 1) ls (.long (x_am u q i.toNatClampNeg) :: rest))) : W p l e R s m args below meth c H locs cells slots Q (F0 m pc ls (.int i :: .ref (ad (67 + q)) :: rest)) :=
  va_lald C.1 C.2.1 hK hw.1 (67 + q) 1 (wX_a hq) rfl hi hdg kk
theorem wX_rs {q : Nat} (hq : q < 25) {f : Nat → Int32} : (wX ad cI cJ cR u).set (42 + q) (ad (42 + q), .inl (cI, 4, .inl f)) = wX ad cI cJ cR (xs_rc u (va_up (x_rc u) q f)) := by
  have e := rg_set (wXp ad cI cJ cR u ++ (List.range 25).map (wXc ad u)) (wXr ad cI u) (wXr ad cI (xs_rc u (va_up (x_rc u) q f))) 25 ((List.range 25).map (wXa ad cJ u) ++ []) (i := q) (k := 42 + q) (ad (42 + q), .inl (cI, 4, .inl f)) hq rfl (by simp [wXr, va_up, x_rc, xs_rc]) (fun j hj => by simp [wXr, va_up, x_rc, xs_rc, hj])
  rw [List.append_assoc, List.append_assoc] at e
  exact e
theorem wX_as {q : Nat} (hq : q < 25) {f : Nat → Int64} : (wX ad cI cJ cR u).set (67 + q) (ad (67 + q), .inl (cJ, 4, .inr (.inl f))) = wX ad cI cJ cR (xs_am u (va_up (x_am u) q f)) := by
  have e := rg_set ((wXp ad cI cJ cR u ++ (List.range 25).map (wXc ad u)) ++ (List.range 25).map (wXr ad cI u)) (wXa ad cJ u) (wXa ad cJ (xs_am u (va_up (x_am u) q f))) 25 [] (i := q) (k := 67 + q) (ad (67 + q), .inl (cJ, 4, .inr (.inl f))) hq rfl (by simp [wXa, va_up, x_am, xs_am]) (fun j hj => by simp [wXa, va_up, x_am, xs_am, hj])
  rw [List.append_assoc (wXp ad cI cJ cR u ++ (List.range 25).map (wXc ad u)), List.append_assoc (wXp ad cI cJ cR u), List.append_assoc (wXp ad cI cJ cR u ++ (List.range 25).map (wXc ad u)), List.append_assoc (wXp ad cI cJ cR u)] at e
  exact e
theorem xt_rc (C : CallFix p m c cc nL s args Ts own) (hK : va_K D vwCl (xT cI cJ cR) s) (hw : XW D ad cI cJ cR H0 H locs u) {q : Nat} (hq : q < 25) {i x : Int32} (hi : vp_in i 4) (hdg : decode cc pc = .ok (.iastore, 1)) (kk : ∀ (H1 : Heap) (locs1 : List Loc), XW D ad cI cJ cR H0 H1 locs1 (xs_rc u (va_up (x_rc u) q (upd (x_rc u q) i.toNatClampNeg x))) → W p l e R s m args below meth c H1 locs1 cells slots Q (F0 m (pc + 1) ls rest)) : W p l e R s m args below meth c H locs cells slots Q (F0 m pc ls (.int x :: .int i :: .ref (ad (42 + q)) :: rest)) :=
  va_iast C.1 C.2.1 hK hw.1 hw.2.1 hw.2.2 (42 + q) 0 (wX_r hq) rfl hi hdg (fun H1 locs1 h1 h2 h3 => kk H1 locs1 ⟨(wX_rs hq) ▸ h1, (wX_rs hq) ▸ h2, h3⟩)
theorem xt_am (C : CallFix p m c cc nL s args Ts own) (hK : va_K D vwCl (xT cI cJ cR) s) (hw : XW D ad cI cJ cR H0 H locs u) {q : Nat} (hq : q < 25) {i : Int32} {x : Int64} (hi : vp_in i 4) (hdg : decode cc pc = .ok (.lastore, 1)) (kk : ∀ (H1 : Heap) (locs1 : List Loc), XW D ad cI cJ cR H0 H1 locs1 (xs_am u (va_up (x_am u) q (vp_updL (x_am u q) i.toNatClampNeg x))) → W p l e R s m args below meth c H1 locs1 cells slots Q (F0 m (pc + 1) ls rest)) : W p l e R s m args below meth c H locs cells slots Q (F0 m pc ls (.long x :: .int i :: .ref (ad (67 + q)) :: rest)) :=
  va_last C.1 C.2.1 hK hw.1 hw.2.1 hw.2.2 (67 + q) 1 (wX_a hq) rfl hi hdg (fun H1 locs1 h1 h2 h3 => kk H1 locs1 ⟨(wX_as hq) ▸ h1, (wX_as hq) ▸ h2, h3⟩)
theorem xl_row (C : CallFix p m c cc nL s args Ts own) (hK : va_K D vwCl (xT cI cJ cR) s) (hw : XW D ad cI cJ cR H0 H locs u) {i : Int32} (hi : vp_in i 24) (hdg : decode cc pc = .ok (.aaload, 1)) (kk : W p l e R s m args below meth c H locs cells slots Q (F0 m (pc + 1) ls (.ref (ad (17 + x_row u i.toNatClampNeg)) :: rest))) : W p l e R s m args below meth c H locs cells slots Q (F0 m pc ls (.int i :: .ref (ad 12) :: rest)) :=
  va_aldq C.1 C.2.1 hK hw.1 12 2 rfl rfl hi hdg kk
theorem wX_ws {k q : Nat} : (wX ad cI cJ cR u).set 12 (ad 12, .inl (cR, 24, .inr (.inr (.inr (.inr (va_up (fun i => some (ad (17 + x_row u i))) k (some (ad (17 + q))))))))) = wX ad cI cJ cR (xs_row u (va_up (x_row u) k q)) := by
  have h : va_up (fun i => some (ad (17 + x_row u i))) k (some (ad (17 + q))) = fun i => some (ad (17 + va_up (x_row u) k q i)) := by
    funext j
    by_cases hj : j = k
    · subst hj
      simp [va_up]
    · simp [va_up, hj]
  rw [h]
  rfl
theorem xt_row (C : CallFix p m c cc nL s args Ts own) (hK : va_K D vwCl (xT cI cJ cR) s) (hw : XW D ad cI cJ cR H0 H locs u) {q : Nat} (hq : q < 25) {i : Int32} (hi : vp_in i 24) (hdg : decode cc pc = .ok (.aastore, 1)) (kk : ∀ (H1 : Heap) (locs1 : List Loc), XW D ad cI cJ cR H0 H1 locs1 (xs_row u (va_up (x_row u) i.toNatClampNeg q)) → W p l e R s m args below meth c H1 locs1 cells slots Q (F0 m (pc + 1) ls rest)) : W p l e R s m args below meth c H locs cells slots Q (F0 m pc ls (.ref (ad (17 + q)) :: .int i :: .ref (ad 12) :: rest)) :=
  va_astq (r := (RX1, TX1, 12)) C.1 C.2.1 hK hw.1 hw.2.1 hw.2.2 12 2 (17 + q) 1 rfl rfl (wX_c hq) rfl hi hdg (fun H1 locs1 h1 h2 h3 => kk H1 locs1 ⟨wX_ws ▸ h1, wX_ws ▸ h2, h3⟩)
end XR
end
section
section MR
variable {p : Program} {l : Launch} {e : Env} {R : Room} {s : State} {m : MethodId} {args : Array Value} {below : List Frame} {meth : Method} {c : Code} {H : Heap} {locs : List Loc} {cells slots : Nat} {Q : State → Prop}
variable {cc : ByteArray} {nL : Nat} {Ts : List Cond} {own : String} {pc index : Nat} {ls : Array Slot} {rest st0 : List Value} {D : va_G} {ad : Nat → Nat} {cI cJ cR : ClassId} {H0 : Heap}
variable {u : MS}
theorem mg_0_0 (C : CallFix p m c cc nL s args Ts own) (hK : va_K D vwCl (mT cI cJ) s) (hw : MW D ad cI cJ H0 H locs u) (hin : ∀ w ∈ wsX70, w ∈ Ts) (hl : Cond.fieldLink own index "SignedCallsModel" "accounts" "I" ∈ Ts) (hdg : decode cc pc = .ok (.getfield index, 3)) (kk : W p l e R s m args below meth c H locs cells slots Q (F0 m (pc + 3) ls (.int (m_cnt u) :: rest))) : W p l e R s m args below meth c H locs cells slots Q (F0 m pc ls (.ref (ad 0) :: rest)) :=
  va_get (C := RX7) (T := TX7) (N := 21) C.1 C.2.1 C.2.2.2.2 hin C.2.2.2.1 hK hw.1 0 rfl rfl 0 (by decide) (C.2.2.2.2 _ hl) (fun _ h => h) rfl hdg kk
theorem mp_0_0 (C : CallFix p m c cc nL s args Ts own) (hK : va_K D vwCl (mT cI cJ) s) (hw : MW D ad cI cJ H0 H locs u) (hin : ∀ w ∈ wsX70, w ∈ Ts) (hl : Cond.fieldLink own index "SignedCallsModel" "accounts" "I" ∈ Ts) {v : Int32} (hdg : decode cc pc = .ok (.putfield index, 3)) (kk : ∀ (H1 : Heap) (locs1 : List Loc), MW D ad cI cJ H0 H1 locs1 (ms_cnt u v) → W p l e R s m args below meth c H1 locs1 cells slots Q (F0 m (pc + 3) ls rest)) : W p l e R s m args below meth c H locs cells slots Q (F0 m pc ls (.int v :: .ref (ad 0) :: rest)) :=
  va_put (C := RX7) (T := TX7) (N := 21) (ty := .int) C.1 C.2.1 C.2.2.2.2 hin tyX7 tyX7_ok nmX7 C.2.2.2.1 hK hw.1 hw.2.1 hw.2.2 0 rfl rfl 0 (by decide) (C.2.2.2.2 _ hl) (fun _ h => h) rfl (by decide +kernel) rfl rfl (Nat.le_of_ble_eq_true rfl) hdg (fun H1 locs1 h1 h2 h3 => kk H1 locs1 ⟨h1, h2, h3⟩)
theorem mg_0_1 (C : CallFix p m c cc nL s args Ts own) (hK : va_K D vwCl (mT cI cJ) s) (hw : MW D ad cI cJ H0 H locs u) (hin : ∀ w ∈ wsX70, w ∈ Ts) (hl : Cond.fieldLink own index "SignedCallsModel" "funds" "[J" ∈ Ts) (hdg : decode cc pc = .ok (.getfield index, 3)) (kk : W p l e R s m args below meth c H locs cells slots Q (F0 m (pc + 3) ls (.ref (ad 1) :: rest))) : W p l e R s m args below meth c H locs cells slots Q (F0 m pc ls (.ref (ad 0) :: rest)) :=
  va_get (C := RX7) (T := TX7) (N := 21) C.1 C.2.1 C.2.2.2.2 hin C.2.2.2.1 hK hw.1 0 rfl rfl 1 (by decide) (C.2.2.2.2 _ hl) (fun _ h => h) rfl hdg kk
theorem mg_0_2 (C : CallFix p m c cc nL s args Ts own) (hK : va_K D vwCl (mT cI cJ) s) (hw : MW D ad cI cJ H0 H locs u) (hin : ∀ w ∈ wsX70, w ∈ Ts) (hl : Cond.fieldLink own index "SignedCallsModel" "next" "[I" ∈ Ts) (hdg : decode cc pc = .ok (.getfield index, 3)) (kk : W p l e R s m args below meth c H locs cells slots Q (F0 m (pc + 3) ls (.ref (ad 2) :: rest))) : W p l e R s m args below meth c H locs cells slots Q (F0 m pc ls (.ref (ad 0) :: rest)) :=
  va_get (C := RX7) (T := TX7) (N := 21) C.1 C.2.1 C.2.2.2.2 hin C.2.2.2.1 hK hw.1 0 rfl rfl 2 (by decide) (C.2.2.2.2 _ hl) (fun _ h => h) rfl hdg kk
theorem mg_0_3 (C : CallFix p m c cc nL s args Ts own) (hK : va_K D vwCl (mT cI cJ) s) (hw : MW D ad cI cJ H0 H locs u) (hin : ∀ w ∈ wsX70, w ∈ Ts) (hl : Cond.fieldLink own index "SignedCallsModel" "keys" "[I" ∈ Ts) (hdg : decode cc pc = .ok (.getfield index, 3)) (kk : W p l e R s m args below meth c H locs cells slots Q (F0 m (pc + 3) ls (.ref (ad 3) :: rest))) : W p l e R s m args below meth c H locs cells slots Q (F0 m pc ls (.ref (ad 0) :: rest)) :=
  va_get (C := RX7) (T := TX7) (N := 21) C.1 C.2.1 C.2.2.2.2 hin C.2.2.2.1 hK hw.1 0 rfl rfl 3 (by decide) (C.2.2.2.2 _ hl) (fun _ h => h) rfl hdg kk
theorem mg_0_4 (C : CallFix p m c cc nL s args Ts own) (hK : va_K D vwCl (mT cI cJ) s) (hw : MW D ad cI cJ H0 H locs u) (hin : ∀ w ∈ wsX70, w ∈ Ts) (hl : Cond.fieldLink own index "SignedCallsModel" "threshold" "[I" ∈ Ts) (hdg : decode cc pc = .ok (.getfield index, 3)) (kk : W p l e R s m args below meth c H locs cells slots Q (F0 m (pc + 3) ls (.ref (ad 4) :: rest))) : W p l e R s m args below meth c H locs cells slots Q (F0 m pc ls (.ref (ad 0) :: rest)) :=
  va_get (C := RX7) (T := TX7) (N := 21) C.1 C.2.1 C.2.2.2.2 hin C.2.2.2.1 hK hw.1 0 rfl rfl 4 (by decide) (C.2.2.2.2 _ hl) (fun _ h => h) rfl hdg kk
theorem mg_0_5 (C : CallFix p m c cc nL s args Ts own) (hK : va_K D vwCl (mT cI cJ) s) (hw : MW D ad cI cJ H0 H locs u) (hin : ∀ w ∈ wsX70, w ∈ Ts) (hl : Cond.fieldLink own index "SignedCallsModel" "signatures" "I" ∈ Ts) (hdg : decode cc pc = .ok (.getfield index, 3)) (kk : W p l e R s m args below meth c H locs cells slots Q (F0 m (pc + 3) ls (.int (m_sgc u) :: rest))) : W p l e R s m args below meth c H locs cells slots Q (F0 m pc ls (.ref (ad 0) :: rest)) :=
  va_get (C := RX7) (T := TX7) (N := 21) C.1 C.2.1 C.2.2.2.2 hin C.2.2.2.1 hK hw.1 0 rfl rfl 5 (by decide) (C.2.2.2.2 _ hl) (fun _ h => h) rfl hdg kk
theorem mp_0_5 (C : CallFix p m c cc nL s args Ts own) (hK : va_K D vwCl (mT cI cJ) s) (hw : MW D ad cI cJ H0 H locs u) (hin : ∀ w ∈ wsX70, w ∈ Ts) (hl : Cond.fieldLink own index "SignedCallsModel" "signatures" "I" ∈ Ts) {v : Int32} (hdg : decode cc pc = .ok (.putfield index, 3)) (kk : ∀ (H1 : Heap) (locs1 : List Loc), MW D ad cI cJ H0 H1 locs1 (ms_sgc u v) → W p l e R s m args below meth c H1 locs1 cells slots Q (F0 m (pc + 3) ls rest)) : W p l e R s m args below meth c H locs cells slots Q (F0 m pc ls (.int v :: .ref (ad 0) :: rest)) :=
  va_put (C := RX7) (T := TX7) (N := 21) (ty := .int) C.1 C.2.1 C.2.2.2.2 hin tyX7 tyX7_ok nmX7 C.2.2.2.1 hK hw.1 hw.2.1 hw.2.2 0 rfl rfl 5 (by decide) (C.2.2.2.2 _ hl) (fun _ h => h) rfl (by decide +kernel) rfl rfl (Nat.le_of_ble_eq_true rfl) hdg (fun H1 locs1 h1 h2 h3 => kk H1 locs1 ⟨h1, h2, h3⟩)
theorem mg_0_6 (C : CallFix p m c cc nL s args Ts own) (hK : va_K D vwCl (mT cI cJ) s) (hw : MW D ad cI cJ H0 H locs u) (hin : ∀ w ∈ wsX70, w ∈ Ts) (hl : Cond.fieldLink own index "SignedCallsModel" "keyOf" "[I" ∈ Ts) (hdg : decode cc pc = .ok (.getfield index, 3)) (kk : W p l e R s m args below meth c H locs cells slots Q (F0 m (pc + 3) ls (.ref (ad 5) :: rest))) : W p l e R s m args below meth c H locs cells slots Q (F0 m pc ls (.ref (ad 0) :: rest)) :=
  va_get (C := RX7) (T := TX7) (N := 21) C.1 C.2.1 C.2.2.2.2 hin C.2.2.2.1 hK hw.1 0 rfl rfl 6 (by decide) (C.2.2.2.2 _ hl) (fun _ h => h) rfl hdg kk
theorem mg_0_7 (C : CallFix p m c cc nL s args Ts own) (hK : va_K D vwCl (mT cI cJ) s) (hw : MW D ad cI cJ H0 H locs u) (hin : ∀ w ∈ wsX70, w ∈ Ts) (hl : Cond.fieldLink own index "SignedCallsModel" "digestOf" "[J" ∈ Ts) (hdg : decode cc pc = .ok (.getfield index, 3)) (kk : W p l e R s m args below meth c H locs cells slots Q (F0 m (pc + 3) ls (.ref (ad 6) :: rest))) : W p l e R s m args below meth c H locs cells slots Q (F0 m pc ls (.ref (ad 0) :: rest)) :=
  va_get (C := RX7) (T := TX7) (N := 21) C.1 C.2.1 C.2.2.2.2 hin C.2.2.2.1 hK hw.1 0 rfl rfl 7 (by decide) (C.2.2.2.2 _ hl) (fun _ h => h) rfl hdg kk
theorem mg_0_8 (C : CallFix p m c cc nL s args Ts own) (hK : va_K D vwCl (mT cI cJ) s) (hw : MW D ad cI cJ H0 H locs u) (hin : ∀ w ∈ wsX70, w ∈ Ts) (hl : Cond.fieldLink own index "SignedCallsModel" "call" "[J" ∈ Ts) (hdg : decode cc pc = .ok (.getfield index, 3)) (kk : W p l e R s m args below meth c H locs cells slots Q (F0 m (pc + 3) ls (.ref (ad 7) :: rest))) : W p l e R s m args below meth c H locs cells slots Q (F0 m pc ls (.ref (ad 0) :: rest)) :=
  va_get (C := RX7) (T := TX7) (N := 21) C.1 C.2.1 C.2.2.2.2 hin C.2.2.2.1 hK hw.1 0 rfl rfl 8 (by decide) (C.2.2.2.2 _ hl) (fun _ h => h) rfl hdg kk
theorem mg_0_9 (C : CallFix p m c cc nL s args Ts own) (hK : va_K D vwCl (mT cI cJ) s) (hw : MW D ad cI cJ H0 H locs u) (hin : ∀ w ∈ wsX70, w ∈ Ts) (hl : Cond.fieldLink own index "SignedCallsModel" "drafted" "Z" ∈ Ts) (hdg : decode cc pc = .ok (.getfield index, 3)) (kk : W p l e R s m args below meth c H locs cells slots Q (F0 m (pc + 3) ls (.int (m_dra u) :: rest))) : W p l e R s m args below meth c H locs cells slots Q (F0 m pc ls (.ref (ad 0) :: rest)) :=
  va_get (C := RX7) (T := TX7) (N := 21) C.1 C.2.1 C.2.2.2.2 hin C.2.2.2.1 hK hw.1 0 rfl rfl 9 (by decide) (C.2.2.2.2 _ hl) (fun _ h => h) rfl hdg kk
theorem mp_0_9 (C : CallFix p m c cc nL s args Ts own) (hK : va_K D vwCl (mT cI cJ) s) (hw : MW D ad cI cJ H0 H locs u) (hin : ∀ w ∈ wsX70, w ∈ Ts) (hl : Cond.fieldLink own index "SignedCallsModel" "drafted" "Z" ∈ Ts) {v : Int32} (hn : narrow .boolean (.int v) = .int v) (hf : fits .boolean (.int v) = true) (hdg : decode cc pc = .ok (.putfield index, 3)) (kk : ∀ (H1 : Heap) (locs1 : List Loc), MW D ad cI cJ H0 H1 locs1 (ms_dra u v) → W p l e R s m args below meth c H1 locs1 cells slots Q (F0 m (pc + 3) ls rest)) : W p l e R s m args below meth c H locs cells slots Q (F0 m pc ls (.int v :: .ref (ad 0) :: rest)) :=
  va_put (C := RX7) (T := TX7) (N := 21) (ty := .boolean) C.1 C.2.1 C.2.2.2.2 hin tyX7 tyX7_ok nmX7 C.2.2.2.1 hK hw.1 hw.2.1 hw.2.2 0 rfl rfl 9 (by decide) (C.2.2.2.2 _ hl) (fun _ h => h) rfl (by decide +kernel) hn hf (Nat.le_of_ble_eq_true rfl) hdg (fun H1 locs1 h1 h2 h3 => kk H1 locs1 ⟨h1, h2, h3⟩)
theorem mg_0_10 (C : CallFix p m c cc nL s args Ts own) (hK : va_K D vwCl (mT cI cJ) s) (hw : MW D ad cI cJ H0 H locs u) (hin : ∀ w ∈ wsX70, w ∈ Ts) (hl : Cond.fieldLink own index "SignedCallsModel" "mine" "[I" ∈ Ts) (hdg : decode cc pc = .ok (.getfield index, 3)) (kk : W p l e R s m args below meth c H locs cells slots Q (F0 m (pc + 3) ls (.ref (ad 8) :: rest))) : W p l e R s m args below meth c H locs cells slots Q (F0 m pc ls (.ref (ad 0) :: rest)) :=
  va_get (C := RX7) (T := TX7) (N := 21) C.1 C.2.1 C.2.2.2.2 hin C.2.2.2.1 hK hw.1 0 rfl rfl 10 (by decide) (C.2.2.2.2 _ hl) (fun _ h => h) rfl hdg kk
theorem mg_0_11 (C : CallFix p m c cc nL s args Ts own) (hK : va_K D vwCl (mT cI cJ) s) (hw : MW D ad cI cJ H0 H locs u) (hin : ∀ w ∈ wsX70, w ∈ Ts) (hl : Cond.fieldLink own index "SignedCallsModel" "mineMany" "I" ∈ Ts) (hdg : decode cc pc = .ok (.getfield index, 3)) (kk : W p l e R s m args below meth c H locs cells slots Q (F0 m (pc + 3) ls (.int (m_mny u) :: rest))) : W p l e R s m args below meth c H locs cells slots Q (F0 m pc ls (.ref (ad 0) :: rest)) :=
  va_get (C := RX7) (T := TX7) (N := 21) C.1 C.2.1 C.2.2.2.2 hin C.2.2.2.1 hK hw.1 0 rfl rfl 11 (by decide) (C.2.2.2.2 _ hl) (fun _ h => h) rfl hdg kk
theorem mp_0_11 (C : CallFix p m c cc nL s args Ts own) (hK : va_K D vwCl (mT cI cJ) s) (hw : MW D ad cI cJ H0 H locs u) (hin : ∀ w ∈ wsX70, w ∈ Ts) (hl : Cond.fieldLink own index "SignedCallsModel" "mineMany" "I" ∈ Ts) {v : Int32} (hdg : decode cc pc = .ok (.putfield index, 3)) (kk : ∀ (H1 : Heap) (locs1 : List Loc), MW D ad cI cJ H0 H1 locs1 (ms_mny u v) → W p l e R s m args below meth c H1 locs1 cells slots Q (F0 m (pc + 3) ls rest)) : W p l e R s m args below meth c H locs cells slots Q (F0 m pc ls (.int v :: .ref (ad 0) :: rest)) :=
  va_put (C := RX7) (T := TX7) (N := 21) (ty := .int) C.1 C.2.1 C.2.2.2.2 hin tyX7 tyX7_ok nmX7 C.2.2.2.1 hK hw.1 hw.2.1 hw.2.2 0 rfl rfl 11 (by decide) (C.2.2.2.2 _ hl) (fun _ h => h) rfl (by decide +kernel) rfl rfl (Nat.le_of_ble_eq_true rfl) hdg (fun H1 locs1 h1 h2 h3 => kk H1 locs1 ⟨h1, h2, h3⟩)
theorem mg_0_12 (C : CallFix p m c cc nL s args Ts own) (hK : va_K D vwCl (mT cI cJ) s) (hw : MW D ad cI cJ H0 H locs u) (hin : ∀ w ∈ wsX70, w ∈ Ts) (hl : Cond.fieldLink own index "SignedCallsModel" "waits" "I" ∈ Ts) (hdg : decode cc pc = .ok (.getfield index, 3)) (kk : W p l e R s m args below meth c H locs cells slots Q (F0 m (pc + 3) ls (.int (m_wts u) :: rest))) : W p l e R s m args below meth c H locs cells slots Q (F0 m pc ls (.ref (ad 0) :: rest)) :=
  va_get (C := RX7) (T := TX7) (N := 21) C.1 C.2.1 C.2.2.2.2 hin C.2.2.2.1 hK hw.1 0 rfl rfl 12 (by decide) (C.2.2.2.2 _ hl) (fun _ h => h) rfl hdg kk
theorem mp_0_12 (C : CallFix p m c cc nL s args Ts own) (hK : va_K D vwCl (mT cI cJ) s) (hw : MW D ad cI cJ H0 H locs u) (hin : ∀ w ∈ wsX70, w ∈ Ts) (hl : Cond.fieldLink own index "SignedCallsModel" "waits" "I" ∈ Ts) {v : Int32} (hdg : decode cc pc = .ok (.putfield index, 3)) (kk : ∀ (H1 : Heap) (locs1 : List Loc), MW D ad cI cJ H0 H1 locs1 (ms_wts u v) → W p l e R s m args below meth c H1 locs1 cells slots Q (F0 m (pc + 3) ls rest)) : W p l e R s m args below meth c H locs cells slots Q (F0 m pc ls (.int v :: .ref (ad 0) :: rest)) :=
  va_put (C := RX7) (T := TX7) (N := 21) (ty := .int) C.1 C.2.1 C.2.2.2.2 hin tyX7 tyX7_ok nmX7 C.2.2.2.1 hK hw.1 hw.2.1 hw.2.2 0 rfl rfl 12 (by decide) (C.2.2.2.2 _ hl) (fun _ h => h) rfl (by decide +kernel) rfl rfl (Nat.le_of_ble_eq_true rfl) hdg (fun H1 locs1 h1 h2 h3 => kk H1 locs1 ⟨h1, h2, h3⟩)
theorem mg_0_13 (C : CallFix p m c cc nL s args Ts own) (hK : va_K D vwCl (mT cI cJ) s) (hw : MW D ad cI cJ H0 H locs u) (hin : ∀ w ∈ wsX70, w ∈ Ts) (hl : Cond.fieldLink own index "SignedCallsModel" "tickets" "I" ∈ Ts) (hdg : decode cc pc = .ok (.getfield index, 3)) (kk : W p l e R s m args below meth c H locs cells slots Q (F0 m (pc + 3) ls (.int (m_tik u) :: rest))) : W p l e R s m args below meth c H locs cells slots Q (F0 m pc ls (.ref (ad 0) :: rest)) :=
  va_get (C := RX7) (T := TX7) (N := 21) C.1 C.2.1 C.2.2.2.2 hin C.2.2.2.1 hK hw.1 0 rfl rfl 13 (by decide) (C.2.2.2.2 _ hl) (fun _ h => h) rfl hdg kk
theorem mp_0_13 (C : CallFix p m c cc nL s args Ts own) (hK : va_K D vwCl (mT cI cJ) s) (hw : MW D ad cI cJ H0 H locs u) (hin : ∀ w ∈ wsX70, w ∈ Ts) (hl : Cond.fieldLink own index "SignedCallsModel" "tickets" "I" ∈ Ts) {v : Int32} (hdg : decode cc pc = .ok (.putfield index, 3)) (kk : ∀ (H1 : Heap) (locs1 : List Loc), MW D ad cI cJ H0 H1 locs1 (ms_tik u v) → W p l e R s m args below meth c H1 locs1 cells slots Q (F0 m (pc + 3) ls rest)) : W p l e R s m args below meth c H locs cells slots Q (F0 m pc ls (.int v :: .ref (ad 0) :: rest)) :=
  va_put (C := RX7) (T := TX7) (N := 21) (ty := .int) C.1 C.2.1 C.2.2.2.2 hin tyX7 tyX7_ok nmX7 C.2.2.2.1 hK hw.1 hw.2.1 hw.2.2 0 rfl rfl 13 (by decide) (C.2.2.2.2 _ hl) (fun _ h => h) rfl (by decide +kernel) rfl rfl (Nat.le_of_ble_eq_true rfl) hdg (fun H1 locs1 h1 h2 h3 => kk H1 locs1 ⟨h1, h2, h3⟩)
theorem mg_0_14 (C : CallFix p m c cc nL s args Ts own) (hK : va_K D vwCl (mT cI cJ) s) (hw : MW D ad cI cJ H0 H locs u) (hin : ∀ w ∈ wsX70, w ∈ Ts) (hl : Cond.fieldLink own index "SignedCallsModel" "stepOf" "I" ∈ Ts) (hdg : decode cc pc = .ok (.getfield index, 3)) (kk : W p l e R s m args below meth c H locs cells slots Q (F0 m (pc + 3) ls (.int (m_stp u) :: rest))) : W p l e R s m args below meth c H locs cells slots Q (F0 m pc ls (.ref (ad 0) :: rest)) :=
  va_get (C := RX7) (T := TX7) (N := 21) C.1 C.2.1 C.2.2.2.2 hin C.2.2.2.1 hK hw.1 0 rfl rfl 14 (by decide) (C.2.2.2.2 _ hl) (fun _ h => h) rfl hdg kk
theorem mp_0_14 (C : CallFix p m c cc nL s args Ts own) (hK : va_K D vwCl (mT cI cJ) s) (hw : MW D ad cI cJ H0 H locs u) (hin : ∀ w ∈ wsX70, w ∈ Ts) (hl : Cond.fieldLink own index "SignedCallsModel" "stepOf" "I" ∈ Ts) {v : Int32} (hdg : decode cc pc = .ok (.putfield index, 3)) (kk : ∀ (H1 : Heap) (locs1 : List Loc), MW D ad cI cJ H0 H1 locs1 (ms_stp u v) → W p l e R s m args below meth c H1 locs1 cells slots Q (F0 m (pc + 3) ls rest)) : W p l e R s m args below meth c H locs cells slots Q (F0 m pc ls (.int v :: .ref (ad 0) :: rest)) :=
  va_put (C := RX7) (T := TX7) (N := 21) (ty := .int) C.1 C.2.1 C.2.2.2.2 hin tyX7 tyX7_ok nmX7 C.2.2.2.1 hK hw.1 hw.2.1 hw.2.2 0 rfl rfl 14 (by decide) (C.2.2.2.2 _ hl) (fun _ h => h) rfl (by decide +kernel) rfl rfl (Nat.le_of_ble_eq_true rfl) hdg (fun H1 locs1 h1 h2 h3 => kk H1 locs1 ⟨h1, h2, h3⟩)
theorem mg_0_15 (C : CallFix p m c cc nL s args Ts own) (hK : va_K D vwCl (mT cI cJ) s) (hw : MW D ad cI cJ H0 H locs u) (hin : ∀ w ∈ wsX70, w ∈ Ts) (hl : Cond.fieldLink own index "SignedCallsModel" "height" "I" ∈ Ts) (hdg : decode cc pc = .ok (.getfield index, 3)) (kk : W p l e R s m args below meth c H locs cells slots Q (F0 m (pc + 3) ls (.int (m_hgt u) :: rest))) : W p l e R s m args below meth c H locs cells slots Q (F0 m pc ls (.ref (ad 0) :: rest)) :=
  va_get (C := RX7) (T := TX7) (N := 21) C.1 C.2.1 C.2.2.2.2 hin C.2.2.2.1 hK hw.1 0 rfl rfl 15 (by decide) (C.2.2.2.2 _ hl) (fun _ h => h) rfl hdg kk
theorem mp_0_15 (C : CallFix p m c cc nL s args Ts own) (hK : va_K D vwCl (mT cI cJ) s) (hw : MW D ad cI cJ H0 H locs u) (hin : ∀ w ∈ wsX70, w ∈ Ts) (hl : Cond.fieldLink own index "SignedCallsModel" "height" "I" ∈ Ts) {v : Int32} (hdg : decode cc pc = .ok (.putfield index, 3)) (kk : ∀ (H1 : Heap) (locs1 : List Loc), MW D ad cI cJ H0 H1 locs1 (ms_hgt u v) → W p l e R s m args below meth c H1 locs1 cells slots Q (F0 m (pc + 3) ls rest)) : W p l e R s m args below meth c H locs cells slots Q (F0 m pc ls (.int v :: .ref (ad 0) :: rest)) :=
  va_put (C := RX7) (T := TX7) (N := 21) (ty := .int) C.1 C.2.1 C.2.2.2.2 hin tyX7 tyX7_ok nmX7 C.2.2.2.1 hK hw.1 hw.2.1 hw.2.2 0 rfl rfl 15 (by decide) (C.2.2.2.2 _ hl) (fun _ h => h) rfl (by decide +kernel) rfl rfl (Nat.le_of_ble_eq_true rfl) hdg (fun H1 locs1 h1 h2 h3 => kk H1 locs1 ⟨h1, h2, h3⟩)
theorem mg_0_16 (C : CallFix p m c cc nL s args Ts own) (hK : va_K D vwCl (mT cI cJ) s) (hw : MW D ad cI cJ H0 H locs u) (hin : ∀ w ∈ wsX70, w ∈ Ts) (hl : Cond.fieldLink own index "SignedCallsModel" "paid" "J" ∈ Ts) (hdg : decode cc pc = .ok (.getfield index, 3)) (kk : W p l e R s m args below meth c H locs cells slots Q (F0 m (pc + 3) ls (.long (m_pai u) :: rest))) : W p l e R s m args below meth c H locs cells slots Q (F0 m pc ls (.ref (ad 0) :: rest)) :=
  va_get (C := RX7) (T := TX7) (N := 21) C.1 C.2.1 C.2.2.2.2 hin C.2.2.2.1 hK hw.1 0 rfl rfl 16 (by decide) (C.2.2.2.2 _ hl) (fun _ h => h) rfl hdg kk
theorem mp_0_16 (C : CallFix p m c cc nL s args Ts own) (hK : va_K D vwCl (mT cI cJ) s) (hw : MW D ad cI cJ H0 H locs u) (hin : ∀ w ∈ wsX70, w ∈ Ts) (hl : Cond.fieldLink own index "SignedCallsModel" "paid" "J" ∈ Ts) {v : Int64} (hdg : decode cc pc = .ok (.putfield index, 3)) (kk : ∀ (H1 : Heap) (locs1 : List Loc), MW D ad cI cJ H0 H1 locs1 (ms_pai u v) → W p l e R s m args below meth c H1 locs1 cells slots Q (F0 m (pc + 3) ls rest)) : W p l e R s m args below meth c H locs cells slots Q (F0 m pc ls (.long v :: .ref (ad 0) :: rest)) :=
  va_put (C := RX7) (T := TX7) (N := 21) (ty := .long) C.1 C.2.1 C.2.2.2.2 hin tyX7 tyX7_ok nmX7 C.2.2.2.1 hK hw.1 hw.2.1 hw.2.2 0 rfl rfl 16 (by decide) (C.2.2.2.2 _ hl) (fun _ h => h) rfl (by decide +kernel) rfl rfl (Nat.le_of_ble_eq_true rfl) hdg (fun H1 locs1 h1 h2 h3 => kk H1 locs1 ⟨h1, h2, h3⟩)
theorem mg_0_17 (C : CallFix p m c cc nL s args Ts own) (hK : va_K D vwCl (mT cI cJ) s) (hw : MW D ad cI cJ H0 H locs u) (hin : ∀ w ∈ wsX70, w ∈ Ts) (hl : Cond.fieldLink own index "SignedCallsModel" "events" "I" ∈ Ts) (hdg : decode cc pc = .ok (.getfield index, 3)) (kk : W p l e R s m args below meth c H locs cells slots Q (F0 m (pc + 3) ls (.int (m_evs u) :: rest))) : W p l e R s m args below meth c H locs cells slots Q (F0 m pc ls (.ref (ad 0) :: rest)) :=
  va_get (C := RX7) (T := TX7) (N := 21) C.1 C.2.1 C.2.2.2.2 hin C.2.2.2.1 hK hw.1 0 rfl rfl 17 (by decide) (C.2.2.2.2 _ hl) (fun _ h => h) rfl hdg kk
theorem mp_0_17 (C : CallFix p m c cc nL s args Ts own) (hK : va_K D vwCl (mT cI cJ) s) (hw : MW D ad cI cJ H0 H locs u) (hin : ∀ w ∈ wsX70, w ∈ Ts) (hl : Cond.fieldLink own index "SignedCallsModel" "events" "I" ∈ Ts) {v : Int32} (hdg : decode cc pc = .ok (.putfield index, 3)) (kk : ∀ (H1 : Heap) (locs1 : List Loc), MW D ad cI cJ H0 H1 locs1 (ms_evs u v) → W p l e R s m args below meth c H1 locs1 cells slots Q (F0 m (pc + 3) ls rest)) : W p l e R s m args below meth c H locs cells slots Q (F0 m pc ls (.int v :: .ref (ad 0) :: rest)) :=
  va_put (C := RX7) (T := TX7) (N := 21) (ty := .int) C.1 C.2.1 C.2.2.2.2 hin tyX7 tyX7_ok nmX7 C.2.2.2.1 hK hw.1 hw.2.1 hw.2.2 0 rfl rfl 17 (by decide) (C.2.2.2.2 _ hl) (fun _ h => h) rfl (by decide +kernel) rfl rfl (Nat.le_of_ble_eq_true rfl) hdg (fun H1 locs1 h1 h2 h3 => kk H1 locs1 ⟨h1, h2, h3⟩)
theorem mg_0_18 (C : CallFix p m c cc nL s args Ts own) (hK : va_K D vwCl (mT cI cJ) s) (hw : MW D ad cI cJ H0 H locs u) (hin : ∀ w ∈ wsX70, w ∈ Ts) (hl : Cond.fieldLink own index "SignedCallsModel" "eventRow" "[I" ∈ Ts) (hdg : decode cc pc = .ok (.getfield index, 3)) (kk : W p l e R s m args below meth c H locs cells slots Q (F0 m (pc + 3) ls (.ref (ad 9) :: rest))) : W p l e R s m args below meth c H locs cells slots Q (F0 m pc ls (.ref (ad 0) :: rest)) :=
  va_get (C := RX7) (T := TX7) (N := 21) C.1 C.2.1 C.2.2.2.2 hin C.2.2.2.1 hK hw.1 0 rfl rfl 18 (by decide) (C.2.2.2.2 _ hl) (fun _ h => h) rfl hdg kk
theorem mg_0_19 (C : CallFix p m c cc nL s args Ts own) (hK : va_K D vwCl (mT cI cJ) s) (hw : MW D ad cI cJ H0 H locs u) (hin : ∀ w ∈ wsX70, w ∈ Ts) (hl : Cond.fieldLink own index "SignedCallsModel" "roomLeft" "I" ∈ Ts) (hdg : decode cc pc = .ok (.getfield index, 3)) (kk : W p l e R s m args below meth c H locs cells slots Q (F0 m (pc + 3) ls (.int (m_rom u) :: rest))) : W p l e R s m args below meth c H locs cells slots Q (F0 m pc ls (.ref (ad 0) :: rest)) :=
  va_get (C := RX7) (T := TX7) (N := 21) C.1 C.2.1 C.2.2.2.2 hin C.2.2.2.1 hK hw.1 0 rfl rfl 19 (by decide) (C.2.2.2.2 _ hl) (fun _ h => h) rfl hdg kk
theorem mp_0_19 (C : CallFix p m c cc nL s args Ts own) (hK : va_K D vwCl (mT cI cJ) s) (hw : MW D ad cI cJ H0 H locs u) (hin : ∀ w ∈ wsX70, w ∈ Ts) (hl : Cond.fieldLink own index "SignedCallsModel" "roomLeft" "I" ∈ Ts) {v : Int32} (hdg : decode cc pc = .ok (.putfield index, 3)) (kk : ∀ (H1 : Heap) (locs1 : List Loc), MW D ad cI cJ H0 H1 locs1 (ms_rom u v) → W p l e R s m args below meth c H1 locs1 cells slots Q (F0 m (pc + 3) ls rest)) : W p l e R s m args below meth c H locs cells slots Q (F0 m pc ls (.int v :: .ref (ad 0) :: rest)) :=
  va_put (C := RX7) (T := TX7) (N := 21) (ty := .int) C.1 C.2.1 C.2.2.2.2 hin tyX7 tyX7_ok nmX7 C.2.2.2.1 hK hw.1 hw.2.1 hw.2.2 0 rfl rfl 19 (by decide) (C.2.2.2.2 _ hl) (fun _ h => h) rfl (by decide +kernel) rfl rfl (Nat.le_of_ble_eq_true rfl) hdg (fun H1 locs1 h1 h2 h3 => kk H1 locs1 ⟨h1, h2, h3⟩)
theorem mg_0_20 (C : CallFix p m c cc nL s args Ts own) (hK : va_K D vwCl (mT cI cJ) s) (hw : MW D ad cI cJ H0 H locs u) (hin : ∀ w ∈ wsX70, w ∈ Ts) (hl : Cond.fieldLink own index "SignedCallsModel" "before" "[J" ∈ Ts) (hdg : decode cc pc = .ok (.getfield index, 3)) (kk : W p l e R s m args below meth c H locs cells slots Q (F0 m (pc + 3) ls (.ref (ad 10) :: rest))) : W p l e R s m args below meth c H locs cells slots Q (F0 m pc ls (.ref (ad 0) :: rest)) :=
  va_get (C := RX7) (T := TX7) (N := 21) C.1 C.2.1 C.2.2.2.2 hin C.2.2.2.1 hK hw.1 0 rfl rfl 20 (by decide) (C.2.2.2.2 _ hl) (fun _ h => h) rfl hdg kk
theorem ml_1 (C : CallFix p m c cc nL s args Ts own) (hK : va_K D vwCl (mT cI cJ) s) (hw : MW D ad cI cJ H0 H locs u) {i : Int32} (hi : vp_in i 12) (hdg : decode cc pc = .ok (.laload, 1)) (kk : W p l e R s m args below meth c H locs cells slots Q (F0 m (pc + 1) ls (.long (m_fun u i.toNatClampNeg) :: rest))) : W p l e R s m args below meth c H locs cells slots Q (F0 m pc ls (.int i :: .ref (ad 1) :: rest)) :=
  va_lald C.1 C.2.1 hK hw.1 1 1 rfl rfl hi hdg kk
theorem mt_1 (C : CallFix p m c cc nL s args Ts own) (hK : va_K D vwCl (mT cI cJ) s) (hw : MW D ad cI cJ H0 H locs u) {i : Int32} {x : Int64} (hi : vp_in i 12) (hdg : decode cc pc = .ok (.lastore, 1)) (kk : ∀ (H1 : Heap) (locs1 : List Loc), MW D ad cI cJ H0 H1 locs1 (ms_fun u (vp_updL (m_fun u) i.toNatClampNeg x)) → W p l e R s m args below meth c H1 locs1 cells slots Q (F0 m (pc + 1) ls rest)) : W p l e R s m args below meth c H locs cells slots Q (F0 m pc ls (.long x :: .int i :: .ref (ad 1) :: rest)) :=
  va_last C.1 C.2.1 hK hw.1 hw.2.1 hw.2.2 1 1 rfl rfl hi hdg (fun H1 locs1 h1 h2 h3 => kk H1 locs1 ⟨h1, h2, h3⟩)
theorem ml_2 (C : CallFix p m c cc nL s args Ts own) (hK : va_K D vwCl (mT cI cJ) s) (hw : MW D ad cI cJ H0 H locs u) {i : Int32} (hi : vp_in i 12) (hdg : decode cc pc = .ok (.iaload, 1)) (kk : W p l e R s m args below meth c H locs cells slots Q (F0 m (pc + 1) ls (.int (m_nxt u i.toNatClampNeg) :: rest))) : W p l e R s m args below meth c H locs cells slots Q (F0 m pc ls (.int i :: .ref (ad 2) :: rest)) :=
  va_iald C.1 C.2.1 hK hw.1 2 0 rfl rfl hi hdg kk
theorem mt_2 (C : CallFix p m c cc nL s args Ts own) (hK : va_K D vwCl (mT cI cJ) s) (hw : MW D ad cI cJ H0 H locs u) {i : Int32} {x : Int32} (hi : vp_in i 12) (hdg : decode cc pc = .ok (.iastore, 1)) (kk : ∀ (H1 : Heap) (locs1 : List Loc), MW D ad cI cJ H0 H1 locs1 (ms_nxt u (upd (m_nxt u) i.toNatClampNeg x)) → W p l e R s m args below meth c H1 locs1 cells slots Q (F0 m (pc + 1) ls rest)) : W p l e R s m args below meth c H locs cells slots Q (F0 m pc ls (.int x :: .int i :: .ref (ad 2) :: rest)) :=
  va_iast C.1 C.2.1 hK hw.1 hw.2.1 hw.2.2 2 0 rfl rfl hi hdg (fun H1 locs1 h1 h2 h3 => kk H1 locs1 ⟨h1, h2, h3⟩)
theorem ml_3 (C : CallFix p m c cc nL s args Ts own) (hK : va_K D vwCl (mT cI cJ) s) (hw : MW D ad cI cJ H0 H locs u) {i : Int32} (hi : vp_in i 12) (hdg : decode cc pc = .ok (.iaload, 1)) (kk : W p l e R s m args below meth c H locs cells slots Q (F0 m (pc + 1) ls (.int (m_kys u i.toNatClampNeg) :: rest))) : W p l e R s m args below meth c H locs cells slots Q (F0 m pc ls (.int i :: .ref (ad 3) :: rest)) :=
  va_iald C.1 C.2.1 hK hw.1 3 0 rfl rfl hi hdg kk
theorem mt_3 (C : CallFix p m c cc nL s args Ts own) (hK : va_K D vwCl (mT cI cJ) s) (hw : MW D ad cI cJ H0 H locs u) {i : Int32} {x : Int32} (hi : vp_in i 12) (hdg : decode cc pc = .ok (.iastore, 1)) (kk : ∀ (H1 : Heap) (locs1 : List Loc), MW D ad cI cJ H0 H1 locs1 (ms_kys u (upd (m_kys u) i.toNatClampNeg x)) → W p l e R s m args below meth c H1 locs1 cells slots Q (F0 m (pc + 1) ls rest)) : W p l e R s m args below meth c H locs cells slots Q (F0 m pc ls (.int x :: .int i :: .ref (ad 3) :: rest)) :=
  va_iast C.1 C.2.1 hK hw.1 hw.2.1 hw.2.2 3 0 rfl rfl hi hdg (fun H1 locs1 h1 h2 h3 => kk H1 locs1 ⟨h1, h2, h3⟩)
theorem ml_4 (C : CallFix p m c cc nL s args Ts own) (hK : va_K D vwCl (mT cI cJ) s) (hw : MW D ad cI cJ H0 H locs u) {i : Int32} (hi : vp_in i 12) (hdg : decode cc pc = .ok (.iaload, 1)) (kk : W p l e R s m args below meth c H locs cells slots Q (F0 m (pc + 1) ls (.int (m_thr u i.toNatClampNeg) :: rest))) : W p l e R s m args below meth c H locs cells slots Q (F0 m pc ls (.int i :: .ref (ad 4) :: rest)) :=
  va_iald C.1 C.2.1 hK hw.1 4 0 rfl rfl hi hdg kk
theorem mt_4 (C : CallFix p m c cc nL s args Ts own) (hK : va_K D vwCl (mT cI cJ) s) (hw : MW D ad cI cJ H0 H locs u) {i : Int32} {x : Int32} (hi : vp_in i 12) (hdg : decode cc pc = .ok (.iastore, 1)) (kk : ∀ (H1 : Heap) (locs1 : List Loc), MW D ad cI cJ H0 H1 locs1 (ms_thr u (upd (m_thr u) i.toNatClampNeg x)) → W p l e R s m args below meth c H1 locs1 cells slots Q (F0 m (pc + 1) ls rest)) : W p l e R s m args below meth c H locs cells slots Q (F0 m pc ls (.int x :: .int i :: .ref (ad 4) :: rest)) :=
  va_iast C.1 C.2.1 hK hw.1 hw.2.1 hw.2.2 4 0 rfl rfl hi hdg (fun H1 locs1 h1 h2 h3 => kk H1 locs1 ⟨h1, h2, h3⟩)
theorem ml_5 (C : CallFix p m c cc nL s args Ts own) (hK : va_K D vwCl (mT cI cJ) s) (hw : MW D ad cI cJ H0 H locs u) {i : Int32} (hi : vp_in i 200) (hdg : decode cc pc = .ok (.iaload, 1)) (kk : W p l e R s m args below meth c H locs cells slots Q (F0 m (pc + 1) ls (.int (m_sky u i.toNatClampNeg) :: rest))) : W p l e R s m args below meth c H locs cells slots Q (F0 m pc ls (.int i :: .ref (ad 5) :: rest)) :=
  va_iald C.1 C.2.1 hK hw.1 5 0 rfl rfl hi hdg kk
theorem mt_5 (C : CallFix p m c cc nL s args Ts own) (hK : va_K D vwCl (mT cI cJ) s) (hw : MW D ad cI cJ H0 H locs u) {i : Int32} {x : Int32} (hi : vp_in i 200) (hdg : decode cc pc = .ok (.iastore, 1)) (kk : ∀ (H1 : Heap) (locs1 : List Loc), MW D ad cI cJ H0 H1 locs1 (ms_sky u (upd (m_sky u) i.toNatClampNeg x)) → W p l e R s m args below meth c H1 locs1 cells slots Q (F0 m (pc + 1) ls rest)) : W p l e R s m args below meth c H locs cells slots Q (F0 m pc ls (.int x :: .int i :: .ref (ad 5) :: rest)) :=
  va_iast C.1 C.2.1 hK hw.1 hw.2.1 hw.2.2 5 0 rfl rfl hi hdg (fun H1 locs1 h1 h2 h3 => kk H1 locs1 ⟨h1, h2, h3⟩)
theorem ml_6 (C : CallFix p m c cc nL s args Ts own) (hK : va_K D vwCl (mT cI cJ) s) (hw : MW D ad cI cJ H0 H locs u) {i : Int32} (hi : vp_in i 200) (hdg : decode cc pc = .ok (.laload, 1)) (kk : W p l e R s m args below meth c H locs cells slots Q (F0 m (pc + 1) ls (.long (m_sdg u i.toNatClampNeg) :: rest))) : W p l e R s m args below meth c H locs cells slots Q (F0 m pc ls (.int i :: .ref (ad 6) :: rest)) :=
  va_lald C.1 C.2.1 hK hw.1 6 1 rfl rfl hi hdg kk
theorem mt_6 (C : CallFix p m c cc nL s args Ts own) (hK : va_K D vwCl (mT cI cJ) s) (hw : MW D ad cI cJ H0 H locs u) {i : Int32} {x : Int64} (hi : vp_in i 200) (hdg : decode cc pc = .ok (.lastore, 1)) (kk : ∀ (H1 : Heap) (locs1 : List Loc), MW D ad cI cJ H0 H1 locs1 (ms_sdg u (vp_updL (m_sdg u) i.toNatClampNeg x)) → W p l e R s m args below meth c H1 locs1 cells slots Q (F0 m (pc + 1) ls rest)) : W p l e R s m args below meth c H locs cells slots Q (F0 m pc ls (.long x :: .int i :: .ref (ad 6) :: rest)) :=
  va_last C.1 C.2.1 hK hw.1 hw.2.1 hw.2.2 6 1 rfl rfl hi hdg (fun H1 locs1 h1 h2 h3 => kk H1 locs1 ⟨h1, h2, h3⟩)
theorem ml_7 (C : CallFix p m c cc nL s args Ts own) (hK : va_K D vwCl (mT cI cJ) s) (hw : MW D ad cI cJ H0 H locs u) {i : Int32} (hi : vp_in i 442) (hdg : decode cc pc = .ok (.laload, 1)) (kk : W p l e R s m args below meth c H locs cells slots Q (F0 m (pc + 1) ls (.long (m_cal u i.toNatClampNeg) :: rest))) : W p l e R s m args below meth c H locs cells slots Q (F0 m pc ls (.int i :: .ref (ad 7) :: rest)) :=
  va_lald C.1 C.2.1 hK hw.1 7 1 rfl rfl hi hdg kk
theorem mt_7 (C : CallFix p m c cc nL s args Ts own) (hK : va_K D vwCl (mT cI cJ) s) (hw : MW D ad cI cJ H0 H locs u) {i : Int32} {x : Int64} (hi : vp_in i 442) (hdg : decode cc pc = .ok (.lastore, 1)) (kk : ∀ (H1 : Heap) (locs1 : List Loc), MW D ad cI cJ H0 H1 locs1 (ms_cal u (vp_updL (m_cal u) i.toNatClampNeg x)) → W p l e R s m args below meth c H1 locs1 cells slots Q (F0 m (pc + 1) ls rest)) : W p l e R s m args below meth c H locs cells slots Q (F0 m pc ls (.long x :: .int i :: .ref (ad 7) :: rest)) :=
  va_last C.1 C.2.1 hK hw.1 hw.2.1 hw.2.2 7 1 rfl rfl hi hdg (fun H1 locs1 h1 h2 h3 => kk H1 locs1 ⟨h1, h2, h3⟩)
theorem ml_8 (C : CallFix p m c cc nL s args Ts own) (hK : va_K D vwCl (mT cI cJ) s) (hw : MW D ad cI cJ H0 H locs u) {i : Int32} (hi : vp_in i 12) (hdg : decode cc pc = .ok (.iaload, 1)) (kk : W p l e R s m args below meth c H locs cells slots Q (F0 m (pc + 1) ls (.int (m_min u i.toNatClampNeg) :: rest))) : W p l e R s m args below meth c H locs cells slots Q (F0 m pc ls (.int i :: .ref (ad 8) :: rest)) :=
  va_iald C.1 C.2.1 hK hw.1 8 0 rfl rfl hi hdg kk
theorem mt_8 (C : CallFix p m c cc nL s args Ts own) (hK : va_K D vwCl (mT cI cJ) s) (hw : MW D ad cI cJ H0 H locs u) {i : Int32} {x : Int32} (hi : vp_in i 12) (hdg : decode cc pc = .ok (.iastore, 1)) (kk : ∀ (H1 : Heap) (locs1 : List Loc), MW D ad cI cJ H0 H1 locs1 (ms_min u (upd (m_min u) i.toNatClampNeg x)) → W p l e R s m args below meth c H1 locs1 cells slots Q (F0 m (pc + 1) ls rest)) : W p l e R s m args below meth c H locs cells slots Q (F0 m pc ls (.int x :: .int i :: .ref (ad 8) :: rest)) :=
  va_iast C.1 C.2.1 hK hw.1 hw.2.1 hw.2.2 8 0 rfl rfl hi hdg (fun H1 locs1 h1 h2 h3 => kk H1 locs1 ⟨h1, h2, h3⟩)
theorem ml_9 (C : CallFix p m c cc nL s args Ts own) (hK : va_K D vwCl (mT cI cJ) s) (hw : MW D ad cI cJ H0 H locs u) {i : Int32} (hi : vp_in i 180) (hdg : decode cc pc = .ok (.iaload, 1)) (kk : W p l e R s m args below meth c H locs cells slots Q (F0 m (pc + 1) ls (.int (m_evr u i.toNatClampNeg) :: rest))) : W p l e R s m args below meth c H locs cells slots Q (F0 m pc ls (.int i :: .ref (ad 9) :: rest)) :=
  va_iald C.1 C.2.1 hK hw.1 9 0 rfl rfl hi hdg kk
theorem mt_9 (C : CallFix p m c cc nL s args Ts own) (hK : va_K D vwCl (mT cI cJ) s) (hw : MW D ad cI cJ H0 H locs u) {i : Int32} {x : Int32} (hi : vp_in i 180) (hdg : decode cc pc = .ok (.iastore, 1)) (kk : ∀ (H1 : Heap) (locs1 : List Loc), MW D ad cI cJ H0 H1 locs1 (ms_evr u (upd (m_evr u) i.toNatClampNeg x)) → W p l e R s m args below meth c H1 locs1 cells slots Q (F0 m (pc + 1) ls rest)) : W p l e R s m args below meth c H locs cells slots Q (F0 m pc ls (.int x :: .int i :: .ref (ad 9) :: rest)) :=
  va_iast C.1 C.2.1 hK hw.1 hw.2.1 hw.2.2 9 0 rfl rfl hi hdg (fun H1 locs1 h1 h2 h3 => kk H1 locs1 ⟨h1, h2, h3⟩)
theorem ml_10 (C : CallFix p m c cc nL s args Ts own) (hK : va_K D vwCl (mT cI cJ) s) (hw : MW D ad cI cJ H0 H locs u) {i : Int32} (hi : vp_in i 12) (hdg : decode cc pc = .ok (.laload, 1)) (kk : W p l e R s m args below meth c H locs cells slots Q (F0 m (pc + 1) ls (.long (m_bef u i.toNatClampNeg) :: rest))) : W p l e R s m args below meth c H locs cells slots Q (F0 m pc ls (.int i :: .ref (ad 10) :: rest)) :=
  va_lald C.1 C.2.1 hK hw.1 10 1 rfl rfl hi hdg kk
theorem mt_10 (C : CallFix p m c cc nL s args Ts own) (hK : va_K D vwCl (mT cI cJ) s) (hw : MW D ad cI cJ H0 H locs u) {i : Int32} {x : Int64} (hi : vp_in i 12) (hdg : decode cc pc = .ok (.lastore, 1)) (kk : ∀ (H1 : Heap) (locs1 : List Loc), MW D ad cI cJ H0 H1 locs1 (ms_bef u (vp_updL (m_bef u) i.toNatClampNeg x)) → W p l e R s m args below meth c H1 locs1 cells slots Q (F0 m (pc + 1) ls rest)) : W p l e R s m args below meth c H locs cells slots Q (F0 m pc ls (.long x :: .int i :: .ref (ad 10) :: rest)) :=
  va_last C.1 C.2.1 hK hw.1 hw.2.1 hw.2.2 10 1 rfl rfl hi hdg (fun H1 locs1 h1 h2 h3 => kk H1 locs1 ⟨h1, h2, h3⟩)
end MR
end
section
section XMC
variable {p : Program} {l : Launch} {e : Env} {R : Room} {s : State} {m : MethodId} {args : Array Value} {below : List Frame} {meth : Method} {c : Code} {H : Heap} {locs : List Loc} {cells slots : Nat} {Q : State → Prop}
variable {cc : ByteArray} {nL : Nat} {Ts : List Cond} {own : String} {pc index : Nat} {ls : Array Slot} {rest st0 : List Value} {D : va_G} {ad : Nat → Nat} {cI cJ cR : ClassId} {H0 : Heap}
theorem xcVi (C : CallFix p m c cc nL s args Ts own) (hK : va_K D vwCl (xT cI cJ cR) s) {u u1 : XS} (hw : XW D ad cI cJ cR H0 H locs u) {r1 : Int32} {y : MethodName} {ws : List Cond} {rm : Room} {bytes : ByteArray} {maxL n : Nat} {ret : Option FieldType} {b : Nat} {Cn : String} {As : List Value} (hM : Met l y ws rm (va_Pc (.ref b :: As) (XB D ad cI cJ cR u)) (va_Qi (S := XS) (fun r u2 => r = r1 ∧ u2 = u1) (XB D ad cI cJ cR) (AX ad)) 0 0 (AX ad)) (cw : CallW R s args own Cn index y bytes maxL ret ws rm 0 0 n) (recv : ∃ cell : Cell, H[b]? = some cell ∧ cell.vm.isStatics = false ∧ s.vm.findClass Cn = some cell.cls) (hn : As.length = n) (hsz : ls.size = nL) (hst : st0 = As.reverse ++ .ref b :: rest) (hW : (rest.map fun v => v.category).sum ≤ 8) (hdg : decode cc pc = .ok (.invokevirtual index, 3)) (kk : ∀ (H1 : Heap) (locs1 : List Loc), XW D ad cI cJ cR H0 H1 locs1 u1 → W p l e R s m args below meth c H1 locs1 0 0 Q (F0 m (pc + 3) ls (.int r1 :: rest))) : W p l e R s m args below meth c H locs 0 0 Q (F0 m pc ls st0) := by
  refine va_calli (va_runV (As := As) (rest := rest) C hM cw ⟨XB_blind, recv, fun U hU hW1 => ⟨rfl, by rw [hU]; exact hw.1, va_K.moved hW1.alike hK, hw.2.1⟩⟩ rfl hn hsz hst (lv_room hW) hdg ⟨Nat.zero_le _, Nat.zero_le _⟩) hw.2.2 (fun _ _ h => h) (fun _ h => h) (fun r u2 t H1 locs1 ht hvm hq hB hz hk hS => ?_)
  obtain ⟨rfl, rfl⟩ := hq
  subst ht
  exact kk _ locs1 ⟨hB.1, hB.2.2, hS⟩
theorem xcSi (C : CallFix p m c cc nL s args Ts own) (hK : va_K D vwCl (xT cI cJ cR) s) {u u1 : XS} (hw : XW D ad cI cJ cR H0 H locs u) {r1 : Int32} {y : MethodName} {ws : List Cond} {rm : Room} {bytes : ByteArray} {maxL n : Nat} {ret : Option FieldType} {As : List Value} (hM : Met l y ws rm (va_Pc (As) (XB D ad cI cJ cR u)) (va_Qi (S := XS) (fun r u2 => r = r1 ∧ u2 = u1) (XB D ad cI cJ cR) (AX ad)) 0 0 (AX ad)) (cw : CallB R s args own index y bytes maxL ret ws rm 0 0 n ∧ (Cond.static y).before args s = true) (hn : As.length = n) (hsz : ls.size = nL) (hst : st0 = As.reverse ++ rest) (hW : (rest.map fun v => v.category).sum ≤ 8) (hdg : decode cc pc = .ok (.invokestatic index, 3)) (kk : ∀ (H1 : Heap) (locs1 : List Loc), XW D ad cI cJ cR H0 H1 locs1 u1 → W p l e R s m args below meth c H1 locs1 0 0 Q (F0 m (pc + 3) ls (.int r1 :: rest))) : W p l e R s m args below meth c H locs 0 0 Q (F0 m pc ls st0) := by
  refine va_calli (va_runS (As := As) (rest := rest) C hM cw ⟨XB_blind, fun U hU hW1 => ⟨rfl, by rw [hU]; exact hw.1, va_K.moved hW1.alike hK, hw.2.1⟩⟩ rfl hn hsz hst (lv_room hW) hdg ⟨Nat.zero_le _, Nat.zero_le _⟩) hw.2.2 (fun _ _ h => h) (fun _ h => h) (fun r u2 t H1 locs1 ht hvm hq hB hz hk hS => ?_)
  obtain ⟨rfl, rfl⟩ := hq
  subst ht
  exact kk _ locs1 ⟨hB.1, hB.2.2, hS⟩
theorem xcVl (C : CallFix p m c cc nL s args Ts own) (hK : va_K D vwCl (xT cI cJ cR) s) {u u1 : XS} (hw : XW D ad cI cJ cR H0 H locs u) {r1 : Int64} {y : MethodName} {ws : List Cond} {rm : Room} {bytes : ByteArray} {maxL n : Nat} {ret : Option FieldType} {b : Nat} {Cn : String} {As : List Value} (hM : Met l y ws rm (va_Pc (.ref b :: As) (XB D ad cI cJ cR u)) (va_Ql (S := XS) (fun r u2 => r = r1 ∧ u2 = u1) (XB D ad cI cJ cR) (AX ad)) 0 0 (AX ad)) (cw : CallW R s args own Cn index y bytes maxL ret ws rm 0 0 n) (recv : ∃ cell : Cell, H[b]? = some cell ∧ cell.vm.isStatics = false ∧ s.vm.findClass Cn = some cell.cls) (hn : As.length = n) (hsz : ls.size = nL) (hst : st0 = As.reverse ++ .ref b :: rest) (hW : (rest.map fun v => v.category).sum ≤ 8) (hdg : decode cc pc = .ok (.invokevirtual index, 3)) (kk : ∀ (H1 : Heap) (locs1 : List Loc), XW D ad cI cJ cR H0 H1 locs1 u1 → W p l e R s m args below meth c H1 locs1 0 0 Q (F0 m (pc + 3) ls (.long r1 :: rest))) : W p l e R s m args below meth c H locs 0 0 Q (F0 m pc ls st0) := by
  refine va_calll (va_runV (As := As) (rest := rest) C hM cw ⟨XB_blind, recv, fun U hU hW1 => ⟨rfl, by rw [hU]; exact hw.1, va_K.moved hW1.alike hK, hw.2.1⟩⟩ rfl hn hsz hst (lv_room hW) hdg ⟨Nat.zero_le _, Nat.zero_le _⟩) hw.2.2 (fun _ _ h => h) (fun _ h => h) (fun r u2 t H1 locs1 ht hvm hq hB hz hk hS => ?_)
  obtain ⟨rfl, rfl⟩ := hq
  subst ht
  exact kk _ locs1 ⟨hB.1, hB.2.2, hS⟩
theorem xcSl (C : CallFix p m c cc nL s args Ts own) (hK : va_K D vwCl (xT cI cJ cR) s) {u u1 : XS} (hw : XW D ad cI cJ cR H0 H locs u) {r1 : Int64} {y : MethodName} {ws : List Cond} {rm : Room} {bytes : ByteArray} {maxL n : Nat} {ret : Option FieldType} {As : List Value} (hM : Met l y ws rm (va_Pc (As) (XB D ad cI cJ cR u)) (va_Ql (S := XS) (fun r u2 => r = r1 ∧ u2 = u1) (XB D ad cI cJ cR) (AX ad)) 0 0 (AX ad)) (cw : CallB R s args own index y bytes maxL ret ws rm 0 0 n ∧ (Cond.static y).before args s = true) (hn : As.length = n) (hsz : ls.size = nL) (hst : st0 = As.reverse ++ rest) (hW : (rest.map fun v => v.category).sum ≤ 8) (hdg : decode cc pc = .ok (.invokestatic index, 3)) (kk : ∀ (H1 : Heap) (locs1 : List Loc), XW D ad cI cJ cR H0 H1 locs1 u1 → W p l e R s m args below meth c H1 locs1 0 0 Q (F0 m (pc + 3) ls (.long r1 :: rest))) : W p l e R s m args below meth c H locs 0 0 Q (F0 m pc ls st0) := by
  refine va_calll (va_runS (As := As) (rest := rest) C hM cw ⟨XB_blind, fun U hU hW1 => ⟨rfl, by rw [hU]; exact hw.1, va_K.moved hW1.alike hK, hw.2.1⟩⟩ rfl hn hsz hst (lv_room hW) hdg ⟨Nat.zero_le _, Nat.zero_le _⟩) hw.2.2 (fun _ _ h => h) (fun _ h => h) (fun r u2 t H1 locs1 ht hvm hq hB hz hk hS => ?_)
  obtain ⟨rfl, rfl⟩ := hq
  subst ht
  exact kk _ locs1 ⟨hB.1, hB.2.2, hS⟩
theorem xcVv (C : CallFix p m c cc nL s args Ts own) (hK : va_K D vwCl (xT cI cJ cR) s) {u u1 : XS} (hw : XW D ad cI cJ cR H0 H locs u) {y : MethodName} {ws : List Cond} {rm : Room} {bytes : ByteArray} {maxL n : Nat} {ret : Option FieldType} {b : Nat} {Cn : String} {As : List Value} (hM : Met l y ws rm (va_Pc (.ref b :: As) (XB D ad cI cJ cR u)) (va_Qv (S := XS) (fun u2 => u2 = u1) (XB D ad cI cJ cR) (AX ad)) 0 0 (AX ad)) (cw : CallW R s args own Cn index y bytes maxL ret ws rm 0 0 n) (recv : ∃ cell : Cell, H[b]? = some cell ∧ cell.vm.isStatics = false ∧ s.vm.findClass Cn = some cell.cls) (hn : As.length = n) (hsz : ls.size = nL) (hst : st0 = As.reverse ++ .ref b :: rest) (hW : (rest.map fun v => v.category).sum ≤ 8) (hdg : decode cc pc = .ok (.invokevirtual index, 3)) (kk : ∀ (H1 : Heap) (locs1 : List Loc), XW D ad cI cJ cR H0 H1 locs1 u1 → W p l e R s m args below meth c H1 locs1 0 0 Q (F0 m (pc + 3) ls (rest))) : W p l e R s m args below meth c H locs 0 0 Q (F0 m pc ls st0) := by
  refine va_callv (va_runV (As := As) (rest := rest) C hM cw ⟨XB_blind, recv, fun U hU hW1 => ⟨rfl, by rw [hU]; exact hw.1, va_K.moved hW1.alike hK, hw.2.1⟩⟩ rfl hn hsz hst (lv_room hW) hdg ⟨Nat.zero_le _, Nat.zero_le _⟩) hw.2.2 (fun _ _ h => h) (fun _ h => h) (fun u2 t H1 locs1 ht hvm hq hB hz hk hS => ?_)
  subst hq
  subst ht
  exact kk _ locs1 ⟨hB.1, hB.2.2, hS⟩
theorem xcSv (C : CallFix p m c cc nL s args Ts own) (hK : va_K D vwCl (xT cI cJ cR) s) {u u1 : XS} (hw : XW D ad cI cJ cR H0 H locs u) {y : MethodName} {ws : List Cond} {rm : Room} {bytes : ByteArray} {maxL n : Nat} {ret : Option FieldType} {As : List Value} (hM : Met l y ws rm (va_Pc (As) (XB D ad cI cJ cR u)) (va_Qv (S := XS) (fun u2 => u2 = u1) (XB D ad cI cJ cR) (AX ad)) 0 0 (AX ad)) (cw : CallB R s args own index y bytes maxL ret ws rm 0 0 n ∧ (Cond.static y).before args s = true) (hn : As.length = n) (hsz : ls.size = nL) (hst : st0 = As.reverse ++ rest) (hW : (rest.map fun v => v.category).sum ≤ 8) (hdg : decode cc pc = .ok (.invokestatic index, 3)) (kk : ∀ (H1 : Heap) (locs1 : List Loc), XW D ad cI cJ cR H0 H1 locs1 u1 → W p l e R s m args below meth c H1 locs1 0 0 Q (F0 m (pc + 3) ls (rest))) : W p l e R s m args below meth c H locs 0 0 Q (F0 m pc ls st0) := by
  refine va_callv (va_runS (As := As) (rest := rest) C hM cw ⟨XB_blind, fun U hU hW1 => ⟨rfl, by rw [hU]; exact hw.1, va_K.moved hW1.alike hK, hw.2.1⟩⟩ rfl hn hsz hst (lv_room hW) hdg ⟨Nat.zero_le _, Nat.zero_le _⟩) hw.2.2 (fun _ _ h => h) (fun _ h => h) (fun u2 t H1 locs1 ht hvm hq hB hz hk hS => ?_)
  subst hq
  subst ht
  exact kk _ locs1 ⟨hB.1, hB.2.2, hS⟩
theorem xret_i (C : CallFix p m c cc nL s args Ts own) (hlocks : meth.locks = false) (hK : va_K D vwCl (xT cI cJ cR) s) {u : XS} (hw : XW D ad cI cJ cR s.heap H locs u) {v : Int32} (hr : meth.sig.returnType = some .int) {r1 : Int32} {u1 : XS} (hG : v = r1 ∧ u = u1) (hdg : decode cc pc = .ok (.ireturn, 1)) : W p l e R s m args below meth c H locs 0 0 (MQ below (va_Qi (S := XS) (fun r u2 => r = r1 ∧ u2 = u1) (XB D ad cI cJ cR) (AX ad)) args s 0 0 (AX ad)) (F0 m pc ls [.int v]) :=
  W.iret C.1 C.2.1 hr (fun t ht hW => ⟨⟨v, u, rfl, hG, by rw [ht]; exact hw.1, va_K.moved hW.alike hK, hw.2.1⟩, hw.2.2.F ht⟩) hw.2.2.2.2 hdg hlocks
theorem xret_z (C : CallFix p m c cc nL s args Ts own) (hlocks : meth.locks = false) (hK : va_K D vwCl (xT cI cJ cR) s) {u : XS} (hw : XW D ad cI cJ cR s.heap H locs u) {v : Int32} (hr : meth.sig.returnType = some .boolean) (hnz : narrow .boolean (.int v) = .int v) {r1 : Int32} {u1 : XS} (hG : v = r1 ∧ u = u1) (hdg : decode cc pc = .ok (.ireturn, 1)) : W p l e R s m args below meth c H locs 0 0 (MQ below (va_Qi (S := XS) (fun r u2 => r = r1 ∧ u2 = u1) (XB D ad cI cJ cR) (AX ad)) args s 0 0 (AX ad)) (F0 m pc ls [.int v]) :=
  W.zret C.1 C.2.1 hr hnz (fun t ht hW => ⟨⟨v, u, rfl, hG, by rw [ht]; exact hw.1, va_K.moved hW.alike hK, hw.2.1⟩, hw.2.2.F ht⟩) hw.2.2.2.2 hdg hlocks
theorem xret_l (C : CallFix p m c cc nL s args Ts own) (hlocks : meth.locks = false) (hK : va_K D vwCl (xT cI cJ cR) s) {u : XS} (hw : XW D ad cI cJ cR s.heap H locs u) {v : Int64} (hr : meth.sig.returnType = some .long) {r1 : Int64} {u1 : XS} (hG : v = r1 ∧ u = u1) (hdg : decode cc pc = .ok (.lreturn, 1)) : W p l e R s m args below meth c H locs 0 0 (MQ below (va_Ql (S := XS) (fun r u2 => r = r1 ∧ u2 = u1) (XB D ad cI cJ cR) (AX ad)) args s 0 0 (AX ad)) (F0 m pc ls [.long v]) :=
  W.lret C.1 C.2.1 hr (fun t ht hW => ⟨⟨v, u, rfl, hG, by rw [ht]; exact hw.1, va_K.moved hW.alike hK, hw.2.1⟩, hw.2.2.F ht⟩) hw.2.2.2.2 hdg hlocks
theorem xret_v (C : CallFix p m c cc nL s args Ts own) (hlocks : meth.locks = false) (hK : va_K D vwCl (xT cI cJ cR) s) {u : XS} (hw : XW D ad cI cJ cR s.heap H locs u) (hr : meth.sig.returnType = none) {u1 : XS} (hG : u = u1) (hdg : decode cc pc = .ok (.return_, 1)) : W p l e R s m args below meth c H locs 0 0 (MQ below (va_Qv (S := XS) (fun u2 => u2 = u1) (XB D ad cI cJ cR) (AX ad)) args s 0 0 (AX ad)) (F0 m pc ls []) :=
  W.vret C.1 C.2.1 hr (fun t ht hW => ⟨⟨u, rfl, hG, by rw [ht]; exact hw.1, va_K.moved hW.alike hK, hw.2.1⟩, hw.2.2.F ht⟩) hw.2.2.2.2 hdg hlocks
theorem mcVi (C : CallFix p m c cc nL s args Ts own) (hK : va_K D vwCl (mT cI cJ) s) {u u1 : MS} (hw : MW D ad cI cJ H0 H locs u) {r1 : Int32} {y : MethodName} {ws : List Cond} {rm : Room} {bytes : ByteArray} {maxL n : Nat} {ret : Option FieldType} {b : Nat} {Cn : String} {As : List Value} (hM : Met l y ws rm (va_Pc (.ref b :: As) (MB D ad cI cJ u)) (va_Qi (S := MS) (fun r u2 => r = r1 ∧ u2 = u1) (MB D ad cI cJ) (AM ad)) 0 0 (AM ad)) (cw : CallW R s args own Cn index y bytes maxL ret ws rm 0 0 n) (recv : ∃ cell : Cell, H[b]? = some cell ∧ cell.vm.isStatics = false ∧ s.vm.findClass Cn = some cell.cls) (hn : As.length = n) (hsz : ls.size = nL) (hst : st0 = As.reverse ++ .ref b :: rest) (hW : (rest.map fun v => v.category).sum ≤ 8) (hdg : decode cc pc = .ok (.invokevirtual index, 3)) (kk : ∀ (H1 : Heap) (locs1 : List Loc), MW D ad cI cJ H0 H1 locs1 u1 → W p l e R s m args below meth c H1 locs1 0 0 Q (F0 m (pc + 3) ls (.int r1 :: rest))) : W p l e R s m args below meth c H locs 0 0 Q (F0 m pc ls st0) := by
  refine va_calli (va_runV (As := As) (rest := rest) C hM cw ⟨MB_blind, recv, fun U hU hW1 => ⟨rfl, by rw [hU]; exact hw.1, va_K.moved hW1.alike hK, hw.2.1⟩⟩ rfl hn hsz hst (lv_room hW) hdg ⟨Nat.zero_le _, Nat.zero_le _⟩) hw.2.2 (fun _ _ h => h) (fun _ h => h) (fun r u2 t H1 locs1 ht hvm hq hB hz hk hS => ?_)
  obtain ⟨rfl, rfl⟩ := hq
  subst ht
  exact kk _ locs1 ⟨hB.1, hB.2.2, hS⟩
theorem mcSi (C : CallFix p m c cc nL s args Ts own) (hK : va_K D vwCl (mT cI cJ) s) {u u1 : MS} (hw : MW D ad cI cJ H0 H locs u) {r1 : Int32} {y : MethodName} {ws : List Cond} {rm : Room} {bytes : ByteArray} {maxL n : Nat} {ret : Option FieldType} {As : List Value} (hM : Met l y ws rm (va_Pc (As) (MB D ad cI cJ u)) (va_Qi (S := MS) (fun r u2 => r = r1 ∧ u2 = u1) (MB D ad cI cJ) (AM ad)) 0 0 (AM ad)) (cw : CallB R s args own index y bytes maxL ret ws rm 0 0 n ∧ (Cond.static y).before args s = true) (hn : As.length = n) (hsz : ls.size = nL) (hst : st0 = As.reverse ++ rest) (hW : (rest.map fun v => v.category).sum ≤ 8) (hdg : decode cc pc = .ok (.invokestatic index, 3)) (kk : ∀ (H1 : Heap) (locs1 : List Loc), MW D ad cI cJ H0 H1 locs1 u1 → W p l e R s m args below meth c H1 locs1 0 0 Q (F0 m (pc + 3) ls (.int r1 :: rest))) : W p l e R s m args below meth c H locs 0 0 Q (F0 m pc ls st0) := by
  refine va_calli (va_runS (As := As) (rest := rest) C hM cw ⟨MB_blind, fun U hU hW1 => ⟨rfl, by rw [hU]; exact hw.1, va_K.moved hW1.alike hK, hw.2.1⟩⟩ rfl hn hsz hst (lv_room hW) hdg ⟨Nat.zero_le _, Nat.zero_le _⟩) hw.2.2 (fun _ _ h => h) (fun _ h => h) (fun r u2 t H1 locs1 ht hvm hq hB hz hk hS => ?_)
  obtain ⟨rfl, rfl⟩ := hq
  subst ht
  exact kk _ locs1 ⟨hB.1, hB.2.2, hS⟩
theorem mcVl (C : CallFix p m c cc nL s args Ts own) (hK : va_K D vwCl (mT cI cJ) s) {u u1 : MS} (hw : MW D ad cI cJ H0 H locs u) {r1 : Int64} {y : MethodName} {ws : List Cond} {rm : Room} {bytes : ByteArray} {maxL n : Nat} {ret : Option FieldType} {b : Nat} {Cn : String} {As : List Value} (hM : Met l y ws rm (va_Pc (.ref b :: As) (MB D ad cI cJ u)) (va_Ql (S := MS) (fun r u2 => r = r1 ∧ u2 = u1) (MB D ad cI cJ) (AM ad)) 0 0 (AM ad)) (cw : CallW R s args own Cn index y bytes maxL ret ws rm 0 0 n) (recv : ∃ cell : Cell, H[b]? = some cell ∧ cell.vm.isStatics = false ∧ s.vm.findClass Cn = some cell.cls) (hn : As.length = n) (hsz : ls.size = nL) (hst : st0 = As.reverse ++ .ref b :: rest) (hW : (rest.map fun v => v.category).sum ≤ 8) (hdg : decode cc pc = .ok (.invokevirtual index, 3)) (kk : ∀ (H1 : Heap) (locs1 : List Loc), MW D ad cI cJ H0 H1 locs1 u1 → W p l e R s m args below meth c H1 locs1 0 0 Q (F0 m (pc + 3) ls (.long r1 :: rest))) : W p l e R s m args below meth c H locs 0 0 Q (F0 m pc ls st0) := by
  refine va_calll (va_runV (As := As) (rest := rest) C hM cw ⟨MB_blind, recv, fun U hU hW1 => ⟨rfl, by rw [hU]; exact hw.1, va_K.moved hW1.alike hK, hw.2.1⟩⟩ rfl hn hsz hst (lv_room hW) hdg ⟨Nat.zero_le _, Nat.zero_le _⟩) hw.2.2 (fun _ _ h => h) (fun _ h => h) (fun r u2 t H1 locs1 ht hvm hq hB hz hk hS => ?_)
  obtain ⟨rfl, rfl⟩ := hq
  subst ht
  exact kk _ locs1 ⟨hB.1, hB.2.2, hS⟩
theorem mcSl (C : CallFix p m c cc nL s args Ts own) (hK : va_K D vwCl (mT cI cJ) s) {u u1 : MS} (hw : MW D ad cI cJ H0 H locs u) {r1 : Int64} {y : MethodName} {ws : List Cond} {rm : Room} {bytes : ByteArray} {maxL n : Nat} {ret : Option FieldType} {As : List Value} (hM : Met l y ws rm (va_Pc (As) (MB D ad cI cJ u)) (va_Ql (S := MS) (fun r u2 => r = r1 ∧ u2 = u1) (MB D ad cI cJ) (AM ad)) 0 0 (AM ad)) (cw : CallB R s args own index y bytes maxL ret ws rm 0 0 n ∧ (Cond.static y).before args s = true) (hn : As.length = n) (hsz : ls.size = nL) (hst : st0 = As.reverse ++ rest) (hW : (rest.map fun v => v.category).sum ≤ 8) (hdg : decode cc pc = .ok (.invokestatic index, 3)) (kk : ∀ (H1 : Heap) (locs1 : List Loc), MW D ad cI cJ H0 H1 locs1 u1 → W p l e R s m args below meth c H1 locs1 0 0 Q (F0 m (pc + 3) ls (.long r1 :: rest))) : W p l e R s m args below meth c H locs 0 0 Q (F0 m pc ls st0) := by
  refine va_calll (va_runS (As := As) (rest := rest) C hM cw ⟨MB_blind, fun U hU hW1 => ⟨rfl, by rw [hU]; exact hw.1, va_K.moved hW1.alike hK, hw.2.1⟩⟩ rfl hn hsz hst (lv_room hW) hdg ⟨Nat.zero_le _, Nat.zero_le _⟩) hw.2.2 (fun _ _ h => h) (fun _ h => h) (fun r u2 t H1 locs1 ht hvm hq hB hz hk hS => ?_)
  obtain ⟨rfl, rfl⟩ := hq
  subst ht
  exact kk _ locs1 ⟨hB.1, hB.2.2, hS⟩
theorem mcVv (C : CallFix p m c cc nL s args Ts own) (hK : va_K D vwCl (mT cI cJ) s) {u u1 : MS} (hw : MW D ad cI cJ H0 H locs u) {y : MethodName} {ws : List Cond} {rm : Room} {bytes : ByteArray} {maxL n : Nat} {ret : Option FieldType} {b : Nat} {Cn : String} {As : List Value} (hM : Met l y ws rm (va_Pc (.ref b :: As) (MB D ad cI cJ u)) (va_Qv (S := MS) (fun u2 => u2 = u1) (MB D ad cI cJ) (AM ad)) 0 0 (AM ad)) (cw : CallW R s args own Cn index y bytes maxL ret ws rm 0 0 n) (recv : ∃ cell : Cell, H[b]? = some cell ∧ cell.vm.isStatics = false ∧ s.vm.findClass Cn = some cell.cls) (hn : As.length = n) (hsz : ls.size = nL) (hst : st0 = As.reverse ++ .ref b :: rest) (hW : (rest.map fun v => v.category).sum ≤ 8) (hdg : decode cc pc = .ok (.invokevirtual index, 3)) (kk : ∀ (H1 : Heap) (locs1 : List Loc), MW D ad cI cJ H0 H1 locs1 u1 → W p l e R s m args below meth c H1 locs1 0 0 Q (F0 m (pc + 3) ls (rest))) : W p l e R s m args below meth c H locs 0 0 Q (F0 m pc ls st0) := by
  refine va_callv (va_runV (As := As) (rest := rest) C hM cw ⟨MB_blind, recv, fun U hU hW1 => ⟨rfl, by rw [hU]; exact hw.1, va_K.moved hW1.alike hK, hw.2.1⟩⟩ rfl hn hsz hst (lv_room hW) hdg ⟨Nat.zero_le _, Nat.zero_le _⟩) hw.2.2 (fun _ _ h => h) (fun _ h => h) (fun u2 t H1 locs1 ht hvm hq hB hz hk hS => ?_)
  subst hq
  subst ht
  exact kk _ locs1 ⟨hB.1, hB.2.2, hS⟩
theorem mcSv (C : CallFix p m c cc nL s args Ts own) (hK : va_K D vwCl (mT cI cJ) s) {u u1 : MS} (hw : MW D ad cI cJ H0 H locs u) {y : MethodName} {ws : List Cond} {rm : Room} {bytes : ByteArray} {maxL n : Nat} {ret : Option FieldType} {As : List Value} (hM : Met l y ws rm (va_Pc (As) (MB D ad cI cJ u)) (va_Qv (S := MS) (fun u2 => u2 = u1) (MB D ad cI cJ) (AM ad)) 0 0 (AM ad)) (cw : CallB R s args own index y bytes maxL ret ws rm 0 0 n ∧ (Cond.static y).before args s = true) (hn : As.length = n) (hsz : ls.size = nL) (hst : st0 = As.reverse ++ rest) (hW : (rest.map fun v => v.category).sum ≤ 8) (hdg : decode cc pc = .ok (.invokestatic index, 3)) (kk : ∀ (H1 : Heap) (locs1 : List Loc), MW D ad cI cJ H0 H1 locs1 u1 → W p l e R s m args below meth c H1 locs1 0 0 Q (F0 m (pc + 3) ls (rest))) : W p l e R s m args below meth c H locs 0 0 Q (F0 m pc ls st0) := by
  refine va_callv (va_runS (As := As) (rest := rest) C hM cw ⟨MB_blind, fun U hU hW1 => ⟨rfl, by rw [hU]; exact hw.1, va_K.moved hW1.alike hK, hw.2.1⟩⟩ rfl hn hsz hst (lv_room hW) hdg ⟨Nat.zero_le _, Nat.zero_le _⟩) hw.2.2 (fun _ _ h => h) (fun _ h => h) (fun u2 t H1 locs1 ht hvm hq hB hz hk hS => ?_)
  subst hq
  subst ht
  exact kk _ locs1 ⟨hB.1, hB.2.2, hS⟩
theorem mret_i (C : CallFix p m c cc nL s args Ts own) (hlocks : meth.locks = false) (hK : va_K D vwCl (mT cI cJ) s) {u : MS} (hw : MW D ad cI cJ s.heap H locs u) {v : Int32} (hr : meth.sig.returnType = some .int) {r1 : Int32} {u1 : MS} (hG : v = r1 ∧ u = u1) (hdg : decode cc pc = .ok (.ireturn, 1)) : W p l e R s m args below meth c H locs 0 0 (MQ below (va_Qi (S := MS) (fun r u2 => r = r1 ∧ u2 = u1) (MB D ad cI cJ) (AM ad)) args s 0 0 (AM ad)) (F0 m pc ls [.int v]) :=
  W.iret C.1 C.2.1 hr (fun t ht hW => ⟨⟨v, u, rfl, hG, by rw [ht]; exact hw.1, va_K.moved hW.alike hK, hw.2.1⟩, hw.2.2.F ht⟩) hw.2.2.2.2 hdg hlocks
theorem mret_z (C : CallFix p m c cc nL s args Ts own) (hlocks : meth.locks = false) (hK : va_K D vwCl (mT cI cJ) s) {u : MS} (hw : MW D ad cI cJ s.heap H locs u) {v : Int32} (hr : meth.sig.returnType = some .boolean) (hnz : narrow .boolean (.int v) = .int v) {r1 : Int32} {u1 : MS} (hG : v = r1 ∧ u = u1) (hdg : decode cc pc = .ok (.ireturn, 1)) : W p l e R s m args below meth c H locs 0 0 (MQ below (va_Qi (S := MS) (fun r u2 => r = r1 ∧ u2 = u1) (MB D ad cI cJ) (AM ad)) args s 0 0 (AM ad)) (F0 m pc ls [.int v]) :=
  W.zret C.1 C.2.1 hr hnz (fun t ht hW => ⟨⟨v, u, rfl, hG, by rw [ht]; exact hw.1, va_K.moved hW.alike hK, hw.2.1⟩, hw.2.2.F ht⟩) hw.2.2.2.2 hdg hlocks
theorem mret_l (C : CallFix p m c cc nL s args Ts own) (hlocks : meth.locks = false) (hK : va_K D vwCl (mT cI cJ) s) {u : MS} (hw : MW D ad cI cJ s.heap H locs u) {v : Int64} (hr : meth.sig.returnType = some .long) {r1 : Int64} {u1 : MS} (hG : v = r1 ∧ u = u1) (hdg : decode cc pc = .ok (.lreturn, 1)) : W p l e R s m args below meth c H locs 0 0 (MQ below (va_Ql (S := MS) (fun r u2 => r = r1 ∧ u2 = u1) (MB D ad cI cJ) (AM ad)) args s 0 0 (AM ad)) (F0 m pc ls [.long v]) :=
  W.lret C.1 C.2.1 hr (fun t ht hW => ⟨⟨v, u, rfl, hG, by rw [ht]; exact hw.1, va_K.moved hW.alike hK, hw.2.1⟩, hw.2.2.F ht⟩) hw.2.2.2.2 hdg hlocks
theorem mret_v (C : CallFix p m c cc nL s args Ts own) (hlocks : meth.locks = false) (hK : va_K D vwCl (mT cI cJ) s) {u : MS} (hw : MW D ad cI cJ s.heap H locs u) (hr : meth.sig.returnType = none) {u1 : MS} (hG : u = u1) (hdg : decode cc pc = .ok (.return_, 1)) : W p l e R s m args below meth c H locs 0 0 (MQ below (va_Qv (S := MS) (fun u2 => u2 = u1) (MB D ad cI cJ) (AM ad)) args s 0 0 (AM ad)) (F0 m pc ls []) :=
  W.vret C.1 C.2.1 hr (fun t ht hW => ⟨⟨u, rfl, hG, by rw [ht]; exact hw.1, va_K.moved hW.alike hK, hw.2.1⟩, hw.2.2.F ht⟩) hw.2.2.2.2 hdg hlocks
theorem xcVq (C : CallFix p m c cc nL s args Ts own) (hK : va_K D vwCl (xT cI cJ cR) s) {u u1 : XS} (hw : XW D ad cI cJ cR H0 H locs u) {r1 : Nat} {y : MethodName} {ws : List Cond} {rm : Room} {bytes : ByteArray} {maxL n : Nat} {ret : Option FieldType} {b : Nat} {Cn : String} {As : List Value} (hM : Met l y ws rm (va_Pc (.ref b :: As) (XB D ad cI cJ cR u)) (va_Qr (S := XS) (fun u2 => u2 = u1) (fun (u2 : XS) (a : Nat) (t : State) => a = ad (17 + r1) ∧ XB D ad cI cJ cR u2 t) (AX ad)) 0 0 (AX ad)) (cw : CallW R s args own Cn index y bytes maxL ret ws rm 0 0 n) (recv : ∃ cell : Cell, H[b]? = some cell ∧ cell.vm.isStatics = false ∧ s.vm.findClass Cn = some cell.cls) (hn : As.length = n) (hsz : ls.size = nL) (hst : st0 = As.reverse ++ .ref b :: rest) (hW : (rest.map fun v => v.category).sum ≤ 8) (hdg : decode cc pc = .ok (.invokevirtual index, 3)) (kk : ∀ (H1 : Heap) (locs1 : List Loc), XW D ad cI cJ cR H0 H1 locs1 u1 → W p l e R s m args below meth c H1 locs1 0 0 Q (F0 m (pc + 3) ls (.ref (ad (17 + r1)) :: rest))) : W p l e R s m args below meth c H locs 0 0 Q (F0 m pc ls st0) := by
  refine va_callr (va_runV (As := As) (rest := rest) C hM cw ⟨XB_blind, recv, fun U hU hW1 => ⟨rfl, by rw [hU]; exact hw.1, va_K.moved hW1.alike hK, hw.2.1⟩⟩ rfl hn hsz hst (lv_room hW) hdg ⟨Nat.zero_le _, Nat.zero_le _⟩) hw.2.2 (fun _ _ h => h) (fun _ h => h) (fun u2 a t H1 locs1 ht hvm hq hB hz hk hS => ?_)
  subst hq
  obtain ⟨rfl, hB⟩ := hB
  subst ht
  exact kk _ locs1 ⟨hB.1, hB.2.2, hS⟩
theorem xret_q (C : CallFix p m c cc nL s args Ts own) (hlocks : meth.locks = false) (hK : va_K D vwCl (xT cI cJ cR) s) {u : XS} (hw : XW D ad cI cJ cR s.heap H locs u) {v : Nat} (hr : meth.sig.returnType = some (.object "SignedCalls$Call")) {r1 : Nat} {u1 : XS} (hG : v = r1 ∧ u = u1) (hdg : decode cc pc = .ok (.areturn, 1)) : W p l e R s m args below meth c H locs 0 0 (MQ below (va_Qr (S := XS) (fun u2 => u2 = u1) (fun (u2 : XS) (a : Nat) (t : State) => a = ad (17 + r1) ∧ XB D ad cI cJ cR u2 t) (AX ad)) args s 0 0 (AX ad)) (F0 m pc ls [.ref (ad (17 + v))]) := by
  obtain ⟨rfl, rfl⟩ := hG
  exact W.aret C.1 C.2.1 hr (Or.inl ⟨_, rfl⟩) (Or.inr ⟨_, rfl⟩) (fun t ht hW => ⟨⟨u, ad (17 + v), rfl, rfl, rfl, by rw [ht]; exact hw.1, va_K.moved hW.alike hK, hw.2.1⟩, hw.2.2.F ht⟩) hw.2.2.2.2 hdg hlocks
theorem en_W {vs : List Value} {n : Nat} (h : (lg_sl vs).length ≤ n) (k : ∀ ls : Array Slot, lv_has ls n (lv_args 0 vs) → W p l e R s m args below meth c H locs cells slots Q (F0 m 0 ls [])) : W p l e R s m args below meth c H locs cells slots Q (entryFrame m vs.toArray n) := by
  rw [lg_entry_eq]
  exact k _ (lv_entry vs h)
end XMC
end
section
def f_J6_bitCount_0f7a4 (l0 : Int32) : Option Int32 := some ((((((((l0 - ((Int32.toUInt32 l0 >>> (Int32.toUInt32 (1 : Int32) &&& Int32.toUInt32 31)).toInt32 &&& (1431655765 : Int32))) &&& (858993459 : Int32)) + ((Int32.toUInt32 (l0 - ((Int32.toUInt32 l0 >>> (Int32.toUInt32 (1 : Int32) &&& Int32.toUInt32 31)).toInt32 &&& (1431655765 : Int32))) >>> (Int32.toUInt32 (2 : Int32) &&& Int32.toUInt32 31)).toInt32 &&& (858993459 : Int32))) + (Int32.toUInt32 (((l0 - ((Int32.toUInt32 l0 >>> (Int32.toUInt32 (1 : Int32) &&& Int32.toUInt32 31)).toInt32 &&& (1431655765 : Int32))) &&& (858993459 : Int32)) + ((Int32.toUInt32 (l0 - ((Int32.toUInt32 l0 >>> (Int32.toUInt32 (1 : Int32) &&& Int32.toUInt32 31)).toInt32 &&& (1431655765 : Int32))) >>> (Int32.toUInt32 (2 : Int32) &&& Int32.toUInt32 31)).toInt32 &&& (858993459 : Int32))) >>> (Int32.toUInt32 (4 : Int32) &&& Int32.toUInt32 31)).toInt32) &&& (252645135 : Int32)) + (Int32.toUInt32 (((((l0 - ((Int32.toUInt32 l0 >>> (Int32.toUInt32 (1 : Int32) &&& Int32.toUInt32 31)).toInt32 &&& (1431655765 : Int32))) &&& (858993459 : Int32)) + ((Int32.toUInt32 (l0 - ((Int32.toUInt32 l0 >>> (Int32.toUInt32 (1 : Int32) &&& Int32.toUInt32 31)).toInt32 &&& (1431655765 : Int32))) >>> (Int32.toUInt32 (2 : Int32) &&& Int32.toUInt32 31)).toInt32 &&& (858993459 : Int32))) + (Int32.toUInt32 (((l0 - ((Int32.toUInt32 l0 >>> (Int32.toUInt32 (1 : Int32) &&& Int32.toUInt32 31)).toInt32 &&& (1431655765 : Int32))) &&& (858993459 : Int32)) + ((Int32.toUInt32 (l0 - ((Int32.toUInt32 l0 >>> (Int32.toUInt32 (1 : Int32) &&& Int32.toUInt32 31)).toInt32 &&& (1431655765 : Int32))) >>> (Int32.toUInt32 (2 : Int32) &&& Int32.toUInt32 31)).toInt32 &&& (858993459 : Int32))) >>> (Int32.toUInt32 (4 : Int32) &&& Int32.toUInt32 31)).toInt32) &&& (252645135 : Int32)) >>> (Int32.toUInt32 (8 : Int32) &&& Int32.toUInt32 31)).toInt32) + (Int32.toUInt32 ((((((l0 - ((Int32.toUInt32 l0 >>> (Int32.toUInt32 (1 : Int32) &&& Int32.toUInt32 31)).toInt32 &&& (1431655765 : Int32))) &&& (858993459 : Int32)) + ((Int32.toUInt32 (l0 - ((Int32.toUInt32 l0 >>> (Int32.toUInt32 (1 : Int32) &&& Int32.toUInt32 31)).toInt32 &&& (1431655765 : Int32))) >>> (Int32.toUInt32 (2 : Int32) &&& Int32.toUInt32 31)).toInt32 &&& (858993459 : Int32))) + (Int32.toUInt32 (((l0 - ((Int32.toUInt32 l0 >>> (Int32.toUInt32 (1 : Int32) &&& Int32.toUInt32 31)).toInt32 &&& (1431655765 : Int32))) &&& (858993459 : Int32)) + ((Int32.toUInt32 (l0 - ((Int32.toUInt32 l0 >>> (Int32.toUInt32 (1 : Int32) &&& Int32.toUInt32 31)).toInt32 &&& (1431655765 : Int32))) >>> (Int32.toUInt32 (2 : Int32) &&& Int32.toUInt32 31)).toInt32 &&& (858993459 : Int32))) >>> (Int32.toUInt32 (4 : Int32) &&& Int32.toUInt32 31)).toInt32) &&& (252645135 : Int32)) + (Int32.toUInt32 (((((l0 - ((Int32.toUInt32 l0 >>> (Int32.toUInt32 (1 : Int32) &&& Int32.toUInt32 31)).toInt32 &&& (1431655765 : Int32))) &&& (858993459 : Int32)) + ((Int32.toUInt32 (l0 - ((Int32.toUInt32 l0 >>> (Int32.toUInt32 (1 : Int32) &&& Int32.toUInt32 31)).toInt32 &&& (1431655765 : Int32))) >>> (Int32.toUInt32 (2 : Int32) &&& Int32.toUInt32 31)).toInt32 &&& (858993459 : Int32))) + (Int32.toUInt32 (((l0 - ((Int32.toUInt32 l0 >>> (Int32.toUInt32 (1 : Int32) &&& Int32.toUInt32 31)).toInt32 &&& (1431655765 : Int32))) &&& (858993459 : Int32)) + ((Int32.toUInt32 (l0 - ((Int32.toUInt32 l0 >>> (Int32.toUInt32 (1 : Int32) &&& Int32.toUInt32 31)).toInt32 &&& (1431655765 : Int32))) >>> (Int32.toUInt32 (2 : Int32) &&& Int32.toUInt32 31)).toInt32 &&& (858993459 : Int32))) >>> (Int32.toUInt32 (4 : Int32) &&& Int32.toUInt32 31)).toInt32) &&& (252645135 : Int32)) >>> (Int32.toUInt32 (8 : Int32) &&& Int32.toUInt32 31)).toInt32) >>> (Int32.toUInt32 (16 : Int32) &&& Int32.toUInt32 31)).toInt32) &&& (63 : Int32))
set_option maxHeartbeats 4000000 in
set_option maxRecDepth 100000 in
theorem k_J6_bitCount_0f7a4 (l : Launch) (D : va_G) (ad : Nat → Nat) (cI cJ cR : ClassId) (u : XS) (l0 : Int32) (r1 : Int32) (hG : f_J6_bitCount_0f7a4 l0 = some r1) : Met l yJ6_bitCount_0f7a4 wsJ6_bitCount_0f7a4 ({ frames := 0, cells := 0, slots := 0, locals := 0 } : Room) (va_Pc [.int l0] (XB D ad cI cJ cR u)) (va_Qi (S := XS) (fun r u2 => r = r1 ∧ u2 = u) (XB D ad cI cJ cR) (AX ad)) 0 0 (AX ad) := by
  refine Met.ofW (cc := cJ6_bitCount_0f7a4) (maxL := 1) (ret := (some .int)) (by decide) rfl ?_
  intro p e s m args below meth c s₁ B hml hv
  obtain ⟨rfl, hP0, hK, hD0⟩ := hv
  have C : CallFix p m c cJ6_bitCount_0f7a4 1 s _ wsJ6_bitCount_0f7a4 RJ6 := ⟨B.exec, B.bytes, hml, findClass_of_methodNamed B.named, atoms_spec (ws := wsJ6_bitCount_0f7a4) B.pre⟩
  have hr := B.returns
  have hlocks := B.notSynchronized
  have hw : XW D ad cI cJ cR s.heap s.heap [] u := ⟨hP0, hD0, va_S.rf⟩
  refine en_W (Nat.le_of_ble_eq_true rfl) (fun ls hl => ?_)
  have hl : lv_has ls 1 [(0, .int l0)] := hl
  unfold f_J6_bitCount_0f7a4 at hG
  refine lv_iload_n C.1 C.2.1 dJ6_bitCount_0f7a4_0 rfl (lv_at hl 0 rfl) ?_
  refine lv_iload_n C.1 C.2.1 dJ6_bitCount_0f7a4_1 rfl (lv_at hl 0 rfl) ?_
  refine lv_iconst (v := 1) C.1 C.2.1 dJ6_bitCount_0f7a4_2 (by decide) ?_
  refine lv_iushr C.1 C.2.1 dJ6_bitCount_0f7a4_3 rfl ?_
  refine lv_ldcw (v := 1431655765) C.1 C.2.1 C.2.2.2.1 (C.2.2.2.2 _ (List.mem_of_getElem? (i := 1) rfl)) dJ6_bitCount_0f7a4_4 ?_
  refine lv_iand C.1 C.2.1 dJ6_bitCount_0f7a4_7 ?_
  refine lv_isub C.1 C.2.1 dJ6_bitCount_0f7a4_8 ?_
  refine lv_istore_n (lv' := [(0, .int (l0 - ((Int32.toUInt32 l0 >>> (Int32.toUInt32 (1 : Int32) &&& Int32.toUInt32 31)).toInt32 &&& (1431655765 : Int32))))]) C.1 C.2.1 dJ6_bitCount_0f7a4_9 rfl hl (by decide) rfl (fun ls hl => ?_)
  refine lv_iload_n C.1 C.2.1 dJ6_bitCount_0f7a4_10 rfl (lv_at hl 0 rfl) ?_
  refine lv_ldcw (v := 858993459) C.1 C.2.1 C.2.2.2.1 (C.2.2.2.2 _ (List.mem_of_getElem? (i := 2) rfl)) dJ6_bitCount_0f7a4_11 ?_
  refine lv_iand C.1 C.2.1 dJ6_bitCount_0f7a4_14 ?_
  refine lv_iload_n C.1 C.2.1 dJ6_bitCount_0f7a4_15 rfl (lv_at hl 0 rfl) ?_
  refine lv_iconst (v := 2) C.1 C.2.1 dJ6_bitCount_0f7a4_16 (by decide) ?_
  refine lv_iushr C.1 C.2.1 dJ6_bitCount_0f7a4_17 rfl ?_
  refine lv_ldcw (v := 858993459) C.1 C.2.1 C.2.2.2.1 (C.2.2.2.2 _ (List.mem_of_getElem? (i := 2) rfl)) dJ6_bitCount_0f7a4_18 ?_
  refine lv_iand C.1 C.2.1 dJ6_bitCount_0f7a4_21 ?_
  refine lv_iadd C.1 C.2.1 dJ6_bitCount_0f7a4_22 ?_
  refine lv_istore_n (lv' := [(0, .int (((l0 - ((Int32.toUInt32 l0 >>> (Int32.toUInt32 (1 : Int32) &&& Int32.toUInt32 31)).toInt32 &&& (1431655765 : Int32))) &&& (858993459 : Int32)) + ((Int32.toUInt32 (l0 - ((Int32.toUInt32 l0 >>> (Int32.toUInt32 (1 : Int32) &&& Int32.toUInt32 31)).toInt32 &&& (1431655765 : Int32))) >>> (Int32.toUInt32 (2 : Int32) &&& Int32.toUInt32 31)).toInt32 &&& (858993459 : Int32))))]) C.1 C.2.1 dJ6_bitCount_0f7a4_23 rfl hl (by decide) rfl (fun ls hl => ?_)
  refine lv_iload_n C.1 C.2.1 dJ6_bitCount_0f7a4_24 rfl (lv_at hl 0 rfl) ?_
  refine lv_iload_n C.1 C.2.1 dJ6_bitCount_0f7a4_25 rfl (lv_at hl 0 rfl) ?_
  refine lv_iconst (v := 4) C.1 C.2.1 dJ6_bitCount_0f7a4_26 (by decide) ?_
  refine lv_iushr C.1 C.2.1 dJ6_bitCount_0f7a4_27 rfl ?_
  refine lv_iadd C.1 C.2.1 dJ6_bitCount_0f7a4_28 ?_
  refine lv_ldcw (v := 252645135) C.1 C.2.1 C.2.2.2.1 (C.2.2.2.2 _ (List.mem_of_getElem? (i := 3) rfl)) dJ6_bitCount_0f7a4_29 ?_
  refine lv_iand C.1 C.2.1 dJ6_bitCount_0f7a4_32 ?_
  refine lv_istore_n (lv' := [(0, .int (((((l0 - ((Int32.toUInt32 l0 >>> (Int32.toUInt32 (1 : Int32) &&& Int32.toUInt32 31)).toInt32 &&& (1431655765 : Int32))) &&& (858993459 : Int32)) + ((Int32.toUInt32 (l0 - ((Int32.toUInt32 l0 >>> (Int32.toUInt32 (1 : Int32) &&& Int32.toUInt32 31)).toInt32 &&& (1431655765 : Int32))) >>> (Int32.toUInt32 (2 : Int32) &&& Int32.toUInt32 31)).toInt32 &&& (858993459 : Int32))) + (Int32.toUInt32 (((l0 - ((Int32.toUInt32 l0 >>> (Int32.toUInt32 (1 : Int32) &&& Int32.toUInt32 31)).toInt32 &&& (1431655765 : Int32))) &&& (858993459 : Int32)) + ((Int32.toUInt32 (l0 - ((Int32.toUInt32 l0 >>> (Int32.toUInt32 (1 : Int32) &&& Int32.toUInt32 31)).toInt32 &&& (1431655765 : Int32))) >>> (Int32.toUInt32 (2 : Int32) &&& Int32.toUInt32 31)).toInt32 &&& (858993459 : Int32))) >>> (Int32.toUInt32 (4 : Int32) &&& Int32.toUInt32 31)).toInt32) &&& (252645135 : Int32)))]) C.1 C.2.1 dJ6_bitCount_0f7a4_33 rfl hl (by decide) rfl (fun ls hl => ?_)
  refine lv_iload_n C.1 C.2.1 dJ6_bitCount_0f7a4_34 rfl (lv_at hl 0 rfl) ?_
  refine lv_iload_n C.1 C.2.1 dJ6_bitCount_0f7a4_35 rfl (lv_at hl 0 rfl) ?_
  refine lv_bipush (v := 8) C.1 C.2.1 dJ6_bitCount_0f7a4_36 (by decide) ?_
  refine lv_iushr C.1 C.2.1 dJ6_bitCount_0f7a4_38 rfl ?_
  refine lv_iadd C.1 C.2.1 dJ6_bitCount_0f7a4_39 ?_
  refine lv_istore_n (lv' := [(0, .int ((((((l0 - ((Int32.toUInt32 l0 >>> (Int32.toUInt32 (1 : Int32) &&& Int32.toUInt32 31)).toInt32 &&& (1431655765 : Int32))) &&& (858993459 : Int32)) + ((Int32.toUInt32 (l0 - ((Int32.toUInt32 l0 >>> (Int32.toUInt32 (1 : Int32) &&& Int32.toUInt32 31)).toInt32 &&& (1431655765 : Int32))) >>> (Int32.toUInt32 (2 : Int32) &&& Int32.toUInt32 31)).toInt32 &&& (858993459 : Int32))) + (Int32.toUInt32 (((l0 - ((Int32.toUInt32 l0 >>> (Int32.toUInt32 (1 : Int32) &&& Int32.toUInt32 31)).toInt32 &&& (1431655765 : Int32))) &&& (858993459 : Int32)) + ((Int32.toUInt32 (l0 - ((Int32.toUInt32 l0 >>> (Int32.toUInt32 (1 : Int32) &&& Int32.toUInt32 31)).toInt32 &&& (1431655765 : Int32))) >>> (Int32.toUInt32 (2 : Int32) &&& Int32.toUInt32 31)).toInt32 &&& (858993459 : Int32))) >>> (Int32.toUInt32 (4 : Int32) &&& Int32.toUInt32 31)).toInt32) &&& (252645135 : Int32)) + (Int32.toUInt32 (((((l0 - ((Int32.toUInt32 l0 >>> (Int32.toUInt32 (1 : Int32) &&& Int32.toUInt32 31)).toInt32 &&& (1431655765 : Int32))) &&& (858993459 : Int32)) + ((Int32.toUInt32 (l0 - ((Int32.toUInt32 l0 >>> (Int32.toUInt32 (1 : Int32) &&& Int32.toUInt32 31)).toInt32 &&& (1431655765 : Int32))) >>> (Int32.toUInt32 (2 : Int32) &&& Int32.toUInt32 31)).toInt32 &&& (858993459 : Int32))) + (Int32.toUInt32 (((l0 - ((Int32.toUInt32 l0 >>> (Int32.toUInt32 (1 : Int32) &&& Int32.toUInt32 31)).toInt32 &&& (1431655765 : Int32))) &&& (858993459 : Int32)) + ((Int32.toUInt32 (l0 - ((Int32.toUInt32 l0 >>> (Int32.toUInt32 (1 : Int32) &&& Int32.toUInt32 31)).toInt32 &&& (1431655765 : Int32))) >>> (Int32.toUInt32 (2 : Int32) &&& Int32.toUInt32 31)).toInt32 &&& (858993459 : Int32))) >>> (Int32.toUInt32 (4 : Int32) &&& Int32.toUInt32 31)).toInt32) &&& (252645135 : Int32)) >>> (Int32.toUInt32 (8 : Int32) &&& Int32.toUInt32 31)).toInt32))]) C.1 C.2.1 dJ6_bitCount_0f7a4_40 rfl hl (by decide) rfl (fun ls hl => ?_)
  refine lv_iload_n C.1 C.2.1 dJ6_bitCount_0f7a4_41 rfl (lv_at hl 0 rfl) ?_
  refine lv_iload_n C.1 C.2.1 dJ6_bitCount_0f7a4_42 rfl (lv_at hl 0 rfl) ?_
  refine lv_bipush (v := 16) C.1 C.2.1 dJ6_bitCount_0f7a4_43 (by decide) ?_
  refine lv_iushr C.1 C.2.1 dJ6_bitCount_0f7a4_45 rfl ?_
  refine lv_iadd C.1 C.2.1 dJ6_bitCount_0f7a4_46 ?_
  refine lv_istore_n (lv' := [(0, .int (((((((l0 - ((Int32.toUInt32 l0 >>> (Int32.toUInt32 (1 : Int32) &&& Int32.toUInt32 31)).toInt32 &&& (1431655765 : Int32))) &&& (858993459 : Int32)) + ((Int32.toUInt32 (l0 - ((Int32.toUInt32 l0 >>> (Int32.toUInt32 (1 : Int32) &&& Int32.toUInt32 31)).toInt32 &&& (1431655765 : Int32))) >>> (Int32.toUInt32 (2 : Int32) &&& Int32.toUInt32 31)).toInt32 &&& (858993459 : Int32))) + (Int32.toUInt32 (((l0 - ((Int32.toUInt32 l0 >>> (Int32.toUInt32 (1 : Int32) &&& Int32.toUInt32 31)).toInt32 &&& (1431655765 : Int32))) &&& (858993459 : Int32)) + ((Int32.toUInt32 (l0 - ((Int32.toUInt32 l0 >>> (Int32.toUInt32 (1 : Int32) &&& Int32.toUInt32 31)).toInt32 &&& (1431655765 : Int32))) >>> (Int32.toUInt32 (2 : Int32) &&& Int32.toUInt32 31)).toInt32 &&& (858993459 : Int32))) >>> (Int32.toUInt32 (4 : Int32) &&& Int32.toUInt32 31)).toInt32) &&& (252645135 : Int32)) + (Int32.toUInt32 (((((l0 - ((Int32.toUInt32 l0 >>> (Int32.toUInt32 (1 : Int32) &&& Int32.toUInt32 31)).toInt32 &&& (1431655765 : Int32))) &&& (858993459 : Int32)) + ((Int32.toUInt32 (l0 - ((Int32.toUInt32 l0 >>> (Int32.toUInt32 (1 : Int32) &&& Int32.toUInt32 31)).toInt32 &&& (1431655765 : Int32))) >>> (Int32.toUInt32 (2 : Int32) &&& Int32.toUInt32 31)).toInt32 &&& (858993459 : Int32))) + (Int32.toUInt32 (((l0 - ((Int32.toUInt32 l0 >>> (Int32.toUInt32 (1 : Int32) &&& Int32.toUInt32 31)).toInt32 &&& (1431655765 : Int32))) &&& (858993459 : Int32)) + ((Int32.toUInt32 (l0 - ((Int32.toUInt32 l0 >>> (Int32.toUInt32 (1 : Int32) &&& Int32.toUInt32 31)).toInt32 &&& (1431655765 : Int32))) >>> (Int32.toUInt32 (2 : Int32) &&& Int32.toUInt32 31)).toInt32 &&& (858993459 : Int32))) >>> (Int32.toUInt32 (4 : Int32) &&& Int32.toUInt32 31)).toInt32) &&& (252645135 : Int32)) >>> (Int32.toUInt32 (8 : Int32) &&& Int32.toUInt32 31)).toInt32) + (Int32.toUInt32 ((((((l0 - ((Int32.toUInt32 l0 >>> (Int32.toUInt32 (1 : Int32) &&& Int32.toUInt32 31)).toInt32 &&& (1431655765 : Int32))) &&& (858993459 : Int32)) + ((Int32.toUInt32 (l0 - ((Int32.toUInt32 l0 >>> (Int32.toUInt32 (1 : Int32) &&& Int32.toUInt32 31)).toInt32 &&& (1431655765 : Int32))) >>> (Int32.toUInt32 (2 : Int32) &&& Int32.toUInt32 31)).toInt32 &&& (858993459 : Int32))) + (Int32.toUInt32 (((l0 - ((Int32.toUInt32 l0 >>> (Int32.toUInt32 (1 : Int32) &&& Int32.toUInt32 31)).toInt32 &&& (1431655765 : Int32))) &&& (858993459 : Int32)) + ((Int32.toUInt32 (l0 - ((Int32.toUInt32 l0 >>> (Int32.toUInt32 (1 : Int32) &&& Int32.toUInt32 31)).toInt32 &&& (1431655765 : Int32))) >>> (Int32.toUInt32 (2 : Int32) &&& Int32.toUInt32 31)).toInt32 &&& (858993459 : Int32))) >>> (Int32.toUInt32 (4 : Int32) &&& Int32.toUInt32 31)).toInt32) &&& (252645135 : Int32)) + (Int32.toUInt32 (((((l0 - ((Int32.toUInt32 l0 >>> (Int32.toUInt32 (1 : Int32) &&& Int32.toUInt32 31)).toInt32 &&& (1431655765 : Int32))) &&& (858993459 : Int32)) + ((Int32.toUInt32 (l0 - ((Int32.toUInt32 l0 >>> (Int32.toUInt32 (1 : Int32) &&& Int32.toUInt32 31)).toInt32 &&& (1431655765 : Int32))) >>> (Int32.toUInt32 (2 : Int32) &&& Int32.toUInt32 31)).toInt32 &&& (858993459 : Int32))) + (Int32.toUInt32 (((l0 - ((Int32.toUInt32 l0 >>> (Int32.toUInt32 (1 : Int32) &&& Int32.toUInt32 31)).toInt32 &&& (1431655765 : Int32))) &&& (858993459 : Int32)) + ((Int32.toUInt32 (l0 - ((Int32.toUInt32 l0 >>> (Int32.toUInt32 (1 : Int32) &&& Int32.toUInt32 31)).toInt32 &&& (1431655765 : Int32))) >>> (Int32.toUInt32 (2 : Int32) &&& Int32.toUInt32 31)).toInt32 &&& (858993459 : Int32))) >>> (Int32.toUInt32 (4 : Int32) &&& Int32.toUInt32 31)).toInt32) &&& (252645135 : Int32)) >>> (Int32.toUInt32 (8 : Int32) &&& Int32.toUInt32 31)).toInt32) >>> (Int32.toUInt32 (16 : Int32) &&& Int32.toUInt32 31)).toInt32))]) C.1 C.2.1 dJ6_bitCount_0f7a4_47 rfl hl (by decide) rfl (fun ls hl => ?_)
  refine lv_iload_n C.1 C.2.1 dJ6_bitCount_0f7a4_48 rfl (lv_at hl 0 rfl) ?_
  refine lv_bipush (v := 63) C.1 C.2.1 dJ6_bitCount_0f7a4_49 (by decide) ?_
  refine lv_iand C.1 C.2.1 dJ6_bitCount_0f7a4_51 ?_
  exact xret_i C hlocks hK hw hr (ret1 hG) dJ6_bitCount_0f7a4_52
theorem jX0_has_0 : ∀ w ∈ wsX00, w ∈ wsX0_has := by decide +kernel
def f_X0_has (l1 : Int32) (u : XS) : Option Int32 := (if l1 < (0 : Int32) then some (0 : Int32) else (if (x_cnt u) ≤ l1 then some (0 : Int32) else some (1 : Int32)))
set_option maxHeartbeats 4000000 in
set_option maxRecDepth 100000 in
theorem k_X0_has (l : Launch) (D : va_G) (ad : Nat → Nat) (cI cJ cR : ClassId) (u : XS) (l1 : Int32) (r1 : Int32) (hG : f_X0_has l1 u = some r1) : Met l yX0_has wsX0_has ({ frames := 0, cells := 0, slots := 0, locals := 0 } : Room) (va_Pc [.ref (ad 1), .int l1] (XB D ad cI cJ cR u)) (va_Qi (S := XS) (fun r u2 => r = r1 ∧ u2 = u) (XB D ad cI cJ cR) (AX ad)) 0 0 (AX ad) := by
  refine Met.ofW (cc := cX0_has) (maxL := 2) (ret := (some .boolean)) (by decide) rfl ?_
  intro p e s m args below meth c s₁ B hml hv
  obtain ⟨rfl, hP0, hK, hD0⟩ := hv
  have C : CallFix p m c cX0_has 2 s _ wsX0_has RX0 := ⟨B.exec, B.bytes, hml, findClass_of_methodNamed B.named, atoms_spec (ws := wsX0_has) B.pre⟩
  have hr := B.returns
  have hlocks := B.notSynchronized
  have hw : XW D ad cI cJ cR s.heap s.heap [] u := ⟨hP0, hD0, va_S.rf⟩
  refine en_W (Nat.le_of_ble_eq_true rfl) (fun ls hl => ?_)
  have hl : lv_has ls 2 [(0, .ref (ad 1)), (1, .int l1)] := hl
  unfold f_X0_has at hG
  refine lv_iload_n C.1 C.2.1 dX0_has_0 rfl (lv_at hl 1 rfl) ?_
  refine lv_if_lt (tgt := 16) C.1 C.2.1 dX0_has_1 (by decide) (fun (h_1 : l1 < (0 : Int32)) => ?_) (fun (h_1 : ¬ l1 < (0 : Int32)) => ?_)
  · replace hG := ip h_1 hG
    refine lv_iconst (v := 0) C.1 C.2.1 dX0_has_16 (by decide) ?_
    exact xret_z C hlocks hK hw hr rfl (ret1 hG) dX0_has_17
  · replace hG := inn h_1 hG
    refine lv_iload_n C.1 C.2.1 dX0_has_4 rfl (lv_at hl 1 rfl) ?_
    refine lv_aload_n C.1 C.2.1 dX0_has_5 rfl (lv_at hl 0 rfl) ?_
    refine xg_1_4 C hK hw jX0_has_0 (List.mem_of_getElem? (i := 1) rfl) dX0_has_6 ?_
    refine lv_icmp_ge (tgt := 16) C.1 C.2.1 dX0_has_9 (by decide) (fun (h_2 : (x_cnt u) ≤ l1) => ?_) (fun (h_2 : ¬ (x_cnt u) ≤ l1) => ?_)
    · replace hG := ip h_2 hG
      refine lv_iconst (v := 0) C.1 C.2.1 dX0_has_16 (by decide) ?_
      exact xret_z C hlocks hK hw hr rfl (ret1 hG) dX0_has_17
    · replace hG := inn h_2 hG
      refine lv_iconst (v := 1) C.1 C.2.1 dX0_has_12 (by decide) ?_
      refine lv_goto (tgt := 17) C.1 C.2.1 dX0_has_13 (by decide) ?_
      exact xret_z C hlocks hK hw hr rfl (ret1 hG) dX0_has_17
theorem jX0_setLock_0 : ∀ w ∈ wsX00, w ∈ wsX0_setLock := by decide +kernel
def f_X0_setLock (l1 : Int32) (l2 : Int32) (l3 : Int32) (u : XS) : Option XS := (if inb l1 12 = true then (if inb l1 12 = true then some (xs_thr (xs_kys u (upd (x_kys u) (Int32.toNatClampNeg l1) l2)) (upd (x_thr u) (Int32.toNatClampNeg l1) l3)) else none) else none)
set_option maxHeartbeats 4000000 in
set_option maxRecDepth 100000 in
theorem k_X0_setLock (l : Launch) (D : va_G) (ad : Nat → Nat) (cI cJ cR : ClassId) (u : XS) (l1 : Int32) (l2 : Int32) (l3 : Int32) (u1 : XS) (hG : f_X0_setLock l1 l2 l3 u = some u1) : Met l yX0_setLock wsX0_setLock ({ frames := 0, cells := 0, slots := 0, locals := 0 } : Room) (va_Pc [.ref (ad 1), .int l1, .int l2, .int l3] (XB D ad cI cJ cR u)) (va_Qv (S := XS) (fun u2 => u2 = u1) (XB D ad cI cJ cR) (AX ad)) 0 0 (AX ad) := by
  refine Met.ofW (cc := cX0_setLock) (maxL := 4) (ret := none) (by decide) rfl ?_
  intro p e s m args below meth c s₁ B hml hv
  obtain ⟨rfl, hP0, hK, hD0⟩ := hv
  have C : CallFix p m c cX0_setLock 4 s _ wsX0_setLock RX0 := ⟨B.exec, B.bytes, hml, findClass_of_methodNamed B.named, atoms_spec (ws := wsX0_setLock) B.pre⟩
  have hr := B.returns
  have hlocks := B.notSynchronized
  have hw : XW D ad cI cJ cR s.heap s.heap [] u := ⟨hP0, hD0, va_S.rf⟩
  refine en_W (Nat.le_of_ble_eq_true rfl) (fun ls hl => ?_)
  have hl : lv_has ls 4 [(0, .ref (ad 1)), (1, .int l1), (2, .int l2), (3, .int l3)] := hl
  unfold f_X0_setLock at hG
  refine lv_aload_n C.1 C.2.1 dX0_setLock_0 rfl (lv_at hl 0 rfl) ?_
  refine xg_1_2 C hK hw jX0_setLock_0 (List.mem_of_getElem? (i := 1) rfl) dX0_setLock_1 ?_
  refine lv_iload_n C.1 C.2.1 dX0_setLock_4 rfl (lv_at hl 1 rfl) ?_
  refine lv_iload_n C.1 C.2.1 dX0_setLock_5 rfl (lv_at hl 2 rfl) ?_
  obtain ⟨h_1, hG⟩ := og hG
  refine xt_4 C hK hw h_1 dX0_setLock_6 (fun H locs hw => ?_)
  refine lv_aload_n C.1 C.2.1 dX0_setLock_7 rfl (lv_at hl 0 rfl) ?_
  refine xg_1_3 C hK hw jX0_setLock_0 (List.mem_of_getElem? (i := 2) rfl) dX0_setLock_8 ?_
  refine lv_iload_n C.1 C.2.1 dX0_setLock_11 rfl (lv_at hl 1 rfl) ?_
  refine lv_iload_n C.1 C.2.1 dX0_setLock_12 rfl (lv_at hl 3 rfl) ?_
  obtain ⟨h_2, hG⟩ := og hG
  refine xt_5 C hK hw h_2 dX0_setLock_13 (fun H locs hw => ?_)
  exact xret_v C hlocks hK hw hr (retv hG) dX0_setLock_14
theorem jX0_open_0 : ∀ w ∈ wsX00, w ∈ wsX0_open := by decide +kernel
def f_X0_open (l1 : Int64) (l3 : Int32) (l4 : Int32) (u : XS) : Option (Int32 × XS) := (if inb (x_cnt u) 12 = true then ((f_X0_setLock (x_cnt u) l3 l4 (xs_fun (xs_cnt u ((x_cnt u) + (1 : Int32))) (vp_updL (x_fun u) (Int32.toNatClampNeg (x_cnt u)) l1))).bind fun q_2 => some ((x_cnt u), q_2)) else none)
set_option maxHeartbeats 4000000 in
set_option maxRecDepth 100000 in
theorem k_X0_open (l : Launch) (D : va_G) (ad : Nat → Nat) (cI cJ cR : ClassId) (u : XS) (l1 : Int64) (l3 : Int32) (l4 : Int32) (r1 : Int32) (u1 : XS) (hG : f_X0_open l1 l3 l4 u = some (r1, u1)) : Met l yX0_open wsX0_open ({ frames := 1, cells := 0, slots := 0, locals := 23 } : Room) (va_Pc [.ref (ad 1), .long l1, .int l3, .int l4] (XB D ad cI cJ cR u)) (va_Qi (S := XS) (fun r u2 => r = r1 ∧ u2 = u1) (XB D ad cI cJ cR) (AX ad)) 0 0 (AX ad) := by
  refine Met.ofW (cc := cX0_open) (maxL := 6) (ret := (some .int)) (by decide) rfl ?_
  intro p e s m args below meth c s₁ B hml hv
  obtain ⟨rfl, hP0, hK, hD0⟩ := hv
  have C : CallFix p m c cX0_open 6 s _ wsX0_open RX0 := ⟨B.exec, B.bytes, hml, findClass_of_methodNamed B.named, atoms_spec (ws := wsX0_open) B.pre⟩
  have hr := B.returns
  have hlocks := B.notSynchronized
  have hw : XW D ad cI cJ cR s.heap s.heap [] u := ⟨hP0, hD0, va_S.rf⟩
  refine en_W (Nat.le_of_ble_eq_true rfl) (fun ls hl => ?_)
  have hl : lv_has ls 6 [(0, .ref (ad 1)), (1, .long l1), (3, .int l3), (4, .int l4)] := hl
  unfold f_X0_open at hG
  refine lv_aload_n C.1 C.2.1 dX0_open_0 rfl (lv_at hl 0 rfl) ?_
  refine xg_1_4 C hK hw jX0_open_0 (List.mem_of_getElem? (i := 1) rfl) dX0_open_1 ?_
  refine lv_istore (lv' := [(5, .int (x_cnt u)), (0, .ref (ad 1)), (1, .long l1), (3, .int l3), (4, .int l4)]) C.1 C.2.1 dX0_open_4 hl (by decide) rfl (fun ls hl => ?_)
  refine lv_aload_n C.1 C.2.1 dX0_open_6 rfl (lv_at hl 1 rfl) ?_
  refine lv_dup C.1 C.2.1 dX0_open_7 rfl ?_
  refine xg_1_4 C hK hw jX0_open_0 (List.mem_of_getElem? (i := 1) rfl) dX0_open_8 ?_
  refine lv_iconst (v := 1) C.1 C.2.1 dX0_open_11 (by decide) ?_
  refine lv_iadd C.1 C.2.1 dX0_open_12 ?_
  refine xp_1_4 C hK hw jX0_open_0 (List.mem_of_getElem? (i := 1) rfl) dX0_open_13 (fun H locs hw => ?_)
  refine lv_aload_n C.1 C.2.1 dX0_open_16 rfl (lv_at hl 1 rfl) ?_
  refine xg_1_0 C hK hw jX0_open_0 (List.mem_of_getElem? (i := 2) rfl) dX0_open_17 ?_
  refine lv_iload C.1 C.2.1 dX0_open_20 (lv_at hl 0 rfl) ?_
  refine lv_lload_n C.1 C.2.1 dX0_open_22 rfl (lv_at hl 2 rfl) ?_
  obtain ⟨h_1, hG⟩ := og hG
  refine xt_2 C hK hw h_1 dX0_open_23 (fun H locs hw => ?_)
  refine lv_aload_n C.1 C.2.1 dX0_open_24 rfl (lv_at hl 1 rfl) ?_
  refine lv_iload C.1 C.2.1 dX0_open_25 (lv_at hl 0 rfl) ?_
  refine lv_iload_n C.1 C.2.1 dX0_open_27 rfl (lv_at hl 3 rfl) ?_
  refine lv_iload C.1 C.2.1 dX0_open_28 (lv_at hl 4 rfl) ?_
  obtain ⟨q_2, hc_2, hG⟩ := ob hG
  try dsimp only at hG
  refine xcVv (As := [.int (x_cnt u), .int l3, .int l4]) (rest := []) C hK hw (k_X0_setLock l D ad cI cJ cR (xs_fun (xs_cnt u ((x_cnt u) + (1 : Int32))) (vp_updL (x_fun u) (Int32.toNatClampNeg (x_cnt u)) l1)) (x_cnt u) l3 l4 q_2 hc_2) (cwV 3 C.2.2.2.2 gX0_open_X0_setLock rfl rfl rfl (by decide +kernel) ⟨Nat.le_of_ble_eq_true rfl, Nat.le_of_ble_eq_true rfl⟩) (va_recv hK hw.1 (ci := 0) (q0 := 1) rfl rfl) rfl hl.1 rfl (Nat.le_of_ble_eq_true rfl) dX0_open_30 (fun H locs hw => ?_)
  refine lv_iload C.1 C.2.1 dX0_open_33 (lv_at hl 0 rfl) ?_
  exact xret_i C hlocks hK hw hr (ret2 hG) dX0_open_35
theorem jX0_isMet_0 : ∀ w ∈ wsX00, w ∈ wsX0_isMet := by decide +kernel
def f_X0_isMet (l1 : Int32) (l2 : Int32) (u : XS) : Option Int32 := (if inb l1 12 = true then ((f_J6_bitCount_0f7a4 (((x_kys u) (Int32.toNatClampNeg l1)) &&& l2)).bind fun q_2 => (if inb l1 12 = true then (if q_2 < ((x_thr u) (Int32.toNatClampNeg l1)) then some (0 : Int32) else some (1 : Int32)) else none)) else none)
set_option maxHeartbeats 4000000 in
set_option maxRecDepth 100000 in
theorem k_X0_isMet (l : Launch) (D : va_G) (ad : Nat → Nat) (cI cJ cR : ClassId) (u : XS) (l1 : Int32) (l2 : Int32) (r1 : Int32) (hG : f_X0_isMet l1 l2 u = some r1) : Met l yX0_isMet wsX0_isMet ({ frames := 1, cells := 0, slots := 0, locals := 20 } : Room) (va_Pc [.ref (ad 1), .int l1, .int l2] (XB D ad cI cJ cR u)) (va_Qi (S := XS) (fun r u2 => r = r1 ∧ u2 = u) (XB D ad cI cJ cR) (AX ad)) 0 0 (AX ad) := by
  refine Met.ofW (cc := cX0_isMet) (maxL := 3) (ret := (some .boolean)) (by decide) rfl ?_
  intro p e s m args below meth c s₁ B hml hv
  obtain ⟨rfl, hP0, hK, hD0⟩ := hv
  have C : CallFix p m c cX0_isMet 3 s _ wsX0_isMet RX0 := ⟨B.exec, B.bytes, hml, findClass_of_methodNamed B.named, atoms_spec (ws := wsX0_isMet) B.pre⟩
  have hr := B.returns
  have hlocks := B.notSynchronized
  have hw : XW D ad cI cJ cR s.heap s.heap [] u := ⟨hP0, hD0, va_S.rf⟩
  refine en_W (Nat.le_of_ble_eq_true rfl) (fun ls hl => ?_)
  have hl : lv_has ls 3 [(0, .ref (ad 1)), (1, .int l1), (2, .int l2)] := hl
  unfold f_X0_isMet at hG
  refine lv_aload_n C.1 C.2.1 dX0_isMet_0 rfl (lv_at hl 0 rfl) ?_
  refine xg_1_2 C hK hw jX0_isMet_0 (List.mem_of_getElem? (i := 1) rfl) dX0_isMet_1 ?_
  refine lv_iload_n C.1 C.2.1 dX0_isMet_4 rfl (lv_at hl 1 rfl) ?_
  obtain ⟨h_1, hG⟩ := og hG
  refine xl_4 C hK hw h_1 dX0_isMet_5 ?_
  refine lv_iload_n C.1 C.2.1 dX0_isMet_6 rfl (lv_at hl 2 rfl) ?_
  refine lv_iand C.1 C.2.1 dX0_isMet_7 ?_
  obtain ⟨q_2, hc_2, hG⟩ := ob hG
  try dsimp only at hG
  refine xcSi (As := [.int (((x_kys u) (Int32.toNatClampNeg l1)) &&& l2)]) (rest := []) C hK hw (k_J6_bitCount_0f7a4 l D ad cI cJ cR u (((x_kys u) (Int32.toNatClampNeg l1)) &&& l2) q_2 hc_2) (va_cwS 1 C.2.2.2.2 gX0_isMet_J6_bitCount_0f7a4 rfl rfl rfl (by decide +kernel) ⟨Nat.le_of_ble_eq_true rfl, Nat.le_of_ble_eq_true rfl⟩) rfl hl.1 rfl (Nat.le_of_ble_eq_true rfl) dX0_isMet_8 (fun H locs hw => ?_)
  refine lv_aload_n C.1 C.2.1 dX0_isMet_11 rfl (lv_at hl 0 rfl) ?_
  refine xg_1_3 C hK hw jX0_isMet_0 (List.mem_of_getElem? (i := 2) rfl) dX0_isMet_12 ?_
  refine lv_iload_n C.1 C.2.1 dX0_isMet_15 rfl (lv_at hl 1 rfl) ?_
  obtain ⟨h_3, hG⟩ := og hG
  refine xl_5 C hK hw h_3 dX0_isMet_16 ?_
  refine lv_icmp_lt (tgt := 24) C.1 C.2.1 dX0_isMet_17 (by decide) (fun (h_4 : q_2 < ((x_thr u) (Int32.toNatClampNeg l1))) => ?_) (fun (h_4 : ¬ q_2 < ((x_thr u) (Int32.toNatClampNeg l1))) => ?_)
  · replace hG := ip h_4 hG
    refine lv_iconst (v := 0) C.1 C.2.1 dX0_isMet_24 (by decide) ?_
    exact xret_z C hlocks hK hw hr rfl (ret1 hG) dX0_isMet_25
  · replace hG := inn h_4 hG
    refine lv_iconst (v := 1) C.1 C.2.1 dX0_isMet_20 (by decide) ?_
    refine lv_goto (tgt := 25) C.1 C.2.1 dX0_isMet_21 (by decide) ?_
    exact xret_z C hlocks hK hw hr rfl (ret1 hG) dX0_isMet_25
theorem jX0_move_0 : ∀ w ∈ wsX00, w ∈ wsX0_move := by decide +kernel
def f_X0_move (l1 : Int32) (l2 : Int32) (l3 : Int64) (u : XS) : Option XS := (if inb l1 12 = true then (if inb l1 12 = true then (if inb l2 12 = true then (if inb l2 12 = true then some (xs_fun u (vp_updL (vp_updL (x_fun u) (Int32.toNatClampNeg l1) (((x_fun u) (Int32.toNatClampNeg l1)) - l3)) (Int32.toNatClampNeg l2) (((vp_updL (x_fun u) (Int32.toNatClampNeg l1) (((x_fun u) (Int32.toNatClampNeg l1)) - l3)) (Int32.toNatClampNeg l2)) + l3))) else none) else none) else none) else none)
set_option maxHeartbeats 4000000 in
set_option maxRecDepth 100000 in
theorem k_X0_move (l : Launch) (D : va_G) (ad : Nat → Nat) (cI cJ cR : ClassId) (u : XS) (l1 : Int32) (l2 : Int32) (l3 : Int64) (u1 : XS) (hG : f_X0_move l1 l2 l3 u = some u1) : Met l yX0_move wsX0_move ({ frames := 0, cells := 0, slots := 0, locals := 0 } : Room) (va_Pc [.ref (ad 1), .int l1, .int l2, .long l3] (XB D ad cI cJ cR u)) (va_Qv (S := XS) (fun u2 => u2 = u1) (XB D ad cI cJ cR) (AX ad)) 0 0 (AX ad) := by
  refine Met.ofW (cc := cX0_move) (maxL := 5) (ret := none) (by decide) rfl ?_
  intro p e s m args below meth c s₁ B hml hv
  obtain ⟨rfl, hP0, hK, hD0⟩ := hv
  have C : CallFix p m c cX0_move 5 s _ wsX0_move RX0 := ⟨B.exec, B.bytes, hml, findClass_of_methodNamed B.named, atoms_spec (ws := wsX0_move) B.pre⟩
  have hr := B.returns
  have hlocks := B.notSynchronized
  have hw : XW D ad cI cJ cR s.heap s.heap [] u := ⟨hP0, hD0, va_S.rf⟩
  refine en_W (Nat.le_of_ble_eq_true rfl) (fun ls hl => ?_)
  have hl : lv_has ls 5 [(0, .ref (ad 1)), (1, .int l1), (2, .int l2), (3, .long l3)] := hl
  unfold f_X0_move at hG
  refine lv_aload_n C.1 C.2.1 dX0_move_0 rfl (lv_at hl 0 rfl) ?_
  refine xg_1_0 C hK hw jX0_move_0 (List.mem_of_getElem? (i := 1) rfl) dX0_move_1 ?_
  refine lv_iload_n C.1 C.2.1 dX0_move_4 rfl (lv_at hl 1 rfl) ?_
  refine lv_dup2_11 C.1 C.2.1 dX0_move_5 rfl rfl ?_
  obtain ⟨h_1, hG⟩ := og hG
  refine xl_2 C hK hw h_1 dX0_move_6 ?_
  refine lv_lload_n C.1 C.2.1 dX0_move_7 rfl (lv_at hl 3 rfl) ?_
  refine lv_lsub C.1 C.2.1 dX0_move_8 ?_
  obtain ⟨h_2, hG⟩ := og hG
  refine xt_2 C hK hw h_2 dX0_move_9 (fun H locs hw => ?_)
  refine lv_aload_n C.1 C.2.1 dX0_move_10 rfl (lv_at hl 0 rfl) ?_
  refine xg_1_0 C hK hw jX0_move_0 (List.mem_of_getElem? (i := 1) rfl) dX0_move_11 ?_
  refine lv_iload_n C.1 C.2.1 dX0_move_14 rfl (lv_at hl 2 rfl) ?_
  refine lv_dup2_11 C.1 C.2.1 dX0_move_15 rfl rfl ?_
  obtain ⟨h_3, hG⟩ := og hG
  refine xl_2 C hK hw h_3 dX0_move_16 ?_
  refine lv_lload_n C.1 C.2.1 dX0_move_17 rfl (lv_at hl 3 rfl) ?_
  refine lv_ladd C.1 C.2.1 dX0_move_18 ?_
  obtain ⟨h_4, hG⟩ := og hG
  refine xt_2 C hK hw h_4 dX0_move_19 (fun H locs hw => ?_)
  exact xret_v C hlocks hK hw hr (retv hG) dX0_move_20
theorem jX1_begin_1 : ∀ w ∈ wsX10, w ∈ wsX1_begin := by decide +kernel
def f_X1_begin (l0 : Nat) (l1 : Int32) (l2 : Int32) (l3 : Int32) (l4 : Int32) (u : XS) : Option XS := (if l0 < 25 then some (xs_cf u (up2 (up2 (up2 (up2 (up2 (up2 (up2 (up2 (x_cf u) 3 l0 l1) 4 l0 l2) 5 l0 l3) 6 l0 l4) 7 l0 (1000000 : Int32)) 8 l0 (0 : Int32)) 9 l0 (-1 : Int32)) 2 l0 (0 : Int32))) else none)
set_option maxHeartbeats 4000000 in
set_option maxRecDepth 100000 in
theorem k_X1_begin (l : Launch) (D : va_G) (ad : Nat → Nat) (cI cJ cR : ClassId) (u : XS) (l0 : Nat) (l1 : Int32) (l2 : Int32) (l3 : Int32) (l4 : Int32) (u1 : XS) (hG : f_X1_begin l0 l1 l2 l3 l4 u = some u1) : Met l yX1_begin wsX1_begin ({ frames := 0, cells := 0, slots := 0, locals := 0 } : Room) (va_Pc [.ref (ad (17 + l0)), .int l1, .int l2, .int l3, .int l4] (XB D ad cI cJ cR u)) (va_Qv (S := XS) (fun u2 => u2 = u1) (XB D ad cI cJ cR) (AX ad)) 0 0 (AX ad) := by
  refine Met.ofW (cc := cX1_begin) (maxL := 5) (ret := none) (by decide) rfl ?_
  intro p e s m args below meth c s₁ B hml hv
  obtain ⟨rfl, hP0, hK, hD0⟩ := hv
  have C : CallFix p m c cX1_begin 5 s _ wsX1_begin RX1 := ⟨B.exec, B.bytes, hml, findClass_of_methodNamed B.named, atoms_spec (ws := wsX1_begin) B.pre⟩
  have hr := B.returns
  have hlocks := B.notSynchronized
  have hw : XW D ad cI cJ cR s.heap s.heap [] u := ⟨hP0, hD0, va_S.rf⟩
  refine en_W (Nat.le_of_ble_eq_true rfl) (fun ls hl => ?_)
  have hl : lv_has ls 5 [(0, .ref (ad (17 + l0))), (1, .int l1), (2, .int l2), (3, .int l3), (4, .int l4)] := hl
  unfold f_X1_begin at hG
  obtain ⟨hq_l0, hG⟩ := ot hG
  refine lv_aload_n C.1 C.2.1 dX1_begin_0 rfl (lv_at hl 0 rfl) ?_
  refine lv_iload_n C.1 C.2.1 dX1_begin_1 rfl (lv_at hl 1 rfl) ?_
  refine xpc_3 (q := l0) C hK hw hq_l0 jX1_begin_1 (List.mem_of_getElem? (i := 1) rfl) dX1_begin_2 (fun H locs hw => ?_)
  refine lv_aload_n C.1 C.2.1 dX1_begin_5 rfl (lv_at hl 0 rfl) ?_
  refine lv_iload_n C.1 C.2.1 dX1_begin_6 rfl (lv_at hl 2 rfl) ?_
  refine xpc_4 (q := l0) C hK hw hq_l0 jX1_begin_1 (List.mem_of_getElem? (i := 2) rfl) dX1_begin_7 (fun H locs hw => ?_)
  refine lv_aload_n C.1 C.2.1 dX1_begin_10 rfl (lv_at hl 0 rfl) ?_
  refine lv_iload_n C.1 C.2.1 dX1_begin_11 rfl (lv_at hl 3 rfl) ?_
  refine xpc_5 (q := l0) C hK hw hq_l0 jX1_begin_1 (List.mem_of_getElem? (i := 3) rfl) dX1_begin_12 (fun H locs hw => ?_)
  refine lv_aload_n C.1 C.2.1 dX1_begin_15 rfl (lv_at hl 0 rfl) ?_
  refine lv_iload C.1 C.2.1 dX1_begin_16 (lv_at hl 4 rfl) ?_
  refine xpc_6 (q := l0) C hK hw hq_l0 jX1_begin_1 (List.mem_of_getElem? (i := 4) rfl) dX1_begin_18 (fun H locs hw => ?_)
  refine lv_aload_n C.1 C.2.1 dX1_begin_21 rfl (lv_at hl 0 rfl) ?_
  refine lv_ldc (v := 1000000) C.1 C.2.1 C.2.2.2.1 (C.2.2.2.2 _ (List.mem_of_getElem? (i := 5) rfl)) dX1_begin_22 ?_
  refine xpc_7 (q := l0) C hK hw hq_l0 jX1_begin_1 (List.mem_of_getElem? (i := 6) rfl) dX1_begin_24 (fun H locs hw => ?_)
  refine lv_aload_n C.1 C.2.1 dX1_begin_27 rfl (lv_at hl 0 rfl) ?_
  refine lv_iconst (v := 0) C.1 C.2.1 dX1_begin_28 (by decide) ?_
  refine xpc_8 (q := l0) C hK hw hq_l0 jX1_begin_1 (List.mem_of_getElem? (i := 7) rfl) dX1_begin_29 (fun H locs hw => ?_)
  refine lv_aload_n C.1 C.2.1 dX1_begin_32 rfl (lv_at hl 0 rfl) ?_
  refine lv_iconst (v := -1) C.1 C.2.1 dX1_begin_33 (by decide) ?_
  refine xpc_9 (q := l0) C hK hw hq_l0 jX1_begin_1 (List.mem_of_getElem? (i := 8) rfl) dX1_begin_34 (fun H locs hw => ?_)
  refine lv_aload_n C.1 C.2.1 dX1_begin_37 rfl (lv_at hl 0 rfl) ?_
  refine lv_iconst (v := 0) C.1 C.2.1 dX1_begin_38 (by decide) ?_
  refine xpc_2 (q := l0) C hK hw hq_l0 jX1_begin_1 (List.mem_of_getElem? (i := 9) rfl) dX1_begin_39 (fun H locs hw => ?_)
  exact xret_v C hlocks hK hw hr (retv hG) dX1_begin_42
theorem jX1_append_1 : ∀ w ∈ wsX10, w ∈ wsX1_append := by decide +kernel
def f_X1_append (l0 : Nat) (l1 : Int32) (l2 : Int64) (u : XS) : Option (Int32 × XS) := (if l0 < 25 then (if inb ((x_cf u) 2 l0) 4 = true then (if inb ((x_cf u) 2 l0) 4 = true then some (((up2 (x_cf u) 2 l0 (((x_cf u) 2 l0) + (1 : Int32))) 2 l0), (xs_cf (xs_am (xs_rc u (va_up (x_rc u) l0 (upd ((x_rc u) l0) (Int32.toNatClampNeg ((x_cf u) 2 l0)) l1))) (va_up (x_am u) l0 (vp_updL ((x_am u) l0) (Int32.toNatClampNeg ((x_cf u) 2 l0)) l2))) (up2 (x_cf u) 2 l0 (((x_cf u) 2 l0) + (1 : Int32))))) else none) else none) else none)
set_option maxHeartbeats 4000000 in
set_option maxRecDepth 100000 in
theorem k_X1_append (l : Launch) (D : va_G) (ad : Nat → Nat) (cI cJ cR : ClassId) (u : XS) (l0 : Nat) (l1 : Int32) (l2 : Int64) (r1 : Int32) (u1 : XS) (hG : f_X1_append l0 l1 l2 u = some (r1, u1)) : Met l yX1_append wsX1_append ({ frames := 0, cells := 0, slots := 0, locals := 0 } : Room) (va_Pc [.ref (ad (17 + l0)), .int l1, .long l2] (XB D ad cI cJ cR u)) (va_Qi (S := XS) (fun r u2 => r = r1 ∧ u2 = u1) (XB D ad cI cJ cR) (AX ad)) 0 0 (AX ad) := by
  refine Met.ofW (cc := cX1_append) (maxL := 4) (ret := (some .int)) (by decide) rfl ?_
  intro p e s m args below meth c s₁ B hml hv
  obtain ⟨rfl, hP0, hK, hD0⟩ := hv
  have C : CallFix p m c cX1_append 4 s _ wsX1_append RX1 := ⟨B.exec, B.bytes, hml, findClass_of_methodNamed B.named, atoms_spec (ws := wsX1_append) B.pre⟩
  have hr := B.returns
  have hlocks := B.notSynchronized
  have hw : XW D ad cI cJ cR s.heap s.heap [] u := ⟨hP0, hD0, va_S.rf⟩
  refine en_W (Nat.le_of_ble_eq_true rfl) (fun ls hl => ?_)
  have hl : lv_has ls 4 [(0, .ref (ad (17 + l0))), (1, .int l1), (2, .long l2)] := hl
  unfold f_X1_append at hG
  obtain ⟨hq_l0, hG⟩ := ot hG
  refine lv_aload_n C.1 C.2.1 dX1_append_0 rfl (lv_at hl 0 rfl) ?_
  refine xgc_0 (q := l0) C hK hw hq_l0 jX1_append_1 (List.mem_of_getElem? (i := 1) rfl) dX1_append_1 ?_
  refine lv_aload_n C.1 C.2.1 dX1_append_4 rfl (lv_at hl 0 rfl) ?_
  refine xgc_2 (q := l0) C hK hw hq_l0 jX1_append_1 (List.mem_of_getElem? (i := 2) rfl) dX1_append_5 ?_
  refine lv_iload_n C.1 C.2.1 dX1_append_8 rfl (lv_at hl 1 rfl) ?_
  obtain ⟨h_1, hG⟩ := og hG
  refine xt_rc (q := l0) C hK hw hq_l0 h_1 dX1_append_9 (fun H locs hw => ?_)
  refine lv_aload_n C.1 C.2.1 dX1_append_10 rfl (lv_at hl 0 rfl) ?_
  refine xgc_1 (q := l0) C hK hw hq_l0 jX1_append_1 (List.mem_of_getElem? (i := 3) rfl) dX1_append_11 ?_
  refine lv_aload_n C.1 C.2.1 dX1_append_14 rfl (lv_at hl 0 rfl) ?_
  refine xgc_2 (q := l0) C hK hw hq_l0 jX1_append_1 (List.mem_of_getElem? (i := 2) rfl) dX1_append_15 ?_
  refine lv_lload_n C.1 C.2.1 dX1_append_18 rfl (lv_at hl 2 rfl) ?_
  obtain ⟨h_2, hG⟩ := og hG
  refine xt_am (q := l0) C hK hw hq_l0 h_2 dX1_append_19 (fun H locs hw => ?_)
  refine lv_aload_n C.1 C.2.1 dX1_append_20 rfl (lv_at hl 0 rfl) ?_
  refine lv_dup C.1 C.2.1 dX1_append_21 rfl ?_
  refine xgc_2 (q := l0) C hK hw hq_l0 jX1_append_1 (List.mem_of_getElem? (i := 2) rfl) dX1_append_22 ?_
  refine lv_iconst (v := 1) C.1 C.2.1 dX1_append_25 (by decide) ?_
  refine lv_iadd C.1 C.2.1 dX1_append_26 ?_
  refine xpc_2 (q := l0) C hK hw hq_l0 jX1_append_1 (List.mem_of_getElem? (i := 2) rfl) dX1_append_27 (fun H locs hw => ?_)
  refine lv_aload_n C.1 C.2.1 dX1_append_30 rfl (lv_at hl 0 rfl) ?_
  refine xgc_2 (q := l0) C hK hw hq_l0 jX1_append_1 (List.mem_of_getElem? (i := 2) rfl) dX1_append_31 ?_
  exact xret_i C hlocks hK hw hr (ret2 hG) dX1_append_34
theorem jX1_becomeLike_1 : ∀ w ∈ wsX10, w ∈ wsX1_becomeLike := by decide +kernel
def f_X1_becomeLike_46 : Nat → Nat → Nat → Int32 → XS → Option XS
  | 0, _, _, _, _ => none
  | n + 1, l0, l1, l2, u => (if ((x_cf u) 2 l1) ≤ l2 then some u else (if inb l2 4 = true then (if inb l2 4 = true then ((f_X1_append l0 ((x_rc u) l1 (Int32.toNatClampNeg l2)) ((x_am u) l1 (Int32.toNatClampNeg l2)) u).bind fun q_5 => (f_X1_becomeLike_46 n l0 l1 (l2 + (1 : Int32)) q_5.2)) else none) else none))
set_option maxHeartbeats 4000000 in
set_option maxRecDepth 100000 in
theorem kl_X1_becomeLike_46 {p : Program} {l : Launch} {e : Env} {s : State} {m : MethodId} {args : Array Value} {below : List Frame} {meth : Method} {c : Code} {D : va_G} {ad : Nat → Nat} {cI cJ cR : ClassId} (C : CallFix p m c cX1_becomeLike 3 s args wsX1_becomeLike RX1) (hr : meth.sig.returnType = none) (hlocks : meth.locks = false) (hK : va_K D vwCl (xT cI cJ cR) s) {u1 : XS} : ∀ (n : Nat) (l0 : Nat) (l1 : Nat) (l2 : Int32) (u : XS) (H : Heap) (locs : List Loc) (ls : Array Slot), f_X1_becomeLike_46 n l0 l1 l2 u = some u1 → XW D ad cI cJ cR s.heap H locs u → lv_has ls 3 [(0, .ref (ad (17 + l0))), (1, .ref (ad (17 + l1))), (2, .int l2)] → l0 < 25 → l1 < 25 → W p l e ({ frames := 1, cells := 0, slots := 0, locals := 24 } : Room) s m args below meth c H locs 0 0 (MQ below (va_Qv (S := XS) (fun u2 => u2 = u1) (XB D ad cI cJ cR) (AX ad)) args s 0 0 (AX ad)) (F0 m 46 ls []) := by
  intro n
  induction n with
  | zero =>
    intro l0 l1 l2 u H locs ls hG
    exact ns hG
  | succ n ih =>
    intro l0 l1 l2 u H locs ls hG hw hl hq_l0 hq_l1
    rw [f_X1_becomeLike_46] at hG
    refine lv_iload_n C.1 C.2.1 dX1_becomeLike_46 rfl (lv_at hl 2 rfl) ?_
    refine lv_aload_n C.1 C.2.1 dX1_becomeLike_47 rfl (lv_at hl 1 rfl) ?_
    refine xgc_2 (q := l1) C hK hw hq_l1 jX1_becomeLike_1 (List.mem_of_getElem? (i := 8) rfl) dX1_becomeLike_48 ?_
    refine lv_icmp_ge (tgt := 77) C.1 C.2.1 dX1_becomeLike_51 (by decide) (fun (h_2 : ((x_cf u) 2 l1) ≤ l2) => ?_) (fun (h_2 : ¬ ((x_cf u) 2 l1) ≤ l2) => ?_)
    · replace hG := ip h_2 hG
      exact xret_v C hlocks hK hw hr (retv hG) dX1_becomeLike_77
    · replace hG := inn h_2 hG
      refine lv_aload_n C.1 C.2.1 dX1_becomeLike_54 rfl (lv_at hl 0 rfl) ?_
      refine lv_aload_n C.1 C.2.1 dX1_becomeLike_55 rfl (lv_at hl 1 rfl) ?_
      refine xgc_0 (q := l1) C hK hw hq_l1 jX1_becomeLike_1 (List.mem_of_getElem? (i := 9) rfl) dX1_becomeLike_56 ?_
      refine lv_iload_n C.1 C.2.1 dX1_becomeLike_59 rfl (lv_at hl 2 rfl) ?_
      obtain ⟨h_3, hG⟩ := og hG
      refine xl_rc (q := l1) C hK hw hq_l1 h_3 dX1_becomeLike_60 ?_
      refine lv_aload_n C.1 C.2.1 dX1_becomeLike_61 rfl (lv_at hl 1 rfl) ?_
      refine xgc_1 (q := l1) C hK hw hq_l1 jX1_becomeLike_1 (List.mem_of_getElem? (i := 10) rfl) dX1_becomeLike_62 ?_
      refine lv_iload_n C.1 C.2.1 dX1_becomeLike_65 rfl (lv_at hl 2 rfl) ?_
      obtain ⟨h_4, hG⟩ := og hG
      refine xl_am (q := l1) C hK hw hq_l1 h_4 dX1_becomeLike_66 ?_
      obtain ⟨q_5, hc_5, hG⟩ := ob hG
      try dsimp only at hG
      refine xcVi (As := [.int ((x_rc u) l1 (Int32.toNatClampNeg l2)), .long ((x_am u) l1 (Int32.toNatClampNeg l2))]) (rest := []) C hK hw (k_X1_append l D ad cI cJ cR u l0 ((x_rc u) l1 (Int32.toNatClampNeg l2)) ((x_am u) l1 (Int32.toNatClampNeg l2)) q_5.1 q_5.2 hc_5) (cwV 2 C.2.2.2.2 gX1_becomeLike_X1_append rfl rfl rfl (by decide +kernel) ⟨Nat.le_of_ble_eq_true rfl, Nat.le_of_ble_eq_true rfl⟩) (va_recv hK hw.1 (ci := 1) (q0 := 17 + l0) rfl (wX_c hq_l0)) rfl hl.1 rfl (Nat.le_of_ble_eq_true rfl) dX1_becomeLike_67 (fun H locs hw => ?_)
      refine lv_pop C.1 C.2.1 dX1_becomeLike_70 rfl ?_
      refine lv_iinc (v := (l2 + (1 : Int32))) (lv' := [(2, .int (l2 + (1 : Int32))), (0, .ref (ad (17 + l0))), (1, .ref (ad (17 + l1)))]) C.1 C.2.1 dX1_becomeLike_71 hl (k := 2) rfl rfl (by decide) rfl (fun ls hl => ?_)
      refine lv_goto (tgt := 46) C.1 C.2.1 dX1_becomeLike_74 (by decide) ?_
      exact ih l0 l1 (l2 + (1 : Int32)) q_5.2 _ _ _ hG hw (lv_sub hl [1, 2, 0] rfl) hq_l0 hq_l1
def f_X1_becomeLike (l0 : Nat) (l1 : Nat) (u : XS) : Option XS := (if l0 < 25 then (if l1 < 25 then ((f_X1_begin l0 ((x_cf u) 3 l1) ((x_cf u) 4 l1) ((x_cf u) 5 l1) ((x_cf u) 6 l1) u).bind fun q_1 => (f_X1_becomeLike_46 1000 l0 l1 (0 : Int32) (xs_cf q_1 (up2 (up2 (up2 (x_cf q_1) 7 l0 ((x_cf q_1) 7 l1)) 8 l0 ((up2 (x_cf q_1) 7 l0 ((x_cf q_1) 7 l1)) 8 l1)) 9 l0 ((up2 (up2 (x_cf q_1) 7 l0 ((x_cf q_1) 7 l1)) 8 l0 ((up2 (x_cf q_1) 7 l0 ((x_cf q_1) 7 l1)) 8 l1)) 9 l1))))) else none) else none)
set_option maxHeartbeats 4000000 in
set_option maxRecDepth 100000 in
theorem k_X1_becomeLike (l : Launch) (D : va_G) (ad : Nat → Nat) (cI cJ cR : ClassId) (u : XS) (l0 : Nat) (l1 : Nat) (u1 : XS) (hG : f_X1_becomeLike l0 l1 u = some u1) : Met l yX1_becomeLike wsX1_becomeLike ({ frames := 1, cells := 0, slots := 0, locals := 24 } : Room) (va_Pc [.ref (ad (17 + l0)), .ref (ad (17 + l1))] (XB D ad cI cJ cR u)) (va_Qv (S := XS) (fun u2 => u2 = u1) (XB D ad cI cJ cR) (AX ad)) 0 0 (AX ad) := by
  refine Met.ofW (cc := cX1_becomeLike) (maxL := 3) (ret := none) (by decide) rfl ?_
  intro p e s m args below meth c s₁ B hml hv
  obtain ⟨rfl, hP0, hK, hD0⟩ := hv
  have C : CallFix p m c cX1_becomeLike 3 s _ wsX1_becomeLike RX1 := ⟨B.exec, B.bytes, hml, findClass_of_methodNamed B.named, atoms_spec (ws := wsX1_becomeLike) B.pre⟩
  have hr := B.returns
  have hlocks := B.notSynchronized
  have hw : XW D ad cI cJ cR s.heap s.heap [] u := ⟨hP0, hD0, va_S.rf⟩
  refine en_W (Nat.le_of_ble_eq_true rfl) (fun ls hl => ?_)
  have hl : lv_has ls 3 [(0, .ref (ad (17 + l0))), (1, .ref (ad (17 + l1)))] := hl
  unfold f_X1_becomeLike at hG
  obtain ⟨hq_l0, hG⟩ := ot hG
  obtain ⟨hq_l1, hG⟩ := ot hG
  refine lv_aload_n C.1 C.2.1 dX1_becomeLike_0 rfl (lv_at hl 0 rfl) ?_
  refine lv_aload_n C.1 C.2.1 dX1_becomeLike_1 rfl (lv_at hl 1 rfl) ?_
  refine xgc_3 (q := l1) C hK hw hq_l1 jX1_becomeLike_1 (List.mem_of_getElem? (i := 1) rfl) dX1_becomeLike_2 ?_
  refine lv_aload_n C.1 C.2.1 dX1_becomeLike_5 rfl (lv_at hl 1 rfl) ?_
  refine xgc_4 (q := l1) C hK hw hq_l1 jX1_becomeLike_1 (List.mem_of_getElem? (i := 2) rfl) dX1_becomeLike_6 ?_
  refine lv_aload_n C.1 C.2.1 dX1_becomeLike_9 rfl (lv_at hl 1 rfl) ?_
  refine xgc_5 (q := l1) C hK hw hq_l1 jX1_becomeLike_1 (List.mem_of_getElem? (i := 3) rfl) dX1_becomeLike_10 ?_
  refine lv_aload_n C.1 C.2.1 dX1_becomeLike_13 rfl (lv_at hl 1 rfl) ?_
  refine xgc_6 (q := l1) C hK hw hq_l1 jX1_becomeLike_1 (List.mem_of_getElem? (i := 4) rfl) dX1_becomeLike_14 ?_
  obtain ⟨q_1, hc_1, hG⟩ := ob hG
  try dsimp only at hG
  refine xcVv (As := [.int ((x_cf u) 3 l1), .int ((x_cf u) 4 l1), .int ((x_cf u) 5 l1), .int ((x_cf u) 6 l1)]) (rest := []) C hK hw (k_X1_begin l D ad cI cJ cR u l0 ((x_cf u) 3 l1) ((x_cf u) 4 l1) ((x_cf u) 5 l1) ((x_cf u) 6 l1) q_1 hc_1) (cwV 4 C.2.2.2.2 gX1_becomeLike_X1_begin rfl rfl rfl (by decide +kernel) ⟨Nat.le_of_ble_eq_true rfl, Nat.le_of_ble_eq_true rfl⟩) (va_recv hK hw.1 (ci := 1) (q0 := 17 + l0) rfl (wX_c hq_l0)) rfl hl.1 rfl (Nat.le_of_ble_eq_true rfl) dX1_becomeLike_17 (fun H locs hw => ?_)
  refine lv_aload_n C.1 C.2.1 dX1_becomeLike_20 rfl (lv_at hl 0 rfl) ?_
  refine lv_aload_n C.1 C.2.1 dX1_becomeLike_21 rfl (lv_at hl 1 rfl) ?_
  refine xgc_7 (q := l1) C hK hw hq_l1 jX1_becomeLike_1 (List.mem_of_getElem? (i := 5) rfl) dX1_becomeLike_22 ?_
  refine xpc_7 (q := l0) C hK hw hq_l0 jX1_becomeLike_1 (List.mem_of_getElem? (i := 5) rfl) dX1_becomeLike_25 (fun H locs hw => ?_)
  refine lv_aload_n C.1 C.2.1 dX1_becomeLike_28 rfl (lv_at hl 0 rfl) ?_
  refine lv_aload_n C.1 C.2.1 dX1_becomeLike_29 rfl (lv_at hl 1 rfl) ?_
  refine xgc_8 (q := l1) C hK hw hq_l1 jX1_becomeLike_1 (List.mem_of_getElem? (i := 6) rfl) dX1_becomeLike_30 ?_
  refine xpc_8 (q := l0) C hK hw hq_l0 jX1_becomeLike_1 (List.mem_of_getElem? (i := 6) rfl) dX1_becomeLike_33 (fun H locs hw => ?_)
  refine lv_aload_n C.1 C.2.1 dX1_becomeLike_36 rfl (lv_at hl 0 rfl) ?_
  refine lv_aload_n C.1 C.2.1 dX1_becomeLike_37 rfl (lv_at hl 1 rfl) ?_
  refine xgc_9 (q := l1) C hK hw hq_l1 jX1_becomeLike_1 (List.mem_of_getElem? (i := 7) rfl) dX1_becomeLike_38 ?_
  refine xpc_9 (q := l0) C hK hw hq_l0 jX1_becomeLike_1 (List.mem_of_getElem? (i := 7) rfl) dX1_becomeLike_41 (fun H locs hw => ?_)
  refine lv_iconst (v := 0) C.1 C.2.1 dX1_becomeLike_44 (by decide) ?_
  refine lv_istore_n (lv' := [(2, .int (0 : Int32)), (0, .ref (ad (17 + l0))), (1, .ref (ad (17 + l1)))]) C.1 C.2.1 dX1_becomeLike_45 rfl hl (by decide) rfl (fun ls hl => ?_)
  exact kl_X1_becomeLike_46 C hr hlocks hK 1000 l0 l1 (0 : Int32) (xs_cf q_1 (up2 (up2 (up2 (x_cf q_1) 7 l0 ((x_cf q_1) 7 l1)) 8 l0 ((up2 (x_cf q_1) 7 l0 ((x_cf q_1) 7 l1)) 8 l1)) 9 l0 ((up2 (up2 (x_cf q_1) 7 l0 ((x_cf q_1) 7 l1)) 8 l0 ((up2 (x_cf q_1) 7 l0 ((x_cf q_1) 7 l1)) 8 l1)) 9 l1))) _ _ _ hG hw (lv_sub hl [1, 2, 0] rfl) hq_l0 hq_l1
theorem jX1_payer_1 : ∀ w ∈ wsX10, w ∈ wsX1_payer := by decide +kernel
def f_X1_payer (l0 : Nat) (u : XS) : Option Int32 := (if l0 < 25 then (if ((x_cf u) 9 l0) = (-1 : Int32) then some ((x_cf u) 3 l0) else some ((x_cf u) 9 l0)) else none)
set_option maxHeartbeats 4000000 in
set_option maxRecDepth 100000 in
theorem k_X1_payer (l : Launch) (D : va_G) (ad : Nat → Nat) (cI cJ cR : ClassId) (u : XS) (l0 : Nat) (r1 : Int32) (hG : f_X1_payer l0 u = some r1) : Met l yX1_payer wsX1_payer ({ frames := 0, cells := 0, slots := 0, locals := 0 } : Room) (va_Pc [.ref (ad (17 + l0))] (XB D ad cI cJ cR u)) (va_Qi (S := XS) (fun r u2 => r = r1 ∧ u2 = u) (XB D ad cI cJ cR) (AX ad)) 0 0 (AX ad) := by
  refine Met.ofW (cc := cX1_payer) (maxL := 1) (ret := (some .int)) (by decide) rfl ?_
  intro p e s m args below meth c s₁ B hml hv
  obtain ⟨rfl, hP0, hK, hD0⟩ := hv
  have C : CallFix p m c cX1_payer 1 s _ wsX1_payer RX1 := ⟨B.exec, B.bytes, hml, findClass_of_methodNamed B.named, atoms_spec (ws := wsX1_payer) B.pre⟩
  have hr := B.returns
  have hlocks := B.notSynchronized
  have hw : XW D ad cI cJ cR s.heap s.heap [] u := ⟨hP0, hD0, va_S.rf⟩
  refine en_W (Nat.le_of_ble_eq_true rfl) (fun ls hl => ?_)
  have hl : lv_has ls 1 [(0, .ref (ad (17 + l0)))] := hl
  unfold f_X1_payer at hG
  obtain ⟨hq_l0, hG⟩ := ot hG
  refine lv_aload_n C.1 C.2.1 dX1_payer_0 rfl (lv_at hl 0 rfl) ?_
  refine xgc_9 (q := l0) C hK hw hq_l0 jX1_payer_1 (List.mem_of_getElem? (i := 1) rfl) dX1_payer_1 ?_
  refine lv_iconst (v := -1) C.1 C.2.1 dX1_payer_4 (by decide) ?_
  refine lv_icmp_ne (tgt := 15) C.1 C.2.1 dX1_payer_5 (by decide) (fun (h_1 : ¬ ((x_cf u) 9 l0) = (-1 : Int32)) => ?_) (fun (h_1 : ((x_cf u) 9 l0) = (-1 : Int32)) => ?_)
  · replace hG := inn h_1 hG
    refine lv_aload_n C.1 C.2.1 dX1_payer_15 rfl (lv_at hl 0 rfl) ?_
    refine xgc_9 (q := l0) C hK hw hq_l0 jX1_payer_1 (List.mem_of_getElem? (i := 1) rfl) dX1_payer_16 ?_
    exact xret_i C hlocks hK hw hr (ret1 hG) dX1_payer_19
  · replace hG := ip h_1 hG
    refine lv_aload_n C.1 C.2.1 dX1_payer_8 rfl (lv_at hl 0 rfl) ?_
    refine xgc_3 (q := l0) C hK hw hq_l0 jX1_payer_1 (List.mem_of_getElem? (i := 2) rfl) dX1_payer_9 ?_
    refine lv_goto (tgt := 19) C.1 C.2.1 dX1_payer_12 (by decide) ?_
    exact xret_i C hlocks hK hw hr (ret1 hG) dX1_payer_19
theorem jX1_stake_1 : ∀ w ∈ wsX10, w ∈ wsX1_stake := by decide +kernel
def f_X1_stake (l0 : Nat) (u : XS) : Option Int64 := (if l0 < 25 then some ((Int32.toInt64 ((x_cf u) 5 l0)) * (Int32.toInt64 ((x_cf u) 6 l0))) else none)
set_option maxHeartbeats 4000000 in
set_option maxRecDepth 100000 in
theorem k_X1_stake (l : Launch) (D : va_G) (ad : Nat → Nat) (cI cJ cR : ClassId) (u : XS) (l0 : Nat) (r1 : Int64) (hG : f_X1_stake l0 u = some r1) : Met l yX1_stake wsX1_stake ({ frames := 0, cells := 0, slots := 0, locals := 0 } : Room) (va_Pc [.ref (ad (17 + l0))] (XB D ad cI cJ cR u)) (va_Ql (S := XS) (fun r u2 => r = r1 ∧ u2 = u) (XB D ad cI cJ cR) (AX ad)) 0 0 (AX ad) := by
  refine Met.ofW (cc := cX1_stake) (maxL := 1) (ret := (some .long)) (by decide) rfl ?_
  intro p e s m args below meth c s₁ B hml hv
  obtain ⟨rfl, hP0, hK, hD0⟩ := hv
  have C : CallFix p m c cX1_stake 1 s _ wsX1_stake RX1 := ⟨B.exec, B.bytes, hml, findClass_of_methodNamed B.named, atoms_spec (ws := wsX1_stake) B.pre⟩
  have hr := B.returns
  have hlocks := B.notSynchronized
  have hw : XW D ad cI cJ cR s.heap s.heap [] u := ⟨hP0, hD0, va_S.rf⟩
  refine en_W (Nat.le_of_ble_eq_true rfl) (fun ls hl => ?_)
  have hl : lv_has ls 1 [(0, .ref (ad (17 + l0)))] := hl
  unfold f_X1_stake at hG
  obtain ⟨hq_l0, hG⟩ := ot hG
  refine lv_aload_n C.1 C.2.1 dX1_stake_0 rfl (lv_at hl 0 rfl) ?_
  refine xgc_5 (q := l0) C hK hw hq_l0 jX1_stake_1 (List.mem_of_getElem? (i := 1) rfl) dX1_stake_1 ?_
  refine lv_i2l C.1 C.2.1 dX1_stake_4 rfl ?_
  refine lv_aload_n C.1 C.2.1 dX1_stake_5 rfl (lv_at hl 0 rfl) ?_
  refine xgc_6 (q := l0) C hK hw hq_l0 jX1_stake_1 (List.mem_of_getElem? (i := 2) rfl) dX1_stake_6 ?_
  refine lv_i2l C.1 C.2.1 dX1_stake_9 rfl ?_
  refine lv_lmul C.1 C.2.1 dX1_stake_10 ?_
  exact xret_l C hlocks hK hw hr (ret1 hG) dX1_stake_11
theorem jX1_computeDigest_1 : ∀ w ∈ wsX10, w ∈ wsX1_computeDigest := by decide +kernel
def f_X1_computeDigest_90 : Nat → Nat → Int64 → Int32 → XS → Option Int64
  | 0, _, _, _, _ => none
  | n + 1, l0, l1, l3, u => (if ((x_cf u) 2 l0) ≤ l3 then some l1 else (if inb l3 4 = true then (if inb l3 4 = true then (f_X1_computeDigest_90 n l0 (((31 : Int64) * (((31 : Int64) * l1) + (Int32.toInt64 ((x_rc u) l0 (Int32.toNatClampNeg l3))))) + ((x_am u) l0 (Int32.toNatClampNeg l3))) (l3 + (1 : Int32)) u) else none) else none))
set_option maxHeartbeats 4000000 in
set_option maxRecDepth 100000 in
theorem kl_X1_computeDigest_90 {p : Program} {l : Launch} {e : Env} {s : State} {m : MethodId} {args : Array Value} {below : List Frame} {meth : Method} {c : Code} {D : va_G} {ad : Nat → Nat} {cI cJ cR : ClassId} (C : CallFix p m c cX1_computeDigest 4 s args wsX1_computeDigest RX1) (hr : meth.sig.returnType = (some .long)) (hlocks : meth.locks = false) (hK : va_K D vwCl (xT cI cJ cR) s) {r1 : Int64} : ∀ (n : Nat) (l0 : Nat) (l1 : Int64) (l3 : Int32) (u : XS) (H : Heap) (locs : List Loc) (ls : Array Slot), f_X1_computeDigest_90 n l0 l1 l3 u = some r1 → XW D ad cI cJ cR s.heap H locs u → lv_has ls 4 [(0, .ref (ad (17 + l0))), (1, .long l1), (3, .int l3)] → l0 < 25 → W p l e ({ frames := 0, cells := 0, slots := 0, locals := 0 } : Room) s m args below meth c H locs 0 0 (MQ below (va_Ql (S := XS) (fun r u2 => r = r1 ∧ u2 = u) (XB D ad cI cJ cR) (AX ad)) args s 0 0 (AX ad)) (F0 m 90 ls []) := by
  intro n
  induction n with
  | zero =>
    intro l0 l1 l3 u H locs ls hG
    exact ns hG
  | succ n ih =>
    intro l0 l1 l3 u H locs ls hG hw hl hq_l0
    rw [f_X1_computeDigest_90] at hG
    refine lv_iload_n C.1 C.2.1 dX1_computeDigest_90 rfl (lv_at hl 2 rfl) ?_
    refine lv_aload_n C.1 C.2.1 dX1_computeDigest_91 rfl (lv_at hl 0 rfl) ?_
    refine xgc_2 (q := l0) C hK hw hq_l0 jX1_computeDigest_1 (List.mem_of_getElem? (i := 10) rfl) dX1_computeDigest_92 ?_
    refine lv_icmp_ge (tgt := 131) C.1 C.2.1 dX1_computeDigest_95 (by decide) (fun (h_1 : ((x_cf u) 2 l0) ≤ l3) => ?_) (fun (h_1 : ¬ ((x_cf u) 2 l0) ≤ l3) => ?_)
    · replace hG := ip h_1 hG
      refine lv_lload_n C.1 C.2.1 dX1_computeDigest_131 rfl (lv_at hl 1 rfl) ?_
      exact xret_l C hlocks hK hw hr (ret1 hG) dX1_computeDigest_132
    · replace hG := inn h_1 hG
      refine lv_ldc2 (v := 31) C.1 C.2.1 C.2.2.2.1 (C.2.2.2.2 _ (List.mem_of_getElem? (i := 2) rfl)) dX1_computeDigest_98 ?_
      refine lv_lload_n C.1 C.2.1 dX1_computeDigest_101 rfl (lv_at hl 1 rfl) ?_
      refine lv_lmul C.1 C.2.1 dX1_computeDigest_102 ?_
      refine lv_aload_n C.1 C.2.1 dX1_computeDigest_103 rfl (lv_at hl 0 rfl) ?_
      refine xgc_0 (q := l0) C hK hw hq_l0 jX1_computeDigest_1 (List.mem_of_getElem? (i := 11) rfl) dX1_computeDigest_104 ?_
      refine lv_iload_n C.1 C.2.1 dX1_computeDigest_107 rfl (lv_at hl 2 rfl) ?_
      obtain ⟨h_2, hG⟩ := og hG
      refine xl_rc (q := l0) C hK hw hq_l0 h_2 dX1_computeDigest_108 ?_
      refine lv_i2l C.1 C.2.1 dX1_computeDigest_109 rfl ?_
      refine lv_ladd C.1 C.2.1 dX1_computeDigest_110 ?_
      refine lv_lstore_n (lv' := [(1, .long (((31 : Int64) * l1) + (Int32.toInt64 ((x_rc u) l0 (Int32.toNatClampNeg l3))))), (0, .ref (ad (17 + l0))), (3, .int l3)]) C.1 C.2.1 dX1_computeDigest_111 rfl hl (by decide) rfl (fun ls hl => ?_)
      refine lv_ldc2 (v := 31) C.1 C.2.1 C.2.2.2.1 (C.2.2.2.2 _ (List.mem_of_getElem? (i := 2) rfl)) dX1_computeDigest_112 ?_
      refine lv_lload_n C.1 C.2.1 dX1_computeDigest_115 rfl (lv_at hl 0 rfl) ?_
      refine lv_lmul C.1 C.2.1 dX1_computeDigest_116 ?_
      refine lv_aload_n C.1 C.2.1 dX1_computeDigest_117 rfl (lv_at hl 1 rfl) ?_
      refine xgc_1 (q := l0) C hK hw hq_l0 jX1_computeDigest_1 (List.mem_of_getElem? (i := 12) rfl) dX1_computeDigest_118 ?_
      refine lv_iload_n C.1 C.2.1 dX1_computeDigest_121 rfl (lv_at hl 2 rfl) ?_
      obtain ⟨h_3, hG⟩ := og hG
      refine xl_am (q := l0) C hK hw hq_l0 h_3 dX1_computeDigest_122 ?_
      refine lv_ladd C.1 C.2.1 dX1_computeDigest_123 ?_
      refine lv_lstore_n (lv' := [(1, .long (((31 : Int64) * (((31 : Int64) * l1) + (Int32.toInt64 ((x_rc u) l0 (Int32.toNatClampNeg l3))))) + ((x_am u) l0 (Int32.toNatClampNeg l3)))), (0, .ref (ad (17 + l0))), (3, .int l3)]) C.1 C.2.1 dX1_computeDigest_124 rfl hl (by decide) rfl (fun ls hl => ?_)
      refine lv_iinc (v := (l3 + (1 : Int32))) (lv' := [(3, .int (l3 + (1 : Int32))), (1, .long (((31 : Int64) * (((31 : Int64) * l1) + (Int32.toInt64 ((x_rc u) l0 (Int32.toNatClampNeg l3))))) + ((x_am u) l0 (Int32.toNatClampNeg l3)))), (0, .ref (ad (17 + l0)))]) C.1 C.2.1 dX1_computeDigest_125 hl (k := 2) rfl rfl (by decide) rfl (fun ls hl => ?_)
      refine lv_goto (tgt := 90) C.1 C.2.1 dX1_computeDigest_128 (by decide) ?_
      exact ih l0 (((31 : Int64) * (((31 : Int64) * l1) + (Int32.toInt64 ((x_rc u) l0 (Int32.toNatClampNeg l3))))) + ((x_am u) l0 (Int32.toNatClampNeg l3))) (l3 + (1 : Int32)) u _ _ _ hG hw (lv_sub hl [2, 1, 0] rfl) hq_l0
def f_X1_computeDigest (l0 : Nat) (u : XS) : Option Int64 := (if l0 < 25 then (f_X1_computeDigest_90 1000 l0 (((31 : Int64) * (((31 : Int64) * (((31 : Int64) * (((31 : Int64) * (((31 : Int64) * (((31 : Int64) * (((31 : Int64) * (17 : Int64)) + (Int32.toInt64 ((x_cf u) 3 l0)))) + (Int32.toInt64 ((x_cf u) 4 l0)))) + (Int32.toInt64 ((x_cf u) 5 l0)))) + (Int32.toInt64 ((x_cf u) 6 l0)))) + (Int32.toInt64 ((x_cf u) 7 l0)))) + (Int32.toInt64 ((x_cf u) 8 l0)))) + (Int32.toInt64 ((x_cf u) 9 l0))) (0 : Int32) u) else none)
set_option maxHeartbeats 4000000 in
set_option maxRecDepth 100000 in
theorem k_X1_computeDigest (l : Launch) (D : va_G) (ad : Nat → Nat) (cI cJ cR : ClassId) (u : XS) (l0 : Nat) (r1 : Int64) (hG : f_X1_computeDigest l0 u = some r1) : Met l yX1_computeDigest wsX1_computeDigest ({ frames := 0, cells := 0, slots := 0, locals := 0 } : Room) (va_Pc [.ref (ad (17 + l0))] (XB D ad cI cJ cR u)) (va_Ql (S := XS) (fun r u2 => r = r1 ∧ u2 = u) (XB D ad cI cJ cR) (AX ad)) 0 0 (AX ad) := by
  refine Met.ofW (cc := cX1_computeDigest) (maxL := 4) (ret := (some .long)) (by decide) rfl ?_
  intro p e s m args below meth c s₁ B hml hv
  obtain ⟨rfl, hP0, hK, hD0⟩ := hv
  have C : CallFix p m c cX1_computeDigest 4 s _ wsX1_computeDigest RX1 := ⟨B.exec, B.bytes, hml, findClass_of_methodNamed B.named, atoms_spec (ws := wsX1_computeDigest) B.pre⟩
  have hr := B.returns
  have hlocks := B.notSynchronized
  have hw : XW D ad cI cJ cR s.heap s.heap [] u := ⟨hP0, hD0, va_S.rf⟩
  refine en_W (Nat.le_of_ble_eq_true rfl) (fun ls hl => ?_)
  have hl : lv_has ls 4 [(0, .ref (ad (17 + l0)))] := hl
  unfold f_X1_computeDigest at hG
  obtain ⟨hq_l0, hG⟩ := ot hG
  refine lv_ldc2 (v := 17) C.1 C.2.1 C.2.2.2.1 (C.2.2.2.2 _ (List.mem_of_getElem? (i := 1) rfl)) dX1_computeDigest_0 ?_
  refine lv_lstore_n (lv' := [(1, .long (17 : Int64)), (0, .ref (ad (17 + l0)))]) C.1 C.2.1 dX1_computeDigest_3 rfl hl (by decide) rfl (fun ls hl => ?_)
  refine lv_ldc2 (v := 31) C.1 C.2.1 C.2.2.2.1 (C.2.2.2.2 _ (List.mem_of_getElem? (i := 2) rfl)) dX1_computeDigest_4 ?_
  refine lv_lload_n C.1 C.2.1 dX1_computeDigest_7 rfl (lv_at hl 0 rfl) ?_
  refine lv_lmul C.1 C.2.1 dX1_computeDigest_8 ?_
  refine lv_aload_n C.1 C.2.1 dX1_computeDigest_9 rfl (lv_at hl 1 rfl) ?_
  refine xgc_3 (q := l0) C hK hw hq_l0 jX1_computeDigest_1 (List.mem_of_getElem? (i := 3) rfl) dX1_computeDigest_10 ?_
  refine lv_i2l C.1 C.2.1 dX1_computeDigest_13 rfl ?_
  refine lv_ladd C.1 C.2.1 dX1_computeDigest_14 ?_
  refine lv_lstore_n (lv' := [(1, .long (((31 : Int64) * (17 : Int64)) + (Int32.toInt64 ((x_cf u) 3 l0)))), (0, .ref (ad (17 + l0)))]) C.1 C.2.1 dX1_computeDigest_15 rfl hl (by decide) rfl (fun ls hl => ?_)
  refine lv_ldc2 (v := 31) C.1 C.2.1 C.2.2.2.1 (C.2.2.2.2 _ (List.mem_of_getElem? (i := 2) rfl)) dX1_computeDigest_16 ?_
  refine lv_lload_n C.1 C.2.1 dX1_computeDigest_19 rfl (lv_at hl 0 rfl) ?_
  refine lv_lmul C.1 C.2.1 dX1_computeDigest_20 ?_
  refine lv_aload_n C.1 C.2.1 dX1_computeDigest_21 rfl (lv_at hl 1 rfl) ?_
  refine xgc_4 (q := l0) C hK hw hq_l0 jX1_computeDigest_1 (List.mem_of_getElem? (i := 4) rfl) dX1_computeDigest_22 ?_
  refine lv_i2l C.1 C.2.1 dX1_computeDigest_25 rfl ?_
  refine lv_ladd C.1 C.2.1 dX1_computeDigest_26 ?_
  refine lv_lstore_n (lv' := [(1, .long (((31 : Int64) * (((31 : Int64) * (17 : Int64)) + (Int32.toInt64 ((x_cf u) 3 l0)))) + (Int32.toInt64 ((x_cf u) 4 l0)))), (0, .ref (ad (17 + l0)))]) C.1 C.2.1 dX1_computeDigest_27 rfl hl (by decide) rfl (fun ls hl => ?_)
  refine lv_ldc2 (v := 31) C.1 C.2.1 C.2.2.2.1 (C.2.2.2.2 _ (List.mem_of_getElem? (i := 2) rfl)) dX1_computeDigest_28 ?_
  refine lv_lload_n C.1 C.2.1 dX1_computeDigest_31 rfl (lv_at hl 0 rfl) ?_
  refine lv_lmul C.1 C.2.1 dX1_computeDigest_32 ?_
  refine lv_aload_n C.1 C.2.1 dX1_computeDigest_33 rfl (lv_at hl 1 rfl) ?_
  refine xgc_5 (q := l0) C hK hw hq_l0 jX1_computeDigest_1 (List.mem_of_getElem? (i := 5) rfl) dX1_computeDigest_34 ?_
  refine lv_i2l C.1 C.2.1 dX1_computeDigest_37 rfl ?_
  refine lv_ladd C.1 C.2.1 dX1_computeDigest_38 ?_
  refine lv_lstore_n (lv' := [(1, .long (((31 : Int64) * (((31 : Int64) * (((31 : Int64) * (17 : Int64)) + (Int32.toInt64 ((x_cf u) 3 l0)))) + (Int32.toInt64 ((x_cf u) 4 l0)))) + (Int32.toInt64 ((x_cf u) 5 l0)))), (0, .ref (ad (17 + l0)))]) C.1 C.2.1 dX1_computeDigest_39 rfl hl (by decide) rfl (fun ls hl => ?_)
  refine lv_ldc2 (v := 31) C.1 C.2.1 C.2.2.2.1 (C.2.2.2.2 _ (List.mem_of_getElem? (i := 2) rfl)) dX1_computeDigest_40 ?_
  refine lv_lload_n C.1 C.2.1 dX1_computeDigest_43 rfl (lv_at hl 0 rfl) ?_
  refine lv_lmul C.1 C.2.1 dX1_computeDigest_44 ?_
  refine lv_aload_n C.1 C.2.1 dX1_computeDigest_45 rfl (lv_at hl 1 rfl) ?_
  refine xgc_6 (q := l0) C hK hw hq_l0 jX1_computeDigest_1 (List.mem_of_getElem? (i := 6) rfl) dX1_computeDigest_46 ?_
  refine lv_i2l C.1 C.2.1 dX1_computeDigest_49 rfl ?_
  refine lv_ladd C.1 C.2.1 dX1_computeDigest_50 ?_
  refine lv_lstore_n (lv' := [(1, .long (((31 : Int64) * (((31 : Int64) * (((31 : Int64) * (((31 : Int64) * (17 : Int64)) + (Int32.toInt64 ((x_cf u) 3 l0)))) + (Int32.toInt64 ((x_cf u) 4 l0)))) + (Int32.toInt64 ((x_cf u) 5 l0)))) + (Int32.toInt64 ((x_cf u) 6 l0)))), (0, .ref (ad (17 + l0)))]) C.1 C.2.1 dX1_computeDigest_51 rfl hl (by decide) rfl (fun ls hl => ?_)
  refine lv_ldc2 (v := 31) C.1 C.2.1 C.2.2.2.1 (C.2.2.2.2 _ (List.mem_of_getElem? (i := 2) rfl)) dX1_computeDigest_52 ?_
  refine lv_lload_n C.1 C.2.1 dX1_computeDigest_55 rfl (lv_at hl 0 rfl) ?_
  refine lv_lmul C.1 C.2.1 dX1_computeDigest_56 ?_
  refine lv_aload_n C.1 C.2.1 dX1_computeDigest_57 rfl (lv_at hl 1 rfl) ?_
  refine xgc_7 (q := l0) C hK hw hq_l0 jX1_computeDigest_1 (List.mem_of_getElem? (i := 7) rfl) dX1_computeDigest_58 ?_
  refine lv_i2l C.1 C.2.1 dX1_computeDigest_61 rfl ?_
  refine lv_ladd C.1 C.2.1 dX1_computeDigest_62 ?_
  refine lv_lstore_n (lv' := [(1, .long (((31 : Int64) * (((31 : Int64) * (((31 : Int64) * (((31 : Int64) * (((31 : Int64) * (17 : Int64)) + (Int32.toInt64 ((x_cf u) 3 l0)))) + (Int32.toInt64 ((x_cf u) 4 l0)))) + (Int32.toInt64 ((x_cf u) 5 l0)))) + (Int32.toInt64 ((x_cf u) 6 l0)))) + (Int32.toInt64 ((x_cf u) 7 l0)))), (0, .ref (ad (17 + l0)))]) C.1 C.2.1 dX1_computeDigest_63 rfl hl (by decide) rfl (fun ls hl => ?_)
  refine lv_ldc2 (v := 31) C.1 C.2.1 C.2.2.2.1 (C.2.2.2.2 _ (List.mem_of_getElem? (i := 2) rfl)) dX1_computeDigest_64 ?_
  refine lv_lload_n C.1 C.2.1 dX1_computeDigest_67 rfl (lv_at hl 0 rfl) ?_
  refine lv_lmul C.1 C.2.1 dX1_computeDigest_68 ?_
  refine lv_aload_n C.1 C.2.1 dX1_computeDigest_69 rfl (lv_at hl 1 rfl) ?_
  refine xgc_8 (q := l0) C hK hw hq_l0 jX1_computeDigest_1 (List.mem_of_getElem? (i := 8) rfl) dX1_computeDigest_70 ?_
  refine lv_i2l C.1 C.2.1 dX1_computeDigest_73 rfl ?_
  refine lv_ladd C.1 C.2.1 dX1_computeDigest_74 ?_
  refine lv_lstore_n (lv' := [(1, .long (((31 : Int64) * (((31 : Int64) * (((31 : Int64) * (((31 : Int64) * (((31 : Int64) * (((31 : Int64) * (17 : Int64)) + (Int32.toInt64 ((x_cf u) 3 l0)))) + (Int32.toInt64 ((x_cf u) 4 l0)))) + (Int32.toInt64 ((x_cf u) 5 l0)))) + (Int32.toInt64 ((x_cf u) 6 l0)))) + (Int32.toInt64 ((x_cf u) 7 l0)))) + (Int32.toInt64 ((x_cf u) 8 l0)))), (0, .ref (ad (17 + l0)))]) C.1 C.2.1 dX1_computeDigest_75 rfl hl (by decide) rfl (fun ls hl => ?_)
  refine lv_ldc2 (v := 31) C.1 C.2.1 C.2.2.2.1 (C.2.2.2.2 _ (List.mem_of_getElem? (i := 2) rfl)) dX1_computeDigest_76 ?_
  refine lv_lload_n C.1 C.2.1 dX1_computeDigest_79 rfl (lv_at hl 0 rfl) ?_
  refine lv_lmul C.1 C.2.1 dX1_computeDigest_80 ?_
  refine lv_aload_n C.1 C.2.1 dX1_computeDigest_81 rfl (lv_at hl 1 rfl) ?_
  refine xgc_9 (q := l0) C hK hw hq_l0 jX1_computeDigest_1 (List.mem_of_getElem? (i := 9) rfl) dX1_computeDigest_82 ?_
  refine lv_i2l C.1 C.2.1 dX1_computeDigest_85 rfl ?_
  refine lv_ladd C.1 C.2.1 dX1_computeDigest_86 ?_
  refine lv_lstore_n (lv' := [(1, .long (((31 : Int64) * (((31 : Int64) * (((31 : Int64) * (((31 : Int64) * (((31 : Int64) * (((31 : Int64) * (((31 : Int64) * (17 : Int64)) + (Int32.toInt64 ((x_cf u) 3 l0)))) + (Int32.toInt64 ((x_cf u) 4 l0)))) + (Int32.toInt64 ((x_cf u) 5 l0)))) + (Int32.toInt64 ((x_cf u) 6 l0)))) + (Int32.toInt64 ((x_cf u) 7 l0)))) + (Int32.toInt64 ((x_cf u) 8 l0)))) + (Int32.toInt64 ((x_cf u) 9 l0)))), (0, .ref (ad (17 + l0)))]) C.1 C.2.1 dX1_computeDigest_87 rfl hl (by decide) rfl (fun ls hl => ?_)
  refine lv_iconst (v := 0) C.1 C.2.1 dX1_computeDigest_88 (by decide) ?_
  refine lv_istore_n (lv' := [(3, .int (0 : Int32)), (1, .long (((31 : Int64) * (((31 : Int64) * (((31 : Int64) * (((31 : Int64) * (((31 : Int64) * (((31 : Int64) * (((31 : Int64) * (17 : Int64)) + (Int32.toInt64 ((x_cf u) 3 l0)))) + (Int32.toInt64 ((x_cf u) 4 l0)))) + (Int32.toInt64 ((x_cf u) 5 l0)))) + (Int32.toInt64 ((x_cf u) 6 l0)))) + (Int32.toInt64 ((x_cf u) 7 l0)))) + (Int32.toInt64 ((x_cf u) 8 l0)))) + (Int32.toInt64 ((x_cf u) 9 l0)))), (0, .ref (ad (17 + l0)))]) C.1 C.2.1 dX1_computeDigest_89 rfl hl (by decide) rfl (fun ls hl => ?_)
  exact kl_X1_computeDigest_90 C hr hlocks hK 1000 l0 (((31 : Int64) * (((31 : Int64) * (((31 : Int64) * (((31 : Int64) * (((31 : Int64) * (((31 : Int64) * (((31 : Int64) * (17 : Int64)) + (Int32.toInt64 ((x_cf u) 3 l0)))) + (Int32.toInt64 ((x_cf u) 4 l0)))) + (Int32.toInt64 ((x_cf u) 5 l0)))) + (Int32.toInt64 ((x_cf u) 6 l0)))) + (Int32.toInt64 ((x_cf u) 7 l0)))) + (Int32.toInt64 ((x_cf u) 8 l0)))) + (Int32.toInt64 ((x_cf u) 9 l0))) (0 : Int32) u _ _ _ hG hw (lv_sub hl [2, 1, 0] rfl) hq_l0
theorem jX2_begin_2 : ∀ w ∈ wsX20, w ∈ wsX2_begin := by decide +kernel
def f_X2_begin (l1 : Int32) (l2 : Int32) (l3 : Int32) (l4 : Int32) (u : XS) : Option XS := ((f_X1_begin 0 l1 l2 l3 l4 u).bind fun q_1 => some (xs_the (xs_add q_1 (0 : Int32)) (1 : Int32)))
set_option maxHeartbeats 4000000 in
set_option maxRecDepth 100000 in
theorem k_X2_begin (l : Launch) (D : va_G) (ad : Nat → Nat) (cI cJ cR : ClassId) (u : XS) (l1 : Int32) (l2 : Int32) (l3 : Int32) (l4 : Int32) (u1 : XS) (hG : f_X2_begin l1 l2 l3 l4 u = some u1) : Met l yX2_begin wsX2_begin ({ frames := 1, cells := 0, slots := 0, locals := 24 } : Room) (va_Pc [.ref (ad 9), .int l1, .int l2, .int l3, .int l4] (XB D ad cI cJ cR u)) (va_Qv (S := XS) (fun u2 => u2 = u1) (XB D ad cI cJ cR) (AX ad)) 0 0 (AX ad) := by
  refine Met.ofW (cc := cX2_begin) (maxL := 5) (ret := none) (by decide) rfl ?_
  intro p e s m args below meth c s₁ B hml hv
  obtain ⟨rfl, hP0, hK, hD0⟩ := hv
  have C : CallFix p m c cX2_begin 5 s _ wsX2_begin RX2 := ⟨B.exec, B.bytes, hml, findClass_of_methodNamed B.named, atoms_spec (ws := wsX2_begin) B.pre⟩
  have hr := B.returns
  have hlocks := B.notSynchronized
  have hw : XW D ad cI cJ cR s.heap s.heap [] u := ⟨hP0, hD0, va_S.rf⟩
  refine en_W (Nat.le_of_ble_eq_true rfl) (fun ls hl => ?_)
  have hl : lv_has ls 5 [(0, .ref (ad 9)), (1, .int l1), (2, .int l2), (3, .int l3), (4, .int l4)] := hl
  unfold f_X2_begin at hG
  refine lv_aload_n C.1 C.2.1 dX2_begin_0 rfl (lv_at hl 0 rfl) ?_
  refine xg_9_0 C hK hw jX2_begin_2 (List.mem_of_getElem? (i := 1) rfl) dX2_begin_1 ?_
  refine lv_iload_n C.1 C.2.1 dX2_begin_4 rfl (lv_at hl 1 rfl) ?_
  refine lv_iload_n C.1 C.2.1 dX2_begin_5 rfl (lv_at hl 2 rfl) ?_
  refine lv_iload_n C.1 C.2.1 dX2_begin_6 rfl (lv_at hl 3 rfl) ?_
  refine lv_iload C.1 C.2.1 dX2_begin_7 (lv_at hl 4 rfl) ?_
  obtain ⟨q_1, hc_1, hG⟩ := ob hG
  try dsimp only at hG
  refine xcVv (As := [.int l1, .int l2, .int l3, .int l4]) (rest := []) C hK hw (k_X1_begin l D ad cI cJ cR u 0 l1 l2 l3 l4 q_1 hc_1) (cwV 4 C.2.2.2.2 gX2_begin_X1_begin rfl rfl rfl (by decide +kernel) ⟨Nat.le_of_ble_eq_true rfl, Nat.le_of_ble_eq_true rfl⟩) (va_recv hK hw.1 (ci := 1) (q0 := 17 + 0) rfl (wX_c (by decide))) rfl hl.1 rfl (Nat.le_of_ble_eq_true rfl) dX2_begin_9 (fun H locs hw => ?_)
  refine lv_aload_n C.1 C.2.1 dX2_begin_12 rfl (lv_at hl 0 rfl) ?_
  refine lv_iconst (v := 0) C.1 C.2.1 dX2_begin_13 (by decide) ?_
  refine xp_9_2 C hK hw jX2_begin_2 (List.mem_of_getElem? (i := 2) rfl) dX2_begin_14 (fun H locs hw => ?_)
  refine lv_aload_n C.1 C.2.1 dX2_begin_17 rfl (lv_at hl 0 rfl) ?_
  refine lv_iconst (v := 1) C.1 C.2.1 dX2_begin_18 (by decide) ?_
  refine xp_9_3 C hK hw jX2_begin_2 (List.mem_of_getElem? (i := 3) rfl) rfl rfl dX2_begin_19 (fun H locs hw => ?_)
  exact xret_v C hlocks hK hw hr (retv hG) dX2_begin_22
theorem jX2_append_2 : ∀ w ∈ wsX20, w ∈ wsX2_append := by decide +kernel
def f_X2_append (l1 : Int32) (u : XS) : Option (Int32 × XS) := (if inb (x_add u) 12 = true then some (((x_add u) + (1 : Int32)), (xs_add (xs_dsg u (upd (x_dsg u) (Int32.toNatClampNeg (x_add u)) l1)) ((x_add u) + (1 : Int32)))) else none)
set_option maxHeartbeats 4000000 in
set_option maxRecDepth 100000 in
theorem k_X2_append (l : Launch) (D : va_G) (ad : Nat → Nat) (cI cJ cR : ClassId) (u : XS) (l1 : Int32) (r1 : Int32) (u1 : XS) (hG : f_X2_append l1 u = some (r1, u1)) : Met l yX2_append wsX2_append ({ frames := 0, cells := 0, slots := 0, locals := 0 } : Room) (va_Pc [.ref (ad 9), .int l1] (XB D ad cI cJ cR u)) (va_Qi (S := XS) (fun r u2 => r = r1 ∧ u2 = u1) (XB D ad cI cJ cR) (AX ad)) 0 0 (AX ad) := by
  refine Met.ofW (cc := cX2_append) (maxL := 2) (ret := (some .int)) (by decide) rfl ?_
  intro p e s m args below meth c s₁ B hml hv
  obtain ⟨rfl, hP0, hK, hD0⟩ := hv
  have C : CallFix p m c cX2_append 2 s _ wsX2_append RX2 := ⟨B.exec, B.bytes, hml, findClass_of_methodNamed B.named, atoms_spec (ws := wsX2_append) B.pre⟩
  have hr := B.returns
  have hlocks := B.notSynchronized
  have hw : XW D ad cI cJ cR s.heap s.heap [] u := ⟨hP0, hD0, va_S.rf⟩
  refine en_W (Nat.le_of_ble_eq_true rfl) (fun ls hl => ?_)
  have hl : lv_has ls 2 [(0, .ref (ad 9)), (1, .int l1)] := hl
  unfold f_X2_append at hG
  refine lv_aload_n C.1 C.2.1 dX2_append_0 rfl (lv_at hl 0 rfl) ?_
  refine xg_9_1 C hK hw jX2_append_2 (List.mem_of_getElem? (i := 1) rfl) dX2_append_1 ?_
  refine lv_aload_n C.1 C.2.1 dX2_append_4 rfl (lv_at hl 0 rfl) ?_
  refine xg_9_2 C hK hw jX2_append_2 (List.mem_of_getElem? (i := 2) rfl) dX2_append_5 ?_
  refine lv_iload_n C.1 C.2.1 dX2_append_8 rfl (lv_at hl 1 rfl) ?_
  obtain ⟨h_1, hG⟩ := og hG
  refine xt_10 C hK hw h_1 dX2_append_9 (fun H locs hw => ?_)
  refine lv_aload_n C.1 C.2.1 dX2_append_10 rfl (lv_at hl 0 rfl) ?_
  refine lv_dup C.1 C.2.1 dX2_append_11 rfl ?_
  refine xg_9_2 C hK hw jX2_append_2 (List.mem_of_getElem? (i := 2) rfl) dX2_append_12 ?_
  refine lv_iconst (v := 1) C.1 C.2.1 dX2_append_15 (by decide) ?_
  refine lv_iadd C.1 C.2.1 dX2_append_16 ?_
  refine xp_9_2 C hK hw jX2_append_2 (List.mem_of_getElem? (i := 2) rfl) dX2_append_17 (fun H locs hw => ?_)
  refine lv_aload_n C.1 C.2.1 dX2_append_20 rfl (lv_at hl 0 rfl) ?_
  refine xg_9_2 C hK hw jX2_append_2 (List.mem_of_getElem? (i := 2) rfl) dX2_append_21 ?_
  exact xret_i C hlocks hK hw hr (ret2 hG) dX2_append_24
theorem jX3_note_3 : ∀ w ∈ wsX30, w ∈ wsX3_note := by decide +kernel
def f_X3_note (l1 : Int32) (l2 : Int32) (l3 : Int32) (u : XS) : Option XS := (if (60 : Int32) ≤ ((x_nws u) + (1 : Int32)) then (if inb (0 : Int32) 60 = true then (if inb (0 : Int32) 60 = true then (if inb (0 : Int32) 60 = true then some (xs_ina (xs_kep (xs_eun (xs_ewh (xs_etk (xs_nws u (0 : Int32)) (upd (x_etk u) (Int32.toNatClampNeg (0 : Int32)) l1)) (upd (x_ewh u) (Int32.toNatClampNeg (0 : Int32)) l2)) (upd (x_eun u) (Int32.toNatClampNeg (0 : Int32)) l3)) (if (60 : Int32) < ((x_kep u) + (1 : Int32)) then (60 : Int32) else ((x_kep u) + (1 : Int32)))) ((x_ina u) + (1 : Int32))) else none) else none) else none) else (if inb ((x_nws u) + (1 : Int32)) 60 = true then (if inb ((x_nws u) + (1 : Int32)) 60 = true then (if inb ((x_nws u) + (1 : Int32)) 60 = true then some (xs_ina (xs_kep (xs_eun (xs_ewh (xs_etk (xs_nws u ((x_nws u) + (1 : Int32))) (upd (x_etk u) (Int32.toNatClampNeg ((x_nws u) + (1 : Int32))) l1)) (upd (x_ewh u) (Int32.toNatClampNeg ((x_nws u) + (1 : Int32))) l2)) (upd (x_eun u) (Int32.toNatClampNeg ((x_nws u) + (1 : Int32))) l3)) (if (60 : Int32) < ((x_kep u) + (1 : Int32)) then (60 : Int32) else ((x_kep u) + (1 : Int32)))) ((x_ina u) + (1 : Int32))) else none) else none) else none))
set_option maxHeartbeats 4000000 in
set_option maxRecDepth 100000 in
theorem k_X3_note (l : Launch) (D : va_G) (ad : Nat → Nat) (cI cJ cR : ClassId) (u : XS) (l1 : Int32) (l2 : Int32) (l3 : Int32) (u1 : XS) (hG : f_X3_note l1 l2 l3 u = some u1) : Met l yX3_note wsX3_note ({ frames := 1, cells := 0, slots := 0, locals := 21 } : Room) (va_Pc [.ref (ad 13), .int l1, .int l2, .int l3] (XB D ad cI cJ cR u)) (va_Qv (S := XS) (fun u2 => u2 = u1) (XB D ad cI cJ cR) (AX ad)) 0 0 (AX ad) := by
  refine Met.ofW (cc := cX3_note) (maxL := 4) (ret := none) (by decide) rfl ?_
  intro p e s m args below meth c s₁ B hml hv
  obtain ⟨rfl, hP0, hK, hD0⟩ := hv
  have C : CallFix p m c cX3_note 4 s _ wsX3_note RX3 := ⟨B.exec, B.bytes, hml, findClass_of_methodNamed B.named, atoms_spec (ws := wsX3_note) B.pre⟩
  have hr := B.returns
  have hlocks := B.notSynchronized
  have hw : XW D ad cI cJ cR s.heap s.heap [] u := ⟨hP0, hD0, va_S.rf⟩
  refine en_W (Nat.le_of_ble_eq_true rfl) (fun ls hl => ?_)
  have hl : lv_has ls 4 [(0, .ref (ad 13)), (1, .int l1), (2, .int l2), (3, .int l3)] := hl
  unfold f_X3_note at hG
  refine lv_aload_n C.1 C.2.1 dX3_note_0 rfl (lv_at hl 0 rfl) ?_
  refine lv_aload_n C.1 C.2.1 dX3_note_1 rfl (lv_at hl 0 rfl) ?_
  refine xg_13_4 C hK hw jX3_note_3 (List.mem_of_getElem? (i := 1) rfl) dX3_note_2 ?_
  refine lv_iconst (v := 1) C.1 C.2.1 dX3_note_5 (by decide) ?_
  refine lv_iadd C.1 C.2.1 dX3_note_6 ?_
  refine lv_bipush (v := 60) C.1 C.2.1 dX3_note_7 (by decide) ?_
  refine lv_icmp_ge (tgt := 21) C.1 C.2.1 dX3_note_9 (by decide) (fun (h_1 : (60 : Int32) ≤ ((x_nws u) + (1 : Int32))) => ?_) (fun (h_1 : ¬ (60 : Int32) ≤ ((x_nws u) + (1 : Int32))) => ?_)
  · replace hG := ip h_1 hG
    refine lv_iconst (v := 0) C.1 C.2.1 dX3_note_21 (by decide) ?_
    refine xp_13_4 C hK hw jX3_note_3 (List.mem_of_getElem? (i := 1) rfl) dX3_note_22 (fun H locs hw => ?_)
    refine lv_aload_n C.1 C.2.1 dX3_note_25 rfl (lv_at hl 0 rfl) ?_
    refine xg_13_0 C hK hw jX3_note_3 (List.mem_of_getElem? (i := 2) rfl) dX3_note_26 ?_
    refine lv_aload_n C.1 C.2.1 dX3_note_29 rfl (lv_at hl 0 rfl) ?_
    refine xg_13_4 C hK hw jX3_note_3 (List.mem_of_getElem? (i := 1) rfl) dX3_note_30 ?_
    refine lv_iload_n C.1 C.2.1 dX3_note_33 rfl (lv_at hl 1 rfl) ?_
    obtain ⟨h_2, hG⟩ := og hG
    refine xt_14 C hK hw h_2 dX3_note_34 (fun H locs hw => ?_)
    refine lv_aload_n C.1 C.2.1 dX3_note_35 rfl (lv_at hl 0 rfl) ?_
    refine xg_13_1 C hK hw jX3_note_3 (List.mem_of_getElem? (i := 3) rfl) dX3_note_36 ?_
    refine lv_aload_n C.1 C.2.1 dX3_note_39 rfl (lv_at hl 0 rfl) ?_
    refine xg_13_4 C hK hw jX3_note_3 (List.mem_of_getElem? (i := 1) rfl) dX3_note_40 ?_
    refine lv_iload_n C.1 C.2.1 dX3_note_43 rfl (lv_at hl 2 rfl) ?_
    obtain ⟨h_3, hG⟩ := og hG
    refine xt_15 C hK hw h_3 dX3_note_44 (fun H locs hw => ?_)
    refine lv_aload_n C.1 C.2.1 dX3_note_45 rfl (lv_at hl 0 rfl) ?_
    refine xg_13_2 C hK hw jX3_note_3 (List.mem_of_getElem? (i := 4) rfl) dX3_note_46 ?_
    refine lv_aload_n C.1 C.2.1 dX3_note_49 rfl (lv_at hl 0 rfl) ?_
    refine xg_13_4 C hK hw jX3_note_3 (List.mem_of_getElem? (i := 1) rfl) dX3_note_50 ?_
    refine lv_iload_n C.1 C.2.1 dX3_note_53 rfl (lv_at hl 3 rfl) ?_
    obtain ⟨h_4, hG⟩ := og hG
    refine xt_16 C hK hw h_4 dX3_note_54 (fun H locs hw => ?_)
    refine lv_aload_n C.1 C.2.1 dX3_note_55 rfl (lv_at hl 0 rfl) ?_
    refine lv_aload_n C.1 C.2.1 dX3_note_56 rfl (lv_at hl 0 rfl) ?_
    refine xg_13_3 C hK hw jX3_note_3 (List.mem_of_getElem? (i := 5) rfl) dX3_note_57 ?_
    refine lv_iconst (v := 1) C.1 C.2.1 dX3_note_60 (by decide) ?_
    refine lv_iadd C.1 C.2.1 dX3_note_61 ?_
    refine lv_bipush (v := 60) C.1 C.2.1 dX3_note_62 (by decide) ?_
    refine va_mmin C.1 C.2.1 (C.2.2.1.trans hl.1.symm) C.2.2.2.1 (C.2.2.2.2 _ (List.mem_of_getElem? (i := 6) rfl)) (C.2.2.2.2 _ (List.mem_of_getElem? (i := 7) rfl)) (C.2.2.2.2 _ (List.mem_of_getElem? (i := 8) rfl)) (C.2.2.2.2 _ (List.mem_of_getElem? (i := 9) rfl)) (Nat.le_of_ble_eq_true rfl) (Nat.le_of_ble_eq_true rfl) (Nat.le_of_ble_eq_true rfl) (Nat.le_of_ble_eq_true rfl) dX3_note_64 ?_
    refine xp_13_3 C hK hw jX3_note_3 (List.mem_of_getElem? (i := 5) rfl) dX3_note_67 (fun H locs hw => ?_)
    refine lv_aload_n C.1 C.2.1 dX3_note_70 rfl (lv_at hl 0 rfl) ?_
    refine lv_dup C.1 C.2.1 dX3_note_71 rfl ?_
    refine xg_13_5 C hK hw jX3_note_3 (List.mem_of_getElem? (i := 10) rfl) dX3_note_72 ?_
    refine lv_iconst (v := 1) C.1 C.2.1 dX3_note_75 (by decide) ?_
    refine lv_iadd C.1 C.2.1 dX3_note_76 ?_
    refine xp_13_5 C hK hw jX3_note_3 (List.mem_of_getElem? (i := 10) rfl) dX3_note_77 (fun H locs hw => ?_)
    exact xret_v C hlocks hK hw hr (retv hG) dX3_note_80
  · replace hG := inn h_1 hG
    refine lv_aload_n C.1 C.2.1 dX3_note_12 rfl (lv_at hl 0 rfl) ?_
    refine xg_13_4 C hK hw jX3_note_3 (List.mem_of_getElem? (i := 1) rfl) dX3_note_13 ?_
    refine lv_iconst (v := 1) C.1 C.2.1 dX3_note_16 (by decide) ?_
    refine lv_iadd C.1 C.2.1 dX3_note_17 ?_
    refine lv_goto (tgt := 22) C.1 C.2.1 dX3_note_18 (by decide) ?_
    refine xp_13_4 C hK hw jX3_note_3 (List.mem_of_getElem? (i := 1) rfl) dX3_note_22 (fun H locs hw => ?_)
    refine lv_aload_n C.1 C.2.1 dX3_note_25 rfl (lv_at hl 0 rfl) ?_
    refine xg_13_0 C hK hw jX3_note_3 (List.mem_of_getElem? (i := 2) rfl) dX3_note_26 ?_
    refine lv_aload_n C.1 C.2.1 dX3_note_29 rfl (lv_at hl 0 rfl) ?_
    refine xg_13_4 C hK hw jX3_note_3 (List.mem_of_getElem? (i := 1) rfl) dX3_note_30 ?_
    refine lv_iload_n C.1 C.2.1 dX3_note_33 rfl (lv_at hl 1 rfl) ?_
    obtain ⟨h_5, hG⟩ := og hG
    refine xt_14 C hK hw h_5 dX3_note_34 (fun H locs hw => ?_)
    refine lv_aload_n C.1 C.2.1 dX3_note_35 rfl (lv_at hl 0 rfl) ?_
    refine xg_13_1 C hK hw jX3_note_3 (List.mem_of_getElem? (i := 3) rfl) dX3_note_36 ?_
    refine lv_aload_n C.1 C.2.1 dX3_note_39 rfl (lv_at hl 0 rfl) ?_
    refine xg_13_4 C hK hw jX3_note_3 (List.mem_of_getElem? (i := 1) rfl) dX3_note_40 ?_
    refine lv_iload_n C.1 C.2.1 dX3_note_43 rfl (lv_at hl 2 rfl) ?_
    obtain ⟨h_6, hG⟩ := og hG
    refine xt_15 C hK hw h_6 dX3_note_44 (fun H locs hw => ?_)
    refine lv_aload_n C.1 C.2.1 dX3_note_45 rfl (lv_at hl 0 rfl) ?_
    refine xg_13_2 C hK hw jX3_note_3 (List.mem_of_getElem? (i := 4) rfl) dX3_note_46 ?_
    refine lv_aload_n C.1 C.2.1 dX3_note_49 rfl (lv_at hl 0 rfl) ?_
    refine xg_13_4 C hK hw jX3_note_3 (List.mem_of_getElem? (i := 1) rfl) dX3_note_50 ?_
    refine lv_iload_n C.1 C.2.1 dX3_note_53 rfl (lv_at hl 3 rfl) ?_
    obtain ⟨h_7, hG⟩ := og hG
    refine xt_16 C hK hw h_7 dX3_note_54 (fun H locs hw => ?_)
    refine lv_aload_n C.1 C.2.1 dX3_note_55 rfl (lv_at hl 0 rfl) ?_
    refine lv_aload_n C.1 C.2.1 dX3_note_56 rfl (lv_at hl 0 rfl) ?_
    refine xg_13_3 C hK hw jX3_note_3 (List.mem_of_getElem? (i := 5) rfl) dX3_note_57 ?_
    refine lv_iconst (v := 1) C.1 C.2.1 dX3_note_60 (by decide) ?_
    refine lv_iadd C.1 C.2.1 dX3_note_61 ?_
    refine lv_bipush (v := 60) C.1 C.2.1 dX3_note_62 (by decide) ?_
    refine va_mmin C.1 C.2.1 (C.2.2.1.trans hl.1.symm) C.2.2.2.1 (C.2.2.2.2 _ (List.mem_of_getElem? (i := 6) rfl)) (C.2.2.2.2 _ (List.mem_of_getElem? (i := 7) rfl)) (C.2.2.2.2 _ (List.mem_of_getElem? (i := 8) rfl)) (C.2.2.2.2 _ (List.mem_of_getElem? (i := 9) rfl)) (Nat.le_of_ble_eq_true rfl) (Nat.le_of_ble_eq_true rfl) (Nat.le_of_ble_eq_true rfl) (Nat.le_of_ble_eq_true rfl) dX3_note_64 ?_
    refine xp_13_3 C hK hw jX3_note_3 (List.mem_of_getElem? (i := 5) rfl) dX3_note_67 (fun H locs hw => ?_)
    refine lv_aload_n C.1 C.2.1 dX3_note_70 rfl (lv_at hl 0 rfl) ?_
    refine lv_dup C.1 C.2.1 dX3_note_71 rfl ?_
    refine xg_13_5 C hK hw jX3_note_3 (List.mem_of_getElem? (i := 10) rfl) dX3_note_72 ?_
    refine lv_iconst (v := 1) C.1 C.2.1 dX3_note_75 (by decide) ?_
    refine lv_iadd C.1 C.2.1 dX3_note_76 ?_
    refine xp_13_5 C hK hw jX3_note_3 (List.mem_of_getElem? (i := 10) rfl) dX3_note_77 (fun H locs hw => ?_)
    exact xret_v C hlocks hK hw hr (retv hG) dX3_note_80
theorem jX3_placeOf_3 : ∀ w ∈ wsX30, w ∈ wsX3_placeOf := by decide +kernel
def f_X3_placeOf (l1 : Int32) (u : XS) : Option Int32 := (if ((x_nws u) - l1) < (0 : Int32) then some (((x_nws u) - l1) + (60 : Int32)) else some ((x_nws u) - l1))
set_option maxHeartbeats 4000000 in
set_option maxRecDepth 100000 in
theorem k_X3_placeOf (l : Launch) (D : va_G) (ad : Nat → Nat) (cI cJ cR : ClassId) (u : XS) (l1 : Int32) (r1 : Int32) (hG : f_X3_placeOf l1 u = some r1) : Met l yX3_placeOf wsX3_placeOf ({ frames := 0, cells := 0, slots := 0, locals := 0 } : Room) (va_Pc [.ref (ad 13), .int l1] (XB D ad cI cJ cR u)) (va_Qi (S := XS) (fun r u2 => r = r1 ∧ u2 = u) (XB D ad cI cJ cR) (AX ad)) 0 0 (AX ad) := by
  refine Met.ofW (cc := cX3_placeOf) (maxL := 3) (ret := (some .int)) (by decide) rfl ?_
  intro p e s m args below meth c s₁ B hml hv
  obtain ⟨rfl, hP0, hK, hD0⟩ := hv
  have C : CallFix p m c cX3_placeOf 3 s _ wsX3_placeOf RX3 := ⟨B.exec, B.bytes, hml, findClass_of_methodNamed B.named, atoms_spec (ws := wsX3_placeOf) B.pre⟩
  have hr := B.returns
  have hlocks := B.notSynchronized
  have hw : XW D ad cI cJ cR s.heap s.heap [] u := ⟨hP0, hD0, va_S.rf⟩
  refine en_W (Nat.le_of_ble_eq_true rfl) (fun ls hl => ?_)
  have hl : lv_has ls 3 [(0, .ref (ad 13)), (1, .int l1)] := hl
  unfold f_X3_placeOf at hG
  refine lv_aload_n C.1 C.2.1 dX3_placeOf_0 rfl (lv_at hl 0 rfl) ?_
  refine xg_13_4 C hK hw jX3_placeOf_3 (List.mem_of_getElem? (i := 1) rfl) dX3_placeOf_1 ?_
  refine lv_iload_n C.1 C.2.1 dX3_placeOf_4 rfl (lv_at hl 1 rfl) ?_
  refine lv_isub C.1 C.2.1 dX3_placeOf_5 ?_
  refine lv_istore_n (lv' := [(2, .int ((x_nws u) - l1)), (0, .ref (ad 13)), (1, .int l1)]) C.1 C.2.1 dX3_placeOf_6 rfl hl (by decide) rfl (fun ls hl => ?_)
  refine lv_iload_n C.1 C.2.1 dX3_placeOf_7 rfl (lv_at hl 0 rfl) ?_
  refine lv_if_lt (tgt := 15) C.1 C.2.1 dX3_placeOf_8 (by decide) (fun (h_1 : ((x_nws u) - l1) < (0 : Int32)) => ?_) (fun (h_1 : ¬ ((x_nws u) - l1) < (0 : Int32)) => ?_)
  · replace hG := ip h_1 hG
    refine lv_iload_n C.1 C.2.1 dX3_placeOf_15 rfl (lv_at hl 0 rfl) ?_
    refine lv_bipush (v := 60) C.1 C.2.1 dX3_placeOf_16 (by decide) ?_
    refine lv_iadd C.1 C.2.1 dX3_placeOf_18 ?_
    exact xret_i C hlocks hK hw hr (ret1 hG) dX3_placeOf_19
  · replace hG := inn h_1 hG
    refine lv_iload_n C.1 C.2.1 dX3_placeOf_11 rfl (lv_at hl 0 rfl) ?_
    refine lv_goto (tgt := 19) C.1 C.2.1 dX3_placeOf_12 (by decide) ?_
    exact xret_i C hlocks hK hw hr (ret1 hG) dX3_placeOf_19
theorem jX4_has_4 : ∀ w ∈ wsX40, w ∈ wsX4_has := by decide +kernel
def f_X4_has (l1 : Int32) (u : XS) : Option Int32 := (if l1 < (0 : Int32) then some (0 : Int32) else (if (x_sgc u) ≤ l1 then some (0 : Int32) else some (1 : Int32)))
set_option maxHeartbeats 4000000 in
set_option maxRecDepth 100000 in
theorem k_X4_has (l : Launch) (D : va_G) (ad : Nat → Nat) (cI cJ cR : ClassId) (u : XS) (l1 : Int32) (r1 : Int32) (hG : f_X4_has l1 u = some r1) : Met l yX4_has wsX4_has ({ frames := 0, cells := 0, slots := 0, locals := 0 } : Room) (va_Pc [.ref (ad 6), .int l1] (XB D ad cI cJ cR u)) (va_Qi (S := XS) (fun r u2 => r = r1 ∧ u2 = u) (XB D ad cI cJ cR) (AX ad)) 0 0 (AX ad) := by
  refine Met.ofW (cc := cX4_has) (maxL := 2) (ret := (some .boolean)) (by decide) rfl ?_
  intro p e s m args below meth c s₁ B hml hv
  obtain ⟨rfl, hP0, hK, hD0⟩ := hv
  have C : CallFix p m c cX4_has 2 s _ wsX4_has RX4 := ⟨B.exec, B.bytes, hml, findClass_of_methodNamed B.named, atoms_spec (ws := wsX4_has) B.pre⟩
  have hr := B.returns
  have hlocks := B.notSynchronized
  have hw : XW D ad cI cJ cR s.heap s.heap [] u := ⟨hP0, hD0, va_S.rf⟩
  refine en_W (Nat.le_of_ble_eq_true rfl) (fun ls hl => ?_)
  have hl : lv_has ls 2 [(0, .ref (ad 6)), (1, .int l1)] := hl
  unfold f_X4_has at hG
  refine lv_iload_n C.1 C.2.1 dX4_has_0 rfl (lv_at hl 1 rfl) ?_
  refine lv_if_lt (tgt := 16) C.1 C.2.1 dX4_has_1 (by decide) (fun (h_1 : l1 < (0 : Int32)) => ?_) (fun (h_1 : ¬ l1 < (0 : Int32)) => ?_)
  · replace hG := ip h_1 hG
    refine lv_iconst (v := 0) C.1 C.2.1 dX4_has_16 (by decide) ?_
    exact xret_z C hlocks hK hw hr rfl (ret1 hG) dX4_has_17
  · replace hG := inn h_1 hG
    refine lv_iload_n C.1 C.2.1 dX4_has_4 rfl (lv_at hl 1 rfl) ?_
    refine lv_aload_n C.1 C.2.1 dX4_has_5 rfl (lv_at hl 0 rfl) ?_
    refine xg_6_2 C hK hw jX4_has_4 (List.mem_of_getElem? (i := 1) rfl) dX4_has_6 ?_
    refine lv_icmp_ge (tgt := 16) C.1 C.2.1 dX4_has_9 (by decide) (fun (h_2 : (x_sgc u) ≤ l1) => ?_) (fun (h_2 : ¬ (x_sgc u) ≤ l1) => ?_)
    · replace hG := ip h_2 hG
      refine lv_iconst (v := 0) C.1 C.2.1 dX4_has_16 (by decide) ?_
      exact xret_z C hlocks hK hw hr rfl (ret1 hG) dX4_has_17
    · replace hG := inn h_2 hG
      refine lv_iconst (v := 1) C.1 C.2.1 dX4_has_12 (by decide) ?_
      refine lv_goto (tgt := 17) C.1 C.2.1 dX4_has_13 (by decide) ?_
      exact xret_z C hlocks hK hw hr rfl (ret1 hG) dX4_has_17
theorem jX4_keep_4 : ∀ w ∈ wsX40, w ∈ wsX4_keep := by decide +kernel
def f_X4_keep (l1 : Int32) (l2 : Int64) (u : XS) : Option (Int32 × XS) := (if inb (x_sgc u) 200 = true then (if inb (x_sgc u) 200 = true then some ((x_sgc u), (xs_sdg (xs_sky (xs_sgc u ((x_sgc u) + (1 : Int32))) (upd (x_sky u) (Int32.toNatClampNeg (x_sgc u)) l1)) (vp_updL (x_sdg u) (Int32.toNatClampNeg (x_sgc u)) l2))) else none) else none)
set_option maxHeartbeats 4000000 in
set_option maxRecDepth 100000 in
theorem k_X4_keep (l : Launch) (D : va_G) (ad : Nat → Nat) (cI cJ cR : ClassId) (u : XS) (l1 : Int32) (l2 : Int64) (r1 : Int32) (u1 : XS) (hG : f_X4_keep l1 l2 u = some (r1, u1)) : Met l yX4_keep wsX4_keep ({ frames := 0, cells := 0, slots := 0, locals := 0 } : Room) (va_Pc [.ref (ad 6), .int l1, .long l2] (XB D ad cI cJ cR u)) (va_Qi (S := XS) (fun r u2 => r = r1 ∧ u2 = u1) (XB D ad cI cJ cR) (AX ad)) 0 0 (AX ad) := by
  refine Met.ofW (cc := cX4_keep) (maxL := 5) (ret := (some .int)) (by decide) rfl ?_
  intro p e s m args below meth c s₁ B hml hv
  obtain ⟨rfl, hP0, hK, hD0⟩ := hv
  have C : CallFix p m c cX4_keep 5 s _ wsX4_keep RX4 := ⟨B.exec, B.bytes, hml, findClass_of_methodNamed B.named, atoms_spec (ws := wsX4_keep) B.pre⟩
  have hr := B.returns
  have hlocks := B.notSynchronized
  have hw : XW D ad cI cJ cR s.heap s.heap [] u := ⟨hP0, hD0, va_S.rf⟩
  refine en_W (Nat.le_of_ble_eq_true rfl) (fun ls hl => ?_)
  have hl : lv_has ls 5 [(0, .ref (ad 6)), (1, .int l1), (2, .long l2)] := hl
  unfold f_X4_keep at hG
  refine lv_aload_n C.1 C.2.1 dX4_keep_0 rfl (lv_at hl 0 rfl) ?_
  refine xg_6_2 C hK hw jX4_keep_4 (List.mem_of_getElem? (i := 1) rfl) dX4_keep_1 ?_
  refine lv_istore (lv' := [(4, .int (x_sgc u)), (0, .ref (ad 6)), (1, .int l1), (2, .long l2)]) C.1 C.2.1 dX4_keep_4 hl (by decide) rfl (fun ls hl => ?_)
  refine lv_aload_n C.1 C.2.1 dX4_keep_6 rfl (lv_at hl 1 rfl) ?_
  refine lv_dup C.1 C.2.1 dX4_keep_7 rfl ?_
  refine xg_6_2 C hK hw jX4_keep_4 (List.mem_of_getElem? (i := 1) rfl) dX4_keep_8 ?_
  refine lv_iconst (v := 1) C.1 C.2.1 dX4_keep_11 (by decide) ?_
  refine lv_iadd C.1 C.2.1 dX4_keep_12 ?_
  refine xp_6_2 C hK hw jX4_keep_4 (List.mem_of_getElem? (i := 1) rfl) dX4_keep_13 (fun H locs hw => ?_)
  refine lv_aload_n C.1 C.2.1 dX4_keep_16 rfl (lv_at hl 1 rfl) ?_
  refine xg_6_0 C hK hw jX4_keep_4 (List.mem_of_getElem? (i := 2) rfl) dX4_keep_17 ?_
  refine lv_iload C.1 C.2.1 dX4_keep_20 (lv_at hl 0 rfl) ?_
  refine lv_iload_n C.1 C.2.1 dX4_keep_22 rfl (lv_at hl 2 rfl) ?_
  obtain ⟨h_1, hG⟩ := og hG
  refine xt_7 C hK hw h_1 dX4_keep_23 (fun H locs hw => ?_)
  refine lv_aload_n C.1 C.2.1 dX4_keep_24 rfl (lv_at hl 1 rfl) ?_
  refine xg_6_1 C hK hw jX4_keep_4 (List.mem_of_getElem? (i := 3) rfl) dX4_keep_25 ?_
  refine lv_iload C.1 C.2.1 dX4_keep_28 (lv_at hl 0 rfl) ?_
  refine lv_lload_n C.1 C.2.1 dX4_keep_30 rfl (lv_at hl 3 rfl) ?_
  obtain ⟨h_2, hG⟩ := og hG
  refine xt_8 C hK hw h_2 dX4_keep_31 (fun H locs hw => ?_)
  refine lv_iload C.1 C.2.1 dX4_keep_32 (lv_at hl 0 rfl) ?_
  exact xret_i C hlocks hK hw hr (ret2 hG) dX4_keep_34
theorem jX5_isFull_5 : ∀ w ∈ wsX50, w ∈ wsX5_isFull := by decide +kernel
def f_X5_isFull (u : XS) : Option Int32 := (if (x_rwc u) < (24 : Int32) then some (0 : Int32) else some (1 : Int32))
set_option maxHeartbeats 4000000 in
set_option maxRecDepth 100000 in
theorem k_X5_isFull (l : Launch) (D : va_G) (ad : Nat → Nat) (cI cJ cR : ClassId) (u : XS) (r1 : Int32) (hG : f_X5_isFull u = some r1) : Met l yX5_isFull wsX5_isFull ({ frames := 0, cells := 0, slots := 0, locals := 0 } : Room) (va_Pc [.ref (ad 11)] (XB D ad cI cJ cR u)) (va_Qi (S := XS) (fun r u2 => r = r1 ∧ u2 = u) (XB D ad cI cJ cR) (AX ad)) 0 0 (AX ad) := by
  refine Met.ofW (cc := cX5_isFull) (maxL := 1) (ret := (some .boolean)) (by decide) rfl ?_
  intro p e s m args below meth c s₁ B hml hv
  obtain ⟨rfl, hP0, hK, hD0⟩ := hv
  have C : CallFix p m c cX5_isFull 1 s _ wsX5_isFull RX5 := ⟨B.exec, B.bytes, hml, findClass_of_methodNamed B.named, atoms_spec (ws := wsX5_isFull) B.pre⟩
  have hr := B.returns
  have hlocks := B.notSynchronized
  have hw : XW D ad cI cJ cR s.heap s.heap [] u := ⟨hP0, hD0, va_S.rf⟩
  refine en_W (Nat.le_of_ble_eq_true rfl) (fun ls hl => ?_)
  have hl : lv_has ls 1 [(0, .ref (ad 11))] := hl
  unfold f_X5_isFull at hG
  refine lv_aload_n C.1 C.2.1 dX5_isFull_0 rfl (lv_at hl 0 rfl) ?_
  refine xg_11_1 C hK hw jX5_isFull_5 (List.mem_of_getElem? (i := 1) rfl) dX5_isFull_1 ?_
  refine lv_bipush (v := 24) C.1 C.2.1 dX5_isFull_4 (by decide) ?_
  refine lv_icmp_lt (tgt := 13) C.1 C.2.1 dX5_isFull_6 (by decide) (fun (h_1 : (x_rwc u) < (24 : Int32)) => ?_) (fun (h_1 : ¬ (x_rwc u) < (24 : Int32)) => ?_)
  · replace hG := ip h_1 hG
    refine lv_iconst (v := 0) C.1 C.2.1 dX5_isFull_13 (by decide) ?_
    exact xret_z C hlocks hK hw hr rfl (ret1 hG) dX5_isFull_14
  · replace hG := inn h_1 hG
    refine lv_iconst (v := 1) C.1 C.2.1 dX5_isFull_9 (by decide) ?_
    refine lv_goto (tgt := 14) C.1 C.2.1 dX5_isFull_10 (by decide) ?_
    exact xret_z C hlocks hK hw hr rfl (ret1 hG) dX5_isFull_14
theorem jX5_indexOf_1 : ∀ w ∈ wsX10, w ∈ wsX5_indexOf := by decide +kernel
theorem jX5_indexOf_5 : ∀ w ∈ wsX50, w ∈ wsX5_indexOf := by decide +kernel
def f_X5_indexOf_2 : Nat → Int32 → Int32 → Int32 → XS → Option Int32
  | 0, _, _, _, _ => none
  | n + 1, l1, l2, l3, u => (if (x_rwc u) ≤ l3 then some (-1 : Int32) else (if inb l3 24 = true then (if ((x_row u) (Int32.toNatClampNeg l3)) < 25 then (if ((x_cf u) 3 ((x_row u) (Int32.toNatClampNeg l3))) = l1 then (if inb l3 24 = true then (if ((x_row u) (Int32.toNatClampNeg l3)) < 25 then (if ((x_cf u) 4 ((x_row u) (Int32.toNatClampNeg l3))) = l2 then some l3 else (f_X5_indexOf_2 n l1 l2 (l3 + (1 : Int32)) u)) else none) else none) else (f_X5_indexOf_2 n l1 l2 (l3 + (1 : Int32)) u)) else none) else none))
set_option maxHeartbeats 4000000 in
set_option maxRecDepth 100000 in
theorem kl_X5_indexOf_2 {p : Program} {l : Launch} {e : Env} {s : State} {m : MethodId} {args : Array Value} {below : List Frame} {meth : Method} {c : Code} {D : va_G} {ad : Nat → Nat} {cI cJ cR : ClassId} (C : CallFix p m c cX5_indexOf 4 s args wsX5_indexOf RX5) (hr : meth.sig.returnType = (some .int)) (hlocks : meth.locks = false) (hK : va_K D vwCl (xT cI cJ cR) s) {r1 : Int32} : ∀ (n : Nat) (l1 : Int32) (l2 : Int32) (l3 : Int32) (u : XS) (H : Heap) (locs : List Loc) (ls : Array Slot), f_X5_indexOf_2 n l1 l2 l3 u = some r1 → XW D ad cI cJ cR s.heap H locs u → lv_has ls 4 [(0, .ref (ad 11)), (1, .int l1), (2, .int l2), (3, .int l3)] → W p l e ({ frames := 0, cells := 0, slots := 0, locals := 0 } : Room) s m args below meth c H locs 0 0 (MQ below (va_Qi (S := XS) (fun r u2 => r = r1 ∧ u2 = u) (XB D ad cI cJ cR) (AX ad)) args s 0 0 (AX ad)) (F0 m 2 ls []) := by
  intro n
  induction n with
  | zero =>
    intro l1 l2 l3 u H locs ls hG
    exact ns hG
  | succ n ih =>
    intro l1 l2 l3 u H locs ls hG hw hl
    rw [f_X5_indexOf_2] at hG
    refine lv_iload_n C.1 C.2.1 dX5_indexOf_2 rfl (lv_at hl 3 rfl) ?_
    refine lv_aload_n C.1 C.2.1 dX5_indexOf_3 rfl (lv_at hl 0 rfl) ?_
    refine xg_11_1 C hK hw jX5_indexOf_5 (List.mem_of_getElem? (i := 1) rfl) dX5_indexOf_4 ?_
    refine lv_icmp_ge (tgt := 44) C.1 C.2.1 dX5_indexOf_7 (by decide) (fun (h_1 : (x_rwc u) ≤ l3) => ?_) (fun (h_1 : ¬ (x_rwc u) ≤ l3) => ?_)
    · replace hG := ip h_1 hG
      refine lv_iconst (v := -1) C.1 C.2.1 dX5_indexOf_44 (by decide) ?_
      exact xret_i C hlocks hK hw hr (ret1 hG) dX5_indexOf_45
    · replace hG := inn h_1 hG
      refine lv_aload_n C.1 C.2.1 dX5_indexOf_10 rfl (lv_at hl 0 rfl) ?_
      refine xg_11_0 C hK hw jX5_indexOf_5 (List.mem_of_getElem? (i := 2) rfl) dX5_indexOf_11 ?_
      refine lv_iload_n C.1 C.2.1 dX5_indexOf_14 rfl (lv_at hl 3 rfl) ?_
      obtain ⟨h_2, hG⟩ := og hG
      refine xl_row C hK hw h_2 dX5_indexOf_15 ?_
      obtain ⟨h_3, hG⟩ := ot hG
      refine xgc_3 (q := ((x_row u) (Int32.toNatClampNeg l3))) C hK hw h_3 jX5_indexOf_1 (List.mem_of_getElem? (i := 3) rfl) dX5_indexOf_16 ?_
      refine lv_iload_n C.1 C.2.1 dX5_indexOf_19 rfl (lv_at hl 1 rfl) ?_
      refine lv_icmp_ne (tgt := 38) C.1 C.2.1 dX5_indexOf_20 (by decide) (fun (h_4 : ¬ ((x_cf u) 3 ((x_row u) (Int32.toNatClampNeg l3))) = l1) => ?_) (fun (h_4 : ((x_cf u) 3 ((x_row u) (Int32.toNatClampNeg l3))) = l1) => ?_)
      · replace hG := inn h_4 hG
        refine lv_iinc (v := (l3 + (1 : Int32))) (lv' := [(3, .int (l3 + (1 : Int32))), (0, .ref (ad 11)), (1, .int l1), (2, .int l2)]) C.1 C.2.1 dX5_indexOf_38 hl (k := 3) rfl rfl (by decide) rfl (fun ls hl => ?_)
        refine lv_goto (tgt := 2) C.1 C.2.1 dX5_indexOf_41 (by decide) ?_
        exact ih l1 l2 (l3 + (1 : Int32)) u _ _ _ hG hw (lv_sub hl [1, 2, 3, 0] rfl)
      · replace hG := ip h_4 hG
        refine lv_aload_n C.1 C.2.1 dX5_indexOf_23 rfl (lv_at hl 0 rfl) ?_
        refine xg_11_0 C hK hw jX5_indexOf_5 (List.mem_of_getElem? (i := 2) rfl) dX5_indexOf_24 ?_
        refine lv_iload_n C.1 C.2.1 dX5_indexOf_27 rfl (lv_at hl 3 rfl) ?_
        obtain ⟨h_5, hG⟩ := og hG
        refine xl_row C hK hw h_5 dX5_indexOf_28 ?_
        obtain ⟨h_6, hG⟩ := ot hG
        refine xgc_4 (q := ((x_row u) (Int32.toNatClampNeg l3))) C hK hw h_6 jX5_indexOf_1 (List.mem_of_getElem? (i := 4) rfl) dX5_indexOf_29 ?_
        refine lv_iload_n C.1 C.2.1 dX5_indexOf_32 rfl (lv_at hl 2 rfl) ?_
        refine lv_icmp_ne (tgt := 38) C.1 C.2.1 dX5_indexOf_33 (by decide) (fun (h_7 : ¬ ((x_cf u) 4 ((x_row u) (Int32.toNatClampNeg l3))) = l2) => ?_) (fun (h_7 : ((x_cf u) 4 ((x_row u) (Int32.toNatClampNeg l3))) = l2) => ?_)
        · replace hG := inn h_7 hG
          refine lv_iinc (v := (l3 + (1 : Int32))) (lv' := [(3, .int (l3 + (1 : Int32))), (0, .ref (ad 11)), (1, .int l1), (2, .int l2)]) C.1 C.2.1 dX5_indexOf_38 hl (k := 3) rfl rfl (by decide) rfl (fun ls hl => ?_)
          refine lv_goto (tgt := 2) C.1 C.2.1 dX5_indexOf_41 (by decide) ?_
          exact ih l1 l2 (l3 + (1 : Int32)) u _ _ _ hG hw (lv_sub hl [1, 2, 3, 0] rfl)
        · replace hG := ip h_7 hG
          refine lv_iload_n C.1 C.2.1 dX5_indexOf_36 rfl (lv_at hl 3 rfl) ?_
          exact xret_i C hlocks hK hw hr (ret1 hG) dX5_indexOf_37
def f_X5_indexOf (l1 : Int32) (l2 : Int32) (u : XS) : Option Int32 := (f_X5_indexOf_2 1000 l1 l2 (0 : Int32) u)
set_option maxHeartbeats 4000000 in
set_option maxRecDepth 100000 in
theorem k_X5_indexOf (l : Launch) (D : va_G) (ad : Nat → Nat) (cI cJ cR : ClassId) (u : XS) (l1 : Int32) (l2 : Int32) (r1 : Int32) (hG : f_X5_indexOf l1 l2 u = some r1) : Met l yX5_indexOf wsX5_indexOf ({ frames := 0, cells := 0, slots := 0, locals := 0 } : Room) (va_Pc [.ref (ad 11), .int l1, .int l2] (XB D ad cI cJ cR u)) (va_Qi (S := XS) (fun r u2 => r = r1 ∧ u2 = u) (XB D ad cI cJ cR) (AX ad)) 0 0 (AX ad) := by
  refine Met.ofW (cc := cX5_indexOf) (maxL := 4) (ret := (some .int)) (by decide) rfl ?_
  intro p e s m args below meth c s₁ B hml hv
  obtain ⟨rfl, hP0, hK, hD0⟩ := hv
  have C : CallFix p m c cX5_indexOf 4 s _ wsX5_indexOf RX5 := ⟨B.exec, B.bytes, hml, findClass_of_methodNamed B.named, atoms_spec (ws := wsX5_indexOf) B.pre⟩
  have hr := B.returns
  have hlocks := B.notSynchronized
  have hw : XW D ad cI cJ cR s.heap s.heap [] u := ⟨hP0, hD0, va_S.rf⟩
  refine en_W (Nat.le_of_ble_eq_true rfl) (fun ls hl => ?_)
  have hl : lv_has ls 4 [(0, .ref (ad 11)), (1, .int l1), (2, .int l2)] := hl
  unfold f_X5_indexOf at hG
  refine lv_iconst (v := 0) C.1 C.2.1 dX5_indexOf_0 (by decide) ?_
  refine lv_istore_n (lv' := [(3, .int (0 : Int32)), (0, .ref (ad 11)), (1, .int l1), (2, .int l2)]) C.1 C.2.1 dX5_indexOf_1 rfl hl (by decide) rfl (fun ls hl => ?_)
  exact kl_X5_indexOf_2 C hr hlocks hK 1000 l1 l2 (0 : Int32) u _ _ _ hG hw (lv_sub hl [1, 2, 3, 0] rfl)
theorem jX5_cheapest_1 : ∀ w ∈ wsX10, w ∈ wsX5_cheapest := by decide +kernel
theorem jX5_cheapest_5 : ∀ w ∈ wsX50, w ∈ wsX5_cheapest := by decide +kernel
def f_X5_cheapest_4 : Nat → Int32 → Int32 → XS → Option Int32
  | 0, _, _, _ => none
  | n + 1, l1, l2, u => (if (x_rwc u) ≤ l2 then some l1 else (if inb l2 24 = true then (if ((x_row u) (Int32.toNatClampNeg l2)) < 25 then (if inb l1 24 = true then (if ((x_row u) (Int32.toNatClampNeg l1)) < 25 then (if ((x_cf u) 5 ((x_row u) (Int32.toNatClampNeg l1))) < ((x_cf u) 5 ((x_row u) (Int32.toNatClampNeg l2))) then (f_X5_cheapest_4 n l1 (l2 + (1 : Int32)) u) else (f_X5_cheapest_4 n l2 (l2 + (1 : Int32)) u)) else none) else none) else none) else none))
set_option maxHeartbeats 4000000 in
set_option maxRecDepth 100000 in
theorem kl_X5_cheapest_4 {p : Program} {l : Launch} {e : Env} {s : State} {m : MethodId} {args : Array Value} {below : List Frame} {meth : Method} {c : Code} {D : va_G} {ad : Nat → Nat} {cI cJ cR : ClassId} (C : CallFix p m c cX5_cheapest 3 s args wsX5_cheapest RX5) (hr : meth.sig.returnType = (some .int)) (hlocks : meth.locks = false) (hK : va_K D vwCl (xT cI cJ cR) s) {r1 : Int32} : ∀ (n : Nat) (l1 : Int32) (l2 : Int32) (u : XS) (H : Heap) (locs : List Loc) (ls : Array Slot), f_X5_cheapest_4 n l1 l2 u = some r1 → XW D ad cI cJ cR s.heap H locs u → lv_has ls 3 [(0, .ref (ad 11)), (1, .int l1), (2, .int l2)] → W p l e ({ frames := 0, cells := 0, slots := 0, locals := 0 } : Room) s m args below meth c H locs 0 0 (MQ below (va_Qi (S := XS) (fun r u2 => r = r1 ∧ u2 = u) (XB D ad cI cJ cR) (AX ad)) args s 0 0 (AX ad)) (F0 m 4 ls []) := by
  intro n
  induction n with
  | zero =>
    intro l1 l2 u H locs ls hG
    exact ns hG
  | succ n ih =>
    intro l1 l2 u H locs ls hG hw hl
    rw [f_X5_cheapest_4] at hG
    refine lv_iload_n C.1 C.2.1 dX5_cheapest_4 rfl (lv_at hl 2 rfl) ?_
    refine lv_aload_n C.1 C.2.1 dX5_cheapest_5 rfl (lv_at hl 0 rfl) ?_
    refine xg_11_1 C hK hw jX5_cheapest_5 (List.mem_of_getElem? (i := 1) rfl) dX5_cheapest_6 ?_
    refine lv_icmp_ge (tgt := 41) C.1 C.2.1 dX5_cheapest_9 (by decide) (fun (h_1 : (x_rwc u) ≤ l2) => ?_) (fun (h_1 : ¬ (x_rwc u) ≤ l2) => ?_)
    · replace hG := ip h_1 hG
      refine lv_iload_n C.1 C.2.1 dX5_cheapest_41 rfl (lv_at hl 1 rfl) ?_
      exact xret_i C hlocks hK hw hr (ret1 hG) dX5_cheapest_42
    · replace hG := inn h_1 hG
      refine lv_aload_n C.1 C.2.1 dX5_cheapest_12 rfl (lv_at hl 0 rfl) ?_
      refine xg_11_0 C hK hw jX5_cheapest_5 (List.mem_of_getElem? (i := 2) rfl) dX5_cheapest_13 ?_
      refine lv_iload_n C.1 C.2.1 dX5_cheapest_16 rfl (lv_at hl 2 rfl) ?_
      obtain ⟨h_2, hG⟩ := og hG
      refine xl_row C hK hw h_2 dX5_cheapest_17 ?_
      obtain ⟨h_3, hG⟩ := ot hG
      refine xgc_5 (q := ((x_row u) (Int32.toNatClampNeg l2))) C hK hw h_3 jX5_cheapest_1 (List.mem_of_getElem? (i := 3) rfl) dX5_cheapest_18 ?_
      refine lv_aload_n C.1 C.2.1 dX5_cheapest_21 rfl (lv_at hl 0 rfl) ?_
      refine xg_11_0 C hK hw jX5_cheapest_5 (List.mem_of_getElem? (i := 2) rfl) dX5_cheapest_22 ?_
      refine lv_iload_n C.1 C.2.1 dX5_cheapest_25 rfl (lv_at hl 1 rfl) ?_
      obtain ⟨h_4, hG⟩ := og hG
      refine xl_row C hK hw h_4 dX5_cheapest_26 ?_
      obtain ⟨h_5, hG⟩ := ot hG
      refine xgc_5 (q := ((x_row u) (Int32.toNatClampNeg l1))) C hK hw h_5 jX5_cheapest_1 (List.mem_of_getElem? (i := 3) rfl) dX5_cheapest_27 ?_
      refine lv_icmp_gt (tgt := 35) C.1 C.2.1 dX5_cheapest_30 (by decide) (fun (h_6 : ((x_cf u) 5 ((x_row u) (Int32.toNatClampNeg l1))) < ((x_cf u) 5 ((x_row u) (Int32.toNatClampNeg l2)))) => ?_) (fun (h_6 : ¬ ((x_cf u) 5 ((x_row u) (Int32.toNatClampNeg l1))) < ((x_cf u) 5 ((x_row u) (Int32.toNatClampNeg l2)))) => ?_)
      · replace hG := ip h_6 hG
        refine lv_iinc (v := (l2 + (1 : Int32))) (lv' := [(2, .int (l2 + (1 : Int32))), (0, .ref (ad 11)), (1, .int l1)]) C.1 C.2.1 dX5_cheapest_35 hl (k := 2) rfl rfl (by decide) rfl (fun ls hl => ?_)
        refine lv_goto (tgt := 4) C.1 C.2.1 dX5_cheapest_38 (by decide) ?_
        exact ih l1 (l2 + (1 : Int32)) u _ _ _ hG hw (lv_sub hl [1, 2, 0] rfl)
      · replace hG := inn h_6 hG
        refine lv_iload_n C.1 C.2.1 dX5_cheapest_33 rfl (lv_at hl 2 rfl) ?_
        refine lv_istore_n (lv' := [(1, .int l2), (0, .ref (ad 11)), (2, .int l2)]) C.1 C.2.1 dX5_cheapest_34 rfl hl (by decide) rfl (fun ls hl => ?_)
        refine lv_iinc (v := (l2 + (1 : Int32))) (lv' := [(2, .int (l2 + (1 : Int32))), (1, .int l2), (0, .ref (ad 11))]) C.1 C.2.1 dX5_cheapest_35 hl (k := 2) rfl rfl (by decide) rfl (fun ls hl => ?_)
        refine lv_goto (tgt := 4) C.1 C.2.1 dX5_cheapest_38 (by decide) ?_
        exact ih l2 (l2 + (1 : Int32)) u _ _ _ hG hw (lv_sub hl [2, 1, 0] rfl)
def f_X5_cheapest (u : XS) : Option Int32 := (f_X5_cheapest_4 1000 (0 : Int32) (1 : Int32) u)
set_option maxHeartbeats 4000000 in
set_option maxRecDepth 100000 in
theorem k_X5_cheapest (l : Launch) (D : va_G) (ad : Nat → Nat) (cI cJ cR : ClassId) (u : XS) (r1 : Int32) (hG : f_X5_cheapest u = some r1) : Met l yX5_cheapest wsX5_cheapest ({ frames := 0, cells := 0, slots := 0, locals := 0 } : Room) (va_Pc [.ref (ad 11)] (XB D ad cI cJ cR u)) (va_Qi (S := XS) (fun r u2 => r = r1 ∧ u2 = u) (XB D ad cI cJ cR) (AX ad)) 0 0 (AX ad) := by
  refine Met.ofW (cc := cX5_cheapest) (maxL := 3) (ret := (some .int)) (by decide) rfl ?_
  intro p e s m args below meth c s₁ B hml hv
  obtain ⟨rfl, hP0, hK, hD0⟩ := hv
  have C : CallFix p m c cX5_cheapest 3 s _ wsX5_cheapest RX5 := ⟨B.exec, B.bytes, hml, findClass_of_methodNamed B.named, atoms_spec (ws := wsX5_cheapest) B.pre⟩
  have hr := B.returns
  have hlocks := B.notSynchronized
  have hw : XW D ad cI cJ cR s.heap s.heap [] u := ⟨hP0, hD0, va_S.rf⟩
  refine en_W (Nat.le_of_ble_eq_true rfl) (fun ls hl => ?_)
  have hl : lv_has ls 3 [(0, .ref (ad 11))] := hl
  unfold f_X5_cheapest at hG
  refine lv_iconst (v := 0) C.1 C.2.1 dX5_cheapest_0 (by decide) ?_
  refine lv_istore_n (lv' := [(1, .int (0 : Int32)), (0, .ref (ad 11))]) C.1 C.2.1 dX5_cheapest_1 rfl hl (by decide) rfl (fun ls hl => ?_)
  refine lv_iconst (v := 1) C.1 C.2.1 dX5_cheapest_2 (by decide) ?_
  refine lv_istore_n (lv' := [(2, .int (1 : Int32)), (1, .int (0 : Int32)), (0, .ref (ad 11))]) C.1 C.2.1 dX5_cheapest_3 rfl hl (by decide) rfl (fun ls hl => ?_)
  exact kl_X5_cheapest_4 C hr hlocks hK 1000 (0 : Int32) (1 : Int32) u _ _ _ hG hw (lv_sub hl [2, 1, 0] rfl)
theorem jX5_append_1 : ∀ w ∈ wsX10, w ∈ wsX5_append := by decide +kernel
theorem jX5_append_5 : ∀ w ∈ wsX50, w ∈ wsX5_append := by decide +kernel
def f_X5_append (l1 : Nat) (u : XS) : Option (Int32 × XS) := (if l1 < 25 then (if inb (x_rwc u) 24 = true then (if ((x_row u) (Int32.toNatClampNeg (x_rwc u))) < 25 then ((f_X1_becomeLike ((x_row u) (Int32.toNatClampNeg (x_rwc u))) l1 u).bind fun q_3 => some (((up2 (x_cf q_3) 10 ((x_row u) (Int32.toNatClampNeg (x_rwc u))) (x_tik q_3)) 10 ((x_row u) (Int32.toNatClampNeg (x_rwc u)))), (xs_tik (xs_rwc (xs_cf q_3 (up2 (x_cf q_3) 10 ((x_row u) (Int32.toNatClampNeg (x_rwc u))) (x_tik q_3))) ((x_rwc q_3) + (1 : Int32))) ((x_tik q_3) + (1 : Int32))))) else none) else none) else none)
set_option maxHeartbeats 4000000 in
set_option maxRecDepth 100000 in
theorem k_X5_append (l : Launch) (D : va_G) (ad : Nat → Nat) (cI cJ cR : ClassId) (u : XS) (l1 : Nat) (r1 : Int32) (u1 : XS) (hG : f_X5_append l1 u = some (r1, u1)) : Met l yX5_append wsX5_append ({ frames := 2, cells := 0, slots := 0, locals := 46 } : Room) (va_Pc [.ref (ad 11), .ref (ad (17 + l1))] (XB D ad cI cJ cR u)) (va_Qi (S := XS) (fun r u2 => r = r1 ∧ u2 = u1) (XB D ad cI cJ cR) (AX ad)) 0 0 (AX ad) := by
  refine Met.ofW (cc := cX5_append) (maxL := 3) (ret := (some .int)) (by decide) rfl ?_
  intro p e s m args below meth c s₁ B hml hv
  obtain ⟨rfl, hP0, hK, hD0⟩ := hv
  have C : CallFix p m c cX5_append 3 s _ wsX5_append RX5 := ⟨B.exec, B.bytes, hml, findClass_of_methodNamed B.named, atoms_spec (ws := wsX5_append) B.pre⟩
  have hr := B.returns
  have hlocks := B.notSynchronized
  have hw : XW D ad cI cJ cR s.heap s.heap [] u := ⟨hP0, hD0, va_S.rf⟩
  refine en_W (Nat.le_of_ble_eq_true rfl) (fun ls hl => ?_)
  have hl : lv_has ls 3 [(0, .ref (ad 11)), (1, .ref (ad (17 + l1)))] := hl
  unfold f_X5_append at hG
  obtain ⟨hq_l1, hG⟩ := ot hG
  refine lv_aload_n C.1 C.2.1 dX5_append_0 rfl (lv_at hl 0 rfl) ?_
  refine xg_11_0 C hK hw jX5_append_5 (List.mem_of_getElem? (i := 1) rfl) dX5_append_1 ?_
  refine lv_aload_n C.1 C.2.1 dX5_append_4 rfl (lv_at hl 0 rfl) ?_
  refine xg_11_1 C hK hw jX5_append_5 (List.mem_of_getElem? (i := 2) rfl) dX5_append_5 ?_
  obtain ⟨h_1, hG⟩ := og hG
  refine xl_row C hK hw h_1 dX5_append_8 ?_
  obtain ⟨h_2, hG⟩ := ot hG
  refine lv_astore_n (lv' := [(2, .ref (ad (17 + ((x_row u) (Int32.toNatClampNeg (x_rwc u)))))), (0, .ref (ad 11)), (1, .ref (ad (17 + l1)))]) C.1 C.2.1 dX5_append_9 rfl hl (by decide) rfl (fun ls hl => ?_)
  refine lv_aload_n C.1 C.2.1 dX5_append_10 rfl (lv_at hl 0 rfl) ?_
  refine lv_aload_n C.1 C.2.1 dX5_append_11 rfl (lv_at hl 2 rfl) ?_
  obtain ⟨q_3, hc_3, hG⟩ := ob hG
  try dsimp only at hG
  refine xcVv (As := [.ref (ad (17 + l1))]) (rest := []) C hK hw (k_X1_becomeLike l D ad cI cJ cR u ((x_row u) (Int32.toNatClampNeg (x_rwc u))) l1 q_3 hc_3) (cwV 1 C.2.2.2.2 gX5_append_X1_becomeLike rfl rfl rfl (by decide +kernel) ⟨Nat.le_of_ble_eq_true rfl, Nat.le_of_ble_eq_true rfl⟩) (va_recv hK hw.1 (ci := 1) (q0 := 17 + ((x_row u) (Int32.toNatClampNeg (x_rwc u)))) rfl (wX_c h_2)) rfl hl.1 rfl (Nat.le_of_ble_eq_true rfl) dX5_append_12 (fun H locs hw => ?_)
  refine lv_aload_n C.1 C.2.1 dX5_append_15 rfl (lv_at hl 0 rfl) ?_
  refine lv_aload_n C.1 C.2.1 dX5_append_16 rfl (lv_at hl 1 rfl) ?_
  refine xg_11_2 C hK hw jX5_append_5 (List.mem_of_getElem? (i := 3) rfl) dX5_append_17 ?_
  refine xpc_10 (q := ((x_row u) (Int32.toNatClampNeg (x_rwc u)))) C hK hw h_2 jX5_append_1 (List.mem_of_getElem? (i := 4) rfl) dX5_append_20 (fun H locs hw => ?_)
  refine lv_aload_n C.1 C.2.1 dX5_append_23 rfl (lv_at hl 1 rfl) ?_
  refine lv_dup C.1 C.2.1 dX5_append_24 rfl ?_
  refine xg_11_1 C hK hw jX5_append_5 (List.mem_of_getElem? (i := 2) rfl) dX5_append_25 ?_
  refine lv_iconst (v := 1) C.1 C.2.1 dX5_append_28 (by decide) ?_
  refine lv_iadd C.1 C.2.1 dX5_append_29 ?_
  refine xp_11_1 C hK hw jX5_append_5 (List.mem_of_getElem? (i := 2) rfl) dX5_append_30 (fun H locs hw => ?_)
  refine lv_aload_n C.1 C.2.1 dX5_append_33 rfl (lv_at hl 1 rfl) ?_
  refine lv_dup C.1 C.2.1 dX5_append_34 rfl ?_
  refine xg_11_2 C hK hw jX5_append_5 (List.mem_of_getElem? (i := 3) rfl) dX5_append_35 ?_
  refine lv_iconst (v := 1) C.1 C.2.1 dX5_append_38 (by decide) ?_
  refine lv_iadd C.1 C.2.1 dX5_append_39 ?_
  refine xp_11_2 C hK hw jX5_append_5 (List.mem_of_getElem? (i := 3) rfl) dX5_append_40 (fun H locs hw => ?_)
  refine lv_aload_n C.1 C.2.1 dX5_append_43 rfl (lv_at hl 0 rfl) ?_
  refine xgc_10 (q := ((x_row u) (Int32.toNatClampNeg (x_rwc u)))) C hK hw h_2 jX5_append_1 (List.mem_of_getElem? (i := 4) rfl) dX5_append_44 ?_
  exact xret_i C hlocks hK hw hr (ret2 hG) dX5_append_47
theorem jX5_take_5 : ∀ w ∈ wsX50, w ∈ wsX5_take := by decide +kernel
def f_X5_take_11 : Nat → Int32 → Nat → Int32 → XS → Option (Nat × XS)
  | 0, _, _, _, _ => none
  | n + 1, l1, l2, l3, u => (if (x_rwc u) ≤ l3 then (if inb ((x_rwc u) - (1 : Int32)) 24 = true then some (l2, (xs_row (xs_rwc u ((x_rwc u) - (1 : Int32))) (va_up (x_row u) (Int32.toNatClampNeg ((x_rwc u) - (1 : Int32))) l2))) else none) else (if inb l3 24 = true then (if ((x_row u) (Int32.toNatClampNeg l3)) < 25 then (if inb (l3 - (1 : Int32)) 24 = true then (f_X5_take_11 n l1 l2 (l3 + (1 : Int32)) (xs_row u (va_up (x_row u) (Int32.toNatClampNeg (l3 - (1 : Int32))) ((x_row u) (Int32.toNatClampNeg l3))))) else none) else none) else none))
set_option maxHeartbeats 4000000 in
set_option maxRecDepth 100000 in
theorem kl_X5_take_11 {p : Program} {l : Launch} {e : Env} {s : State} {m : MethodId} {args : Array Value} {below : List Frame} {meth : Method} {c : Code} {D : va_G} {ad : Nat → Nat} {cI cJ cR : ClassId} (C : CallFix p m c cX5_take 4 s args wsX5_take RX5) (hr : meth.sig.returnType = (some (.object "SignedCalls$Call"))) (hlocks : meth.locks = false) (hK : va_K D vwCl (xT cI cJ cR) s) {r1 : Nat} {u1 : XS} : ∀ (n : Nat) (l1 : Int32) (l2 : Nat) (l3 : Int32) (u : XS) (H : Heap) (locs : List Loc) (ls : Array Slot), f_X5_take_11 n l1 l2 l3 u = some (r1, u1) → XW D ad cI cJ cR s.heap H locs u → lv_has ls 4 [(0, .ref (ad 11)), (1, .int l1), (2, .ref (ad (17 + l2))), (3, .int l3)] → l2 < 25 → W p l e ({ frames := 0, cells := 0, slots := 0, locals := 0 } : Room) s m args below meth c H locs 0 0 (MQ below (va_Qr (S := XS) (fun u2 => u2 = u1) (fun (u2 : XS) (a : Nat) (t : State) => a = ad (17 + r1) ∧ XB D ad cI cJ cR u2 t) (AX ad)) args s 0 0 (AX ad)) (F0 m 11 ls []) := by
  intro n
  induction n with
  | zero =>
    intro l1 l2 l3 u H locs ls hG
    exact ns hG
  | succ n ih =>
    intro l1 l2 l3 u H locs ls hG hw hl hq_l2
    rw [f_X5_take_11] at hG
    refine lv_iload_n C.1 C.2.1 dX5_take_11 rfl (lv_at hl 3 rfl) ?_
    refine lv_aload_n C.1 C.2.1 dX5_take_12 rfl (lv_at hl 0 rfl) ?_
    refine xg_11_1 C hK hw jX5_take_5 (List.mem_of_getElem? (i := 2) rfl) dX5_take_13 ?_
    refine lv_icmp_ge (tgt := 39) C.1 C.2.1 dX5_take_16 (by decide) (fun (h_3 : (x_rwc u) ≤ l3) => ?_) (fun (h_3 : ¬ (x_rwc u) ≤ l3) => ?_)
    · replace hG := ip h_3 hG
      refine lv_aload_n C.1 C.2.1 dX5_take_39 rfl (lv_at hl 0 rfl) ?_
      refine lv_dup C.1 C.2.1 dX5_take_40 rfl ?_
      refine xg_11_1 C hK hw jX5_take_5 (List.mem_of_getElem? (i := 2) rfl) dX5_take_41 ?_
      refine lv_iconst (v := 1) C.1 C.2.1 dX5_take_44 (by decide) ?_
      refine lv_isub C.1 C.2.1 dX5_take_45 ?_
      refine xp_11_1 C hK hw jX5_take_5 (List.mem_of_getElem? (i := 2) rfl) dX5_take_46 (fun H locs hw => ?_)
      refine lv_aload_n C.1 C.2.1 dX5_take_49 rfl (lv_at hl 0 rfl) ?_
      refine xg_11_0 C hK hw jX5_take_5 (List.mem_of_getElem? (i := 1) rfl) dX5_take_50 ?_
      refine lv_aload_n C.1 C.2.1 dX5_take_53 rfl (lv_at hl 0 rfl) ?_
      refine xg_11_1 C hK hw jX5_take_5 (List.mem_of_getElem? (i := 2) rfl) dX5_take_54 ?_
      refine lv_aload_n C.1 C.2.1 dX5_take_57 rfl (lv_at hl 2 rfl) ?_
      obtain ⟨h_4, hG⟩ := og hG
      refine xt_row (q := l2) C hK hw hq_l2 h_4 dX5_take_58 (fun H locs hw => ?_)
      refine lv_aload_n C.1 C.2.1 dX5_take_59 rfl (lv_at hl 2 rfl) ?_
      exact xret_q C hlocks hK hw hr (ret2 hG) dX5_take_60
    · replace hG := inn h_3 hG
      refine lv_aload_n C.1 C.2.1 dX5_take_19 rfl (lv_at hl 0 rfl) ?_
      refine xg_11_0 C hK hw jX5_take_5 (List.mem_of_getElem? (i := 1) rfl) dX5_take_20 ?_
      refine lv_iload_n C.1 C.2.1 dX5_take_23 rfl (lv_at hl 3 rfl) ?_
      refine lv_iconst (v := 1) C.1 C.2.1 dX5_take_24 (by decide) ?_
      refine lv_isub C.1 C.2.1 dX5_take_25 ?_
      refine lv_aload_n C.1 C.2.1 dX5_take_26 rfl (lv_at hl 0 rfl) ?_
      refine xg_11_0 C hK hw jX5_take_5 (List.mem_of_getElem? (i := 1) rfl) dX5_take_27 ?_
      refine lv_iload_n C.1 C.2.1 dX5_take_30 rfl (lv_at hl 3 rfl) ?_
      obtain ⟨h_5, hG⟩ := og hG
      refine xl_row C hK hw h_5 dX5_take_31 ?_
      obtain ⟨h_6, hG⟩ := ot hG
      obtain ⟨h_7, hG⟩ := og hG
      refine xt_row (q := ((x_row u) (Int32.toNatClampNeg l3))) C hK hw h_6 h_7 dX5_take_32 (fun H locs hw => ?_)
      refine lv_iinc (v := (l3 + (1 : Int32))) (lv' := [(3, .int (l3 + (1 : Int32))), (0, .ref (ad 11)), (1, .int l1), (2, .ref (ad (17 + l2)))]) C.1 C.2.1 dX5_take_33 hl (k := 3) rfl rfl (by decide) rfl (fun ls hl => ?_)
      refine lv_goto (tgt := 11) C.1 C.2.1 dX5_take_36 (by decide) ?_
      exact ih l1 l2 (l3 + (1 : Int32)) (xs_row u (va_up (x_row u) (Int32.toNatClampNeg (l3 - (1 : Int32))) ((x_row u) (Int32.toNatClampNeg l3)))) _ _ _ hG hw (lv_sub hl [1, 2, 3, 0] rfl) hq_l2
def f_X5_take (l1 : Int32) (u : XS) : Option (Nat × XS) := (if inb l1 24 = true then (if ((x_row u) (Int32.toNatClampNeg l1)) < 25 then (f_X5_take_11 1000 l1 ((x_row u) (Int32.toNatClampNeg l1)) (l1 + (1 : Int32)) u) else none) else none)
set_option maxHeartbeats 4000000 in
set_option maxRecDepth 100000 in
theorem k_X5_take (l : Launch) (D : va_G) (ad : Nat → Nat) (cI cJ cR : ClassId) (u : XS) (l1 : Int32) (r1 : Nat) (u1 : XS) (hG : f_X5_take l1 u = some (r1, u1)) : Met l yX5_take wsX5_take ({ frames := 0, cells := 0, slots := 0, locals := 0 } : Room) (va_Pc [.ref (ad 11), .int l1] (XB D ad cI cJ cR u)) (va_Qr (S := XS) (fun u2 => u2 = u1) (fun (u2 : XS) (a : Nat) (t : State) => a = ad (17 + r1) ∧ XB D ad cI cJ cR u2 t) (AX ad)) 0 0 (AX ad) := by
  refine Met.ofW (cc := cX5_take) (maxL := 4) (ret := (some (.object "SignedCalls$Call"))) (by decide) rfl ?_
  intro p e s m args below meth c s₁ B hml hv
  obtain ⟨rfl, hP0, hK, hD0⟩ := hv
  have C : CallFix p m c cX5_take 4 s _ wsX5_take RX5 := ⟨B.exec, B.bytes, hml, findClass_of_methodNamed B.named, atoms_spec (ws := wsX5_take) B.pre⟩
  have hr := B.returns
  have hlocks := B.notSynchronized
  have hw : XW D ad cI cJ cR s.heap s.heap [] u := ⟨hP0, hD0, va_S.rf⟩
  refine en_W (Nat.le_of_ble_eq_true rfl) (fun ls hl => ?_)
  have hl : lv_has ls 4 [(0, .ref (ad 11)), (1, .int l1)] := hl
  unfold f_X5_take at hG
  refine lv_aload_n C.1 C.2.1 dX5_take_0 rfl (lv_at hl 0 rfl) ?_
  refine xg_11_0 C hK hw jX5_take_5 (List.mem_of_getElem? (i := 1) rfl) dX5_take_1 ?_
  refine lv_iload_n C.1 C.2.1 dX5_take_4 rfl (lv_at hl 1 rfl) ?_
  obtain ⟨h_1, hG⟩ := og hG
  refine xl_row C hK hw h_1 dX5_take_5 ?_
  obtain ⟨h_2, hG⟩ := ot hG
  refine lv_astore_n (lv' := [(2, .ref (ad (17 + ((x_row u) (Int32.toNatClampNeg l1))))), (0, .ref (ad 11)), (1, .int l1)]) C.1 C.2.1 dX5_take_6 rfl hl (by decide) rfl (fun ls hl => ?_)
  refine lv_iload_n C.1 C.2.1 dX5_take_7 rfl (lv_at hl 2 rfl) ?_
  refine lv_iconst (v := 1) C.1 C.2.1 dX5_take_8 (by decide) ?_
  refine lv_iadd C.1 C.2.1 dX5_take_9 ?_
  refine lv_istore_n (lv' := [(3, .int (l1 + (1 : Int32))), (2, .ref (ad (17 + ((x_row u) (Int32.toNatClampNeg l1))))), (0, .ref (ad 11)), (1, .int l1)]) C.1 C.2.1 dX5_take_10 rfl hl (by decide) rfl (fun ls hl => ?_)
  exact kl_X5_take_11 C hr hlocks hK 1000 l1 ((x_row u) (Int32.toNatClampNeg l1)) (l1 + (1 : Int32)) u _ _ _ hG hw (lv_sub hl [2, 3, 1, 0] rfl) h_2
end
