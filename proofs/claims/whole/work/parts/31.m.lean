def f_X7_in (l0 : Int64) (l2 : Int64) (l4 : Int64) : Option Int32 := (if l0 < l2 then some (0 : Int32) else (if l4 < l0 then some (0 : Int32) else some (1 : Int32)))
set_option maxHeartbeats 4000000 in
set_option maxRecDepth 100000 in
theorem k_X7_in (l : Launch) (D : va_G) (ad : Nat → Nat) (cI cJ : ClassId) (u : MS) (l0 : Int64) (l2 : Int64) (l4 : Int64) (r1 : Int32) (hG : f_X7_in l0 l2 l4 = some r1) : Met l yX7_in wsX7_in ({ frames := 0, cells := 0, slots := 0, locals := 0 } : Room) (va_Pc [.long l0, .long l2, .long l4] (MB D ad cI cJ u)) (va_Qi (S := MS) (fun r u2 => r = r1 ∧ u2 = u) (MB D ad cI cJ) (AM ad)) 0 0 (AM ad) := by
  refine Met.ofW (cc := cX7_in) (maxL := 6) (ret := (some .boolean)) (by decide) rfl ?_
  intro p e s m args below meth c s₁ B hml hv
  obtain ⟨rfl, hP0, hK, hD0⟩ := hv
  have C : CallFix p m c cX7_in 6 s _ wsX7_in RX7 := ⟨B.exec, B.bytes, hml, findClass_of_methodNamed B.named, atoms_spec (ws := wsX7_in) B.pre⟩
  have hr := B.returns
  have hlocks := B.notSynchronized
  have hw : MW D ad cI cJ s.heap s.heap [] u := ⟨hP0, hD0, va_S.rf⟩
  refine en_W (Nat.le_of_ble_eq_true rfl) (fun ls hl => ?_)
  have hl : lv_has ls 6 [(0, .long l0), (2, .long l2), (4, .long l4)] := hl
  unfold f_X7_in at hG
  refine lv_lload_n C.1 C.2.1 dX7_in_0 rfl (lv_at hl 0 rfl) ?_
  refine lv_lload_n C.1 C.2.1 dX7_in_1 rfl (lv_at hl 1 rfl) ?_
  refine W.lcmp C.1 C.2.1 dX7_in_2 ?_
  refine lv_if_lt (tgt := 17) C.1 C.2.1 dX7_in_3 (by decide) (fun hz => ?_) (fun hz => ?_)
  · have h_1 : l0 < l2 := (lg_cmp_lt _ _).mp hz
    replace hG := ip h_1 hG
    refine lv_iconst (v := 0) C.1 C.2.1 dX7_in_17 (by decide) ?_
    exact mret_z C hlocks hK hw hr rfl (ret1 hG) dX7_in_18
  · have h_1 : ¬ l0 < l2 := fun qz => hz ((lg_cmp_lt _ _).mpr qz)
    replace hG := inn h_1 hG
    refine lv_lload_n C.1 C.2.1 dX7_in_6 rfl (lv_at hl 0 rfl) ?_
    refine lv_lload C.1 C.2.1 dX7_in_7 (lv_at hl 2 rfl) ?_
    refine W.lcmp C.1 C.2.1 dX7_in_9 ?_
    refine lv_if_gt (tgt := 17) C.1 C.2.1 dX7_in_10 (by decide) (fun hz => ?_) (fun hz => ?_)
    · have h_2 : l4 < l0 := (lg_cmp_gt _ _).mp hz
      replace hG := ip h_2 hG
      refine lv_iconst (v := 0) C.1 C.2.1 dX7_in_17 (by decide) ?_
      exact mret_z C hlocks hK hw hr rfl (ret1 hG) dX7_in_18
    · have h_2 : ¬ l4 < l0 := fun qz => hz ((lg_cmp_gt _ _).mpr qz)
      replace hG := inn h_2 hG
      refine lv_iconst (v := 1) C.1 C.2.1 dX7_in_13 (by decide) ?_
      refine lv_goto (tgt := 18) C.1 C.2.1 dX7_in_14 (by decide) ?_
      exact mret_z C hlocks hK hw hr rfl (ret1 hG) dX7_in_18
theorem jX7_isAccount_7 : ∀ w ∈ wsX70, w ∈ wsX7_isAccount := by decide +kernel
def f_X7_isAccount (l1 : Int32) (u : MS) : Option Int32 := ((f_X7_in (Int32.toInt64 l1) (0 : Int64) (Int32.toInt64 ((m_cnt u) - (1 : Int32)))).bind fun q_1 => (if (q_1 = 0 ∨ q_1 = 1) then some q_1 else none))
set_option maxHeartbeats 4000000 in
set_option maxRecDepth 100000 in
theorem k_X7_isAccount (l : Launch) (D : va_G) (ad : Nat → Nat) (cI cJ : ClassId) (u : MS) (l1 : Int32) (r1 : Int32) (hG : f_X7_isAccount l1 u = some r1) : Met l yX7_isAccount wsX7_isAccount ({ frames := 1, cells := 0, slots := 0, locals := 25 } : Room) (va_Pc [.ref (ad 0), .int l1] (MB D ad cI cJ u)) (va_Qi (S := MS) (fun r u2 => r = r1 ∧ u2 = u) (MB D ad cI cJ) (AM ad)) 0 0 (AM ad) := by
  refine Met.ofW (cc := cX7_isAccount) (maxL := 2) (ret := (some .boolean)) (by decide) rfl ?_
  intro p e s m args below meth c s₁ B hml hv
  obtain ⟨rfl, hP0, hK, hD0⟩ := hv
  have C : CallFix p m c cX7_isAccount 2 s _ wsX7_isAccount RX7 := ⟨B.exec, B.bytes, hml, findClass_of_methodNamed B.named, atoms_spec (ws := wsX7_isAccount) B.pre⟩
  have hr := B.returns
  have hlocks := B.notSynchronized
  have hw : MW D ad cI cJ s.heap s.heap [] u := ⟨hP0, hD0, va_S.rf⟩
  refine en_W (Nat.le_of_ble_eq_true rfl) (fun ls hl => ?_)
  have hl : lv_has ls 2 [(0, .ref (ad 0)), (1, .int l1)] := hl
  unfold f_X7_isAccount at hG
  refine lv_iload_n C.1 C.2.1 dX7_isAccount_0 rfl (lv_at hl 1 rfl) ?_
  refine lv_i2l C.1 C.2.1 dX7_isAccount_1 rfl ?_
  refine lv_lconst (v := 0) C.1 C.2.1 dX7_isAccount_2 (by decide) ?_
  refine lv_aload_n C.1 C.2.1 dX7_isAccount_3 rfl (lv_at hl 0 rfl) ?_
  refine mg_0_0 C hK hw jX7_isAccount_7 (List.mem_of_getElem? (i := 1) rfl) dX7_isAccount_4 ?_
  refine lv_iconst (v := 1) C.1 C.2.1 dX7_isAccount_7 (by decide) ?_
  refine lv_isub C.1 C.2.1 dX7_isAccount_8 ?_
  refine lv_i2l C.1 C.2.1 dX7_isAccount_9 rfl ?_
  obtain ⟨q_1, hc_1, hG⟩ := ob hG
  try dsimp only at hG
  refine mcSi (As := [.long (Int32.toInt64 l1), .long (0 : Int64), .long (Int32.toInt64 ((m_cnt u) - (1 : Int32)))]) (rest := []) C hK hw (k_X7_in l D ad cI cJ u (Int32.toInt64 l1) (0 : Int64) (Int32.toInt64 ((m_cnt u) - (1 : Int32))) q_1 hc_1) (va_cwS 3 C.2.2.2.2 gX7_isAccount_X7_in rfl rfl rfl (by decide +kernel) ⟨Nat.le_of_ble_eq_true rfl, Nat.le_of_ble_eq_true rfl⟩) rfl hl.1 rfl (Nat.le_of_ble_eq_true rfl) dX7_isAccount_10 (fun H locs hw => ?_)
  obtain ⟨h_2, hG⟩ := ot hG
  exact mret_z C hlocks hK hw hr (nz h_2) (ret1 hG) dX7_isAccount_13
def f_X7_isLock_4 : Nat → Int32 → Int32 → Int32 → Int32 → Option Int32
  | 0, _, _, _, _ => none
  | n + 1, l0, l1, l2, l3 => (if (16 : Int32) ≤ l3 then ((f_X7_in (Int32.toInt64 l0) (1 : Int64) (65535 : Int64)).bind fun q_2 => (if q_2 = (0 : Int32) then some (0 : Int32) else ((f_X7_in (Int32.toInt64 l1) (1 : Int64) (Int32.toInt64 l2)).bind fun q_4 => (if q_4 = (0 : Int32) then some (0 : Int32) else some (1 : Int32))))) else (f_X7_isLock_4 n l0 l1 (l2 + ((l0 >>> (l3 &&& 31)) &&& (1 : Int32))) (l3 + (1 : Int32))))
set_option maxHeartbeats 4000000 in
set_option maxRecDepth 100000 in
theorem kl_X7_isLock_4 {p : Program} {l : Launch} {e : Env} {s : State} {m : MethodId} {args : Array Value} {below : List Frame} {meth : Method} {c : Code} {D : va_G} {ad : Nat → Nat} {cI cJ : ClassId} (C : CallFix p m c cX7_isLock 4 s args wsX7_isLock RX7) (hr : meth.sig.returnType = (some .boolean)) (hlocks : meth.locks = false) (hK : va_K D vwCl (mT cI cJ) s) {r1 : Int32} {u : MS} : ∀ (n : Nat) (l0 : Int32) (l1 : Int32) (l2 : Int32) (l3 : Int32) (H : Heap) (locs : List Loc) (ls : Array Slot), f_X7_isLock_4 n l0 l1 l2 l3 = some r1 → MW D ad cI cJ s.heap H locs u → lv_has ls 4 [(0, .int l0), (1, .int l1), (2, .int l2), (3, .int l3)] → W p l e ({ frames := 1, cells := 0, slots := 0, locals := 25 } : Room) s m args below meth c H locs 0 0 (MQ below (va_Qi (S := MS) (fun r u2 => r = r1 ∧ u2 = u) (MB D ad cI cJ) (AM ad)) args s 0 0 (AM ad)) (F0 m 4 ls []) := by
  intro n
  induction n with
  | zero =>
    intro l0 l1 l2 l3 H locs ls hG
    exact ns hG
  | succ n ih =>
    intro l0 l1 l2 l3 H locs ls hG hw hl
    rw [f_X7_isLock_4] at hG
    refine lv_iload_n C.1 C.2.1 dX7_isLock_4 rfl (lv_at hl 3 rfl) ?_
    refine lv_bipush (v := 16) C.1 C.2.1 dX7_isLock_5 (by decide) ?_
    refine lv_icmp_ge (tgt := 24) C.1 C.2.1 dX7_isLock_7 (by decide) (fun (h_1 : (16 : Int32) ≤ l3) => ?_) (fun (h_1 : ¬ (16 : Int32) ≤ l3) => ?_)
    · replace hG := ip h_1 hG
      refine lv_iload_n C.1 C.2.1 dX7_isLock_24 rfl (lv_at hl 0 rfl) ?_
      refine lv_i2l C.1 C.2.1 dX7_isLock_25 rfl ?_
      refine lv_lconst (v := 1) C.1 C.2.1 dX7_isLock_26 (by decide) ?_
      refine lv_ldc2 (v := 65535) C.1 C.2.1 C.2.2.2.1 (C.2.2.2.2 _ (List.mem_of_getElem? (i := 1) rfl)) dX7_isLock_27 ?_
      obtain ⟨q_2, hc_2, hG⟩ := ob hG
      try dsimp only at hG
      refine mcSi (As := [.long (Int32.toInt64 l0), .long (1 : Int64), .long (65535 : Int64)]) (rest := []) C hK hw (k_X7_in l D ad cI cJ u (Int32.toInt64 l0) (1 : Int64) (65535 : Int64) q_2 hc_2) (va_cwS 3 C.2.2.2.2 gX7_isLock_X7_in rfl rfl rfl (by decide +kernel) ⟨Nat.le_of_ble_eq_true rfl, Nat.le_of_ble_eq_true rfl⟩) rfl hl.1 rfl (Nat.le_of_ble_eq_true rfl) dX7_isLock_30 (fun H locs hw => ?_)
      refine lv_if_eq (tgt := 51) C.1 C.2.1 dX7_isLock_33 (by decide) (fun (h_3 : q_2 = (0 : Int32)) => ?_) (fun (h_3 : ¬ q_2 = (0 : Int32)) => ?_)
      · replace hG := ip h_3 hG
        refine lv_iconst (v := 0) C.1 C.2.1 dX7_isLock_51 (by decide) ?_
        exact mret_z C hlocks hK hw hr rfl (ret1 hG) dX7_isLock_52
      · replace hG := inn h_3 hG
        refine lv_iload_n C.1 C.2.1 dX7_isLock_36 rfl (lv_at hl 1 rfl) ?_
        refine lv_i2l C.1 C.2.1 dX7_isLock_37 rfl ?_
        refine lv_lconst (v := 1) C.1 C.2.1 dX7_isLock_38 (by decide) ?_
        refine lv_iload_n C.1 C.2.1 dX7_isLock_39 rfl (lv_at hl 2 rfl) ?_
        refine lv_i2l C.1 C.2.1 dX7_isLock_40 rfl ?_
        obtain ⟨q_4, hc_4, hG⟩ := ob hG
        try dsimp only at hG
        refine mcSi (As := [.long (Int32.toInt64 l1), .long (1 : Int64), .long (Int32.toInt64 l2)]) (rest := []) C hK hw (k_X7_in l D ad cI cJ u (Int32.toInt64 l1) (1 : Int64) (Int32.toInt64 l2) q_4 hc_4) (va_cwS 3 C.2.2.2.2 gX7_isLock_X7_in rfl rfl rfl (by decide +kernel) ⟨Nat.le_of_ble_eq_true rfl, Nat.le_of_ble_eq_true rfl⟩) rfl hl.1 rfl (Nat.le_of_ble_eq_true rfl) dX7_isLock_41 (fun H locs hw => ?_)
        refine lv_if_eq (tgt := 51) C.1 C.2.1 dX7_isLock_44 (by decide) (fun (h_5 : q_4 = (0 : Int32)) => ?_) (fun (h_5 : ¬ q_4 = (0 : Int32)) => ?_)
        · replace hG := ip h_5 hG
          refine lv_iconst (v := 0) C.1 C.2.1 dX7_isLock_51 (by decide) ?_
          exact mret_z C hlocks hK hw hr rfl (ret1 hG) dX7_isLock_52
        · replace hG := inn h_5 hG
          refine lv_iconst (v := 1) C.1 C.2.1 dX7_isLock_47 (by decide) ?_
          refine lv_goto (tgt := 52) C.1 C.2.1 dX7_isLock_48 (by decide) ?_
          exact mret_z C hlocks hK hw hr rfl (ret1 hG) dX7_isLock_52
    · replace hG := inn h_1 hG
      refine lv_iload_n C.1 C.2.1 dX7_isLock_10 rfl (lv_at hl 2 rfl) ?_
      refine lv_iload_n C.1 C.2.1 dX7_isLock_11 rfl (lv_at hl 0 rfl) ?_
      refine lv_iload_n C.1 C.2.1 dX7_isLock_12 rfl (lv_at hl 3 rfl) ?_
      refine lv_ishr C.1 C.2.1 dX7_isLock_13 ?_
      refine lv_iconst (v := 1) C.1 C.2.1 dX7_isLock_14 (by decide) ?_
      refine lv_iand C.1 C.2.1 dX7_isLock_15 ?_
      refine lv_iadd C.1 C.2.1 dX7_isLock_16 ?_
      refine lv_istore_n (lv' := [(2, .int (l2 + ((l0 >>> (l3 &&& 31)) &&& (1 : Int32)))), (0, .int l0), (1, .int l1), (3, .int l3)]) C.1 C.2.1 dX7_isLock_17 rfl hl (by decide) rfl (fun ls hl => ?_)
      refine lv_iinc (v := (l3 + (1 : Int32))) (lv' := [(3, .int (l3 + (1 : Int32))), (2, .int (l2 + ((l0 >>> (l3 &&& 31)) &&& (1 : Int32)))), (0, .int l0), (1, .int l1)]) C.1 C.2.1 dX7_isLock_18 hl (k := 3) rfl rfl (by decide) rfl (fun ls hl => ?_)
      refine lv_goto (tgt := 4) C.1 C.2.1 dX7_isLock_21 (by decide) ?_
      exact ih l0 l1 (l2 + ((l0 >>> (l3 &&& 31)) &&& (1 : Int32))) (l3 + (1 : Int32)) _ _ _ hG hw (lv_sub hl [2, 3, 1, 0] rfl)
def f_X7_isLock (l0 : Int32) (l1 : Int32) : Option Int32 := (f_X7_isLock_4 1000 l0 l1 (0 : Int32) (0 : Int32))
set_option maxHeartbeats 4000000 in
set_option maxRecDepth 100000 in
theorem k_X7_isLock (l : Launch) (D : va_G) (ad : Nat → Nat) (cI cJ : ClassId) (u : MS) (l0 : Int32) (l1 : Int32) (r1 : Int32) (hG : f_X7_isLock l0 l1 = some r1) : Met l yX7_isLock wsX7_isLock ({ frames := 1, cells := 0, slots := 0, locals := 25 } : Room) (va_Pc [.int l0, .int l1] (MB D ad cI cJ u)) (va_Qi (S := MS) (fun r u2 => r = r1 ∧ u2 = u) (MB D ad cI cJ) (AM ad)) 0 0 (AM ad) := by
  refine Met.ofW (cc := cX7_isLock) (maxL := 4) (ret := (some .boolean)) (by decide) rfl ?_
  intro p e s m args below meth c s₁ B hml hv
  obtain ⟨rfl, hP0, hK, hD0⟩ := hv
  have C : CallFix p m c cX7_isLock 4 s _ wsX7_isLock RX7 := ⟨B.exec, B.bytes, hml, findClass_of_methodNamed B.named, atoms_spec (ws := wsX7_isLock) B.pre⟩
  have hr := B.returns
  have hlocks := B.notSynchronized
  have hw : MW D ad cI cJ s.heap s.heap [] u := ⟨hP0, hD0, va_S.rf⟩
  refine en_W (Nat.le_of_ble_eq_true rfl) (fun ls hl => ?_)
  have hl : lv_has ls 4 [(0, .int l0), (1, .int l1)] := hl
  unfold f_X7_isLock at hG
  refine lv_iconst (v := 0) C.1 C.2.1 dX7_isLock_0 (by decide) ?_
  refine lv_istore_n (lv' := [(2, .int (0 : Int32)), (0, .int l0), (1, .int l1)]) C.1 C.2.1 dX7_isLock_1 rfl hl (by decide) rfl (fun ls hl => ?_)
  refine lv_iconst (v := 0) C.1 C.2.1 dX7_isLock_2 (by decide) ?_
  refine lv_istore_n (lv' := [(3, .int (0 : Int32)), (2, .int (0 : Int32)), (0, .int l0), (1, .int l1)]) C.1 C.2.1 dX7_isLock_3 rfl hl (by decide) rfl (fun ls hl => ?_)
  exact kl_X7_isLock_4 C hr hlocks hK 1000 l0 l1 (0 : Int32) (0 : Int32) _ _ _ hG hw (lv_sub hl [2, 3, 1, 0] rfl)
theorem jX7_account_7 : ∀ w ∈ wsX70, w ∈ wsX7_account := by decide +kernel
def f_X7_account (l1 : Int64) (l3 : Int32) (l4 : Int32) (u : MS) : Option (Int32 × MS) := ((f_X7_in l1 (0 : Int64) (1000000000000 : Int64)).bind fun q_1 => (if q_1 = (0 : Int32) then some ((-1 : Int32), u) else ((f_X7_isLock l3 l4).bind fun q_3 => (if q_3 = (0 : Int32) then some ((-1 : Int32), u) else (if (m_cnt u) = (12 : Int32) then some ((-3 : Int32), u) else (if inb (m_cnt u) 12 = true then (if inb (m_cnt u) 12 = true then (if inb (m_cnt u) 12 = true then some ((((m_cnt u) + (1 : Int32)) - (1 : Int32)), (ms_cnt (ms_thr (ms_kys (ms_fun u (vp_updL (m_fun u) (Int32.toNatClampNeg (m_cnt u)) l1)) (upd (m_kys u) (Int32.toNatClampNeg (m_cnt u)) l3)) (upd (m_thr u) (Int32.toNatClampNeg (m_cnt u)) l4)) ((m_cnt u) + (1 : Int32)))) else none) else none) else none))))))
set_option maxHeartbeats 4000000 in
set_option maxRecDepth 100000 in
theorem k_X7_account (l : Launch) (D : va_G) (ad : Nat → Nat) (cI cJ : ClassId) (u : MS) (l1 : Int64) (l3 : Int32) (l4 : Int32) (r1 : Int32) (u1 : MS) (hG : f_X7_account l1 l3 l4 u = some (r1, u1)) : Met l yX7_account wsX7_account ({ frames := 2, cells := 0, slots := 0, locals := 48 } : Room) (va_Pc [.ref (ad 0), .long l1, .int l3, .int l4] (MB D ad cI cJ u)) (va_Qi (S := MS) (fun r u2 => r = r1 ∧ u2 = u1) (MB D ad cI cJ) (AM ad)) 0 0 (AM ad) := by
  refine Met.ofW (cc := cX7_account) (maxL := 5) (ret := (some .int)) (by decide) rfl ?_
  intro p e s m args below meth c s₁ B hml hv
  obtain ⟨rfl, hP0, hK, hD0⟩ := hv
  have C : CallFix p m c cX7_account 5 s _ wsX7_account RX7 := ⟨B.exec, B.bytes, hml, findClass_of_methodNamed B.named, atoms_spec (ws := wsX7_account) B.pre⟩
  have hr := B.returns
  have hlocks := B.notSynchronized
  have hw : MW D ad cI cJ s.heap s.heap [] u := ⟨hP0, hD0, va_S.rf⟩
  refine en_W (Nat.le_of_ble_eq_true rfl) (fun ls hl => ?_)
  have hl : lv_has ls 5 [(0, .ref (ad 0)), (1, .long l1), (3, .int l3), (4, .int l4)] := hl
  unfold f_X7_account at hG
  refine lv_lload_n C.1 C.2.1 dX7_account_0 rfl (lv_at hl 1 rfl) ?_
  refine lv_lconst (v := 0) C.1 C.2.1 dX7_account_1 (by decide) ?_
  refine lv_ldc2 (v := 1000000000000) C.1 C.2.1 C.2.2.2.1 (C.2.2.2.2 _ (List.mem_of_getElem? (i := 1) rfl)) dX7_account_2 ?_
  obtain ⟨q_1, hc_1, hG⟩ := ob hG
  try dsimp only at hG
  refine mcSi (As := [.long l1, .long (0 : Int64), .long (1000000000000 : Int64)]) (rest := []) C hK hw (k_X7_in l D ad cI cJ u l1 (0 : Int64) (1000000000000 : Int64) q_1 hc_1) (va_cwS 3 C.2.2.2.2 gX7_account_X7_in rfl rfl rfl (by decide +kernel) ⟨Nat.le_of_ble_eq_true rfl, Nat.le_of_ble_eq_true rfl⟩) rfl hl.1 rfl (Nat.le_of_ble_eq_true rfl) dX7_account_5 (fun H locs hw => ?_)
  refine lv_if_eq (tgt := 20) C.1 C.2.1 dX7_account_8 (by decide) (fun (h_2 : q_1 = (0 : Int32)) => ?_) (fun (h_2 : ¬ q_1 = (0 : Int32)) => ?_)
  · replace hG := ip h_2 hG
    refine lv_iconst (v := -1) C.1 C.2.1 dX7_account_20 (by decide) ?_
    exact mret_i C hlocks hK hw hr (ret2 hG) dX7_account_21
  · replace hG := inn h_2 hG
    refine lv_iload_n C.1 C.2.1 dX7_account_11 rfl (lv_at hl 2 rfl) ?_
    refine lv_iload C.1 C.2.1 dX7_account_12 (lv_at hl 3 rfl) ?_
    obtain ⟨q_3, hc_3, hG⟩ := ob hG
    try dsimp only at hG
    refine mcSi (As := [.int l3, .int l4]) (rest := []) C hK hw (k_X7_isLock l D ad cI cJ u l3 l4 q_3 hc_3) (va_cwS 2 C.2.2.2.2 gX7_account_X7_isLock rfl rfl rfl (by decide +kernel) ⟨Nat.le_of_ble_eq_true rfl, Nat.le_of_ble_eq_true rfl⟩) rfl hl.1 rfl (Nat.le_of_ble_eq_true rfl) dX7_account_14 (fun H locs hw => ?_)
    refine lv_if_ne (tgt := 22) C.1 C.2.1 dX7_account_17 (by decide) (fun (h_4 : ¬ q_3 = (0 : Int32)) => ?_) (fun (h_4 : q_3 = (0 : Int32)) => ?_)
    · replace hG := inn h_4 hG
      refine lv_aload_n C.1 C.2.1 dX7_account_22 rfl (lv_at hl 0 rfl) ?_
      refine mg_0_0 C hK hw jX7_account_7 (List.mem_of_getElem? (i := 2) rfl) dX7_account_23 ?_
      refine lv_bipush (v := 12) C.1 C.2.1 dX7_account_26 (by decide) ?_
      refine lv_icmp_ne (tgt := 34) C.1 C.2.1 dX7_account_28 (by decide) (fun (h_5 : ¬ (m_cnt u) = (12 : Int32)) => ?_) (fun (h_5 : (m_cnt u) = (12 : Int32)) => ?_)
      · replace hG := inn h_5 hG
        refine lv_aload_n C.1 C.2.1 dX7_account_34 rfl (lv_at hl 0 rfl) ?_
        refine mg_0_1 C hK hw jX7_account_7 (List.mem_of_getElem? (i := 3) rfl) dX7_account_35 ?_
        refine lv_aload_n C.1 C.2.1 dX7_account_38 rfl (lv_at hl 0 rfl) ?_
        refine mg_0_0 C hK hw jX7_account_7 (List.mem_of_getElem? (i := 2) rfl) dX7_account_39 ?_
        refine lv_lload_n C.1 C.2.1 dX7_account_42 rfl (lv_at hl 1 rfl) ?_
        obtain ⟨h_6, hG⟩ := og hG
        refine mt_1 C hK hw h_6 dX7_account_43 (fun H locs hw => ?_)
        refine lv_aload_n C.1 C.2.1 dX7_account_44 rfl (lv_at hl 0 rfl) ?_
        refine mg_0_3 C hK hw jX7_account_7 (List.mem_of_getElem? (i := 4) rfl) dX7_account_45 ?_
        refine lv_aload_n C.1 C.2.1 dX7_account_48 rfl (lv_at hl 0 rfl) ?_
        refine mg_0_0 C hK hw jX7_account_7 (List.mem_of_getElem? (i := 2) rfl) dX7_account_49 ?_
        refine lv_iload_n C.1 C.2.1 dX7_account_52 rfl (lv_at hl 2 rfl) ?_
        obtain ⟨h_7, hG⟩ := og hG
        refine mt_3 C hK hw h_7 dX7_account_53 (fun H locs hw => ?_)
        refine lv_aload_n C.1 C.2.1 dX7_account_54 rfl (lv_at hl 0 rfl) ?_
        refine mg_0_4 C hK hw jX7_account_7 (List.mem_of_getElem? (i := 5) rfl) dX7_account_55 ?_
        refine lv_aload_n C.1 C.2.1 dX7_account_58 rfl (lv_at hl 0 rfl) ?_
        refine mg_0_0 C hK hw jX7_account_7 (List.mem_of_getElem? (i := 2) rfl) dX7_account_59 ?_
        refine lv_iload C.1 C.2.1 dX7_account_62 (lv_at hl 3 rfl) ?_
        obtain ⟨h_8, hG⟩ := og hG
        refine mt_4 C hK hw h_8 dX7_account_64 (fun H locs hw => ?_)
        refine lv_aload_n C.1 C.2.1 dX7_account_65 rfl (lv_at hl 0 rfl) ?_
        refine lv_dup C.1 C.2.1 dX7_account_66 rfl ?_
        refine mg_0_0 C hK hw jX7_account_7 (List.mem_of_getElem? (i := 2) rfl) dX7_account_67 ?_
        refine lv_iconst (v := 1) C.1 C.2.1 dX7_account_70 (by decide) ?_
        refine lv_iadd C.1 C.2.1 dX7_account_71 ?_
        refine mp_0_0 C hK hw jX7_account_7 (List.mem_of_getElem? (i := 2) rfl) dX7_account_72 (fun H locs hw => ?_)
        refine lv_aload_n C.1 C.2.1 dX7_account_75 rfl (lv_at hl 0 rfl) ?_
        refine mg_0_0 C hK hw jX7_account_7 (List.mem_of_getElem? (i := 2) rfl) dX7_account_76 ?_
        refine lv_iconst (v := 1) C.1 C.2.1 dX7_account_79 (by decide) ?_
        refine lv_isub C.1 C.2.1 dX7_account_80 ?_
        exact mret_i C hlocks hK hw hr (ret2 hG) dX7_account_81
      · replace hG := ip h_5 hG
        refine lv_bipush (v := -3) C.1 C.2.1 dX7_account_31 (by decide) ?_
        exact mret_i C hlocks hK hw hr (ret2 hG) dX7_account_33
    · replace hG := ip h_4 hG
      refine lv_iconst (v := -1) C.1 C.2.1 dX7_account_20 (by decide) ?_
      exact mret_i C hlocks hK hw hr (ret2 hG) dX7_account_21
theorem jX7_lock_7 : ∀ w ∈ wsX70, w ∈ wsX7_lock := by decide +kernel
def f_X7_lock (l1 : Int32) (l2 : Int32) (l3 : Int32) (u : MS) : Option (Int32 × MS) := ((f_X7_isAccount l1 u).bind fun q_1 => (if q_1 = (0 : Int32) then some ((-1 : Int32), u) else ((f_X7_isLock l2 l3).bind fun q_3 => (if q_3 = (0 : Int32) then some ((-1 : Int32), u) else (if inb l1 12 = true then (if inb l1 12 = true then some ((1 : Int32), (ms_thr (ms_kys u (upd (m_kys u) (Int32.toNatClampNeg l1) l2)) (upd (m_thr u) (Int32.toNatClampNeg l1) l3))) else none) else none)))))
set_option maxHeartbeats 4000000 in
set_option maxRecDepth 100000 in
theorem k_X7_lock (l : Launch) (D : va_G) (ad : Nat → Nat) (cI cJ : ClassId) (u : MS) (l1 : Int32) (l2 : Int32) (l3 : Int32) (r1 : Int32) (u1 : MS) (hG : f_X7_lock l1 l2 l3 u = some (r1, u1)) : Met l yX7_lock wsX7_lock ({ frames := 2, cells := 0, slots := 0, locals := 48 } : Room) (va_Pc [.ref (ad 0), .int l1, .int l2, .int l3] (MB D ad cI cJ u)) (va_Qi (S := MS) (fun r u2 => r = r1 ∧ u2 = u1) (MB D ad cI cJ) (AM ad)) 0 0 (AM ad) := by
  refine Met.ofW (cc := cX7_lock) (maxL := 4) (ret := (some .int)) (by decide) rfl ?_
  intro p e s m args below meth c s₁ B hml hv
  obtain ⟨rfl, hP0, hK, hD0⟩ := hv
  have C : CallFix p m c cX7_lock 4 s _ wsX7_lock RX7 := ⟨B.exec, B.bytes, hml, findClass_of_methodNamed B.named, atoms_spec (ws := wsX7_lock) B.pre⟩
  have hr := B.returns
  have hlocks := B.notSynchronized
  have hw : MW D ad cI cJ s.heap s.heap [] u := ⟨hP0, hD0, va_S.rf⟩
  refine en_W (Nat.le_of_ble_eq_true rfl) (fun ls hl => ?_)
  have hl : lv_has ls 4 [(0, .ref (ad 0)), (1, .int l1), (2, .int l2), (3, .int l3)] := hl
  unfold f_X7_lock at hG
  refine lv_aload_n C.1 C.2.1 dX7_lock_0 rfl (lv_at hl 0 rfl) ?_
  refine lv_iload_n C.1 C.2.1 dX7_lock_1 rfl (lv_at hl 1 rfl) ?_
  obtain ⟨q_1, hc_1, hG⟩ := ob hG
  try dsimp only at hG
  refine mcVi (As := [.int l1]) (rest := []) C hK hw (k_X7_isAccount l D ad cI cJ u l1 q_1 hc_1) (cwV 1 C.2.2.2.2 gX7_lock_X7_isAccount rfl rfl rfl (by decide +kernel) ⟨Nat.le_of_ble_eq_true rfl, Nat.le_of_ble_eq_true rfl⟩) (va_recv hK hw.1 (ci := 7) (q0 := 0) rfl rfl) rfl hl.1 rfl (Nat.le_of_ble_eq_true rfl) dX7_lock_2 (fun H locs hw => ?_)
  refine lv_if_eq (tgt := 16) C.1 C.2.1 dX7_lock_5 (by decide) (fun (h_2 : q_1 = (0 : Int32)) => ?_) (fun (h_2 : ¬ q_1 = (0 : Int32)) => ?_)
  · replace hG := ip h_2 hG
    refine lv_iconst (v := -1) C.1 C.2.1 dX7_lock_16 (by decide) ?_
    exact mret_i C hlocks hK hw hr (ret2 hG) dX7_lock_17
  · replace hG := inn h_2 hG
    refine lv_iload_n C.1 C.2.1 dX7_lock_8 rfl (lv_at hl 2 rfl) ?_
    refine lv_iload_n C.1 C.2.1 dX7_lock_9 rfl (lv_at hl 3 rfl) ?_
    obtain ⟨q_3, hc_3, hG⟩ := ob hG
    try dsimp only at hG
    refine mcSi (As := [.int l2, .int l3]) (rest := []) C hK hw (k_X7_isLock l D ad cI cJ u l2 l3 q_3 hc_3) (va_cwS 2 C.2.2.2.2 gX7_lock_X7_isLock rfl rfl rfl (by decide +kernel) ⟨Nat.le_of_ble_eq_true rfl, Nat.le_of_ble_eq_true rfl⟩) rfl hl.1 rfl (Nat.le_of_ble_eq_true rfl) dX7_lock_10 (fun H locs hw => ?_)
    refine lv_if_ne (tgt := 18) C.1 C.2.1 dX7_lock_13 (by decide) (fun (h_4 : ¬ q_3 = (0 : Int32)) => ?_) (fun (h_4 : q_3 = (0 : Int32)) => ?_)
    · replace hG := inn h_4 hG
      refine lv_aload_n C.1 C.2.1 dX7_lock_18 rfl (lv_at hl 0 rfl) ?_
      refine mg_0_3 C hK hw jX7_lock_7 (List.mem_of_getElem? (i := 1) rfl) dX7_lock_19 ?_
      refine lv_iload_n C.1 C.2.1 dX7_lock_22 rfl (lv_at hl 1 rfl) ?_
      refine lv_iload_n C.1 C.2.1 dX7_lock_23 rfl (lv_at hl 2 rfl) ?_
      obtain ⟨h_5, hG⟩ := og hG
      refine mt_3 C hK hw h_5 dX7_lock_24 (fun H locs hw => ?_)
      refine lv_aload_n C.1 C.2.1 dX7_lock_25 rfl (lv_at hl 0 rfl) ?_
      refine mg_0_4 C hK hw jX7_lock_7 (List.mem_of_getElem? (i := 2) rfl) dX7_lock_26 ?_
      refine lv_iload_n C.1 C.2.1 dX7_lock_29 rfl (lv_at hl 1 rfl) ?_
      refine lv_iload_n C.1 C.2.1 dX7_lock_30 rfl (lv_at hl 3 rfl) ?_
      obtain ⟨h_6, hG⟩ := og hG
      refine mt_4 C hK hw h_6 dX7_lock_31 (fun H locs hw => ?_)
      refine lv_iconst (v := 1) C.1 C.2.1 dX7_lock_32 (by decide) ?_
      exact mret_i C hlocks hK hw hr (ret2 hG) dX7_lock_33
    · replace hG := ip h_4 hG
      refine lv_iconst (v := -1) C.1 C.2.1 dX7_lock_16 (by decide) ?_
      exact mret_i C hlocks hK hw hr (ret2 hG) dX7_lock_17
theorem jX7_funds_7 : ∀ w ∈ wsX70, w ∈ wsX7_funds := by decide +kernel
def f_X7_funds (l1 : Int32) (u : MS) : Option Int64 := ((f_X7_isAccount l1 u).bind fun q_1 => (if q_1 = (0 : Int32) then some (-1 : Int64) else (if inb l1 12 = true then some ((m_fun u) (Int32.toNatClampNeg l1)) else none)))
set_option maxHeartbeats 4000000 in
set_option maxRecDepth 100000 in
theorem k_X7_funds (l : Launch) (D : va_G) (ad : Nat → Nat) (cI cJ : ClassId) (u : MS) (l1 : Int32) (r1 : Int64) (hG : f_X7_funds l1 u = some r1) : Met l yX7_funds wsX7_funds ({ frames := 2, cells := 0, slots := 0, locals := 46 } : Room) (va_Pc [.ref (ad 0), .int l1] (MB D ad cI cJ u)) (va_Ql (S := MS) (fun r u2 => r = r1 ∧ u2 = u) (MB D ad cI cJ) (AM ad)) 0 0 (AM ad) := by
  refine Met.ofW (cc := cX7_funds) (maxL := 2) (ret := (some .long)) (by decide) rfl ?_
  intro p e s m args below meth c s₁ B hml hv
  obtain ⟨rfl, hP0, hK, hD0⟩ := hv
  have C : CallFix p m c cX7_funds 2 s _ wsX7_funds RX7 := ⟨B.exec, B.bytes, hml, findClass_of_methodNamed B.named, atoms_spec (ws := wsX7_funds) B.pre⟩
  have hr := B.returns
  have hlocks := B.notSynchronized
  have hw : MW D ad cI cJ s.heap s.heap [] u := ⟨hP0, hD0, va_S.rf⟩
  refine en_W (Nat.le_of_ble_eq_true rfl) (fun ls hl => ?_)
  have hl : lv_has ls 2 [(0, .ref (ad 0)), (1, .int l1)] := hl
  unfold f_X7_funds at hG
  refine lv_aload_n C.1 C.2.1 dX7_funds_0 rfl (lv_at hl 0 rfl) ?_
  refine lv_iload_n C.1 C.2.1 dX7_funds_1 rfl (lv_at hl 1 rfl) ?_
  obtain ⟨q_1, hc_1, hG⟩ := ob hG
  try dsimp only at hG
  refine mcVi (As := [.int l1]) (rest := []) C hK hw (k_X7_isAccount l D ad cI cJ u l1 q_1 hc_1) (cwV 1 C.2.2.2.2 gX7_funds_X7_isAccount rfl rfl rfl (by decide +kernel) ⟨Nat.le_of_ble_eq_true rfl, Nat.le_of_ble_eq_true rfl⟩) (va_recv hK hw.1 (ci := 7) (q0 := 0) rfl rfl) rfl hl.1 rfl (Nat.le_of_ble_eq_true rfl) dX7_funds_2 (fun H locs hw => ?_)
  refine lv_if_eq (tgt := 17) C.1 C.2.1 dX7_funds_5 (by decide) (fun (h_2 : q_1 = (0 : Int32)) => ?_) (fun (h_2 : ¬ q_1 = (0 : Int32)) => ?_)
  · replace hG := ip h_2 hG
    refine lv_ldc2 (v := -1) C.1 C.2.1 C.2.2.2.1 (C.2.2.2.2 _ (List.mem_of_getElem? (i := 2) rfl)) dX7_funds_17 ?_
    exact mret_l C hlocks hK hw hr (ret1 hG) dX7_funds_20
  · replace hG := inn h_2 hG
    refine lv_aload_n C.1 C.2.1 dX7_funds_8 rfl (lv_at hl 0 rfl) ?_
    refine mg_0_1 C hK hw jX7_funds_7 (List.mem_of_getElem? (i := 1) rfl) dX7_funds_9 ?_
    refine lv_iload_n C.1 C.2.1 dX7_funds_12 rfl (lv_at hl 1 rfl) ?_
    obtain ⟨h_3, hG⟩ := og hG
    refine ml_1 C hK hw h_3 dX7_funds_13 ?_
    refine lv_goto (tgt := 20) C.1 C.2.1 dX7_funds_14 (by decide) ?_
    exact mret_l C hlocks hK hw hr (ret1 hG) dX7_funds_20
theorem jX7_next_7 : ∀ w ∈ wsX70, w ∈ wsX7_next := by decide +kernel
def f_X7_next (l1 : Int32) (u : MS) : Option Int32 := ((f_X7_isAccount l1 u).bind fun q_1 => (if q_1 = (0 : Int32) then some (-1 : Int32) else (if inb l1 12 = true then some ((m_nxt u) (Int32.toNatClampNeg l1)) else none)))
set_option maxHeartbeats 4000000 in
set_option maxRecDepth 100000 in
theorem k_X7_next (l : Launch) (D : va_G) (ad : Nat → Nat) (cI cJ : ClassId) (u : MS) (l1 : Int32) (r1 : Int32) (hG : f_X7_next l1 u = some r1) : Met l yX7_next wsX7_next ({ frames := 2, cells := 0, slots := 0, locals := 46 } : Room) (va_Pc [.ref (ad 0), .int l1] (MB D ad cI cJ u)) (va_Qi (S := MS) (fun r u2 => r = r1 ∧ u2 = u) (MB D ad cI cJ) (AM ad)) 0 0 (AM ad) := by
  refine Met.ofW (cc := cX7_next) (maxL := 2) (ret := (some .int)) (by decide) rfl ?_
  intro p e s m args below meth c s₁ B hml hv
  obtain ⟨rfl, hP0, hK, hD0⟩ := hv
  have C : CallFix p m c cX7_next 2 s _ wsX7_next RX7 := ⟨B.exec, B.bytes, hml, findClass_of_methodNamed B.named, atoms_spec (ws := wsX7_next) B.pre⟩
  have hr := B.returns
  have hlocks := B.notSynchronized
  have hw : MW D ad cI cJ s.heap s.heap [] u := ⟨hP0, hD0, va_S.rf⟩
  refine en_W (Nat.le_of_ble_eq_true rfl) (fun ls hl => ?_)
  have hl : lv_has ls 2 [(0, .ref (ad 0)), (1, .int l1)] := hl
  unfold f_X7_next at hG
  refine lv_aload_n C.1 C.2.1 dX7_next_0 rfl (lv_at hl 0 rfl) ?_
  refine lv_iload_n C.1 C.2.1 dX7_next_1 rfl (lv_at hl 1 rfl) ?_
  obtain ⟨q_1, hc_1, hG⟩ := ob hG
  try dsimp only at hG
  refine mcVi (As := [.int l1]) (rest := []) C hK hw (k_X7_isAccount l D ad cI cJ u l1 q_1 hc_1) (cwV 1 C.2.2.2.2 gX7_next_X7_isAccount rfl rfl rfl (by decide +kernel) ⟨Nat.le_of_ble_eq_true rfl, Nat.le_of_ble_eq_true rfl⟩) (va_recv hK hw.1 (ci := 7) (q0 := 0) rfl rfl) rfl hl.1 rfl (Nat.le_of_ble_eq_true rfl) dX7_next_2 (fun H locs hw => ?_)
  refine lv_if_eq (tgt := 17) C.1 C.2.1 dX7_next_5 (by decide) (fun (h_2 : q_1 = (0 : Int32)) => ?_) (fun (h_2 : ¬ q_1 = (0 : Int32)) => ?_)
  · replace hG := ip h_2 hG
    refine lv_iconst (v := -1) C.1 C.2.1 dX7_next_17 (by decide) ?_
    exact mret_i C hlocks hK hw hr (ret1 hG) dX7_next_18
  · replace hG := inn h_2 hG
    refine lv_aload_n C.1 C.2.1 dX7_next_8 rfl (lv_at hl 0 rfl) ?_
    refine mg_0_2 C hK hw jX7_next_7 (List.mem_of_getElem? (i := 1) rfl) dX7_next_9 ?_
    refine lv_iload_n C.1 C.2.1 dX7_next_12 rfl (lv_at hl 1 rfl) ?_
    obtain ⟨h_3, hG⟩ := og hG
    refine ml_2 C hK hw h_3 dX7_next_13 ?_
    refine lv_goto (tgt := 18) C.1 C.2.1 dX7_next_14 (by decide) ?_
    exact mret_i C hlocks hK hw hr (ret1 hG) dX7_next_18
theorem jX7_sign_7 : ∀ w ∈ wsX70, w ∈ wsX7_sign := by decide +kernel
def f_X7_sign (l1 : Int32) (l2 : Int64) (u : MS) : Option (Int32 × MS) := ((f_X7_in (Int32.toInt64 l1) (0 : Int64) (15 : Int64)).bind fun q_1 => (if q_1 = (0 : Int32) then some ((-1 : Int32), u) else (if (m_sgc u) = (200 : Int32) then some ((-3 : Int32), u) else (if inb (m_sgc u) 200 = true then (if inb (m_sgc u) 200 = true then some ((((m_sgc u) + (1 : Int32)) - (1 : Int32)), (ms_sgc (ms_sdg (ms_sky u (upd (m_sky u) (Int32.toNatClampNeg (m_sgc u)) l1)) (vp_updL (m_sdg u) (Int32.toNatClampNeg (m_sgc u)) l2)) ((m_sgc u) + (1 : Int32)))) else none) else none))))
set_option maxHeartbeats 4000000 in
set_option maxRecDepth 100000 in
theorem k_X7_sign (l : Launch) (D : va_G) (ad : Nat → Nat) (cI cJ : ClassId) (u : MS) (l1 : Int32) (l2 : Int64) (r1 : Int32) (u1 : MS) (hG : f_X7_sign l1 l2 u = some (r1, u1)) : Met l yX7_sign wsX7_sign ({ frames := 1, cells := 0, slots := 0, locals := 25 } : Room) (va_Pc [.ref (ad 0), .int l1, .long l2] (MB D ad cI cJ u)) (va_Qi (S := MS) (fun r u2 => r = r1 ∧ u2 = u1) (MB D ad cI cJ) (AM ad)) 0 0 (AM ad) := by
  refine Met.ofW (cc := cX7_sign) (maxL := 4) (ret := (some .int)) (by decide) rfl ?_
  intro p e s m args below meth c s₁ B hml hv
  obtain ⟨rfl, hP0, hK, hD0⟩ := hv
  have C : CallFix p m c cX7_sign 4 s _ wsX7_sign RX7 := ⟨B.exec, B.bytes, hml, findClass_of_methodNamed B.named, atoms_spec (ws := wsX7_sign) B.pre⟩
  have hr := B.returns
  have hlocks := B.notSynchronized
  have hw : MW D ad cI cJ s.heap s.heap [] u := ⟨hP0, hD0, va_S.rf⟩
  refine en_W (Nat.le_of_ble_eq_true rfl) (fun ls hl => ?_)
  have hl : lv_has ls 4 [(0, .ref (ad 0)), (1, .int l1), (2, .long l2)] := hl
  unfold f_X7_sign at hG
  refine lv_iload_n C.1 C.2.1 dX7_sign_0 rfl (lv_at hl 1 rfl) ?_
  refine lv_i2l C.1 C.2.1 dX7_sign_1 rfl ?_
  refine lv_lconst (v := 0) C.1 C.2.1 dX7_sign_2 (by decide) ?_
  refine lv_ldc2 (v := 15) C.1 C.2.1 C.2.2.2.1 (C.2.2.2.2 _ (List.mem_of_getElem? (i := 1) rfl)) dX7_sign_3 ?_
  obtain ⟨q_1, hc_1, hG⟩ := ob hG
  try dsimp only at hG
  refine mcSi (As := [.long (Int32.toInt64 l1), .long (0 : Int64), .long (15 : Int64)]) (rest := []) C hK hw (k_X7_in l D ad cI cJ u (Int32.toInt64 l1) (0 : Int64) (15 : Int64) q_1 hc_1) (va_cwS 3 C.2.2.2.2 gX7_sign_X7_in rfl rfl rfl (by decide +kernel) ⟨Nat.le_of_ble_eq_true rfl, Nat.le_of_ble_eq_true rfl⟩) rfl hl.1 rfl (Nat.le_of_ble_eq_true rfl) dX7_sign_6 (fun H locs hw => ?_)
  refine lv_if_ne (tgt := 14) C.1 C.2.1 dX7_sign_9 (by decide) (fun (h_2 : ¬ q_1 = (0 : Int32)) => ?_) (fun (h_2 : q_1 = (0 : Int32)) => ?_)
  · replace hG := inn h_2 hG
    refine lv_aload_n C.1 C.2.1 dX7_sign_14 rfl (lv_at hl 0 rfl) ?_
    refine mg_0_5 C hK hw jX7_sign_7 (List.mem_of_getElem? (i := 2) rfl) dX7_sign_15 ?_
    refine lv_sipush (v := 200) C.1 C.2.1 dX7_sign_18 (by decide) ?_
    refine lv_icmp_ne (tgt := 27) C.1 C.2.1 dX7_sign_21 (by decide) (fun (h_3 : ¬ (m_sgc u) = (200 : Int32)) => ?_) (fun (h_3 : (m_sgc u) = (200 : Int32)) => ?_)
    · replace hG := inn h_3 hG
      refine lv_aload_n C.1 C.2.1 dX7_sign_27 rfl (lv_at hl 0 rfl) ?_
      refine mg_0_6 C hK hw jX7_sign_7 (List.mem_of_getElem? (i := 3) rfl) dX7_sign_28 ?_
      refine lv_aload_n C.1 C.2.1 dX7_sign_31 rfl (lv_at hl 0 rfl) ?_
      refine mg_0_5 C hK hw jX7_sign_7 (List.mem_of_getElem? (i := 2) rfl) dX7_sign_32 ?_
      refine lv_iload_n C.1 C.2.1 dX7_sign_35 rfl (lv_at hl 1 rfl) ?_
      obtain ⟨h_4, hG⟩ := og hG
      refine mt_5 C hK hw h_4 dX7_sign_36 (fun H locs hw => ?_)
      refine lv_aload_n C.1 C.2.1 dX7_sign_37 rfl (lv_at hl 0 rfl) ?_
      refine mg_0_7 C hK hw jX7_sign_7 (List.mem_of_getElem? (i := 4) rfl) dX7_sign_38 ?_
      refine lv_aload_n C.1 C.2.1 dX7_sign_41 rfl (lv_at hl 0 rfl) ?_
      refine mg_0_5 C hK hw jX7_sign_7 (List.mem_of_getElem? (i := 2) rfl) dX7_sign_42 ?_
      refine lv_lload_n C.1 C.2.1 dX7_sign_45 rfl (lv_at hl 2 rfl) ?_
      obtain ⟨h_5, hG⟩ := og hG
      refine mt_6 C hK hw h_5 dX7_sign_46 (fun H locs hw => ?_)
      refine lv_aload_n C.1 C.2.1 dX7_sign_47 rfl (lv_at hl 0 rfl) ?_
      refine lv_dup C.1 C.2.1 dX7_sign_48 rfl ?_
      refine mg_0_5 C hK hw jX7_sign_7 (List.mem_of_getElem? (i := 2) rfl) dX7_sign_49 ?_
      refine lv_iconst (v := 1) C.1 C.2.1 dX7_sign_52 (by decide) ?_
      refine lv_iadd C.1 C.2.1 dX7_sign_53 ?_
      refine mp_0_5 C hK hw jX7_sign_7 (List.mem_of_getElem? (i := 2) rfl) dX7_sign_54 (fun H locs hw => ?_)
      refine lv_aload_n C.1 C.2.1 dX7_sign_57 rfl (lv_at hl 0 rfl) ?_
      refine mg_0_5 C hK hw jX7_sign_7 (List.mem_of_getElem? (i := 2) rfl) dX7_sign_58 ?_
      refine lv_iconst (v := 1) C.1 C.2.1 dX7_sign_61 (by decide) ?_
      refine lv_isub C.1 C.2.1 dX7_sign_62 ?_
      exact mret_i C hlocks hK hw hr (ret2 hG) dX7_sign_63
    · replace hG := ip h_3 hG
      refine lv_bipush (v := -3) C.1 C.2.1 dX7_sign_24 (by decide) ?_
      exact mret_i C hlocks hK hw hr (ret2 hG) dX7_sign_26
  · replace hG := ip h_2 hG
    refine lv_iconst (v := -1) C.1 C.2.1 dX7_sign_12 (by decide) ?_
    exact mret_i C hlocks hK hw hr (ret2 hG) dX7_sign_13
theorem jX7_draft_7 : ∀ w ∈ wsX70, w ∈ wsX7_draft := by decide +kernel
def f_X7_draft (l1 : Int32) (l2 : Int32) (l3 : Int32) (l4 : Int32) (u : MS) : Option (Int32 × MS) := ((f_X7_isAccount l1 u).bind fun q_1 => (if q_1 = (0 : Int32) then some ((-1 : Int32), u) else ((f_X7_in (Int32.toInt64 l2) (0 : Int64) (999 : Int64)).bind fun q_3 => (if q_3 = (0 : Int32) then some ((-1 : Int32), u) else ((f_X7_in (Int32.toInt64 l3) (0 : Int64) (1000000 : Int64)).bind fun q_5 => (if q_5 = (0 : Int32) then some ((-1 : Int32), u) else ((f_X7_in (Int32.toInt64 l4) (10 : Int64) (1000 : Int64)).bind fun q_7 => (if q_7 = (0 : Int32) then some ((-1 : Int32), u) else (if inb (0 : Int32) 442 = true then (if inb (1 : Int32) 442 = true then (if inb (2 : Int32) 442 = true then (if inb (3 : Int32) 442 = true then (if inb (4 : Int32) 442 = true then (if inb (5 : Int32) 442 = true then (if inb (6 : Int32) 442 = true then (if inb (8 : Int32) 442 = true then some ((1 : Int32), (ms_dra (ms_mny (ms_cal u (vp_updL (vp_updL (vp_updL (vp_updL (vp_updL (vp_updL (vp_updL (vp_updL (m_cal u) (Int32.toNatClampNeg (0 : Int32)) (Int32.toInt64 l1)) (Int32.toNatClampNeg (1 : Int32)) (Int32.toInt64 l2)) (Int32.toNatClampNeg (2 : Int32)) (Int32.toInt64 l3)) (Int32.toNatClampNeg (3 : Int32)) (Int32.toInt64 l4)) (Int32.toNatClampNeg (4 : Int32)) (1000000 : Int64)) (Int32.toNatClampNeg (5 : Int32)) (0 : Int64)) (Int32.toNatClampNeg (6 : Int32)) (-1 : Int64)) (Int32.toNatClampNeg (8 : Int32)) (0 : Int64))) (0 : Int32)) (1 : Int32))) else none) else none) else none) else none) else none) else none) else none) else none)))))))))
set_option maxHeartbeats 4000000 in
set_option maxRecDepth 100000 in
theorem k_X7_draft (l : Launch) (D : va_G) (ad : Nat → Nat) (cI cJ : ClassId) (u : MS) (l1 : Int32) (l2 : Int32) (l3 : Int32) (l4 : Int32) (r1 : Int32) (u1 : MS) (hG : f_X7_draft l1 l2 l3 l4 u = some (r1, u1)) : Met l yX7_draft wsX7_draft ({ frames := 2, cells := 0, slots := 0, locals := 46 } : Room) (va_Pc [.ref (ad 0), .int l1, .int l2, .int l3, .int l4] (MB D ad cI cJ u)) (va_Qi (S := MS) (fun r u2 => r = r1 ∧ u2 = u1) (MB D ad cI cJ) (AM ad)) 0 0 (AM ad) := by
  refine Met.ofW (cc := cX7_draft) (maxL := 5) (ret := (some .int)) (by decide) rfl ?_
  intro p e s m args below meth c s₁ B hml hv
  obtain ⟨rfl, hP0, hK, hD0⟩ := hv
  have C : CallFix p m c cX7_draft 5 s _ wsX7_draft RX7 := ⟨B.exec, B.bytes, hml, findClass_of_methodNamed B.named, atoms_spec (ws := wsX7_draft) B.pre⟩
  have hr := B.returns
  have hlocks := B.notSynchronized
  have hw : MW D ad cI cJ s.heap s.heap [] u := ⟨hP0, hD0, va_S.rf⟩
  refine en_W (Nat.le_of_ble_eq_true rfl) (fun ls hl => ?_)
  have hl : lv_has ls 5 [(0, .ref (ad 0)), (1, .int l1), (2, .int l2), (3, .int l3), (4, .int l4)] := hl
  unfold f_X7_draft at hG
  refine lv_aload_n C.1 C.2.1 dX7_draft_0 rfl (lv_at hl 0 rfl) ?_
  refine lv_iload_n C.1 C.2.1 dX7_draft_1 rfl (lv_at hl 1 rfl) ?_
  obtain ⟨q_1, hc_1, hG⟩ := ob hG
  try dsimp only at hG
  refine mcVi (As := [.int l1]) (rest := []) C hK hw (k_X7_isAccount l D ad cI cJ u l1 q_1 hc_1) (cwV 1 C.2.2.2.2 gX7_draft_X7_isAccount rfl rfl rfl (by decide +kernel) ⟨Nat.le_of_ble_eq_true rfl, Nat.le_of_ble_eq_true rfl⟩) (va_recv hK hw.1 (ci := 7) (q0 := 0) rfl rfl) rfl hl.1 rfl (Nat.le_of_ble_eq_true rfl) dX7_draft_2 (fun H locs hw => ?_)
  refine lv_if_eq (tgt := 47) C.1 C.2.1 dX7_draft_5 (by decide) (fun (h_2 : q_1 = (0 : Int32)) => ?_) (fun (h_2 : ¬ q_1 = (0 : Int32)) => ?_)
  · replace hG := ip h_2 hG
    refine lv_iconst (v := -1) C.1 C.2.1 dX7_draft_47 (by decide) ?_
    exact mret_i C hlocks hK hw hr (ret2 hG) dX7_draft_48
  · replace hG := inn h_2 hG
    refine lv_iload_n C.1 C.2.1 dX7_draft_8 rfl (lv_at hl 2 rfl) ?_
    refine lv_i2l C.1 C.2.1 dX7_draft_9 rfl ?_
    refine lv_lconst (v := 0) C.1 C.2.1 dX7_draft_10 (by decide) ?_
    refine lv_ldc2 (v := 999) C.1 C.2.1 C.2.2.2.1 (C.2.2.2.2 _ (List.mem_of_getElem? (i := 1) rfl)) dX7_draft_11 ?_
    obtain ⟨q_3, hc_3, hG⟩ := ob hG
    try dsimp only at hG
    refine mcSi (As := [.long (Int32.toInt64 l2), .long (0 : Int64), .long (999 : Int64)]) (rest := []) C hK hw (k_X7_in l D ad cI cJ u (Int32.toInt64 l2) (0 : Int64) (999 : Int64) q_3 hc_3) (va_cwS 3 C.2.2.2.2 gX7_draft_X7_in rfl rfl rfl (by decide +kernel) ⟨Nat.le_of_ble_eq_true rfl, Nat.le_of_ble_eq_true rfl⟩) rfl hl.1 rfl (Nat.le_of_ble_eq_true rfl) dX7_draft_14 (fun H locs hw => ?_)
    refine lv_if_eq (tgt := 47) C.1 C.2.1 dX7_draft_17 (by decide) (fun (h_4 : q_3 = (0 : Int32)) => ?_) (fun (h_4 : ¬ q_3 = (0 : Int32)) => ?_)
    · replace hG := ip h_4 hG
      refine lv_iconst (v := -1) C.1 C.2.1 dX7_draft_47 (by decide) ?_
      exact mret_i C hlocks hK hw hr (ret2 hG) dX7_draft_48
    · replace hG := inn h_4 hG
      refine lv_iload_n C.1 C.2.1 dX7_draft_20 rfl (lv_at hl 3 rfl) ?_
      refine lv_i2l C.1 C.2.1 dX7_draft_21 rfl ?_
      refine lv_lconst (v := 0) C.1 C.2.1 dX7_draft_22 (by decide) ?_
      refine lv_ldc2 (v := 1000000) C.1 C.2.1 C.2.2.2.1 (C.2.2.2.2 _ (List.mem_of_getElem? (i := 2) rfl)) dX7_draft_23 ?_
      obtain ⟨q_5, hc_5, hG⟩ := ob hG
      try dsimp only at hG
      refine mcSi (As := [.long (Int32.toInt64 l3), .long (0 : Int64), .long (1000000 : Int64)]) (rest := []) C hK hw (k_X7_in l D ad cI cJ u (Int32.toInt64 l3) (0 : Int64) (1000000 : Int64) q_5 hc_5) (va_cwS 3 C.2.2.2.2 gX7_draft_X7_in rfl rfl rfl (by decide +kernel) ⟨Nat.le_of_ble_eq_true rfl, Nat.le_of_ble_eq_true rfl⟩) rfl hl.1 rfl (Nat.le_of_ble_eq_true rfl) dX7_draft_26 (fun H locs hw => ?_)
      refine lv_if_eq (tgt := 47) C.1 C.2.1 dX7_draft_29 (by decide) (fun (h_6 : q_5 = (0 : Int32)) => ?_) (fun (h_6 : ¬ q_5 = (0 : Int32)) => ?_)
      · replace hG := ip h_6 hG
        refine lv_iconst (v := -1) C.1 C.2.1 dX7_draft_47 (by decide) ?_
        exact mret_i C hlocks hK hw hr (ret2 hG) dX7_draft_48
      · replace hG := inn h_6 hG
        refine lv_iload C.1 C.2.1 dX7_draft_32 (lv_at hl 4 rfl) ?_
        refine lv_i2l C.1 C.2.1 dX7_draft_34 rfl ?_
        refine lv_ldc2 (v := 10) C.1 C.2.1 C.2.2.2.1 (C.2.2.2.2 _ (List.mem_of_getElem? (i := 3) rfl)) dX7_draft_35 ?_
        refine lv_ldc2 (v := 1000) C.1 C.2.1 C.2.2.2.1 (C.2.2.2.2 _ (List.mem_of_getElem? (i := 4) rfl)) dX7_draft_38 ?_
        obtain ⟨q_7, hc_7, hG⟩ := ob hG
        try dsimp only at hG
        refine mcSi (As := [.long (Int32.toInt64 l4), .long (10 : Int64), .long (1000 : Int64)]) (rest := []) C hK hw (k_X7_in l D ad cI cJ u (Int32.toInt64 l4) (10 : Int64) (1000 : Int64) q_7 hc_7) (va_cwS 3 C.2.2.2.2 gX7_draft_X7_in rfl rfl rfl (by decide +kernel) ⟨Nat.le_of_ble_eq_true rfl, Nat.le_of_ble_eq_true rfl⟩) rfl hl.1 rfl (Nat.le_of_ble_eq_true rfl) dX7_draft_41 (fun H locs hw => ?_)
        refine lv_if_ne (tgt := 49) C.1 C.2.1 dX7_draft_44 (by decide) (fun (h_8 : ¬ q_7 = (0 : Int32)) => ?_) (fun (h_8 : q_7 = (0 : Int32)) => ?_)
        · replace hG := inn h_8 hG
          refine lv_aload_n C.1 C.2.1 dX7_draft_49 rfl (lv_at hl 0 rfl) ?_
          refine mg_0_8 C hK hw jX7_draft_7 (List.mem_of_getElem? (i := 5) rfl) dX7_draft_50 ?_
          refine lv_iconst (v := 0) C.1 C.2.1 dX7_draft_53 (by decide) ?_
          refine lv_iload_n C.1 C.2.1 dX7_draft_54 rfl (lv_at hl 1 rfl) ?_
          refine lv_i2l C.1 C.2.1 dX7_draft_55 rfl ?_
          obtain ⟨h_9, hG⟩ := og hG
          refine mt_7 C hK hw h_9 dX7_draft_56 (fun H locs hw => ?_)
          refine lv_aload_n C.1 C.2.1 dX7_draft_57 rfl (lv_at hl 0 rfl) ?_
          refine mg_0_8 C hK hw jX7_draft_7 (List.mem_of_getElem? (i := 5) rfl) dX7_draft_58 ?_
          refine lv_iconst (v := 1) C.1 C.2.1 dX7_draft_61 (by decide) ?_
          refine lv_iload_n C.1 C.2.1 dX7_draft_62 rfl (lv_at hl 2 rfl) ?_
          refine lv_i2l C.1 C.2.1 dX7_draft_63 rfl ?_
          obtain ⟨h_10, hG⟩ := og hG
          refine mt_7 C hK hw h_10 dX7_draft_64 (fun H locs hw => ?_)
          refine lv_aload_n C.1 C.2.1 dX7_draft_65 rfl (lv_at hl 0 rfl) ?_
          refine mg_0_8 C hK hw jX7_draft_7 (List.mem_of_getElem? (i := 5) rfl) dX7_draft_66 ?_
          refine lv_iconst (v := 2) C.1 C.2.1 dX7_draft_69 (by decide) ?_
          refine lv_iload_n C.1 C.2.1 dX7_draft_70 rfl (lv_at hl 3 rfl) ?_
          refine lv_i2l C.1 C.2.1 dX7_draft_71 rfl ?_
          obtain ⟨h_11, hG⟩ := og hG
          refine mt_7 C hK hw h_11 dX7_draft_72 (fun H locs hw => ?_)
          refine lv_aload_n C.1 C.2.1 dX7_draft_73 rfl (lv_at hl 0 rfl) ?_
          refine mg_0_8 C hK hw jX7_draft_7 (List.mem_of_getElem? (i := 5) rfl) dX7_draft_74 ?_
          refine lv_iconst (v := 3) C.1 C.2.1 dX7_draft_77 (by decide) ?_
          refine lv_iload C.1 C.2.1 dX7_draft_78 (lv_at hl 4 rfl) ?_
          refine lv_i2l C.1 C.2.1 dX7_draft_80 rfl ?_
          obtain ⟨h_12, hG⟩ := og hG
          refine mt_7 C hK hw h_12 dX7_draft_81 (fun H locs hw => ?_)
          refine lv_aload_n C.1 C.2.1 dX7_draft_82 rfl (lv_at hl 0 rfl) ?_
          refine mg_0_8 C hK hw jX7_draft_7 (List.mem_of_getElem? (i := 5) rfl) dX7_draft_83 ?_
          refine lv_iconst (v := 4) C.1 C.2.1 dX7_draft_86 (by decide) ?_
          refine lv_ldc2 (v := 1000000) C.1 C.2.1 C.2.2.2.1 (C.2.2.2.2 _ (List.mem_of_getElem? (i := 2) rfl)) dX7_draft_87 ?_
          obtain ⟨h_13, hG⟩ := og hG
          refine mt_7 C hK hw h_13 dX7_draft_90 (fun H locs hw => ?_)
          refine lv_aload_n C.1 C.2.1 dX7_draft_91 rfl (lv_at hl 0 rfl) ?_
          refine mg_0_8 C hK hw jX7_draft_7 (List.mem_of_getElem? (i := 5) rfl) dX7_draft_92 ?_
          refine lv_iconst (v := 5) C.1 C.2.1 dX7_draft_95 (by decide) ?_
          refine lv_lconst (v := 0) C.1 C.2.1 dX7_draft_96 (by decide) ?_
          obtain ⟨h_14, hG⟩ := og hG
          refine mt_7 C hK hw h_14 dX7_draft_97 (fun H locs hw => ?_)
          refine lv_aload_n C.1 C.2.1 dX7_draft_98 rfl (lv_at hl 0 rfl) ?_
          refine mg_0_8 C hK hw jX7_draft_7 (List.mem_of_getElem? (i := 5) rfl) dX7_draft_99 ?_
          refine lv_bipush (v := 6) C.1 C.2.1 dX7_draft_102 (by decide) ?_
          refine lv_ldc2 (v := -1) C.1 C.2.1 C.2.2.2.1 (C.2.2.2.2 _ (List.mem_of_getElem? (i := 6) rfl)) dX7_draft_104 ?_
          obtain ⟨h_15, hG⟩ := og hG
          refine mt_7 C hK hw h_15 dX7_draft_107 (fun H locs hw => ?_)
          refine lv_aload_n C.1 C.2.1 dX7_draft_108 rfl (lv_at hl 0 rfl) ?_
          refine mg_0_8 C hK hw jX7_draft_7 (List.mem_of_getElem? (i := 5) rfl) dX7_draft_109 ?_
          refine lv_bipush (v := 8) C.1 C.2.1 dX7_draft_112 (by decide) ?_
          refine lv_lconst (v := 0) C.1 C.2.1 dX7_draft_114 (by decide) ?_
          obtain ⟨h_16, hG⟩ := og hG
          refine mt_7 C hK hw h_16 dX7_draft_115 (fun H locs hw => ?_)
          refine lv_aload_n C.1 C.2.1 dX7_draft_116 rfl (lv_at hl 0 rfl) ?_
          refine lv_iconst (v := 0) C.1 C.2.1 dX7_draft_117 (by decide) ?_
          refine mp_0_11 C hK hw jX7_draft_7 (List.mem_of_getElem? (i := 7) rfl) dX7_draft_118 (fun H locs hw => ?_)
          refine lv_aload_n C.1 C.2.1 dX7_draft_121 rfl (lv_at hl 0 rfl) ?_
          refine lv_iconst (v := 1) C.1 C.2.1 dX7_draft_122 (by decide) ?_
          refine mp_0_9 C hK hw jX7_draft_7 (List.mem_of_getElem? (i := 8) rfl) rfl rfl dX7_draft_123 (fun H locs hw => ?_)
          refine lv_iconst (v := 1) C.1 C.2.1 dX7_draft_126 (by decide) ?_
          exact mret_i C hlocks hK hw hr (ret2 hG) dX7_draft_127
        · replace hG := ip h_8 hG
          refine lv_iconst (v := -1) C.1 C.2.1 dX7_draft_47 (by decide) ?_
          exact mret_i C hlocks hK hw hr (ret2 hG) dX7_draft_48
theorem jX7_told_7 : ∀ w ∈ wsX70, w ∈ wsX7_told := by decide +kernel
def f_X7_told (l1 : Int32) (l2 : Int64) (l4 : Int32) (u : MS) : Option (Int32 × MS) := (if l4 = (0 : Int32) then some ((-1 : Int32), u) else (if (m_dra u) = (0 : Int32) then some ((-2 : Int32), u) else (if inb l1 442 = true then some ((1 : Int32), (ms_cal u (vp_updL (m_cal u) (Int32.toNatClampNeg l1) l2))) else none)))
set_option maxHeartbeats 4000000 in
set_option maxRecDepth 100000 in
theorem k_X7_told (l : Launch) (D : va_G) (ad : Nat → Nat) (cI cJ : ClassId) (u : MS) (l1 : Int32) (l2 : Int64) (l4 : Int32) (r1 : Int32) (u1 : MS) (hG : f_X7_told l1 l2 l4 u = some (r1, u1)) : Met l yX7_told wsX7_told ({ frames := 0, cells := 0, slots := 0, locals := 0 } : Room) (va_Pc [.ref (ad 0), .int l1, .long l2, .int l4] (MB D ad cI cJ u)) (va_Qi (S := MS) (fun r u2 => r = r1 ∧ u2 = u1) (MB D ad cI cJ) (AM ad)) 0 0 (AM ad) := by
  refine Met.ofW (cc := cX7_told) (maxL := 5) (ret := (some .int)) (by decide) rfl ?_
  intro p e s m args below meth c s₁ B hml hv
  obtain ⟨rfl, hP0, hK, hD0⟩ := hv
  have C : CallFix p m c cX7_told 5 s _ wsX7_told RX7 := ⟨B.exec, B.bytes, hml, findClass_of_methodNamed B.named, atoms_spec (ws := wsX7_told) B.pre⟩
  have hr := B.returns
  have hlocks := B.notSynchronized
  have hw : MW D ad cI cJ s.heap s.heap [] u := ⟨hP0, hD0, va_S.rf⟩
  refine en_W (Nat.le_of_ble_eq_true rfl) (fun ls hl => ?_)
  have hl : lv_has ls 5 [(0, .ref (ad 0)), (1, .int l1), (2, .long l2), (4, .int l4)] := hl
  unfold f_X7_told at hG
  refine lv_iload C.1 C.2.1 dX7_told_0 (lv_at hl 3 rfl) ?_
  refine lv_if_ne (tgt := 7) C.1 C.2.1 dX7_told_2 (by decide) (fun (h_1 : ¬ l4 = (0 : Int32)) => ?_) (fun (h_1 : l4 = (0 : Int32)) => ?_)
  · replace hG := inn h_1 hG
    refine lv_aload_n C.1 C.2.1 dX7_told_7 rfl (lv_at hl 0 rfl) ?_
    refine mg_0_9 C hK hw jX7_told_7 (List.mem_of_getElem? (i := 1) rfl) dX7_told_8 ?_
    refine lv_if_ne (tgt := 17) C.1 C.2.1 dX7_told_11 (by decide) (fun (h_2 : ¬ (m_dra u) = (0 : Int32)) => ?_) (fun (h_2 : (m_dra u) = (0 : Int32)) => ?_)
    · replace hG := inn h_2 hG
      refine lv_aload_n C.1 C.2.1 dX7_told_17 rfl (lv_at hl 0 rfl) ?_
      refine mg_0_8 C hK hw jX7_told_7 (List.mem_of_getElem? (i := 2) rfl) dX7_told_18 ?_
      refine lv_iload_n C.1 C.2.1 dX7_told_21 rfl (lv_at hl 1 rfl) ?_
      refine lv_lload_n C.1 C.2.1 dX7_told_22 rfl (lv_at hl 2 rfl) ?_
      obtain ⟨h_3, hG⟩ := og hG
      refine mt_7 C hK hw h_3 dX7_told_23 (fun H locs hw => ?_)
      refine lv_iconst (v := 1) C.1 C.2.1 dX7_told_24 (by decide) ?_
      exact mret_i C hlocks hK hw hr (ret2 hG) dX7_told_25
    · replace hG := ip h_2 hG
      refine lv_bipush (v := -2) C.1 C.2.1 dX7_told_14 (by decide) ?_
      exact mret_i C hlocks hK hw hr (ret2 hG) dX7_told_16
  · replace hG := ip h_1 hG
    refine lv_iconst (v := -1) C.1 C.2.1 dX7_told_5 (by decide) ?_
    exact mret_i C hlocks hK hw hr (ret2 hG) dX7_told_6
def f_X7_until (l1 : Int32) (u : MS) : Option (Int32 × MS) := ((f_X7_in (Int32.toInt64 l1) (0 : Int64) (1000000 : Int64)).bind fun q_1 => ((f_X7_told (4 : Int32) (Int32.toInt64 l1) q_1 u).bind fun q_2 => some (q_2.1, q_2.2)))
set_option maxHeartbeats 4000000 in
set_option maxRecDepth 100000 in
theorem k_X7_until (l : Launch) (D : va_G) (ad : Nat → Nat) (cI cJ : ClassId) (u : MS) (l1 : Int32) (r1 : Int32) (u1 : MS) (hG : f_X7_until l1 u = some (r1, u1)) : Met l yX7_until wsX7_until ({ frames := 1, cells := 0, slots := 0, locals := 25 } : Room) (va_Pc [.ref (ad 0), .int l1] (MB D ad cI cJ u)) (va_Qi (S := MS) (fun r u2 => r = r1 ∧ u2 = u1) (MB D ad cI cJ) (AM ad)) 0 0 (AM ad) := by
  refine Met.ofW (cc := cX7_until) (maxL := 2) (ret := (some .int)) (by decide) rfl ?_
  intro p e s m args below meth c s₁ B hml hv
  obtain ⟨rfl, hP0, hK, hD0⟩ := hv
  have C : CallFix p m c cX7_until 2 s _ wsX7_until RX7 := ⟨B.exec, B.bytes, hml, findClass_of_methodNamed B.named, atoms_spec (ws := wsX7_until) B.pre⟩
  have hr := B.returns
  have hlocks := B.notSynchronized
  have hw : MW D ad cI cJ s.heap s.heap [] u := ⟨hP0, hD0, va_S.rf⟩
  refine en_W (Nat.le_of_ble_eq_true rfl) (fun ls hl => ?_)
  have hl : lv_has ls 2 [(0, .ref (ad 0)), (1, .int l1)] := hl
  unfold f_X7_until at hG
  refine lv_aload_n C.1 C.2.1 dX7_until_0 rfl (lv_at hl 0 rfl) ?_
  refine lv_iconst (v := 4) C.1 C.2.1 dX7_until_1 (by decide) ?_
  refine lv_iload_n C.1 C.2.1 dX7_until_2 rfl (lv_at hl 1 rfl) ?_
  refine lv_i2l C.1 C.2.1 dX7_until_3 rfl ?_
  refine lv_iload_n C.1 C.2.1 dX7_until_4 rfl (lv_at hl 1 rfl) ?_
  refine lv_i2l C.1 C.2.1 dX7_until_5 rfl ?_
  refine lv_lconst (v := 0) C.1 C.2.1 dX7_until_6 (by decide) ?_
  refine lv_ldc2 (v := 1000000) C.1 C.2.1 C.2.2.2.1 (C.2.2.2.2 _ (List.mem_of_getElem? (i := 1) rfl)) dX7_until_7 ?_
  obtain ⟨q_1, hc_1, hG⟩ := ob hG
  try dsimp only at hG
  refine mcSi (As := [.long (Int32.toInt64 l1), .long (0 : Int64), .long (1000000 : Int64)]) (rest := [.long (Int32.toInt64 l1), .int (4 : Int32), .ref (ad 0)]) C hK hw (k_X7_in l D ad cI cJ u (Int32.toInt64 l1) (0 : Int64) (1000000 : Int64) q_1 hc_1) (va_cwS 3 C.2.2.2.2 gX7_until_X7_in rfl rfl rfl (by decide +kernel) ⟨Nat.le_of_ble_eq_true rfl, Nat.le_of_ble_eq_true rfl⟩) rfl hl.1 rfl (Nat.le_of_ble_eq_true rfl) dX7_until_10 (fun H locs hw => ?_)
  obtain ⟨q_2, hc_2, hG⟩ := ob hG
  try dsimp only at hG
  refine mcVi (As := [.int (4 : Int32), .long (Int32.toInt64 l1), .int q_1]) (rest := []) C hK hw (k_X7_told l D ad cI cJ u (4 : Int32) (Int32.toInt64 l1) q_1 q_2.1 q_2.2 hc_2) (cwV 3 C.2.2.2.2 gX7_until_X7_told rfl rfl rfl (by decide +kernel) ⟨Nat.le_of_ble_eq_true rfl, Nat.le_of_ble_eq_true rfl⟩) (va_recv hK hw.1 (ci := 7) (q0 := 0) rfl rfl) rfl hl.1 rfl (Nat.le_of_ble_eq_true rfl) dX7_until_13 (fun H locs hw => ?_)
  exact mret_i C hlocks hK hw hr (ret2 hG) dX7_until_16
def f_X7_from (l1 : Int32) (u : MS) : Option (Int32 × MS) := ((f_X7_in (Int32.toInt64 l1) (0 : Int64) (1000000 : Int64)).bind fun q_1 => ((f_X7_told (5 : Int32) (Int32.toInt64 l1) q_1 u).bind fun q_2 => some (q_2.1, q_2.2)))
set_option maxHeartbeats 4000000 in
set_option maxRecDepth 100000 in
theorem k_X7_from (l : Launch) (D : va_G) (ad : Nat → Nat) (cI cJ : ClassId) (u : MS) (l1 : Int32) (r1 : Int32) (u1 : MS) (hG : f_X7_from l1 u = some (r1, u1)) : Met l yX7_from wsX7_from ({ frames := 1, cells := 0, slots := 0, locals := 25 } : Room) (va_Pc [.ref (ad 0), .int l1] (MB D ad cI cJ u)) (va_Qi (S := MS) (fun r u2 => r = r1 ∧ u2 = u1) (MB D ad cI cJ) (AM ad)) 0 0 (AM ad) := by
  refine Met.ofW (cc := cX7_from) (maxL := 2) (ret := (some .int)) (by decide) rfl ?_
  intro p e s m args below meth c s₁ B hml hv
  obtain ⟨rfl, hP0, hK, hD0⟩ := hv
  have C : CallFix p m c cX7_from 2 s _ wsX7_from RX7 := ⟨B.exec, B.bytes, hml, findClass_of_methodNamed B.named, atoms_spec (ws := wsX7_from) B.pre⟩
  have hr := B.returns
  have hlocks := B.notSynchronized
  have hw : MW D ad cI cJ s.heap s.heap [] u := ⟨hP0, hD0, va_S.rf⟩
  refine en_W (Nat.le_of_ble_eq_true rfl) (fun ls hl => ?_)
  have hl : lv_has ls 2 [(0, .ref (ad 0)), (1, .int l1)] := hl
  unfold f_X7_from at hG
  refine lv_aload_n C.1 C.2.1 dX7_from_0 rfl (lv_at hl 0 rfl) ?_
  refine lv_iconst (v := 5) C.1 C.2.1 dX7_from_1 (by decide) ?_
  refine lv_iload_n C.1 C.2.1 dX7_from_2 rfl (lv_at hl 1 rfl) ?_
  refine lv_i2l C.1 C.2.1 dX7_from_3 rfl ?_
  refine lv_iload_n C.1 C.2.1 dX7_from_4 rfl (lv_at hl 1 rfl) ?_
  refine lv_i2l C.1 C.2.1 dX7_from_5 rfl ?_
  refine lv_lconst (v := 0) C.1 C.2.1 dX7_from_6 (by decide) ?_
  refine lv_ldc2 (v := 1000000) C.1 C.2.1 C.2.2.2.1 (C.2.2.2.2 _ (List.mem_of_getElem? (i := 1) rfl)) dX7_from_7 ?_
  obtain ⟨q_1, hc_1, hG⟩ := ob hG
  try dsimp only at hG
  refine mcSi (As := [.long (Int32.toInt64 l1), .long (0 : Int64), .long (1000000 : Int64)]) (rest := [.long (Int32.toInt64 l1), .int (5 : Int32), .ref (ad 0)]) C hK hw (k_X7_in l D ad cI cJ u (Int32.toInt64 l1) (0 : Int64) (1000000 : Int64) q_1 hc_1) (va_cwS 3 C.2.2.2.2 gX7_from_X7_in rfl rfl rfl (by decide +kernel) ⟨Nat.le_of_ble_eq_true rfl, Nat.le_of_ble_eq_true rfl⟩) rfl hl.1 rfl (Nat.le_of_ble_eq_true rfl) dX7_from_10 (fun H locs hw => ?_)
  obtain ⟨q_2, hc_2, hG⟩ := ob hG
  try dsimp only at hG
  refine mcVi (As := [.int (5 : Int32), .long (Int32.toInt64 l1), .int q_1]) (rest := []) C hK hw (k_X7_told l D ad cI cJ u (5 : Int32) (Int32.toInt64 l1) q_1 q_2.1 q_2.2 hc_2) (cwV 3 C.2.2.2.2 gX7_from_X7_told rfl rfl rfl (by decide +kernel) ⟨Nat.le_of_ble_eq_true rfl, Nat.le_of_ble_eq_true rfl⟩) (va_recv hK hw.1 (ci := 7) (q0 := 0) rfl rfl) rfl hl.1 rfl (Nat.le_of_ble_eq_true rfl) dX7_from_13 (fun H locs hw => ?_)
  exact mret_i C hlocks hK hw hr (ret2 hG) dX7_from_16
def f_X7_sponsor (l1 : Int32) (u : MS) : Option (Int32 × MS) := (if l1 = (-1 : Int32) then ((f_X7_told (6 : Int32) (Int32.toInt64 l1) (1 : Int32) u).bind fun q_2 => some (q_2.1, q_2.2)) else ((f_X7_isAccount l1 u).bind fun q_3 => (if q_3 = (0 : Int32) then ((f_X7_told (6 : Int32) (Int32.toInt64 l1) (0 : Int32) u).bind fun q_5 => some (q_5.1, q_5.2)) else ((f_X7_told (6 : Int32) (Int32.toInt64 l1) (1 : Int32) u).bind fun q_6 => some (q_6.1, q_6.2)))))
set_option maxHeartbeats 4000000 in
set_option maxRecDepth 100000 in
theorem k_X7_sponsor (l : Launch) (D : va_G) (ad : Nat → Nat) (cI cJ : ClassId) (u : MS) (l1 : Int32) (r1 : Int32) (u1 : MS) (hG : f_X7_sponsor l1 u = some (r1, u1)) : Met l yX7_sponsor wsX7_sponsor ({ frames := 2, cells := 0, slots := 0, locals := 46 } : Room) (va_Pc [.ref (ad 0), .int l1] (MB D ad cI cJ u)) (va_Qi (S := MS) (fun r u2 => r = r1 ∧ u2 = u1) (MB D ad cI cJ) (AM ad)) 0 0 (AM ad) := by
  refine Met.ofW (cc := cX7_sponsor) (maxL := 2) (ret := (some .int)) (by decide) rfl ?_
  intro p e s m args below meth c s₁ B hml hv
  obtain ⟨rfl, hP0, hK, hD0⟩ := hv
  have C : CallFix p m c cX7_sponsor 2 s _ wsX7_sponsor RX7 := ⟨B.exec, B.bytes, hml, findClass_of_methodNamed B.named, atoms_spec (ws := wsX7_sponsor) B.pre⟩
  have hr := B.returns
  have hlocks := B.notSynchronized
  have hw : MW D ad cI cJ s.heap s.heap [] u := ⟨hP0, hD0, va_S.rf⟩
  refine en_W (Nat.le_of_ble_eq_true rfl) (fun ls hl => ?_)
  have hl : lv_has ls 2 [(0, .ref (ad 0)), (1, .int l1)] := hl
  unfold f_X7_sponsor at hG
  refine lv_aload_n C.1 C.2.1 dX7_sponsor_0 rfl (lv_at hl 0 rfl) ?_
  refine lv_bipush (v := 6) C.1 C.2.1 dX7_sponsor_1 (by decide) ?_
  refine lv_iload_n C.1 C.2.1 dX7_sponsor_3 rfl (lv_at hl 1 rfl) ?_
  refine lv_i2l C.1 C.2.1 dX7_sponsor_4 rfl ?_
  refine lv_iload_n C.1 C.2.1 dX7_sponsor_5 rfl (lv_at hl 1 rfl) ?_
  refine lv_iconst (v := -1) C.1 C.2.1 dX7_sponsor_6 (by decide) ?_
  refine lv_icmp_eq (tgt := 18) C.1 C.2.1 dX7_sponsor_7 (by decide) (fun (h_1 : l1 = (-1 : Int32)) => ?_) (fun (h_1 : ¬ l1 = (-1 : Int32)) => ?_)
  · replace hG := ip h_1 hG
    refine lv_iconst (v := 1) C.1 C.2.1 dX7_sponsor_18 (by decide) ?_
    refine lv_goto (tgt := 23) C.1 C.2.1 dX7_sponsor_19 (by decide) ?_
    obtain ⟨q_2, hc_2, hG⟩ := ob hG
    try dsimp only at hG
    refine mcVi (As := [.int (6 : Int32), .long (Int32.toInt64 l1), .int (1 : Int32)]) (rest := []) C hK hw (k_X7_told l D ad cI cJ u (6 : Int32) (Int32.toInt64 l1) (1 : Int32) q_2.1 q_2.2 hc_2) (cwV 3 C.2.2.2.2 gX7_sponsor_X7_told rfl rfl rfl (by decide +kernel) ⟨Nat.le_of_ble_eq_true rfl, Nat.le_of_ble_eq_true rfl⟩) (va_recv hK hw.1 (ci := 7) (q0 := 0) rfl rfl) rfl hl.1 rfl (Nat.le_of_ble_eq_true rfl) dX7_sponsor_23 (fun H locs hw => ?_)
    exact mret_i C hlocks hK hw hr (ret2 hG) dX7_sponsor_26
  · replace hG := inn h_1 hG
    refine lv_aload_n C.1 C.2.1 dX7_sponsor_10 rfl (lv_at hl 0 rfl) ?_
    refine lv_iload_n C.1 C.2.1 dX7_sponsor_11 rfl (lv_at hl 1 rfl) ?_
    obtain ⟨q_3, hc_3, hG⟩ := ob hG
    try dsimp only at hG
    refine mcVi (As := [.int l1]) (rest := [.long (Int32.toInt64 l1), .int (6 : Int32), .ref (ad 0)]) C hK hw (k_X7_isAccount l D ad cI cJ u l1 q_3 hc_3) (cwV 1 C.2.2.2.2 gX7_sponsor_X7_isAccount rfl rfl rfl (by decide +kernel) ⟨Nat.le_of_ble_eq_true rfl, Nat.le_of_ble_eq_true rfl⟩) (va_recv hK hw.1 (ci := 7) (q0 := 0) rfl rfl) rfl hl.1 rfl (Nat.le_of_ble_eq_true rfl) dX7_sponsor_12 (fun H locs hw => ?_)
    refine lv_if_eq (tgt := 22) C.1 C.2.1 dX7_sponsor_15 (by decide) (fun (h_4 : q_3 = (0 : Int32)) => ?_) (fun (h_4 : ¬ q_3 = (0 : Int32)) => ?_)
    · replace hG := ip h_4 hG
      refine lv_iconst (v := 0) C.1 C.2.1 dX7_sponsor_22 (by decide) ?_
      obtain ⟨q_5, hc_5, hG⟩ := ob hG
      try dsimp only at hG
      refine mcVi (As := [.int (6 : Int32), .long (Int32.toInt64 l1), .int (0 : Int32)]) (rest := []) C hK hw (k_X7_told l D ad cI cJ u (6 : Int32) (Int32.toInt64 l1) (0 : Int32) q_5.1 q_5.2 hc_5) (cwV 3 C.2.2.2.2 gX7_sponsor_X7_told rfl rfl rfl (by decide +kernel) ⟨Nat.le_of_ble_eq_true rfl, Nat.le_of_ble_eq_true rfl⟩) (va_recv hK hw.1 (ci := 7) (q0 := 0) rfl rfl) rfl hl.1 rfl (Nat.le_of_ble_eq_true rfl) dX7_sponsor_23 (fun H locs hw => ?_)
      exact mret_i C hlocks hK hw hr (ret2 hG) dX7_sponsor_26
    · replace hG := inn h_4 hG
      refine lv_iconst (v := 1) C.1 C.2.1 dX7_sponsor_18 (by decide) ?_
      refine lv_goto (tgt := 23) C.1 C.2.1 dX7_sponsor_19 (by decide) ?_
      obtain ⟨q_6, hc_6, hG⟩ := ob hG
      try dsimp only at hG
      refine mcVi (As := [.int (6 : Int32), .long (Int32.toInt64 l1), .int (1 : Int32)]) (rest := []) C hK hw (k_X7_told l D ad cI cJ u (6 : Int32) (Int32.toInt64 l1) (1 : Int32) q_6.1 q_6.2 hc_6) (cwV 3 C.2.2.2.2 gX7_sponsor_X7_told rfl rfl rfl (by decide +kernel) ⟨Nat.le_of_ble_eq_true rfl, Nat.le_of_ble_eq_true rfl⟩) (va_recv hK hw.1 (ci := 7) (q0 := 0) rfl rfl) rfl hl.1 rfl (Nat.le_of_ble_eq_true rfl) dX7_sponsor_23 (fun H locs hw => ?_)
      exact mret_i C hlocks hK hw hr (ret2 hG) dX7_sponsor_26
theorem jX7_act_7 : ∀ w ∈ wsX70, w ∈ wsX7_act := by decide +kernel
def f_X7_act (l1 : Int32) (l2 : Int64) (u : MS) : Option (Int32 × MS) := ((f_X7_isAccount l1 u).bind fun q_1 => (if q_1 = (0 : Int32) then some ((-1 : Int32), u) else ((f_X7_in l2 (0 : Int64) (1000000000000 : Int64)).bind fun q_3 => (if q_3 = (0 : Int32) then some ((-1 : Int32), u) else (if (m_dra u) = (0 : Int32) then some ((-2 : Int32), u) else (if inb (8 : Int32) 442 = true then (if (Int64.toInt32 ((m_cal u) (Int32.toNatClampNeg (8 : Int32)))) = (4 : Int32) then some ((-3 : Int32), u) else (if inb ((9 : Int32) + ((2 : Int32) * (Int64.toInt32 ((m_cal u) (Int32.toNatClampNeg (8 : Int32)))))) 442 = true then (if inb ((10 : Int32) + ((2 : Int32) * (Int64.toInt32 ((m_cal u) (Int32.toNatClampNeg (8 : Int32)))))) 442 = true then (if inb (8 : Int32) 442 = true then some (((Int64.toInt32 ((m_cal u) (Int32.toNatClampNeg (8 : Int32)))) + (1 : Int32)), (ms_cal u (vp_updL (vp_updL (vp_updL (m_cal u) (Int32.toNatClampNeg ((9 : Int32) + ((2 : Int32) * (Int64.toInt32 ((m_cal u) (Int32.toNatClampNeg (8 : Int32))))))) (Int32.toInt64 l1)) (Int32.toNatClampNeg ((10 : Int32) + ((2 : Int32) * (Int64.toInt32 ((m_cal u) (Int32.toNatClampNeg (8 : Int32))))))) l2) (Int32.toNatClampNeg (8 : Int32)) (Int32.toInt64 ((Int64.toInt32 ((m_cal u) (Int32.toNatClampNeg (8 : Int32)))) + (1 : Int32)))))) else none) else none) else none)) else none))))))
set_option maxHeartbeats 4000000 in
set_option maxRecDepth 100000 in
theorem k_X7_act (l : Launch) (D : va_G) (ad : Nat → Nat) (cI cJ : ClassId) (u : MS) (l1 : Int32) (l2 : Int64) (r1 : Int32) (u1 : MS) (hG : f_X7_act l1 l2 u = some (r1, u1)) : Met l yX7_act wsX7_act ({ frames := 2, cells := 0, slots := 0, locals := 46 } : Room) (va_Pc [.ref (ad 0), .int l1, .long l2] (MB D ad cI cJ u)) (va_Qi (S := MS) (fun r u2 => r = r1 ∧ u2 = u1) (MB D ad cI cJ) (AM ad)) 0 0 (AM ad) := by
  refine Met.ofW (cc := cX7_act) (maxL := 5) (ret := (some .int)) (by decide) rfl ?_
  intro p e s m args below meth c s₁ B hml hv
  obtain ⟨rfl, hP0, hK, hD0⟩ := hv
  have C : CallFix p m c cX7_act 5 s _ wsX7_act RX7 := ⟨B.exec, B.bytes, hml, findClass_of_methodNamed B.named, atoms_spec (ws := wsX7_act) B.pre⟩
  have hr := B.returns
  have hlocks := B.notSynchronized
  have hw : MW D ad cI cJ s.heap s.heap [] u := ⟨hP0, hD0, va_S.rf⟩
  refine en_W (Nat.le_of_ble_eq_true rfl) (fun ls hl => ?_)
  have hl : lv_has ls 5 [(0, .ref (ad 0)), (1, .int l1), (2, .long l2)] := hl
  unfold f_X7_act at hG
  refine lv_aload_n C.1 C.2.1 dX7_act_0 rfl (lv_at hl 0 rfl) ?_
  refine lv_iload_n C.1 C.2.1 dX7_act_1 rfl (lv_at hl 1 rfl) ?_
  obtain ⟨q_1, hc_1, hG⟩ := ob hG
  try dsimp only at hG
  refine mcVi (As := [.int l1]) (rest := []) C hK hw (k_X7_isAccount l D ad cI cJ u l1 q_1 hc_1) (cwV 1 C.2.2.2.2 gX7_act_X7_isAccount rfl rfl rfl (by decide +kernel) ⟨Nat.le_of_ble_eq_true rfl, Nat.le_of_ble_eq_true rfl⟩) (va_recv hK hw.1 (ci := 7) (q0 := 0) rfl rfl) rfl hl.1 rfl (Nat.le_of_ble_eq_true rfl) dX7_act_2 (fun H locs hw => ?_)
  refine lv_if_eq (tgt := 19) C.1 C.2.1 dX7_act_5 (by decide) (fun (h_2 : q_1 = (0 : Int32)) => ?_) (fun (h_2 : ¬ q_1 = (0 : Int32)) => ?_)
  · replace hG := ip h_2 hG
    refine lv_iconst (v := -1) C.1 C.2.1 dX7_act_19 (by decide) ?_
    exact mret_i C hlocks hK hw hr (ret2 hG) dX7_act_20
  · replace hG := inn h_2 hG
    refine lv_lload_n C.1 C.2.1 dX7_act_8 rfl (lv_at hl 2 rfl) ?_
    refine lv_lconst (v := 0) C.1 C.2.1 dX7_act_9 (by decide) ?_
    refine lv_ldc2 (v := 1000000000000) C.1 C.2.1 C.2.2.2.1 (C.2.2.2.2 _ (List.mem_of_getElem? (i := 1) rfl)) dX7_act_10 ?_
    obtain ⟨q_3, hc_3, hG⟩ := ob hG
    try dsimp only at hG
    refine mcSi (As := [.long l2, .long (0 : Int64), .long (1000000000000 : Int64)]) (rest := []) C hK hw (k_X7_in l D ad cI cJ u l2 (0 : Int64) (1000000000000 : Int64) q_3 hc_3) (va_cwS 3 C.2.2.2.2 gX7_act_X7_in rfl rfl rfl (by decide +kernel) ⟨Nat.le_of_ble_eq_true rfl, Nat.le_of_ble_eq_true rfl⟩) rfl hl.1 rfl (Nat.le_of_ble_eq_true rfl) dX7_act_13 (fun H locs hw => ?_)
    refine lv_if_ne (tgt := 21) C.1 C.2.1 dX7_act_16 (by decide) (fun (h_4 : ¬ q_3 = (0 : Int32)) => ?_) (fun (h_4 : q_3 = (0 : Int32)) => ?_)
    · replace hG := inn h_4 hG
      refine lv_aload_n C.1 C.2.1 dX7_act_21 rfl (lv_at hl 0 rfl) ?_
      refine mg_0_9 C hK hw jX7_act_7 (List.mem_of_getElem? (i := 2) rfl) dX7_act_22 ?_
      refine lv_if_ne (tgt := 31) C.1 C.2.1 dX7_act_25 (by decide) (fun (h_5 : ¬ (m_dra u) = (0 : Int32)) => ?_) (fun (h_5 : (m_dra u) = (0 : Int32)) => ?_)
      · replace hG := inn h_5 hG
        refine lv_aload_n C.1 C.2.1 dX7_act_31 rfl (lv_at hl 0 rfl) ?_
        refine mg_0_8 C hK hw jX7_act_7 (List.mem_of_getElem? (i := 3) rfl) dX7_act_32 ?_
        refine lv_bipush (v := 8) C.1 C.2.1 dX7_act_35 (by decide) ?_
        obtain ⟨h_6, hG⟩ := og hG
        refine ml_7 C hK hw h_6 dX7_act_37 ?_
        refine lv_l2i C.1 C.2.1 dX7_act_38 rfl ?_
        refine lv_istore (lv' := [(4, .int (Int64.toInt32 ((m_cal u) (Int32.toNatClampNeg (8 : Int32))))), (0, .ref (ad 0)), (1, .int l1), (2, .long l2)]) C.1 C.2.1 dX7_act_39 hl (by decide) rfl (fun ls hl => ?_)
        refine lv_iload C.1 C.2.1 dX7_act_41 (lv_at hl 0 rfl) ?_
        refine lv_iconst (v := 4) C.1 C.2.1 dX7_act_43 (by decide) ?_
        refine lv_icmp_ne (tgt := 50) C.1 C.2.1 dX7_act_44 (by decide) (fun (h_7 : ¬ (Int64.toInt32 ((m_cal u) (Int32.toNatClampNeg (8 : Int32)))) = (4 : Int32)) => ?_) (fun (h_7 : (Int64.toInt32 ((m_cal u) (Int32.toNatClampNeg (8 : Int32)))) = (4 : Int32)) => ?_)
        · replace hG := inn h_7 hG
          refine lv_aload_n C.1 C.2.1 dX7_act_50 rfl (lv_at hl 1 rfl) ?_
          refine mg_0_8 C hK hw jX7_act_7 (List.mem_of_getElem? (i := 3) rfl) dX7_act_51 ?_
          refine lv_bipush (v := 9) C.1 C.2.1 dX7_act_54 (by decide) ?_
          refine lv_iconst (v := 2) C.1 C.2.1 dX7_act_56 (by decide) ?_
          refine lv_iload C.1 C.2.1 dX7_act_57 (lv_at hl 0 rfl) ?_
          refine lv_imul C.1 C.2.1 dX7_act_59 ?_
          refine lv_iadd C.1 C.2.1 dX7_act_60 ?_
          refine lv_iload_n C.1 C.2.1 dX7_act_61 rfl (lv_at hl 2 rfl) ?_
          refine lv_i2l C.1 C.2.1 dX7_act_62 rfl ?_
          obtain ⟨h_8, hG⟩ := og hG
          refine mt_7 C hK hw h_8 dX7_act_63 (fun H locs hw => ?_)
          refine lv_aload_n C.1 C.2.1 dX7_act_64 rfl (lv_at hl 1 rfl) ?_
          refine mg_0_8 C hK hw jX7_act_7 (List.mem_of_getElem? (i := 3) rfl) dX7_act_65 ?_
          refine lv_bipush (v := 10) C.1 C.2.1 dX7_act_68 (by decide) ?_
          refine lv_iconst (v := 2) C.1 C.2.1 dX7_act_70 (by decide) ?_
          refine lv_iload C.1 C.2.1 dX7_act_71 (lv_at hl 0 rfl) ?_
          refine lv_imul C.1 C.2.1 dX7_act_73 ?_
          refine lv_iadd C.1 C.2.1 dX7_act_74 ?_
          refine lv_lload_n C.1 C.2.1 dX7_act_75 rfl (lv_at hl 3 rfl) ?_
          obtain ⟨h_9, hG⟩ := og hG
          refine mt_7 C hK hw h_9 dX7_act_76 (fun H locs hw => ?_)
          refine lv_aload_n C.1 C.2.1 dX7_act_77 rfl (lv_at hl 1 rfl) ?_
          refine mg_0_8 C hK hw jX7_act_7 (List.mem_of_getElem? (i := 3) rfl) dX7_act_78 ?_
          refine lv_bipush (v := 8) C.1 C.2.1 dX7_act_81 (by decide) ?_
          refine lv_iload C.1 C.2.1 dX7_act_83 (lv_at hl 0 rfl) ?_
          refine lv_iconst (v := 1) C.1 C.2.1 dX7_act_85 (by decide) ?_
          refine lv_iadd C.1 C.2.1 dX7_act_86 ?_
          refine lv_i2l C.1 C.2.1 dX7_act_87 rfl ?_
          obtain ⟨h_10, hG⟩ := og hG
          refine mt_7 C hK hw h_10 dX7_act_88 (fun H locs hw => ?_)
          refine lv_iload C.1 C.2.1 dX7_act_89 (lv_at hl 0 rfl) ?_
          refine lv_iconst (v := 1) C.1 C.2.1 dX7_act_91 (by decide) ?_
          refine lv_iadd C.1 C.2.1 dX7_act_92 ?_
          exact mret_i C hlocks hK hw hr (ret2 hG) dX7_act_93
        · replace hG := ip h_7 hG
          refine lv_bipush (v := -3) C.1 C.2.1 dX7_act_47 (by decide) ?_
          exact mret_i C hlocks hK hw hr (ret2 hG) dX7_act_49
      · replace hG := ip h_5 hG
        refine lv_bipush (v := -2) C.1 C.2.1 dX7_act_28 (by decide) ?_
        exact mret_i C hlocks hK hw hr (ret2 hG) dX7_act_30
    · replace hG := ip h_4 hG
      refine lv_iconst (v := -1) C.1 C.2.1 dX7_act_19 (by decide) ?_
      exact mret_i C hlocks hK hw hr (ret2 hG) dX7_act_20
theorem jX7_add_7 : ∀ w ∈ wsX70, w ∈ wsX7_add := by decide +kernel
def f_X7_add (l1 : Int32) (u : MS) : Option (Int32 × MS) := ((f_X7_in (Int32.toInt64 l1) (0 : Int64) (Int32.toInt64 ((m_sgc u) - (1 : Int32)))).bind fun q_1 => (if q_1 = (0 : Int32) then some ((-1 : Int32), u) else (if (m_dra u) = (0 : Int32) then some ((-2 : Int32), u) else (if (m_mny u) = (12 : Int32) then some ((-3 : Int32), u) else (if inb (m_mny u) 12 = true then some (((m_mny u) + (1 : Int32)), (ms_mny (ms_min u (upd (m_min u) (Int32.toNatClampNeg (m_mny u)) l1)) ((m_mny u) + (1 : Int32)))) else none)))))
set_option maxHeartbeats 4000000 in
set_option maxRecDepth 100000 in
theorem k_X7_add (l : Launch) (D : va_G) (ad : Nat → Nat) (cI cJ : ClassId) (u : MS) (l1 : Int32) (r1 : Int32) (u1 : MS) (hG : f_X7_add l1 u = some (r1, u1)) : Met l yX7_add wsX7_add ({ frames := 1, cells := 0, slots := 0, locals := 25 } : Room) (va_Pc [.ref (ad 0), .int l1] (MB D ad cI cJ u)) (va_Qi (S := MS) (fun r u2 => r = r1 ∧ u2 = u1) (MB D ad cI cJ) (AM ad)) 0 0 (AM ad) := by
  refine Met.ofW (cc := cX7_add) (maxL := 2) (ret := (some .int)) (by decide) rfl ?_
  intro p e s m args below meth c s₁ B hml hv
  obtain ⟨rfl, hP0, hK, hD0⟩ := hv
  have C : CallFix p m c cX7_add 2 s _ wsX7_add RX7 := ⟨B.exec, B.bytes, hml, findClass_of_methodNamed B.named, atoms_spec (ws := wsX7_add) B.pre⟩
  have hr := B.returns
  have hlocks := B.notSynchronized
  have hw : MW D ad cI cJ s.heap s.heap [] u := ⟨hP0, hD0, va_S.rf⟩
  refine en_W (Nat.le_of_ble_eq_true rfl) (fun ls hl => ?_)
  have hl : lv_has ls 2 [(0, .ref (ad 0)), (1, .int l1)] := hl
  unfold f_X7_add at hG
  refine lv_iload_n C.1 C.2.1 dX7_add_0 rfl (lv_at hl 1 rfl) ?_
  refine lv_i2l C.1 C.2.1 dX7_add_1 rfl ?_
  refine lv_lconst (v := 0) C.1 C.2.1 dX7_add_2 (by decide) ?_
  refine lv_aload_n C.1 C.2.1 dX7_add_3 rfl (lv_at hl 0 rfl) ?_
  refine mg_0_5 C hK hw jX7_add_7 (List.mem_of_getElem? (i := 1) rfl) dX7_add_4 ?_
  refine lv_iconst (v := 1) C.1 C.2.1 dX7_add_7 (by decide) ?_
  refine lv_isub C.1 C.2.1 dX7_add_8 ?_
  refine lv_i2l C.1 C.2.1 dX7_add_9 rfl ?_
  obtain ⟨q_1, hc_1, hG⟩ := ob hG
  try dsimp only at hG
  refine mcSi (As := [.long (Int32.toInt64 l1), .long (0 : Int64), .long (Int32.toInt64 ((m_sgc u) - (1 : Int32)))]) (rest := []) C hK hw (k_X7_in l D ad cI cJ u (Int32.toInt64 l1) (0 : Int64) (Int32.toInt64 ((m_sgc u) - (1 : Int32))) q_1 hc_1) (va_cwS 3 C.2.2.2.2 gX7_add_X7_in rfl rfl rfl (by decide +kernel) ⟨Nat.le_of_ble_eq_true rfl, Nat.le_of_ble_eq_true rfl⟩) rfl hl.1 rfl (Nat.le_of_ble_eq_true rfl) dX7_add_10 (fun H locs hw => ?_)
  refine lv_if_ne (tgt := 18) C.1 C.2.1 dX7_add_13 (by decide) (fun (h_2 : ¬ q_1 = (0 : Int32)) => ?_) (fun (h_2 : q_1 = (0 : Int32)) => ?_)
  · replace hG := inn h_2 hG
    refine lv_aload_n C.1 C.2.1 dX7_add_18 rfl (lv_at hl 0 rfl) ?_
    refine mg_0_9 C hK hw jX7_add_7 (List.mem_of_getElem? (i := 2) rfl) dX7_add_19 ?_
    refine lv_if_ne (tgt := 28) C.1 C.2.1 dX7_add_22 (by decide) (fun (h_3 : ¬ (m_dra u) = (0 : Int32)) => ?_) (fun (h_3 : (m_dra u) = (0 : Int32)) => ?_)
    · replace hG := inn h_3 hG
      refine lv_aload_n C.1 C.2.1 dX7_add_28 rfl (lv_at hl 0 rfl) ?_
      refine mg_0_11 C hK hw jX7_add_7 (List.mem_of_getElem? (i := 3) rfl) dX7_add_29 ?_
      refine lv_bipush (v := 12) C.1 C.2.1 dX7_add_32 (by decide) ?_
      refine lv_icmp_ne (tgt := 40) C.1 C.2.1 dX7_add_34 (by decide) (fun (h_4 : ¬ (m_mny u) = (12 : Int32)) => ?_) (fun (h_4 : (m_mny u) = (12 : Int32)) => ?_)
      · replace hG := inn h_4 hG
        refine lv_aload_n C.1 C.2.1 dX7_add_40 rfl (lv_at hl 0 rfl) ?_
        refine mg_0_10 C hK hw jX7_add_7 (List.mem_of_getElem? (i := 4) rfl) dX7_add_41 ?_
        refine lv_aload_n C.1 C.2.1 dX7_add_44 rfl (lv_at hl 0 rfl) ?_
        refine mg_0_11 C hK hw jX7_add_7 (List.mem_of_getElem? (i := 3) rfl) dX7_add_45 ?_
        refine lv_iload_n C.1 C.2.1 dX7_add_48 rfl (lv_at hl 1 rfl) ?_
        obtain ⟨h_5, hG⟩ := og hG
        refine mt_8 C hK hw h_5 dX7_add_49 (fun H locs hw => ?_)
        refine lv_aload_n C.1 C.2.1 dX7_add_50 rfl (lv_at hl 0 rfl) ?_
        refine lv_dup C.1 C.2.1 dX7_add_51 rfl ?_
        refine mg_0_11 C hK hw jX7_add_7 (List.mem_of_getElem? (i := 3) rfl) dX7_add_52 ?_
        refine lv_iconst (v := 1) C.1 C.2.1 dX7_add_55 (by decide) ?_
        refine lv_iadd C.1 C.2.1 dX7_add_56 ?_
        refine mp_0_11 C hK hw jX7_add_7 (List.mem_of_getElem? (i := 3) rfl) dX7_add_57 (fun H locs hw => ?_)
        refine lv_aload_n C.1 C.2.1 dX7_add_60 rfl (lv_at hl 0 rfl) ?_
        refine mg_0_11 C hK hw jX7_add_7 (List.mem_of_getElem? (i := 3) rfl) dX7_add_61 ?_
        exact mret_i C hlocks hK hw hr (ret2 hG) dX7_add_64
      · replace hG := ip h_4 hG
        refine lv_bipush (v := -3) C.1 C.2.1 dX7_add_37 (by decide) ?_
        exact mret_i C hlocks hK hw hr (ret2 hG) dX7_add_39
    · replace hG := ip h_3 hG
      refine lv_bipush (v := -2) C.1 C.2.1 dX7_add_25 (by decide) ?_
      exact mret_i C hlocks hK hw hr (ret2 hG) dX7_add_27
  · replace hG := ip h_2 hG
    refine lv_iconst (v := -1) C.1 C.2.1 dX7_add_16 (by decide) ?_
    exact mret_i C hlocks hK hw hr (ret2 hG) dX7_add_17
theorem jX7_digest_7 : ∀ w ∈ wsX70, w ∈ wsX7_digest := by decide +kernel
def f_X7_digest_42 : Nat → Int64 → Int32 → MS → Option Int64
  | 0, _, _, _ => none
  | n + 1, l1, l3, u => (if inb (8 : Int32) 442 = true then (if ((2 : Int64) * ((m_cal u) (Int32.toNatClampNeg (8 : Int32)))) ≤ (Int32.toInt64 l3) then some l1 else (if inb ((9 : Int32) + l3) 442 = true then (f_X7_digest_42 n (((31 : Int64) * l1) + ((m_cal u) (Int32.toNatClampNeg ((9 : Int32) + l3)))) (l3 + (1 : Int32)) u) else none)) else none)
set_option maxHeartbeats 4000000 in
set_option maxRecDepth 100000 in
theorem kl_X7_digest_42 {p : Program} {l : Launch} {e : Env} {s : State} {m : MethodId} {args : Array Value} {below : List Frame} {meth : Method} {c : Code} {D : va_G} {ad : Nat → Nat} {cI cJ : ClassId} (C : CallFix p m c cX7_digest 4 s args wsX7_digest RX7) (hr : meth.sig.returnType = (some .long)) (hlocks : meth.locks = false) (hK : va_K D vwCl (mT cI cJ) s) {r1 : Int64} : ∀ (n : Nat) (l1 : Int64) (l3 : Int32) (u : MS) (H : Heap) (locs : List Loc) (ls : Array Slot), f_X7_digest_42 n l1 l3 u = some r1 → MW D ad cI cJ s.heap H locs u → lv_has ls 4 [(0, .ref (ad 0)), (1, .long l1), (3, .int l3)] → W p l e ({ frames := 0, cells := 0, slots := 0, locals := 0 } : Room) s m args below meth c H locs 0 0 (MQ below (va_Ql (S := MS) (fun r u2 => r = r1 ∧ u2 = u) (MB D ad cI cJ) (AM ad)) args s 0 0 (AM ad)) (F0 m 42 ls []) := by
  intro n
  induction n with
  | zero =>
    intro l1 l3 u H locs ls hG
    exact ns hG
  | succ n ih =>
    intro l1 l3 u H locs ls hG hw hl
    rw [f_X7_digest_42] at hG
    refine lv_iload_n C.1 C.2.1 dX7_digest_42 rfl (lv_at hl 2 rfl) ?_
    refine lv_i2l C.1 C.2.1 dX7_digest_43 rfl ?_
    refine lv_ldc2 (v := 2) C.1 C.2.1 C.2.2.2.1 (C.2.2.2.2 _ (List.mem_of_getElem? (i := 5) rfl)) dX7_digest_44 ?_
    refine lv_aload_n C.1 C.2.1 dX7_digest_47 rfl (lv_at hl 0 rfl) ?_
    refine mg_0_8 C hK hw jX7_digest_7 (List.mem_of_getElem? (i := 4) rfl) dX7_digest_48 ?_
    refine lv_bipush (v := 8) C.1 C.2.1 dX7_digest_51 (by decide) ?_
    obtain ⟨h_4, hG⟩ := og hG
    refine ml_7 C hK hw h_4 dX7_digest_53 ?_
    refine lv_lmul C.1 C.2.1 dX7_digest_54 ?_
    refine W.lcmp C.1 C.2.1 dX7_digest_55 ?_
    refine lv_if_ge (tgt := 81) C.1 C.2.1 dX7_digest_56 (by decide) (fun hz => ?_) (fun hz => ?_)
    · have h_5 : ((2 : Int64) * ((m_cal u) (Int32.toNatClampNeg (8 : Int32)))) ≤ (Int32.toInt64 l3) := (lg_cmp_ge _ _).mp hz
      replace hG := ip h_5 hG
      refine lv_lload_n C.1 C.2.1 dX7_digest_81 rfl (lv_at hl 1 rfl) ?_
      exact mret_l C hlocks hK hw hr (ret1 hG) dX7_digest_82
    · have h_5 : ¬ ((2 : Int64) * ((m_cal u) (Int32.toNatClampNeg (8 : Int32)))) ≤ (Int32.toInt64 l3) := fun qz => hz ((lg_cmp_ge _ _).mpr qz)
      replace hG := inn h_5 hG
      refine lv_ldc2 (v := 31) C.1 C.2.1 C.2.2.2.1 (C.2.2.2.2 _ (List.mem_of_getElem? (i := 3) rfl)) dX7_digest_59 ?_
      refine lv_lload_n C.1 C.2.1 dX7_digest_62 rfl (lv_at hl 1 rfl) ?_
      refine lv_lmul C.1 C.2.1 dX7_digest_63 ?_
      refine lv_aload_n C.1 C.2.1 dX7_digest_64 rfl (lv_at hl 0 rfl) ?_
      refine mg_0_8 C hK hw jX7_digest_7 (List.mem_of_getElem? (i := 4) rfl) dX7_digest_65 ?_
      refine lv_bipush (v := 9) C.1 C.2.1 dX7_digest_68 (by decide) ?_
      refine lv_iload_n C.1 C.2.1 dX7_digest_70 rfl (lv_at hl 2 rfl) ?_
      refine lv_iadd C.1 C.2.1 dX7_digest_71 ?_
      obtain ⟨h_6, hG⟩ := og hG
      refine ml_7 C hK hw h_6 dX7_digest_72 ?_
      refine lv_ladd C.1 C.2.1 dX7_digest_73 ?_
      refine lv_lstore_n (lv' := [(1, .long (((31 : Int64) * l1) + ((m_cal u) (Int32.toNatClampNeg ((9 : Int32) + l3))))), (0, .ref (ad 0)), (3, .int l3)]) C.1 C.2.1 dX7_digest_74 rfl hl (by decide) rfl (fun ls hl => ?_)
      refine lv_iinc (v := (l3 + (1 : Int32))) (lv' := [(3, .int (l3 + (1 : Int32))), (1, .long (((31 : Int64) * l1) + ((m_cal u) (Int32.toNatClampNeg ((9 : Int32) + l3))))), (0, .ref (ad 0))]) C.1 C.2.1 dX7_digest_75 hl (k := 2) rfl rfl (by decide) rfl (fun ls hl => ?_)
      refine lv_goto (tgt := 42) C.1 C.2.1 dX7_digest_78 (by decide) ?_
      exact ih (((31 : Int64) * l1) + ((m_cal u) (Int32.toNatClampNeg ((9 : Int32) + l3)))) (l3 + (1 : Int32)) u _ _ _ hG hw (lv_sub hl [2, 1, 0] rfl)
def f_X7_digest_15 : Nat → Int64 → Int32 → MS → Option Int64
  | 0, _, _, _ => none
  | n + 1, l1, l3, u => (if (7 : Int32) ≤ l3 then (f_X7_digest_42 1000 l1 (0 : Int32) u) else (if inb l3 442 = true then (f_X7_digest_15 n (((31 : Int64) * l1) + ((m_cal u) (Int32.toNatClampNeg l3))) (l3 + (1 : Int32)) u) else none))
set_option maxHeartbeats 4000000 in
set_option maxRecDepth 100000 in
theorem kl_X7_digest_15 {p : Program} {l : Launch} {e : Env} {s : State} {m : MethodId} {args : Array Value} {below : List Frame} {meth : Method} {c : Code} {D : va_G} {ad : Nat → Nat} {cI cJ : ClassId} (C : CallFix p m c cX7_digest 4 s args wsX7_digest RX7) (hr : meth.sig.returnType = (some .long)) (hlocks : meth.locks = false) (hK : va_K D vwCl (mT cI cJ) s) {r1 : Int64} : ∀ (n : Nat) (l1 : Int64) (l3 : Int32) (u : MS) (H : Heap) (locs : List Loc) (ls : Array Slot), f_X7_digest_15 n l1 l3 u = some r1 → MW D ad cI cJ s.heap H locs u → lv_has ls 4 [(0, .ref (ad 0)), (1, .long l1), (3, .int l3)] → W p l e ({ frames := 0, cells := 0, slots := 0, locals := 0 } : Room) s m args below meth c H locs 0 0 (MQ below (va_Ql (S := MS) (fun r u2 => r = r1 ∧ u2 = u) (MB D ad cI cJ) (AM ad)) args s 0 0 (AM ad)) (F0 m 15 ls []) := by
  intro n
  induction n with
  | zero =>
    intro l1 l3 u H locs ls hG
    exact ns hG
  | succ n ih =>
    intro l1 l3 u H locs ls hG hw hl
    rw [f_X7_digest_15] at hG
    refine lv_iload_n C.1 C.2.1 dX7_digest_15 rfl (lv_at hl 2 rfl) ?_
    refine lv_bipush (v := 7) C.1 C.2.1 dX7_digest_16 (by decide) ?_
    refine lv_icmp_ge (tgt := 40) C.1 C.2.1 dX7_digest_18 (by decide) (fun (h_2 : (7 : Int32) ≤ l3) => ?_) (fun (h_2 : ¬ (7 : Int32) ≤ l3) => ?_)
    · replace hG := ip h_2 hG
      refine lv_iconst (v := 0) C.1 C.2.1 dX7_digest_40 (by decide) ?_
      refine lv_istore_n (lv' := [(3, .int (0 : Int32)), (0, .ref (ad 0)), (1, .long l1)]) C.1 C.2.1 dX7_digest_41 rfl hl (by decide) rfl (fun ls hl => ?_)
      exact kl_X7_digest_42 C hr hlocks hK 1000 l1 (0 : Int32) u _ _ _ hG hw (lv_sub hl [1, 2, 0] rfl)
    · replace hG := inn h_2 hG
      refine lv_ldc2 (v := 31) C.1 C.2.1 C.2.2.2.1 (C.2.2.2.2 _ (List.mem_of_getElem? (i := 3) rfl)) dX7_digest_21 ?_
      refine lv_lload_n C.1 C.2.1 dX7_digest_24 rfl (lv_at hl 1 rfl) ?_
      refine lv_lmul C.1 C.2.1 dX7_digest_25 ?_
      refine lv_aload_n C.1 C.2.1 dX7_digest_26 rfl (lv_at hl 0 rfl) ?_
      refine mg_0_8 C hK hw jX7_digest_7 (List.mem_of_getElem? (i := 4) rfl) dX7_digest_27 ?_
      refine lv_iload_n C.1 C.2.1 dX7_digest_30 rfl (lv_at hl 2 rfl) ?_
      obtain ⟨h_3, hG⟩ := og hG
      refine ml_7 C hK hw h_3 dX7_digest_31 ?_
      refine lv_ladd C.1 C.2.1 dX7_digest_32 ?_
      refine lv_lstore_n (lv' := [(1, .long (((31 : Int64) * l1) + ((m_cal u) (Int32.toNatClampNeg l3)))), (0, .ref (ad 0)), (3, .int l3)]) C.1 C.2.1 dX7_digest_33 rfl hl (by decide) rfl (fun ls hl => ?_)
      refine lv_iinc (v := (l3 + (1 : Int32))) (lv' := [(3, .int (l3 + (1 : Int32))), (1, .long (((31 : Int64) * l1) + ((m_cal u) (Int32.toNatClampNeg l3)))), (0, .ref (ad 0))]) C.1 C.2.1 dX7_digest_34 hl (k := 2) rfl rfl (by decide) rfl (fun ls hl => ?_)
      refine lv_goto (tgt := 15) C.1 C.2.1 dX7_digest_37 (by decide) ?_
      exact ih (((31 : Int64) * l1) + ((m_cal u) (Int32.toNatClampNeg l3))) (l3 + (1 : Int32)) u _ _ _ hG hw (lv_sub hl [2, 1, 0] rfl)
def f_X7_digest (u : MS) : Option Int64 := (if (m_dra u) = (0 : Int32) then some (0 : Int64) else (f_X7_digest_15 1000 (17 : Int64) (0 : Int32) u))
set_option maxHeartbeats 4000000 in
set_option maxRecDepth 100000 in
theorem k_X7_digest (l : Launch) (D : va_G) (ad : Nat → Nat) (cI cJ : ClassId) (u : MS) (r1 : Int64) (hG : f_X7_digest u = some r1) : Met l yX7_digest wsX7_digest ({ frames := 0, cells := 0, slots := 0, locals := 0 } : Room) (va_Pc [.ref (ad 0)] (MB D ad cI cJ u)) (va_Ql (S := MS) (fun r u2 => r = r1 ∧ u2 = u) (MB D ad cI cJ) (AM ad)) 0 0 (AM ad) := by
  refine Met.ofW (cc := cX7_digest) (maxL := 4) (ret := (some .long)) (by decide) rfl ?_
  intro p e s m args below meth c s₁ B hml hv
  obtain ⟨rfl, hP0, hK, hD0⟩ := hv
  have C : CallFix p m c cX7_digest 4 s _ wsX7_digest RX7 := ⟨B.exec, B.bytes, hml, findClass_of_methodNamed B.named, atoms_spec (ws := wsX7_digest) B.pre⟩
  have hr := B.returns
  have hlocks := B.notSynchronized
  have hw : MW D ad cI cJ s.heap s.heap [] u := ⟨hP0, hD0, va_S.rf⟩
  refine en_W (Nat.le_of_ble_eq_true rfl) (fun ls hl => ?_)
  have hl : lv_has ls 4 [(0, .ref (ad 0))] := hl
  unfold f_X7_digest at hG
  refine lv_aload_n C.1 C.2.1 dX7_digest_0 rfl (lv_at hl 0 rfl) ?_
  refine mg_0_9 C hK hw jX7_digest_7 (List.mem_of_getElem? (i := 1) rfl) dX7_digest_1 ?_
  refine lv_if_ne (tgt := 9) C.1 C.2.1 dX7_digest_4 (by decide) (fun (h_1 : ¬ (m_dra u) = (0 : Int32)) => ?_) (fun (h_1 : (m_dra u) = (0 : Int32)) => ?_)
  · replace hG := inn h_1 hG
    refine lv_ldc2 (v := 17) C.1 C.2.1 C.2.2.2.1 (C.2.2.2.2 _ (List.mem_of_getElem? (i := 2) rfl)) dX7_digest_9 ?_
    refine lv_lstore_n (lv' := [(1, .long (17 : Int64)), (0, .ref (ad 0))]) C.1 C.2.1 dX7_digest_12 rfl hl (by decide) rfl (fun ls hl => ?_)
    refine lv_iconst (v := 0) C.1 C.2.1 dX7_digest_13 (by decide) ?_
    refine lv_istore_n (lv' := [(3, .int (0 : Int32)), (1, .long (17 : Int64)), (0, .ref (ad 0))]) C.1 C.2.1 dX7_digest_14 rfl hl (by decide) rfl (fun ls hl => ?_)
    exact kl_X7_digest_15 C hr hlocks hK 1000 (17 : Int64) (0 : Int32) u _ _ _ hG hw (lv_sub hl [2, 1, 0] rfl)
  · replace hG := ip h_1 hG
    refine lv_lconst (v := 0) C.1 C.2.1 dX7_digest_7 (by decide) ?_
    exact mret_l C hlocks hK hw hr (ret1 hG) dX7_digest_8
theorem jX7_meets_7 : ∀ w ∈ wsX70, w ∈ wsX7_meets := by decide +kernel
def f_X7_meets_72 : Nat → Int32 → Int64 → Int32 → Int32 → Int32 → MS → Option Int32
  | 0, _, _, _, _, _, _ => none
  | n + 1, l1, l2, l4, l5, l6, u => (if (16 : Int32) ≤ l6 then (if inb l1 12 = true then (if l5 < ((m_thr u) (Int32.toNatClampNeg l1)) then some (0 : Int32) else some (1 : Int32)) else none) else (if inb l1 12 = true then (f_X7_meets_72 n l1 l2 l4 (l5 + (((l4 >>> (l6 &&& 31)) &&& (((m_kys u) (Int32.toNatClampNeg l1)) >>> (l6 &&& 31))) &&& (1 : Int32))) (l6 + (1 : Int32)) u) else none))
set_option maxHeartbeats 4000000 in
set_option maxRecDepth 100000 in
theorem kl_X7_meets_72 {p : Program} {l : Launch} {e : Env} {s : State} {m : MethodId} {args : Array Value} {below : List Frame} {meth : Method} {c : Code} {D : va_G} {ad : Nat → Nat} {cI cJ : ClassId} (C : CallFix p m c cX7_meets 7 s args wsX7_meets RX7) (hr : meth.sig.returnType = (some .boolean)) (hlocks : meth.locks = false) (hK : va_K D vwCl (mT cI cJ) s) {r1 : Int32} : ∀ (n : Nat) (l1 : Int32) (l2 : Int64) (l4 : Int32) (l5 : Int32) (l6 : Int32) (u : MS) (H : Heap) (locs : List Loc) (ls : Array Slot), f_X7_meets_72 n l1 l2 l4 l5 l6 u = some r1 → MW D ad cI cJ s.heap H locs u → lv_has ls 7 [(0, .ref (ad 0)), (1, .int l1), (2, .long l2), (4, .int l4), (5, .int l5), (6, .int l6)] → W p l e ({ frames := 1, cells := 0, slots := 0, locals := 23 } : Room) s m args below meth c H locs 0 0 (MQ below (va_Qi (S := MS) (fun r u2 => r = r1 ∧ u2 = u) (MB D ad cI cJ) (AM ad)) args s 0 0 (AM ad)) (F0 m 72 ls []) := by
  intro n
  induction n with
  | zero =>
    intro l1 l2 l4 l5 l6 u H locs ls hG
    exact ns hG
  | succ n ih =>
    intro l1 l2 l4 l5 l6 u H locs ls hG hw hl
    rw [f_X7_meets_72] at hG
    refine lv_iload C.1 C.2.1 dX7_meets_72 (lv_at hl 5 rfl) ?_
    refine lv_bipush (v := 16) C.1 C.2.1 dX7_meets_74 (by decide) ?_
    refine lv_icmp_ge (tgt := 107) C.1 C.2.1 dX7_meets_76 (by decide) (fun (h_8 : (16 : Int32) ≤ l6) => ?_) (fun (h_8 : ¬ (16 : Int32) ≤ l6) => ?_)
    · replace hG := ip h_8 hG
      refine lv_iload C.1 C.2.1 dX7_meets_107 (lv_at hl 4 rfl) ?_
      refine lv_aload_n C.1 C.2.1 dX7_meets_109 rfl (lv_at hl 0 rfl) ?_
      refine mg_0_4 C hK hw jX7_meets_7 (List.mem_of_getElem? (i := 6) rfl) dX7_meets_110 ?_
      refine lv_iload_n C.1 C.2.1 dX7_meets_113 rfl (lv_at hl 1 rfl) ?_
      obtain ⟨h_9, hG⟩ := og hG
      refine ml_4 C hK hw h_9 dX7_meets_114 ?_
      refine lv_icmp_lt (tgt := 122) C.1 C.2.1 dX7_meets_115 (by decide) (fun (h_10 : l5 < ((m_thr u) (Int32.toNatClampNeg l1))) => ?_) (fun (h_10 : ¬ l5 < ((m_thr u) (Int32.toNatClampNeg l1))) => ?_)
      · replace hG := ip h_10 hG
        refine lv_iconst (v := 0) C.1 C.2.1 dX7_meets_122 (by decide) ?_
        exact mret_z C hlocks hK hw hr rfl (ret1 hG) dX7_meets_123
      · replace hG := inn h_10 hG
        refine lv_iconst (v := 1) C.1 C.2.1 dX7_meets_118 (by decide) ?_
        refine lv_goto (tgt := 123) C.1 C.2.1 dX7_meets_119 (by decide) ?_
        exact mret_z C hlocks hK hw hr rfl (ret1 hG) dX7_meets_123
    · replace hG := inn h_8 hG
      refine lv_iload C.1 C.2.1 dX7_meets_79 (lv_at hl 4 rfl) ?_
      refine lv_iload C.1 C.2.1 dX7_meets_81 (lv_at hl 3 rfl) ?_
      refine lv_iload C.1 C.2.1 dX7_meets_83 (lv_at hl 5 rfl) ?_
      refine lv_ishr C.1 C.2.1 dX7_meets_85 ?_
      refine lv_aload_n C.1 C.2.1 dX7_meets_86 rfl (lv_at hl 0 rfl) ?_
      refine mg_0_3 C hK hw jX7_meets_7 (List.mem_of_getElem? (i := 5) rfl) dX7_meets_87 ?_
      refine lv_iload_n C.1 C.2.1 dX7_meets_90 rfl (lv_at hl 1 rfl) ?_
      obtain ⟨h_11, hG⟩ := og hG
      refine ml_3 C hK hw h_11 dX7_meets_91 ?_
      refine lv_iload C.1 C.2.1 dX7_meets_92 (lv_at hl 5 rfl) ?_
      refine lv_ishr C.1 C.2.1 dX7_meets_94 ?_
      refine lv_iand C.1 C.2.1 dX7_meets_95 ?_
      refine lv_iconst (v := 1) C.1 C.2.1 dX7_meets_96 (by decide) ?_
      refine lv_iand C.1 C.2.1 dX7_meets_97 ?_
      refine lv_iadd C.1 C.2.1 dX7_meets_98 ?_
      refine lv_istore (lv' := [(5, .int (l5 + (((l4 >>> (l6 &&& 31)) &&& (((m_kys u) (Int32.toNatClampNeg l1)) >>> (l6 &&& 31))) &&& (1 : Int32)))), (0, .ref (ad 0)), (1, .int l1), (2, .long l2), (4, .int l4), (6, .int l6)]) C.1 C.2.1 dX7_meets_99 hl (by decide) rfl (fun ls hl => ?_)
      refine lv_iinc (v := (l6 + (1 : Int32))) (lv' := [(6, .int (l6 + (1 : Int32))), (5, .int (l5 + (((l4 >>> (l6 &&& 31)) &&& (((m_kys u) (Int32.toNatClampNeg l1)) >>> (l6 &&& 31))) &&& (1 : Int32)))), (0, .ref (ad 0)), (1, .int l1), (2, .long l2), (4, .int l4)]) C.1 C.2.1 dX7_meets_101 hl (k := 5) rfl rfl (by decide) rfl (fun ls hl => ?_)
      refine lv_goto (tgt := 72) C.1 C.2.1 dX7_meets_104 (by decide) ?_
      exact ih l1 l2 l4 (l5 + (((l4 >>> (l6 &&& 31)) &&& (((m_kys u) (Int32.toNatClampNeg l1)) >>> (l6 &&& 31))) &&& (1 : Int32))) (l6 + (1 : Int32)) u _ _ _ hG hw (lv_sub hl [2, 3, 4, 5, 1, 0] rfl)
def f_X7_meets_11 : Nat → Int32 → Int64 → Int32 → Int32 → MS → Option Int32
  | 0, _, _, _, _, _ => none
  | n + 1, l1, l2, l4, l5, u => (if (m_mny u) ≤ l5 then (f_X7_meets_72 1000 l1 l2 l4 (0 : Int32) (0 : Int32) u) else (if inb l5 12 = true then (if inb ((m_min u) (Int32.toNatClampNeg l5)) 200 = true then (if ((m_sdg u) (Int32.toNatClampNeg ((m_min u) (Int32.toNatClampNeg l5)))) = l2 then (if inb l5 12 = true then (if inb ((m_min u) (Int32.toNatClampNeg l5)) 200 = true then (f_X7_meets_11 n l1 l2 (l4 ||| ((1 : Int32) <<< (((m_sky u) (Int32.toNatClampNeg ((m_min u) (Int32.toNatClampNeg l5)))) &&& 31))) (l5 + (1 : Int32)) u) else none) else none) else (f_X7_meets_11 n l1 l2 (l4 ||| (0 : Int32)) (l5 + (1 : Int32)) u)) else none) else none))
set_option maxHeartbeats 4000000 in
set_option maxRecDepth 100000 in
theorem kl_X7_meets_11 {p : Program} {l : Launch} {e : Env} {s : State} {m : MethodId} {args : Array Value} {below : List Frame} {meth : Method} {c : Code} {D : va_G} {ad : Nat → Nat} {cI cJ : ClassId} (C : CallFix p m c cX7_meets 7 s args wsX7_meets RX7) (hr : meth.sig.returnType = (some .boolean)) (hlocks : meth.locks = false) (hK : va_K D vwCl (mT cI cJ) s) {r1 : Int32} : ∀ (n : Nat) (l1 : Int32) (l2 : Int64) (l4 : Int32) (l5 : Int32) (u : MS) (H : Heap) (locs : List Loc) (ls : Array Slot), f_X7_meets_11 n l1 l2 l4 l5 u = some r1 → MW D ad cI cJ s.heap H locs u → lv_has ls 7 [(0, .ref (ad 0)), (1, .int l1), (2, .long l2), (4, .int l4), (5, .int l5)] → W p l e ({ frames := 1, cells := 0, slots := 0, locals := 23 } : Room) s m args below meth c H locs 0 0 (MQ below (va_Qi (S := MS) (fun r u2 => r = r1 ∧ u2 = u) (MB D ad cI cJ) (AM ad)) args s 0 0 (AM ad)) (F0 m 11 ls []) := by
  intro n
  induction n with
  | zero =>
    intro l1 l2 l4 l5 u H locs ls hG
    exact ns hG
  | succ n ih =>
    intro l1 l2 l4 l5 u H locs ls hG hw hl
    rw [f_X7_meets_11] at hG
    refine lv_iload C.1 C.2.1 dX7_meets_11 (lv_at hl 4 rfl) ?_
    refine lv_aload_n C.1 C.2.1 dX7_meets_13 rfl (lv_at hl 0 rfl) ?_
    refine mg_0_11 C hK hw jX7_meets_7 (List.mem_of_getElem? (i := 1) rfl) dX7_meets_14 ?_
    refine lv_icmp_ge (tgt := 66) C.1 C.2.1 dX7_meets_17 (by decide) (fun (h_2 : (m_mny u) ≤ l5) => ?_) (fun (h_2 : ¬ (m_mny u) ≤ l5) => ?_)
    · replace hG := ip h_2 hG
      refine lv_iconst (v := 0) C.1 C.2.1 dX7_meets_66 (by decide) ?_
      refine lv_istore (lv' := [(5, .int (0 : Int32)), (0, .ref (ad 0)), (1, .int l1), (2, .long l2), (4, .int l4)]) C.1 C.2.1 dX7_meets_67 hl (by decide) rfl (fun ls hl => ?_)
      refine lv_iconst (v := 0) C.1 C.2.1 dX7_meets_69 (by decide) ?_
      refine lv_istore (lv' := [(6, .int (0 : Int32)), (5, .int (0 : Int32)), (0, .ref (ad 0)), (1, .int l1), (2, .long l2), (4, .int l4)]) C.1 C.2.1 dX7_meets_70 hl (by decide) rfl (fun ls hl => ?_)
      exact kl_X7_meets_72 C hr hlocks hK 1000 l1 l2 l4 (0 : Int32) (0 : Int32) u _ _ _ hG hw (lv_sub hl [2, 3, 4, 5, 1, 0] rfl)
    · replace hG := inn h_2 hG
      refine lv_iload C.1 C.2.1 dX7_meets_20 (lv_at hl 3 rfl) ?_
      refine lv_aload_n C.1 C.2.1 dX7_meets_22 rfl (lv_at hl 0 rfl) ?_
      refine mg_0_7 C hK hw jX7_meets_7 (List.mem_of_getElem? (i := 2) rfl) dX7_meets_23 ?_
      refine lv_aload_n C.1 C.2.1 dX7_meets_26 rfl (lv_at hl 0 rfl) ?_
      refine mg_0_10 C hK hw jX7_meets_7 (List.mem_of_getElem? (i := 3) rfl) dX7_meets_27 ?_
      refine lv_iload C.1 C.2.1 dX7_meets_30 (lv_at hl 4 rfl) ?_
      obtain ⟨h_3, hG⟩ := og hG
      refine ml_8 C hK hw h_3 dX7_meets_32 ?_
      obtain ⟨h_4, hG⟩ := og hG
      refine ml_6 C hK hw h_4 dX7_meets_33 ?_
      refine lv_lload_n C.1 C.2.1 dX7_meets_34 rfl (lv_at hl 2 rfl) ?_
      refine W.lcmp C.1 C.2.1 dX7_meets_35 ?_
      refine lv_if_ne (tgt := 56) C.1 C.2.1 dX7_meets_36 (by decide) (fun hz => ?_) (fun hz => ?_)
      · have h_5 : ¬ ((m_sdg u) (Int32.toNatClampNeg ((m_min u) (Int32.toNatClampNeg l5)))) = l2 := fun qz => hz ((lg_cmp_eq _ _).mpr qz)
        replace hG := inn h_5 hG
        refine lv_iconst (v := 0) C.1 C.2.1 dX7_meets_56 (by decide) ?_
        refine lv_ior C.1 C.2.1 dX7_meets_57 ?_
        refine lv_istore (lv' := [(4, .int (l4 ||| (0 : Int32))), (0, .ref (ad 0)), (1, .int l1), (2, .long l2), (5, .int l5)]) C.1 C.2.1 dX7_meets_58 hl (by decide) rfl (fun ls hl => ?_)
        refine lv_iinc (v := (l5 + (1 : Int32))) (lv' := [(5, .int (l5 + (1 : Int32))), (4, .int (l4 ||| (0 : Int32))), (0, .ref (ad 0)), (1, .int l1), (2, .long l2)]) C.1 C.2.1 dX7_meets_60 hl (k := 4) rfl rfl (by decide) rfl (fun ls hl => ?_)
        refine lv_goto (tgt := 11) C.1 C.2.1 dX7_meets_63 (by decide) ?_
        exact ih l1 l2 (l4 ||| (0 : Int32)) (l5 + (1 : Int32)) u _ _ _ hG hw (lv_sub hl [2, 3, 4, 1, 0] rfl)
      · have h_5 : ((m_sdg u) (Int32.toNatClampNeg ((m_min u) (Int32.toNatClampNeg l5)))) = l2 := (lg_cmp_eq _ _).mp hz
        replace hG := ip h_5 hG
        refine lv_iconst (v := 1) C.1 C.2.1 dX7_meets_39 (by decide) ?_
        refine lv_aload_n C.1 C.2.1 dX7_meets_40 rfl (lv_at hl 0 rfl) ?_
        refine mg_0_6 C hK hw jX7_meets_7 (List.mem_of_getElem? (i := 4) rfl) dX7_meets_41 ?_
        refine lv_aload_n C.1 C.2.1 dX7_meets_44 rfl (lv_at hl 0 rfl) ?_
        refine mg_0_10 C hK hw jX7_meets_7 (List.mem_of_getElem? (i := 3) rfl) dX7_meets_45 ?_
        refine lv_iload C.1 C.2.1 dX7_meets_48 (lv_at hl 4 rfl) ?_
        obtain ⟨h_6, hG⟩ := og hG
        refine ml_8 C hK hw h_6 dX7_meets_50 ?_
        obtain ⟨h_7, hG⟩ := og hG
        refine ml_5 C hK hw h_7 dX7_meets_51 ?_
        refine lv_ishl C.1 C.2.1 dX7_meets_52 ?_
        refine lv_goto (tgt := 57) C.1 C.2.1 dX7_meets_53 (by decide) ?_
        refine lv_ior C.1 C.2.1 dX7_meets_57 ?_
        refine lv_istore (lv' := [(4, .int (l4 ||| ((1 : Int32) <<< (((m_sky u) (Int32.toNatClampNeg ((m_min u) (Int32.toNatClampNeg l5)))) &&& 31)))), (0, .ref (ad 0)), (1, .int l1), (2, .long l2), (5, .int l5)]) C.1 C.2.1 dX7_meets_58 hl (by decide) rfl (fun ls hl => ?_)
        refine lv_iinc (v := (l5 + (1 : Int32))) (lv' := [(5, .int (l5 + (1 : Int32))), (4, .int (l4 ||| ((1 : Int32) <<< (((m_sky u) (Int32.toNatClampNeg ((m_min u) (Int32.toNatClampNeg l5)))) &&& 31)))), (0, .ref (ad 0)), (1, .int l1), (2, .long l2)]) C.1 C.2.1 dX7_meets_60 hl (k := 4) rfl rfl (by decide) rfl (fun ls hl => ?_)
        refine lv_goto (tgt := 11) C.1 C.2.1 dX7_meets_63 (by decide) ?_
        exact ih l1 l2 (l4 ||| ((1 : Int32) <<< (((m_sky u) (Int32.toNatClampNeg ((m_min u) (Int32.toNatClampNeg l5)))) &&& 31))) (l5 + (1 : Int32)) u _ _ _ hG hw (lv_sub hl [2, 3, 4, 1, 0] rfl)
def f_X7_meets (l1 : Int32) (u : MS) : Option Int32 := ((f_X7_digest u).bind fun q_1 => (f_X7_meets_11 1000 l1 q_1 (0 : Int32) (0 : Int32) u))
set_option maxHeartbeats 4000000 in
set_option maxRecDepth 100000 in
theorem k_X7_meets (l : Launch) (D : va_G) (ad : Nat → Nat) (cI cJ : ClassId) (u : MS) (l1 : Int32) (r1 : Int32) (hG : f_X7_meets l1 u = some r1) : Met l yX7_meets wsX7_meets ({ frames := 1, cells := 0, slots := 0, locals := 23 } : Room) (va_Pc [.ref (ad 0), .int l1] (MB D ad cI cJ u)) (va_Qi (S := MS) (fun r u2 => r = r1 ∧ u2 = u) (MB D ad cI cJ) (AM ad)) 0 0 (AM ad) := by
  refine Met.ofW (cc := cX7_meets) (maxL := 7) (ret := (some .boolean)) (by decide) rfl ?_
  intro p e s m args below meth c s₁ B hml hv
  obtain ⟨rfl, hP0, hK, hD0⟩ := hv
  have C : CallFix p m c cX7_meets 7 s _ wsX7_meets RX7 := ⟨B.exec, B.bytes, hml, findClass_of_methodNamed B.named, atoms_spec (ws := wsX7_meets) B.pre⟩
  have hr := B.returns
  have hlocks := B.notSynchronized
  have hw : MW D ad cI cJ s.heap s.heap [] u := ⟨hP0, hD0, va_S.rf⟩
  refine en_W (Nat.le_of_ble_eq_true rfl) (fun ls hl => ?_)
  have hl : lv_has ls 7 [(0, .ref (ad 0)), (1, .int l1)] := hl
  unfold f_X7_meets at hG
  refine lv_aload_n C.1 C.2.1 dX7_meets_0 rfl (lv_at hl 0 rfl) ?_
  obtain ⟨q_1, hc_1, hG⟩ := ob hG
  try dsimp only at hG
  refine mcVl (As := []) (rest := []) C hK hw (k_X7_digest l D ad cI cJ u q_1 hc_1) (cwV 0 C.2.2.2.2 gX7_meets_X7_digest rfl rfl rfl (by decide +kernel) ⟨Nat.le_of_ble_eq_true rfl, Nat.le_of_ble_eq_true rfl⟩) (va_recv hK hw.1 (ci := 7) (q0 := 0) rfl rfl) rfl hl.1 rfl (Nat.le_of_ble_eq_true rfl) dX7_meets_1 (fun H locs hw => ?_)
  refine lv_lstore_n (lv' := [(2, .long q_1), (0, .ref (ad 0)), (1, .int l1)]) C.1 C.2.1 dX7_meets_4 rfl hl (by decide) rfl (fun ls hl => ?_)
  refine lv_iconst (v := 0) C.1 C.2.1 dX7_meets_5 (by decide) ?_
  refine lv_istore (lv' := [(4, .int (0 : Int32)), (2, .long q_1), (0, .ref (ad 0)), (1, .int l1)]) C.1 C.2.1 dX7_meets_6 hl (by decide) rfl (fun ls hl => ?_)
  refine lv_iconst (v := 0) C.1 C.2.1 dX7_meets_8 (by decide) ?_
  refine lv_istore (lv' := [(5, .int (0 : Int32)), (4, .int (0 : Int32)), (2, .long q_1), (0, .ref (ad 0)), (1, .int l1)]) C.1 C.2.1 dX7_meets_9 hl (by decide) rfl (fun ls hl => ?_)
  exact kl_X7_meets_11 C hr hlocks hK 1000 l1 q_1 (0 : Int32) (0 : Int32) u _ _ _ hG hw (lv_sub hl [3, 4, 2, 1, 0] rfl)
def f_X7_payer (l0 : Int64) (l2 : Int64) : Option Int32 := (if (0 : Int64) ≤ l2 then some (Int64.toInt32 l2) else some (Int64.toInt32 l0))
set_option maxHeartbeats 4000000 in
set_option maxRecDepth 100000 in
theorem k_X7_payer (l : Launch) (D : va_G) (ad : Nat → Nat) (cI cJ : ClassId) (u : MS) (l0 : Int64) (l2 : Int64) (r1 : Int32) (hG : f_X7_payer l0 l2 = some r1) : Met l yX7_payer wsX7_payer ({ frames := 0, cells := 0, slots := 0, locals := 0 } : Room) (va_Pc [.long l0, .long l2] (MB D ad cI cJ u)) (va_Qi (S := MS) (fun r u2 => r = r1 ∧ u2 = u) (MB D ad cI cJ) (AM ad)) 0 0 (AM ad) := by
  refine Met.ofW (cc := cX7_payer) (maxL := 4) (ret := (some .int)) (by decide) rfl ?_
  intro p e s m args below meth c s₁ B hml hv
  obtain ⟨rfl, hP0, hK, hD0⟩ := hv
  have C : CallFix p m c cX7_payer 4 s _ wsX7_payer RX7 := ⟨B.exec, B.bytes, hml, findClass_of_methodNamed B.named, atoms_spec (ws := wsX7_payer) B.pre⟩
  have hr := B.returns
  have hlocks := B.notSynchronized
  have hw : MW D ad cI cJ s.heap s.heap [] u := ⟨hP0, hD0, va_S.rf⟩
  refine en_W (Nat.le_of_ble_eq_true rfl) (fun ls hl => ?_)
  have hl : lv_has ls 4 [(0, .long l0), (2, .long l2)] := hl
  unfold f_X7_payer at hG
  refine lv_lload_n C.1 C.2.1 dX7_payer_0 rfl (lv_at hl 1 rfl) ?_
  refine lv_lconst (v := 0) C.1 C.2.1 dX7_payer_1 (by decide) ?_
  refine W.lcmp C.1 C.2.1 dX7_payer_2 ?_
  refine lv_if_ge (tgt := 10) C.1 C.2.1 dX7_payer_3 (by decide) (fun hz => ?_) (fun hz => ?_)
  · have h_1 : (0 : Int64) ≤ l2 := (lg_cmp_ge _ _).mp hz
    replace hG := ip h_1 hG
    refine lv_lload_n C.1 C.2.1 dX7_payer_10 rfl (lv_at hl 1 rfl) ?_
    refine lv_l2i C.1 C.2.1 dX7_payer_11 rfl ?_
    exact mret_i C hlocks hK hw hr (ret1 hG) dX7_payer_12
  · have h_1 : ¬ (0 : Int64) ≤ l2 := fun qz => hz ((lg_cmp_ge _ _).mpr qz)
    replace hG := inn h_1 hG
    refine lv_lload_n C.1 C.2.1 dX7_payer_6 rfl (lv_at hl 0 rfl) ?_
    refine lv_goto (tgt := 11) C.1 C.2.1 dX7_payer_7 (by decide) ?_
    refine lv_l2i C.1 C.2.1 dX7_payer_11 rfl ?_
    exact mret_i C hlocks hK hw hr (ret1 hG) dX7_payer_12
