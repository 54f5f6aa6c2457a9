def f_X6_isAmount (l0 : Int64) : Option Int32 := (if l0 < (0 : Int64) then some (0 : Int32) else (if (1000000000000 : Int64) < l0 then some (0 : Int32) else some (1 : Int32)))
set_option maxHeartbeats 4000000 in
set_option maxRecDepth 100000 in
theorem k_X6_isAmount (l : Launch) (D : va_G) (ad : Nat → Nat) (cI cJ cR : ClassId) (u : XS) (l0 : Int64) (r1 : Int32) (hG : f_X6_isAmount l0 = some r1) : Met l yX6_isAmount wsX6_isAmount ({ frames := 0, cells := 0, slots := 0, locals := 0 } : Room) (va_Pc [.long l0] (XB D ad cI cJ cR u)) (va_Qi (S := XS) (fun r u2 => r = r1 ∧ u2 = u) (XB D ad cI cJ cR) (AX ad)) 0 0 (AX ad) := by
  refine Met.ofW (cc := cX6_isAmount) (maxL := 2) (ret := (some .boolean)) (by decide) rfl ?_
  intro p e s m args below meth c s₁ B hml hv
  obtain ⟨rfl, hP0, hK, hD0⟩ := hv
  have C : CallFix p m c cX6_isAmount 2 s _ wsX6_isAmount RX6 := ⟨B.exec, B.bytes, hml, findClass_of_methodNamed B.named, atoms_spec (ws := wsX6_isAmount) B.pre⟩
  have hr := B.returns
  have hlocks := B.notSynchronized
  have hw : XW D ad cI cJ cR s.heap s.heap [] u := ⟨hP0, hD0, va_S.rf⟩
  refine en_W (Nat.le_of_ble_eq_true rfl) (fun ls hl => ?_)
  have hl : lv_has ls 2 [(0, .long l0)] := hl
  unfold f_X6_isAmount at hG
  refine lv_lload_n C.1 C.2.1 dX6_isAmount_0 rfl (lv_at hl 0 rfl) ?_
  refine lv_lconst (v := 0) C.1 C.2.1 dX6_isAmount_1 (by decide) ?_
  refine W.lcmp C.1 C.2.1 dX6_isAmount_2 ?_
  refine lv_if_lt (tgt := 18) C.1 C.2.1 dX6_isAmount_3 (by decide) (fun hz => ?_) (fun hz => ?_)
  · have h_1 : l0 < (0 : Int64) := (lg_cmp_lt _ _).mp hz
    replace hG := ip h_1 hG
    refine lv_iconst (v := 0) C.1 C.2.1 dX6_isAmount_18 (by decide) ?_
    exact xret_z C hlocks hK hw hr rfl (ret1 hG) dX6_isAmount_19
  · have h_1 : ¬ l0 < (0 : Int64) := fun qz => hz ((lg_cmp_lt _ _).mpr qz)
    replace hG := inn h_1 hG
    refine lv_lload_n C.1 C.2.1 dX6_isAmount_6 rfl (lv_at hl 0 rfl) ?_
    refine lv_ldc2 (v := 1000000000000) C.1 C.2.1 C.2.2.2.1 (C.2.2.2.2 _ (List.mem_of_getElem? (i := 1) rfl)) dX6_isAmount_7 ?_
    refine W.lcmp C.1 C.2.1 dX6_isAmount_10 ?_
    refine lv_if_gt (tgt := 18) C.1 C.2.1 dX6_isAmount_11 (by decide) (fun hz => ?_) (fun hz => ?_)
    · have h_2 : (1000000000000 : Int64) < l0 := (lg_cmp_gt _ _).mp hz
      replace hG := ip h_2 hG
      refine lv_iconst (v := 0) C.1 C.2.1 dX6_isAmount_18 (by decide) ?_
      exact xret_z C hlocks hK hw hr rfl (ret1 hG) dX6_isAmount_19
    · have h_2 : ¬ (1000000000000 : Int64) < l0 := fun qz => hz ((lg_cmp_gt _ _).mpr qz)
      replace hG := inn h_2 hG
      refine lv_iconst (v := 1) C.1 C.2.1 dX6_isAmount_14 (by decide) ?_
      refine lv_goto (tgt := 19) C.1 C.2.1 dX6_isAmount_15 (by decide) ?_
      exact xret_z C hlocks hK hw hr rfl (ret1 hG) dX6_isAmount_19
def f_X6_isLock (l0 : Int32) (l1 : Int32) : Option Int32 := (if l0 ≤ (0 : Int32) then some (0 : Int32) else (if (65536 : Int32) ≤ l0 then some (0 : Int32) else (if l1 < (1 : Int32) then some (0 : Int32) else ((f_J6_bitCount_0f7a4 l0).bind fun q_4 => (if q_4 < l1 then some (0 : Int32) else some (1 : Int32))))))
set_option maxHeartbeats 4000000 in
set_option maxRecDepth 100000 in
theorem k_X6_isLock (l : Launch) (D : va_G) (ad : Nat → Nat) (cI cJ cR : ClassId) (u : XS) (l0 : Int32) (l1 : Int32) (r1 : Int32) (hG : f_X6_isLock l0 l1 = some r1) : Met l yX6_isLock wsX6_isLock ({ frames := 1, cells := 0, slots := 0, locals := 20 } : Room) (va_Pc [.int l0, .int l1] (XB D ad cI cJ cR u)) (va_Qi (S := XS) (fun r u2 => r = r1 ∧ u2 = u) (XB D ad cI cJ cR) (AX ad)) 0 0 (AX ad) := by
  refine Met.ofW (cc := cX6_isLock) (maxL := 2) (ret := (some .boolean)) (by decide) rfl ?_
  intro p e s m args below meth c s₁ B hml hv
  obtain ⟨rfl, hP0, hK, hD0⟩ := hv
  have C : CallFix p m c cX6_isLock 2 s _ wsX6_isLock RX6 := ⟨B.exec, B.bytes, hml, findClass_of_methodNamed B.named, atoms_spec (ws := wsX6_isLock) B.pre⟩
  have hr := B.returns
  have hlocks := B.notSynchronized
  have hw : XW D ad cI cJ cR s.heap s.heap [] u := ⟨hP0, hD0, va_S.rf⟩
  refine en_W (Nat.le_of_ble_eq_true rfl) (fun ls hl => ?_)
  have hl : lv_has ls 2 [(0, .int l0), (1, .int l1)] := hl
  unfold f_X6_isLock at hG
  refine lv_iload_n C.1 C.2.1 dX6_isLock_0 rfl (lv_at hl 0 rfl) ?_
  refine lv_if_le (tgt := 27) C.1 C.2.1 dX6_isLock_1 (by decide) (fun (h_1 : l0 ≤ (0 : Int32)) => ?_) (fun (h_1 : ¬ l0 ≤ (0 : Int32)) => ?_)
  · replace hG := ip h_1 hG
    refine lv_iconst (v := 0) C.1 C.2.1 dX6_isLock_27 (by decide) ?_
    exact xret_z C hlocks hK hw hr rfl (ret1 hG) dX6_isLock_28
  · replace hG := inn h_1 hG
    refine lv_iload_n C.1 C.2.1 dX6_isLock_4 rfl (lv_at hl 0 rfl) ?_
    refine lv_ldc (v := 65536) C.1 C.2.1 C.2.2.2.1 (C.2.2.2.2 _ (List.mem_of_getElem? (i := 1) rfl)) dX6_isLock_5 ?_
    refine lv_icmp_ge (tgt := 27) C.1 C.2.1 dX6_isLock_7 (by decide) (fun (h_2 : (65536 : Int32) ≤ l0) => ?_) (fun (h_2 : ¬ (65536 : Int32) ≤ l0) => ?_)
    · replace hG := ip h_2 hG
      refine lv_iconst (v := 0) C.1 C.2.1 dX6_isLock_27 (by decide) ?_
      exact xret_z C hlocks hK hw hr rfl (ret1 hG) dX6_isLock_28
    · replace hG := inn h_2 hG
      refine lv_iload_n C.1 C.2.1 dX6_isLock_10 rfl (lv_at hl 1 rfl) ?_
      refine lv_iconst (v := 1) C.1 C.2.1 dX6_isLock_11 (by decide) ?_
      refine lv_icmp_lt (tgt := 27) C.1 C.2.1 dX6_isLock_12 (by decide) (fun (h_3 : l1 < (1 : Int32)) => ?_) (fun (h_3 : ¬ l1 < (1 : Int32)) => ?_)
      · replace hG := ip h_3 hG
        refine lv_iconst (v := 0) C.1 C.2.1 dX6_isLock_27 (by decide) ?_
        exact xret_z C hlocks hK hw hr rfl (ret1 hG) dX6_isLock_28
      · replace hG := inn h_3 hG
        refine lv_iload_n C.1 C.2.1 dX6_isLock_15 rfl (lv_at hl 1 rfl) ?_
        refine lv_iload_n C.1 C.2.1 dX6_isLock_16 rfl (lv_at hl 0 rfl) ?_
        obtain ⟨q_4, hc_4, hG⟩ := ob hG
        try dsimp only at hG
        refine xcSi (As := [.int l0]) (rest := [.int l1]) C hK hw (k_J6_bitCount_0f7a4 l D ad cI cJ cR u l0 q_4 hc_4) (va_cwS 1 C.2.2.2.2 gX6_isLock_J6_bitCount_0f7a4 rfl rfl rfl (by decide +kernel) ⟨Nat.le_of_ble_eq_true rfl, Nat.le_of_ble_eq_true rfl⟩) rfl hl.1 rfl (Nat.le_of_ble_eq_true rfl) dX6_isLock_17 (fun H locs hw => ?_)
        refine lv_icmp_gt (tgt := 27) C.1 C.2.1 dX6_isLock_20 (by decide) (fun (h_5 : q_4 < l1) => ?_) (fun (h_5 : ¬ q_4 < l1) => ?_)
        · replace hG := ip h_5 hG
          refine lv_iconst (v := 0) C.1 C.2.1 dX6_isLock_27 (by decide) ?_
          exact xret_z C hlocks hK hw hr rfl (ret1 hG) dX6_isLock_28
        · replace hG := inn h_5 hG
          refine lv_iconst (v := 1) C.1 C.2.1 dX6_isLock_23 (by decide) ?_
          refine lv_goto (tgt := 28) C.1 C.2.1 dX6_isLock_24 (by decide) ?_
          exact xret_z C hlocks hK hw hr rfl (ret1 hG) dX6_isLock_28
theorem jX6_account_0 : ∀ w ∈ wsX00, w ∈ wsX6_account := by decide +kernel
theorem jX6_account_6 : ∀ w ∈ wsX60, w ∈ wsX6_account := by decide +kernel
def f_X6_account (l1 : Int64) (l3 : Int32) (l4 : Int32) (u : XS) : Option (Int32 × XS) := ((f_X6_isAmount l1).bind fun q_1 => (if q_1 = (0 : Int32) then some ((-1 : Int32), u) else ((f_X6_isLock l3 l4).bind fun q_3 => (if q_3 = (0 : Int32) then some ((-1 : Int32), u) else (if (x_cnt u) < (12 : Int32) then ((f_X0_open l1 l3 l4 u).bind fun q_6 => some (q_6.1, q_6.2)) else some ((-3 : Int32), u))))))
set_option maxHeartbeats 4000000 in
set_option maxRecDepth 100000 in
theorem k_X6_account (l : Launch) (D : va_G) (ad : Nat → Nat) (cI cJ cR : ClassId) (u : XS) (l1 : Int64) (l3 : Int32) (l4 : Int32) (r1 : Int32) (u1 : XS) (hG : f_X6_account l1 l3 l4 u = some (r1, u1)) : Met l yX6_account wsX6_account ({ frames := 2, cells := 0, slots := 0, locals := 48 } : Room) (va_Pc [.ref (ad 0), .long l1, .int l3, .int l4] (XB D ad cI cJ cR u)) (va_Qi (S := XS) (fun r u2 => r = r1 ∧ u2 = u1) (XB D ad cI cJ cR) (AX ad)) 0 0 (AX ad) := by
  refine Met.ofW (cc := cX6_account) (maxL := 5) (ret := (some .int)) (by decide) rfl ?_
  intro p e s m args below meth c s₁ B hml hv
  obtain ⟨rfl, hP0, hK, hD0⟩ := hv
  have C : CallFix p m c cX6_account 5 s _ wsX6_account RX6 := ⟨B.exec, B.bytes, hml, findClass_of_methodNamed B.named, atoms_spec (ws := wsX6_account) B.pre⟩
  have hr := B.returns
  have hlocks := B.notSynchronized
  have hw : XW D ad cI cJ cR s.heap s.heap [] u := ⟨hP0, hD0, va_S.rf⟩
  refine en_W (Nat.le_of_ble_eq_true rfl) (fun ls hl => ?_)
  have hl : lv_has ls 5 [(0, .ref (ad 0)), (1, .long l1), (3, .int l3), (4, .int l4)] := hl
  unfold f_X6_account at hG
  refine lv_lload_n C.1 C.2.1 dX6_account_0 rfl (lv_at hl 1 rfl) ?_
  obtain ⟨q_1, hc_1, hG⟩ := ob hG
  try dsimp only at hG
  refine xcSi (As := [.long l1]) (rest := []) C hK hw (k_X6_isAmount l D ad cI cJ cR u l1 q_1 hc_1) (va_cwS 1 C.2.2.2.2 gX6_account_X6_isAmount rfl rfl rfl (by decide +kernel) ⟨Nat.le_of_ble_eq_true rfl, Nat.le_of_ble_eq_true rfl⟩) rfl hl.1 rfl (Nat.le_of_ble_eq_true rfl) dX6_account_1 (fun H locs hw => ?_)
  refine lv_if_eq (tgt := 16) C.1 C.2.1 dX6_account_4 (by decide) (fun (h_2 : q_1 = (0 : Int32)) => ?_) (fun (h_2 : ¬ q_1 = (0 : Int32)) => ?_)
  · replace hG := ip h_2 hG
    refine lv_iconst (v := -1) C.1 C.2.1 dX6_account_16 (by decide) ?_
    exact xret_i C hlocks hK hw hr (ret2 hG) dX6_account_17
  · replace hG := inn h_2 hG
    refine lv_iload_n C.1 C.2.1 dX6_account_7 rfl (lv_at hl 2 rfl) ?_
    refine lv_iload C.1 C.2.1 dX6_account_8 (lv_at hl 3 rfl) ?_
    obtain ⟨q_3, hc_3, hG⟩ := ob hG
    try dsimp only at hG
    refine xcSi (As := [.int l3, .int l4]) (rest := []) C hK hw (k_X6_isLock l D ad cI cJ cR u l3 l4 q_3 hc_3) (va_cwS 2 C.2.2.2.2 gX6_account_X6_isLock rfl rfl rfl (by decide +kernel) ⟨Nat.le_of_ble_eq_true rfl, Nat.le_of_ble_eq_true rfl⟩) rfl hl.1 rfl (Nat.le_of_ble_eq_true rfl) dX6_account_10 (fun H locs hw => ?_)
    refine lv_if_ne (tgt := 18) C.1 C.2.1 dX6_account_13 (by decide) (fun (h_4 : ¬ q_3 = (0 : Int32)) => ?_) (fun (h_4 : q_3 = (0 : Int32)) => ?_)
    · replace hG := inn h_4 hG
      refine lv_aload_n C.1 C.2.1 dX6_account_18 rfl (lv_at hl 0 rfl) ?_
      refine xg_0_0 C hK hw jX6_account_6 (List.mem_of_getElem? (i := 1) rfl) dX6_account_19 ?_
      refine xg_1_4 C hK hw jX6_account_0 (List.mem_of_getElem? (i := 2) rfl) dX6_account_22 ?_
      refine lv_bipush (v := 12) C.1 C.2.1 dX6_account_25 (by decide) ?_
      refine lv_icmp_lt (tgt := 33) C.1 C.2.1 dX6_account_27 (by decide) (fun (h_5 : (x_cnt u) < (12 : Int32)) => ?_) (fun (h_5 : ¬ (x_cnt u) < (12 : Int32)) => ?_)
      · replace hG := ip h_5 hG
        refine lv_aload_n C.1 C.2.1 dX6_account_33 rfl (lv_at hl 0 rfl) ?_
        refine xg_0_0 C hK hw jX6_account_6 (List.mem_of_getElem? (i := 1) rfl) dX6_account_34 ?_
        refine lv_lload_n C.1 C.2.1 dX6_account_37 rfl (lv_at hl 1 rfl) ?_
        refine lv_iload_n C.1 C.2.1 dX6_account_38 rfl (lv_at hl 2 rfl) ?_
        refine lv_iload C.1 C.2.1 dX6_account_39 (lv_at hl 3 rfl) ?_
        obtain ⟨q_6, hc_6, hG⟩ := ob hG
        try dsimp only at hG
        refine xcVi (As := [.long l1, .int l3, .int l4]) (rest := []) C hK hw (k_X0_open l D ad cI cJ cR u l1 l3 l4 q_6.1 q_6.2 hc_6) (cwV 3 C.2.2.2.2 gX6_account_X0_open rfl rfl rfl (by decide +kernel) ⟨Nat.le_of_ble_eq_true rfl, Nat.le_of_ble_eq_true rfl⟩) (va_recv hK hw.1 (ci := 0) (q0 := 1) rfl rfl) rfl hl.1 rfl (Nat.le_of_ble_eq_true rfl) dX6_account_41 (fun H locs hw => ?_)
        exact xret_i C hlocks hK hw hr (ret2 hG) dX6_account_44
      · replace hG := inn h_5 hG
        refine lv_bipush (v := -3) C.1 C.2.1 dX6_account_30 (by decide) ?_
        exact xret_i C hlocks hK hw hr (ret2 hG) dX6_account_32
    · replace hG := ip h_4 hG
      refine lv_iconst (v := -1) C.1 C.2.1 dX6_account_16 (by decide) ?_
      exact xret_i C hlocks hK hw hr (ret2 hG) dX6_account_17
theorem jX6_lock_6 : ∀ w ∈ wsX60, w ∈ wsX6_lock := by decide +kernel
def f_X6_lock (l1 : Int32) (l2 : Int32) (l3 : Int32) (u : XS) : Option (Int32 × XS) := ((f_X0_has l1 u).bind fun q_1 => (if q_1 = (0 : Int32) then some ((-1 : Int32), u) else ((f_X6_isLock l2 l3).bind fun q_3 => (if q_3 = (0 : Int32) then some ((-1 : Int32), u) else ((f_X0_setLock l1 l2 l3 u).bind fun q_5 => some ((1 : Int32), q_5))))))
set_option maxHeartbeats 4000000 in
set_option maxRecDepth 100000 in
theorem k_X6_lock (l : Launch) (D : va_G) (ad : Nat → Nat) (cI cJ cR : ClassId) (u : XS) (l1 : Int32) (l2 : Int32) (l3 : Int32) (r1 : Int32) (u1 : XS) (hG : f_X6_lock l1 l2 l3 u = some (r1, u1)) : Met l yX6_lock wsX6_lock ({ frames := 2, cells := 0, slots := 0, locals := 41 } : Room) (va_Pc [.ref (ad 0), .int l1, .int l2, .int l3] (XB D ad cI cJ cR u)) (va_Qi (S := XS) (fun r u2 => r = r1 ∧ u2 = u1) (XB D ad cI cJ cR) (AX ad)) 0 0 (AX ad) := by
  refine Met.ofW (cc := cX6_lock) (maxL := 4) (ret := (some .int)) (by decide) rfl ?_
  intro p e s m args below meth c s₁ B hml hv
  obtain ⟨rfl, hP0, hK, hD0⟩ := hv
  have C : CallFix p m c cX6_lock 4 s _ wsX6_lock RX6 := ⟨B.exec, B.bytes, hml, findClass_of_methodNamed B.named, atoms_spec (ws := wsX6_lock) B.pre⟩
  have hr := B.returns
  have hlocks := B.notSynchronized
  have hw : XW D ad cI cJ cR s.heap s.heap [] u := ⟨hP0, hD0, va_S.rf⟩
  refine en_W (Nat.le_of_ble_eq_true rfl) (fun ls hl => ?_)
  have hl : lv_has ls 4 [(0, .ref (ad 0)), (1, .int l1), (2, .int l2), (3, .int l3)] := hl
  unfold f_X6_lock at hG
  refine lv_aload_n C.1 C.2.1 dX6_lock_0 rfl (lv_at hl 0 rfl) ?_
  refine xg_0_0 C hK hw jX6_lock_6 (List.mem_of_getElem? (i := 1) rfl) dX6_lock_1 ?_
  refine lv_iload_n C.1 C.2.1 dX6_lock_4 rfl (lv_at hl 1 rfl) ?_
  obtain ⟨q_1, hc_1, hG⟩ := ob hG
  try dsimp only at hG
  refine xcVi (As := [.int l1]) (rest := []) C hK hw (k_X0_has l D ad cI cJ cR u l1 q_1 hc_1) (cwV 1 C.2.2.2.2 gX6_lock_X0_has rfl rfl rfl (by decide +kernel) ⟨Nat.le_of_ble_eq_true rfl, Nat.le_of_ble_eq_true rfl⟩) (va_recv hK hw.1 (ci := 0) (q0 := 1) rfl rfl) rfl hl.1 rfl (Nat.le_of_ble_eq_true rfl) dX6_lock_5 (fun H locs hw => ?_)
  refine lv_if_eq (tgt := 19) C.1 C.2.1 dX6_lock_8 (by decide) (fun (h_2 : q_1 = (0 : Int32)) => ?_) (fun (h_2 : ¬ q_1 = (0 : Int32)) => ?_)
  · replace hG := ip h_2 hG
    refine lv_iconst (v := -1) C.1 C.2.1 dX6_lock_19 (by decide) ?_
    exact xret_i C hlocks hK hw hr (ret2 hG) dX6_lock_20
  · replace hG := inn h_2 hG
    refine lv_iload_n C.1 C.2.1 dX6_lock_11 rfl (lv_at hl 2 rfl) ?_
    refine lv_iload_n C.1 C.2.1 dX6_lock_12 rfl (lv_at hl 3 rfl) ?_
    obtain ⟨q_3, hc_3, hG⟩ := ob hG
    try dsimp only at hG
    refine xcSi (As := [.int l2, .int l3]) (rest := []) C hK hw (k_X6_isLock l D ad cI cJ cR u l2 l3 q_3 hc_3) (va_cwS 2 C.2.2.2.2 gX6_lock_X6_isLock rfl rfl rfl (by decide +kernel) ⟨Nat.le_of_ble_eq_true rfl, Nat.le_of_ble_eq_true rfl⟩) rfl hl.1 rfl (Nat.le_of_ble_eq_true rfl) dX6_lock_13 (fun H locs hw => ?_)
    refine lv_if_ne (tgt := 21) C.1 C.2.1 dX6_lock_16 (by decide) (fun (h_4 : ¬ q_3 = (0 : Int32)) => ?_) (fun (h_4 : q_3 = (0 : Int32)) => ?_)
    · replace hG := inn h_4 hG
      refine lv_aload_n C.1 C.2.1 dX6_lock_21 rfl (lv_at hl 0 rfl) ?_
      refine xg_0_0 C hK hw jX6_lock_6 (List.mem_of_getElem? (i := 1) rfl) dX6_lock_22 ?_
      refine lv_iload_n C.1 C.2.1 dX6_lock_25 rfl (lv_at hl 1 rfl) ?_
      refine lv_iload_n C.1 C.2.1 dX6_lock_26 rfl (lv_at hl 2 rfl) ?_
      refine lv_iload_n C.1 C.2.1 dX6_lock_27 rfl (lv_at hl 3 rfl) ?_
      obtain ⟨q_5, hc_5, hG⟩ := ob hG
      try dsimp only at hG
      refine xcVv (As := [.int l1, .int l2, .int l3]) (rest := []) C hK hw (k_X0_setLock l D ad cI cJ cR u l1 l2 l3 q_5 hc_5) (cwV 3 C.2.2.2.2 gX6_lock_X0_setLock rfl rfl rfl (by decide +kernel) ⟨Nat.le_of_ble_eq_true rfl, Nat.le_of_ble_eq_true rfl⟩) (va_recv hK hw.1 (ci := 0) (q0 := 1) rfl rfl) rfl hl.1 rfl (Nat.le_of_ble_eq_true rfl) dX6_lock_28 (fun H locs hw => ?_)
      refine lv_iconst (v := 1) C.1 C.2.1 dX6_lock_31 (by decide) ?_
      exact xret_i C hlocks hK hw hr (ret2 hG) dX6_lock_32
    · replace hG := ip h_4 hG
      refine lv_iconst (v := -1) C.1 C.2.1 dX6_lock_19 (by decide) ?_
      exact xret_i C hlocks hK hw hr (ret2 hG) dX6_lock_20
theorem jX6_funds_0 : ∀ w ∈ wsX00, w ∈ wsX6_funds := by decide +kernel
theorem jX6_funds_6 : ∀ w ∈ wsX60, w ∈ wsX6_funds := by decide +kernel
def f_X6_funds (l1 : Int32) (u : XS) : Option Int64 := ((f_X0_has l1 u).bind fun q_1 => (if q_1 = (0 : Int32) then some (-1 : Int64) else (if inb l1 12 = true then some ((x_fun u) (Int32.toNatClampNeg l1)) else none)))
set_option maxHeartbeats 4000000 in
set_option maxRecDepth 100000 in
theorem k_X6_funds (l : Launch) (D : va_G) (ad : Nat → Nat) (cI cJ cR : ClassId) (u : XS) (l1 : Int32) (r1 : Int64) (hG : f_X6_funds l1 u = some r1) : Met l yX6_funds wsX6_funds ({ frames := 1, cells := 0, slots := 0, locals := 21 } : Room) (va_Pc [.ref (ad 0), .int l1] (XB D ad cI cJ cR u)) (va_Ql (S := XS) (fun r u2 => r = r1 ∧ u2 = u) (XB D ad cI cJ cR) (AX ad)) 0 0 (AX ad) := by
  refine Met.ofW (cc := cX6_funds) (maxL := 2) (ret := (some .long)) (by decide) rfl ?_
  intro p e s m args below meth c s₁ B hml hv
  obtain ⟨rfl, hP0, hK, hD0⟩ := hv
  have C : CallFix p m c cX6_funds 2 s _ wsX6_funds RX6 := ⟨B.exec, B.bytes, hml, findClass_of_methodNamed B.named, atoms_spec (ws := wsX6_funds) B.pre⟩
  have hr := B.returns
  have hlocks := B.notSynchronized
  have hw : XW D ad cI cJ cR s.heap s.heap [] u := ⟨hP0, hD0, va_S.rf⟩
  refine en_W (Nat.le_of_ble_eq_true rfl) (fun ls hl => ?_)
  have hl : lv_has ls 2 [(0, .ref (ad 0)), (1, .int l1)] := hl
  unfold f_X6_funds at hG
  refine lv_aload_n C.1 C.2.1 dX6_funds_0 rfl (lv_at hl 0 rfl) ?_
  refine xg_0_0 C hK hw jX6_funds_6 (List.mem_of_getElem? (i := 1) rfl) dX6_funds_1 ?_
  refine lv_iload_n C.1 C.2.1 dX6_funds_4 rfl (lv_at hl 1 rfl) ?_
  obtain ⟨q_1, hc_1, hG⟩ := ob hG
  try dsimp only at hG
  refine xcVi (As := [.int l1]) (rest := []) C hK hw (k_X0_has l D ad cI cJ cR u l1 q_1 hc_1) (cwV 1 C.2.2.2.2 gX6_funds_X0_has rfl rfl rfl (by decide +kernel) ⟨Nat.le_of_ble_eq_true rfl, Nat.le_of_ble_eq_true rfl⟩) (va_recv hK hw.1 (ci := 0) (q0 := 1) rfl rfl) rfl hl.1 rfl (Nat.le_of_ble_eq_true rfl) dX6_funds_5 (fun H locs hw => ?_)
  refine lv_if_eq (tgt := 23) C.1 C.2.1 dX6_funds_8 (by decide) (fun (h_2 : q_1 = (0 : Int32)) => ?_) (fun (h_2 : ¬ q_1 = (0 : Int32)) => ?_)
  · replace hG := ip h_2 hG
    refine lv_ldc2 (v := -1) C.1 C.2.1 C.2.2.2.1 (C.2.2.2.2 _ (List.mem_of_getElem? (i := 3) rfl)) dX6_funds_23 ?_
    exact xret_l C hlocks hK hw hr (ret1 hG) dX6_funds_26
  · replace hG := inn h_2 hG
    refine lv_aload_n C.1 C.2.1 dX6_funds_11 rfl (lv_at hl 0 rfl) ?_
    refine xg_0_0 C hK hw jX6_funds_6 (List.mem_of_getElem? (i := 1) rfl) dX6_funds_12 ?_
    refine xg_1_0 C hK hw jX6_funds_0 (List.mem_of_getElem? (i := 2) rfl) dX6_funds_15 ?_
    refine lv_iload_n C.1 C.2.1 dX6_funds_18 rfl (lv_at hl 1 rfl) ?_
    obtain ⟨h_3, hG⟩ := og hG
    refine xl_2 C hK hw h_3 dX6_funds_19 ?_
    refine lv_goto (tgt := 26) C.1 C.2.1 dX6_funds_20 (by decide) ?_
    exact xret_l C hlocks hK hw hr (ret1 hG) dX6_funds_26
theorem jX6_next_0 : ∀ w ∈ wsX00, w ∈ wsX6_next := by decide +kernel
theorem jX6_next_6 : ∀ w ∈ wsX60, w ∈ wsX6_next := by decide +kernel
def f_X6_next (l1 : Int32) (u : XS) : Option Int32 := ((f_X0_has l1 u).bind fun q_1 => (if q_1 = (0 : Int32) then some (-1 : Int32) else (if inb l1 12 = true then some ((x_nxt u) (Int32.toNatClampNeg l1)) else none)))
set_option maxHeartbeats 4000000 in
set_option maxRecDepth 100000 in
theorem k_X6_next (l : Launch) (D : va_G) (ad : Nat → Nat) (cI cJ cR : ClassId) (u : XS) (l1 : Int32) (r1 : Int32) (hG : f_X6_next l1 u = some r1) : Met l yX6_next wsX6_next ({ frames := 1, cells := 0, slots := 0, locals := 21 } : Room) (va_Pc [.ref (ad 0), .int l1] (XB D ad cI cJ cR u)) (va_Qi (S := XS) (fun r u2 => r = r1 ∧ u2 = u) (XB D ad cI cJ cR) (AX ad)) 0 0 (AX ad) := by
  refine Met.ofW (cc := cX6_next) (maxL := 2) (ret := (some .int)) (by decide) rfl ?_
  intro p e s m args below meth c s₁ B hml hv
  obtain ⟨rfl, hP0, hK, hD0⟩ := hv
  have C : CallFix p m c cX6_next 2 s _ wsX6_next RX6 := ⟨B.exec, B.bytes, hml, findClass_of_methodNamed B.named, atoms_spec (ws := wsX6_next) B.pre⟩
  have hr := B.returns
  have hlocks := B.notSynchronized
  have hw : XW D ad cI cJ cR s.heap s.heap [] u := ⟨hP0, hD0, va_S.rf⟩
  refine en_W (Nat.le_of_ble_eq_true rfl) (fun ls hl => ?_)
  have hl : lv_has ls 2 [(0, .ref (ad 0)), (1, .int l1)] := hl
  unfold f_X6_next at hG
  refine lv_aload_n C.1 C.2.1 dX6_next_0 rfl (lv_at hl 0 rfl) ?_
  refine xg_0_0 C hK hw jX6_next_6 (List.mem_of_getElem? (i := 1) rfl) dX6_next_1 ?_
  refine lv_iload_n C.1 C.2.1 dX6_next_4 rfl (lv_at hl 1 rfl) ?_
  obtain ⟨q_1, hc_1, hG⟩ := ob hG
  try dsimp only at hG
  refine xcVi (As := [.int l1]) (rest := []) C hK hw (k_X0_has l D ad cI cJ cR u l1 q_1 hc_1) (cwV 1 C.2.2.2.2 gX6_next_X0_has rfl rfl rfl (by decide +kernel) ⟨Nat.le_of_ble_eq_true rfl, Nat.le_of_ble_eq_true rfl⟩) (va_recv hK hw.1 (ci := 0) (q0 := 1) rfl rfl) rfl hl.1 rfl (Nat.le_of_ble_eq_true rfl) dX6_next_5 (fun H locs hw => ?_)
  refine lv_if_eq (tgt := 23) C.1 C.2.1 dX6_next_8 (by decide) (fun (h_2 : q_1 = (0 : Int32)) => ?_) (fun (h_2 : ¬ q_1 = (0 : Int32)) => ?_)
  · replace hG := ip h_2 hG
    refine lv_iconst (v := -1) C.1 C.2.1 dX6_next_23 (by decide) ?_
    exact xret_i C hlocks hK hw hr (ret1 hG) dX6_next_24
  · replace hG := inn h_2 hG
    refine lv_aload_n C.1 C.2.1 dX6_next_11 rfl (lv_at hl 0 rfl) ?_
    refine xg_0_0 C hK hw jX6_next_6 (List.mem_of_getElem? (i := 1) rfl) dX6_next_12 ?_
    refine xg_1_1 C hK hw jX6_next_0 (List.mem_of_getElem? (i := 2) rfl) dX6_next_15 ?_
    refine lv_iload_n C.1 C.2.1 dX6_next_18 rfl (lv_at hl 1 rfl) ?_
    obtain ⟨h_3, hG⟩ := og hG
    refine xl_3 C hK hw h_3 dX6_next_19 ?_
    refine lv_goto (tgt := 24) C.1 C.2.1 dX6_next_20 (by decide) ?_
    exact xret_i C hlocks hK hw hr (ret1 hG) dX6_next_24
theorem jX6_sign_4 : ∀ w ∈ wsX40, w ∈ wsX6_sign := by decide +kernel
theorem jX6_sign_6 : ∀ w ∈ wsX60, w ∈ wsX6_sign := by decide +kernel
def f_X6_sign (l1 : Int32) (l2 : Int64) (u : XS) : Option (Int32 × XS) := (if l1 < (0 : Int32) then some ((-1 : Int32), u) else (if l1 < (16 : Int32) then (if (x_sgc u) < (200 : Int32) then ((f_X4_keep l1 l2 u).bind fun q_4 => some (q_4.1, q_4.2)) else some ((-3 : Int32), u)) else some ((-1 : Int32), u)))
set_option maxHeartbeats 4000000 in
set_option maxRecDepth 100000 in
theorem k_X6_sign (l : Launch) (D : va_G) (ad : Nat → Nat) (cI cJ cR : ClassId) (u : XS) (l1 : Int32) (l2 : Int64) (r1 : Int32) (u1 : XS) (hG : f_X6_sign l1 l2 u = some (r1, u1)) : Met l yX6_sign wsX6_sign ({ frames := 1, cells := 0, slots := 0, locals := 24 } : Room) (va_Pc [.ref (ad 0), .int l1, .long l2] (XB D ad cI cJ cR u)) (va_Qi (S := XS) (fun r u2 => r = r1 ∧ u2 = u1) (XB D ad cI cJ cR) (AX ad)) 0 0 (AX ad) := by
  refine Met.ofW (cc := cX6_sign) (maxL := 4) (ret := (some .int)) (by decide) rfl ?_
  intro p e s m args below meth c s₁ B hml hv
  obtain ⟨rfl, hP0, hK, hD0⟩ := hv
  have C : CallFix p m c cX6_sign 4 s _ wsX6_sign RX6 := ⟨B.exec, B.bytes, hml, findClass_of_methodNamed B.named, atoms_spec (ws := wsX6_sign) B.pre⟩
  have hr := B.returns
  have hlocks := B.notSynchronized
  have hw : XW D ad cI cJ cR s.heap s.heap [] u := ⟨hP0, hD0, va_S.rf⟩
  refine en_W (Nat.le_of_ble_eq_true rfl) (fun ls hl => ?_)
  have hl : lv_has ls 4 [(0, .ref (ad 0)), (1, .int l1), (2, .long l2)] := hl
  unfold f_X6_sign at hG
  refine lv_iload_n C.1 C.2.1 dX6_sign_0 rfl (lv_at hl 1 rfl) ?_
  refine lv_if_lt (tgt := 10) C.1 C.2.1 dX6_sign_1 (by decide) (fun (h_1 : l1 < (0 : Int32)) => ?_) (fun (h_1 : ¬ l1 < (0 : Int32)) => ?_)
  · replace hG := ip h_1 hG
    refine lv_iconst (v := -1) C.1 C.2.1 dX6_sign_10 (by decide) ?_
    exact xret_i C hlocks hK hw hr (ret2 hG) dX6_sign_11
  · replace hG := inn h_1 hG
    refine lv_iload_n C.1 C.2.1 dX6_sign_4 rfl (lv_at hl 1 rfl) ?_
    refine lv_bipush (v := 16) C.1 C.2.1 dX6_sign_5 (by decide) ?_
    refine lv_icmp_lt (tgt := 12) C.1 C.2.1 dX6_sign_7 (by decide) (fun (h_2 : l1 < (16 : Int32)) => ?_) (fun (h_2 : ¬ l1 < (16 : Int32)) => ?_)
    · replace hG := ip h_2 hG
      refine lv_aload_n C.1 C.2.1 dX6_sign_12 rfl (lv_at hl 0 rfl) ?_
      refine xg_0_1 C hK hw jX6_sign_6 (List.mem_of_getElem? (i := 1) rfl) dX6_sign_13 ?_
      refine xg_6_2 C hK hw jX6_sign_4 (List.mem_of_getElem? (i := 2) rfl) dX6_sign_16 ?_
      refine lv_sipush (v := 200) C.1 C.2.1 dX6_sign_19 (by decide) ?_
      refine lv_icmp_lt (tgt := 28) C.1 C.2.1 dX6_sign_22 (by decide) (fun (h_3 : (x_sgc u) < (200 : Int32)) => ?_) (fun (h_3 : ¬ (x_sgc u) < (200 : Int32)) => ?_)
      · replace hG := ip h_3 hG
        refine lv_aload_n C.1 C.2.1 dX6_sign_28 rfl (lv_at hl 0 rfl) ?_
        refine xg_0_1 C hK hw jX6_sign_6 (List.mem_of_getElem? (i := 1) rfl) dX6_sign_29 ?_
        refine lv_iload_n C.1 C.2.1 dX6_sign_32 rfl (lv_at hl 1 rfl) ?_
        refine lv_lload_n C.1 C.2.1 dX6_sign_33 rfl (lv_at hl 2 rfl) ?_
        obtain ⟨q_4, hc_4, hG⟩ := ob hG
        try dsimp only at hG
        refine xcVi (As := [.int l1, .long l2]) (rest := []) C hK hw (k_X4_keep l D ad cI cJ cR u l1 l2 q_4.1 q_4.2 hc_4) (cwV 2 C.2.2.2.2 gX6_sign_X4_keep rfl rfl rfl (by decide +kernel) ⟨Nat.le_of_ble_eq_true rfl, Nat.le_of_ble_eq_true rfl⟩) (va_recv hK hw.1 (ci := 4) (q0 := 6) rfl rfl) rfl hl.1 rfl (Nat.le_of_ble_eq_true rfl) dX6_sign_34 (fun H locs hw => ?_)
        exact xret_i C hlocks hK hw hr (ret2 hG) dX6_sign_37
      · replace hG := inn h_3 hG
        refine lv_bipush (v := -3) C.1 C.2.1 dX6_sign_25 (by decide) ?_
        exact xret_i C hlocks hK hw hr (ret2 hG) dX6_sign_27
    · replace hG := inn h_2 hG
      refine lv_iconst (v := -1) C.1 C.2.1 dX6_sign_10 (by decide) ?_
      exact xret_i C hlocks hK hw hr (ret2 hG) dX6_sign_11
theorem jX6_draft_6 : ∀ w ∈ wsX60, w ∈ wsX6_draft := by decide +kernel
def f_X6_draft (l1 : Int32) (l2 : Int32) (l3 : Int32) (l4 : Int32) (u : XS) : Option (Int32 × XS) := ((f_X0_has l1 u).bind fun q_1 => (if q_1 = (0 : Int32) then some ((-1 : Int32), u) else (if l2 < (0 : Int32) then some ((-1 : Int32), u) else (if l2 ≤ (999 : Int32) then (if l3 < (0 : Int32) then some ((-1 : Int32), u) else (if (1000000 : Int32) < l3 then some ((-1 : Int32), u) else (if l4 < (10 : Int32) then some ((-1 : Int32), u) else (if l4 ≤ (1000 : Int32) then ((f_X2_begin l1 l2 l3 l4 u).bind fun q_9 => some ((1 : Int32), q_9)) else some ((-1 : Int32), u))))) else some ((-1 : Int32), u)))))
set_option maxHeartbeats 4000000 in
set_option maxRecDepth 100000 in
theorem k_X6_draft (l : Launch) (D : va_G) (ad : Nat → Nat) (cI cJ cR : ClassId) (u : XS) (l1 : Int32) (l2 : Int32) (l3 : Int32) (l4 : Int32) (r1 : Int32) (u1 : XS) (hG : f_X6_draft l1 l2 l3 l4 u = some (r1, u1)) : Met l yX6_draft wsX6_draft ({ frames := 2, cells := 0, slots := 0, locals := 48 } : Room) (va_Pc [.ref (ad 0), .int l1, .int l2, .int l3, .int l4] (XB D ad cI cJ cR u)) (va_Qi (S := XS) (fun r u2 => r = r1 ∧ u2 = u1) (XB D ad cI cJ cR) (AX ad)) 0 0 (AX ad) := by
  refine Met.ofW (cc := cX6_draft) (maxL := 5) (ret := (some .int)) (by decide) rfl ?_
  intro p e s m args below meth c s₁ B hml hv
  obtain ⟨rfl, hP0, hK, hD0⟩ := hv
  have C : CallFix p m c cX6_draft 5 s _ wsX6_draft RX6 := ⟨B.exec, B.bytes, hml, findClass_of_methodNamed B.named, atoms_spec (ws := wsX6_draft) B.pre⟩
  have hr := B.returns
  have hlocks := B.notSynchronized
  have hw : XW D ad cI cJ cR s.heap s.heap [] u := ⟨hP0, hD0, va_S.rf⟩
  refine en_W (Nat.le_of_ble_eq_true rfl) (fun ls hl => ?_)
  have hl : lv_has ls 5 [(0, .ref (ad 0)), (1, .int l1), (2, .int l2), (3, .int l3), (4, .int l4)] := hl
  unfold f_X6_draft at hG
  refine lv_aload_n C.1 C.2.1 dX6_draft_0 rfl (lv_at hl 0 rfl) ?_
  refine xg_0_0 C hK hw jX6_draft_6 (List.mem_of_getElem? (i := 1) rfl) dX6_draft_1 ?_
  refine lv_iload_n C.1 C.2.1 dX6_draft_4 rfl (lv_at hl 1 rfl) ?_
  obtain ⟨q_1, hc_1, hG⟩ := ob hG
  try dsimp only at hG
  refine xcVi (As := [.int l1]) (rest := []) C hK hw (k_X0_has l D ad cI cJ cR u l1 q_1 hc_1) (cwV 1 C.2.2.2.2 gX6_draft_X0_has rfl rfl rfl (by decide +kernel) ⟨Nat.le_of_ble_eq_true rfl, Nat.le_of_ble_eq_true rfl⟩) (va_recv hK hw.1 (ci := 0) (q0 := 1) rfl rfl) rfl hl.1 rfl (Nat.le_of_ble_eq_true rfl) dX6_draft_5 (fun H locs hw => ?_)
  refine lv_if_eq (tgt := 22) C.1 C.2.1 dX6_draft_8 (by decide) (fun (h_2 : q_1 = (0 : Int32)) => ?_) (fun (h_2 : ¬ q_1 = (0 : Int32)) => ?_)
  · replace hG := ip h_2 hG
    refine lv_iconst (v := -1) C.1 C.2.1 dX6_draft_22 (by decide) ?_
    exact xret_i C hlocks hK hw hr (ret2 hG) dX6_draft_23
  · replace hG := inn h_2 hG
    refine lv_iload_n C.1 C.2.1 dX6_draft_11 rfl (lv_at hl 2 rfl) ?_
    refine lv_if_lt (tgt := 22) C.1 C.2.1 dX6_draft_12 (by decide) (fun (h_3 : l2 < (0 : Int32)) => ?_) (fun (h_3 : ¬ l2 < (0 : Int32)) => ?_)
    · replace hG := ip h_3 hG
      refine lv_iconst (v := -1) C.1 C.2.1 dX6_draft_22 (by decide) ?_
      exact xret_i C hlocks hK hw hr (ret2 hG) dX6_draft_23
    · replace hG := inn h_3 hG
      refine lv_iload_n C.1 C.2.1 dX6_draft_15 rfl (lv_at hl 2 rfl) ?_
      refine lv_sipush (v := 999) C.1 C.2.1 dX6_draft_16 (by decide) ?_
      refine lv_icmp_le (tgt := 24) C.1 C.2.1 dX6_draft_19 (by decide) (fun (h_4 : l2 ≤ (999 : Int32)) => ?_) (fun (h_4 : ¬ l2 ≤ (999 : Int32)) => ?_)
      · replace hG := ip h_4 hG
        refine lv_iload_n C.1 C.2.1 dX6_draft_24 rfl (lv_at hl 3 rfl) ?_
        refine lv_if_lt (tgt := 49) C.1 C.2.1 dX6_draft_25 (by decide) (fun (h_5 : l3 < (0 : Int32)) => ?_) (fun (h_5 : ¬ l3 < (0 : Int32)) => ?_)
        · replace hG := ip h_5 hG
          refine lv_iconst (v := -1) C.1 C.2.1 dX6_draft_49 (by decide) ?_
          exact xret_i C hlocks hK hw hr (ret2 hG) dX6_draft_50
        · replace hG := inn h_5 hG
          refine lv_iload_n C.1 C.2.1 dX6_draft_28 rfl (lv_at hl 3 rfl) ?_
          refine lv_ldc (v := 1000000) C.1 C.2.1 C.2.2.2.1 (C.2.2.2.2 _ (List.mem_of_getElem? (i := 2) rfl)) dX6_draft_29 ?_
          refine lv_icmp_gt (tgt := 49) C.1 C.2.1 dX6_draft_31 (by decide) (fun (h_6 : (1000000 : Int32) < l3) => ?_) (fun (h_6 : ¬ (1000000 : Int32) < l3) => ?_)
          · replace hG := ip h_6 hG
            refine lv_iconst (v := -1) C.1 C.2.1 dX6_draft_49 (by decide) ?_
            exact xret_i C hlocks hK hw hr (ret2 hG) dX6_draft_50
          · replace hG := inn h_6 hG
            refine lv_iload C.1 C.2.1 dX6_draft_34 (lv_at hl 4 rfl) ?_
            refine lv_bipush (v := 10) C.1 C.2.1 dX6_draft_36 (by decide) ?_
            refine lv_icmp_lt (tgt := 49) C.1 C.2.1 dX6_draft_38 (by decide) (fun (h_7 : l4 < (10 : Int32)) => ?_) (fun (h_7 : ¬ l4 < (10 : Int32)) => ?_)
            · replace hG := ip h_7 hG
              refine lv_iconst (v := -1) C.1 C.2.1 dX6_draft_49 (by decide) ?_
              exact xret_i C hlocks hK hw hr (ret2 hG) dX6_draft_50
            · replace hG := inn h_7 hG
              refine lv_iload C.1 C.2.1 dX6_draft_41 (lv_at hl 4 rfl) ?_
              refine lv_sipush (v := 1000) C.1 C.2.1 dX6_draft_43 (by decide) ?_
              refine lv_icmp_le (tgt := 51) C.1 C.2.1 dX6_draft_46 (by decide) (fun (h_8 : l4 ≤ (1000 : Int32)) => ?_) (fun (h_8 : ¬ l4 ≤ (1000 : Int32)) => ?_)
              · replace hG := ip h_8 hG
                refine lv_aload_n C.1 C.2.1 dX6_draft_51 rfl (lv_at hl 0 rfl) ?_
                refine xg_0_2 C hK hw jX6_draft_6 (List.mem_of_getElem? (i := 3) rfl) dX6_draft_52 ?_
                refine lv_iload_n C.1 C.2.1 dX6_draft_55 rfl (lv_at hl 1 rfl) ?_
                refine lv_iload_n C.1 C.2.1 dX6_draft_56 rfl (lv_at hl 2 rfl) ?_
                refine lv_iload_n C.1 C.2.1 dX6_draft_57 rfl (lv_at hl 3 rfl) ?_
                refine lv_iload C.1 C.2.1 dX6_draft_58 (lv_at hl 4 rfl) ?_
                obtain ⟨q_9, hc_9, hG⟩ := ob hG
                try dsimp only at hG
                refine xcVv (As := [.int l1, .int l2, .int l3, .int l4]) (rest := []) C hK hw (k_X2_begin l D ad cI cJ cR u l1 l2 l3 l4 q_9 hc_9) (cwV 4 C.2.2.2.2 gX6_draft_X2_begin rfl rfl rfl (by decide +kernel) ⟨Nat.le_of_ble_eq_true rfl, Nat.le_of_ble_eq_true rfl⟩) (va_recv hK hw.1 (ci := 2) (q0 := 9) rfl rfl) rfl hl.1 rfl (Nat.le_of_ble_eq_true rfl) dX6_draft_60 (fun H locs hw => ?_)
                refine lv_iconst (v := 1) C.1 C.2.1 dX6_draft_63 (by decide) ?_
                exact xret_i C hlocks hK hw hr (ret2 hG) dX6_draft_64
              · replace hG := inn h_8 hG
                refine lv_iconst (v := -1) C.1 C.2.1 dX6_draft_49 (by decide) ?_
                exact xret_i C hlocks hK hw hr (ret2 hG) dX6_draft_50
      · replace hG := inn h_4 hG
        refine lv_iconst (v := -1) C.1 C.2.1 dX6_draft_22 (by decide) ?_
        exact xret_i C hlocks hK hw hr (ret2 hG) dX6_draft_23
def f_X6_isHeight (l0 : Int32) : Option Int32 := (if l0 < (0 : Int32) then some (0 : Int32) else (if (1000000 : Int32) < l0 then some (0 : Int32) else some (1 : Int32)))
set_option maxHeartbeats 4000000 in
set_option maxRecDepth 100000 in
theorem k_X6_isHeight (l : Launch) (D : va_G) (ad : Nat → Nat) (cI cJ cR : ClassId) (u : XS) (l0 : Int32) (r1 : Int32) (hG : f_X6_isHeight l0 = some r1) : Met l yX6_isHeight wsX6_isHeight ({ frames := 0, cells := 0, slots := 0, locals := 0 } : Room) (va_Pc [.int l0] (XB D ad cI cJ cR u)) (va_Qi (S := XS) (fun r u2 => r = r1 ∧ u2 = u) (XB D ad cI cJ cR) (AX ad)) 0 0 (AX ad) := by
  refine Met.ofW (cc := cX6_isHeight) (maxL := 1) (ret := (some .boolean)) (by decide) rfl ?_
  intro p e s m args below meth c s₁ B hml hv
  obtain ⟨rfl, hP0, hK, hD0⟩ := hv
  have C : CallFix p m c cX6_isHeight 1 s _ wsX6_isHeight RX6 := ⟨B.exec, B.bytes, hml, findClass_of_methodNamed B.named, atoms_spec (ws := wsX6_isHeight) B.pre⟩
  have hr := B.returns
  have hlocks := B.notSynchronized
  have hw : XW D ad cI cJ cR s.heap s.heap [] u := ⟨hP0, hD0, va_S.rf⟩
  refine en_W (Nat.le_of_ble_eq_true rfl) (fun ls hl => ?_)
  have hl : lv_has ls 1 [(0, .int l0)] := hl
  unfold f_X6_isHeight at hG
  refine lv_iload_n C.1 C.2.1 dX6_isHeight_0 rfl (lv_at hl 0 rfl) ?_
  refine lv_if_lt (tgt := 14) C.1 C.2.1 dX6_isHeight_1 (by decide) (fun (h_1 : l0 < (0 : Int32)) => ?_) (fun (h_1 : ¬ l0 < (0 : Int32)) => ?_)
  · replace hG := ip h_1 hG
    refine lv_iconst (v := 0) C.1 C.2.1 dX6_isHeight_14 (by decide) ?_
    exact xret_z C hlocks hK hw hr rfl (ret1 hG) dX6_isHeight_15
  · replace hG := inn h_1 hG
    refine lv_iload_n C.1 C.2.1 dX6_isHeight_4 rfl (lv_at hl 0 rfl) ?_
    refine lv_ldc (v := 1000000) C.1 C.2.1 C.2.2.2.1 (C.2.2.2.2 _ (List.mem_of_getElem? (i := 1) rfl)) dX6_isHeight_5 ?_
    refine lv_icmp_gt (tgt := 14) C.1 C.2.1 dX6_isHeight_7 (by decide) (fun (h_2 : (1000000 : Int32) < l0) => ?_) (fun (h_2 : ¬ (1000000 : Int32) < l0) => ?_)
    · replace hG := ip h_2 hG
      refine lv_iconst (v := 0) C.1 C.2.1 dX6_isHeight_14 (by decide) ?_
      exact xret_z C hlocks hK hw hr rfl (ret1 hG) dX6_isHeight_15
    · replace hG := inn h_2 hG
      refine lv_iconst (v := 1) C.1 C.2.1 dX6_isHeight_10 (by decide) ?_
      refine lv_goto (tgt := 15) C.1 C.2.1 dX6_isHeight_11 (by decide) ?_
      exact xret_z C hlocks hK hw hr rfl (ret1 hG) dX6_isHeight_15
theorem jX6_until_1 : ∀ w ∈ wsX10, w ∈ wsX6_until := by decide +kernel
theorem jX6_until_2 : ∀ w ∈ wsX20, w ∈ wsX6_until := by decide +kernel
theorem jX6_until_6 : ∀ w ∈ wsX60, w ∈ wsX6_until := by decide +kernel
def f_X6_until (l1 : Int32) (u : XS) : Option (Int32 × XS) := ((f_X6_isHeight l1).bind fun q_1 => (if q_1 = (0 : Int32) then some ((-1 : Int32), u) else (if (x_the u) = (0 : Int32) then some ((-2 : Int32), u) else some ((1 : Int32), (xs_cf u (up2 (x_cf u) 7 0 l1))))))
set_option maxHeartbeats 4000000 in
set_option maxRecDepth 100000 in
theorem k_X6_until (l : Launch) (D : va_G) (ad : Nat → Nat) (cI cJ cR : ClassId) (u : XS) (l1 : Int32) (r1 : Int32) (u1 : XS) (hG : f_X6_until l1 u = some (r1, u1)) : Met l yX6_until wsX6_until ({ frames := 1, cells := 0, slots := 0, locals := 20 } : Room) (va_Pc [.ref (ad 0), .int l1] (XB D ad cI cJ cR u)) (va_Qi (S := XS) (fun r u2 => r = r1 ∧ u2 = u1) (XB D ad cI cJ cR) (AX ad)) 0 0 (AX ad) := by
  refine Met.ofW (cc := cX6_until) (maxL := 2) (ret := (some .int)) (by decide) rfl ?_
  intro p e s m args below meth c s₁ B hml hv
  obtain ⟨rfl, hP0, hK, hD0⟩ := hv
  have C : CallFix p m c cX6_until 2 s _ wsX6_until RX6 := ⟨B.exec, B.bytes, hml, findClass_of_methodNamed B.named, atoms_spec (ws := wsX6_until) B.pre⟩
  have hr := B.returns
  have hlocks := B.notSynchronized
  have hw : XW D ad cI cJ cR s.heap s.heap [] u := ⟨hP0, hD0, va_S.rf⟩
  refine en_W (Nat.le_of_ble_eq_true rfl) (fun ls hl => ?_)
  have hl : lv_has ls 2 [(0, .ref (ad 0)), (1, .int l1)] := hl
  unfold f_X6_until at hG
  refine lv_iload_n C.1 C.2.1 dX6_until_0 rfl (lv_at hl 1 rfl) ?_
  obtain ⟨q_1, hc_1, hG⟩ := ob hG
  try dsimp only at hG
  refine xcSi (As := [.int l1]) (rest := []) C hK hw (k_X6_isHeight l D ad cI cJ cR u l1 q_1 hc_1) (va_cwS 1 C.2.2.2.2 gX6_until_X6_isHeight rfl rfl rfl (by decide +kernel) ⟨Nat.le_of_ble_eq_true rfl, Nat.le_of_ble_eq_true rfl⟩) rfl hl.1 rfl (Nat.le_of_ble_eq_true rfl) dX6_until_1 (fun H locs hw => ?_)
  refine lv_if_ne (tgt := 9) C.1 C.2.1 dX6_until_4 (by decide) (fun (h_2 : ¬ q_1 = (0 : Int32)) => ?_) (fun (h_2 : q_1 = (0 : Int32)) => ?_)
  · replace hG := inn h_2 hG
    refine lv_aload_n C.1 C.2.1 dX6_until_9 rfl (lv_at hl 0 rfl) ?_
    refine xg_0_2 C hK hw jX6_until_6 (List.mem_of_getElem? (i := 1) rfl) dX6_until_10 ?_
    refine xg_9_3 C hK hw jX6_until_2 (List.mem_of_getElem? (i := 2) rfl) dX6_until_13 ?_
    refine lv_if_ne (tgt := 22) C.1 C.2.1 dX6_until_16 (by decide) (fun (h_3 : ¬ (x_the u) = (0 : Int32)) => ?_) (fun (h_3 : (x_the u) = (0 : Int32)) => ?_)
    · replace hG := inn h_3 hG
      refine lv_aload_n C.1 C.2.1 dX6_until_22 rfl (lv_at hl 0 rfl) ?_
      refine xg_0_2 C hK hw jX6_until_6 (List.mem_of_getElem? (i := 1) rfl) dX6_until_23 ?_
      refine xg_9_0 C hK hw jX6_until_2 (List.mem_of_getElem? (i := 3) rfl) dX6_until_26 ?_
      refine lv_iload_n C.1 C.2.1 dX6_until_29 rfl (lv_at hl 1 rfl) ?_
      refine xpc_7 (q := 0) C hK hw (by decide) jX6_until_1 (List.mem_of_getElem? (i := 4) rfl) dX6_until_30 (fun H locs hw => ?_)
      refine lv_iconst (v := 1) C.1 C.2.1 dX6_until_33 (by decide) ?_
      exact xret_i C hlocks hK hw hr (ret2 hG) dX6_until_34
    · replace hG := ip h_3 hG
      refine lv_bipush (v := -2) C.1 C.2.1 dX6_until_19 (by decide) ?_
      exact xret_i C hlocks hK hw hr (ret2 hG) dX6_until_21
  · replace hG := ip h_2 hG
    refine lv_iconst (v := -1) C.1 C.2.1 dX6_until_7 (by decide) ?_
    exact xret_i C hlocks hK hw hr (ret2 hG) dX6_until_8
theorem jX6_from_1 : ∀ w ∈ wsX10, w ∈ wsX6_from := by decide +kernel
theorem jX6_from_2 : ∀ w ∈ wsX20, w ∈ wsX6_from := by decide +kernel
theorem jX6_from_6 : ∀ w ∈ wsX60, w ∈ wsX6_from := by decide +kernel
def f_X6_from (l1 : Int32) (u : XS) : Option (Int32 × XS) := ((f_X6_isHeight l1).bind fun q_1 => (if q_1 = (0 : Int32) then some ((-1 : Int32), u) else (if (x_the u) = (0 : Int32) then some ((-2 : Int32), u) else some ((1 : Int32), (xs_cf u (up2 (x_cf u) 8 0 l1))))))
set_option maxHeartbeats 4000000 in
set_option maxRecDepth 100000 in
theorem k_X6_from (l : Launch) (D : va_G) (ad : Nat → Nat) (cI cJ cR : ClassId) (u : XS) (l1 : Int32) (r1 : Int32) (u1 : XS) (hG : f_X6_from l1 u = some (r1, u1)) : Met l yX6_from wsX6_from ({ frames := 1, cells := 0, slots := 0, locals := 20 } : Room) (va_Pc [.ref (ad 0), .int l1] (XB D ad cI cJ cR u)) (va_Qi (S := XS) (fun r u2 => r = r1 ∧ u2 = u1) (XB D ad cI cJ cR) (AX ad)) 0 0 (AX ad) := by
  refine Met.ofW (cc := cX6_from) (maxL := 2) (ret := (some .int)) (by decide) rfl ?_
  intro p e s m args below meth c s₁ B hml hv
  obtain ⟨rfl, hP0, hK, hD0⟩ := hv
  have C : CallFix p m c cX6_from 2 s _ wsX6_from RX6 := ⟨B.exec, B.bytes, hml, findClass_of_methodNamed B.named, atoms_spec (ws := wsX6_from) B.pre⟩
  have hr := B.returns
  have hlocks := B.notSynchronized
  have hw : XW D ad cI cJ cR s.heap s.heap [] u := ⟨hP0, hD0, va_S.rf⟩
  refine en_W (Nat.le_of_ble_eq_true rfl) (fun ls hl => ?_)
  have hl : lv_has ls 2 [(0, .ref (ad 0)), (1, .int l1)] := hl
  unfold f_X6_from at hG
  refine lv_iload_n C.1 C.2.1 dX6_from_0 rfl (lv_at hl 1 rfl) ?_
  obtain ⟨q_1, hc_1, hG⟩ := ob hG
  try dsimp only at hG
  refine xcSi (As := [.int l1]) (rest := []) C hK hw (k_X6_isHeight l D ad cI cJ cR u l1 q_1 hc_1) (va_cwS 1 C.2.2.2.2 gX6_from_X6_isHeight rfl rfl rfl (by decide +kernel) ⟨Nat.le_of_ble_eq_true rfl, Nat.le_of_ble_eq_true rfl⟩) rfl hl.1 rfl (Nat.le_of_ble_eq_true rfl) dX6_from_1 (fun H locs hw => ?_)
  refine lv_if_ne (tgt := 9) C.1 C.2.1 dX6_from_4 (by decide) (fun (h_2 : ¬ q_1 = (0 : Int32)) => ?_) (fun (h_2 : q_1 = (0 : Int32)) => ?_)
  · replace hG := inn h_2 hG
    refine lv_aload_n C.1 C.2.1 dX6_from_9 rfl (lv_at hl 0 rfl) ?_
    refine xg_0_2 C hK hw jX6_from_6 (List.mem_of_getElem? (i := 1) rfl) dX6_from_10 ?_
    refine xg_9_3 C hK hw jX6_from_2 (List.mem_of_getElem? (i := 2) rfl) dX6_from_13 ?_
    refine lv_if_ne (tgt := 22) C.1 C.2.1 dX6_from_16 (by decide) (fun (h_3 : ¬ (x_the u) = (0 : Int32)) => ?_) (fun (h_3 : (x_the u) = (0 : Int32)) => ?_)
    · replace hG := inn h_3 hG
      refine lv_aload_n C.1 C.2.1 dX6_from_22 rfl (lv_at hl 0 rfl) ?_
      refine xg_0_2 C hK hw jX6_from_6 (List.mem_of_getElem? (i := 1) rfl) dX6_from_23 ?_
      refine xg_9_0 C hK hw jX6_from_2 (List.mem_of_getElem? (i := 3) rfl) dX6_from_26 ?_
      refine lv_iload_n C.1 C.2.1 dX6_from_29 rfl (lv_at hl 1 rfl) ?_
      refine xpc_8 (q := 0) C hK hw (by decide) jX6_from_1 (List.mem_of_getElem? (i := 4) rfl) dX6_from_30 (fun H locs hw => ?_)
      refine lv_iconst (v := 1) C.1 C.2.1 dX6_from_33 (by decide) ?_
      exact xret_i C hlocks hK hw hr (ret2 hG) dX6_from_34
    · replace hG := ip h_3 hG
      refine lv_bipush (v := -2) C.1 C.2.1 dX6_from_19 (by decide) ?_
      exact xret_i C hlocks hK hw hr (ret2 hG) dX6_from_21
  · replace hG := ip h_2 hG
    refine lv_iconst (v := -1) C.1 C.2.1 dX6_from_7 (by decide) ?_
    exact xret_i C hlocks hK hw hr (ret2 hG) dX6_from_8
theorem jX6_sponsor_1 : ∀ w ∈ wsX10, w ∈ wsX6_sponsor := by decide +kernel
theorem jX6_sponsor_2 : ∀ w ∈ wsX20, w ∈ wsX6_sponsor := by decide +kernel
theorem jX6_sponsor_6 : ∀ w ∈ wsX60, w ∈ wsX6_sponsor := by decide +kernel
def f_X6_sponsor (l1 : Int32) (u : XS) : Option (Int32 × XS) := (if l1 = (-1 : Int32) then (if (x_the u) = (0 : Int32) then some ((-2 : Int32), u) else some ((1 : Int32), (xs_cf u (up2 (x_cf u) 9 0 l1)))) else ((f_X0_has l1 u).bind fun q_3 => (if q_3 = (0 : Int32) then some ((-1 : Int32), u) else (if (x_the u) = (0 : Int32) then some ((-2 : Int32), u) else some ((1 : Int32), (xs_cf u (up2 (x_cf u) 9 0 l1)))))))
set_option maxHeartbeats 4000000 in
set_option maxRecDepth 100000 in
theorem k_X6_sponsor (l : Launch) (D : va_G) (ad : Nat → Nat) (cI cJ cR : ClassId) (u : XS) (l1 : Int32) (r1 : Int32) (u1 : XS) (hG : f_X6_sponsor l1 u = some (r1, u1)) : Met l yX6_sponsor wsX6_sponsor ({ frames := 1, cells := 0, slots := 0, locals := 21 } : Room) (va_Pc [.ref (ad 0), .int l1] (XB D ad cI cJ cR u)) (va_Qi (S := XS) (fun r u2 => r = r1 ∧ u2 = u1) (XB D ad cI cJ cR) (AX ad)) 0 0 (AX ad) := by
  refine Met.ofW (cc := cX6_sponsor) (maxL := 2) (ret := (some .int)) (by decide) rfl ?_
  intro p e s m args below meth c s₁ B hml hv
  obtain ⟨rfl, hP0, hK, hD0⟩ := hv
  have C : CallFix p m c cX6_sponsor 2 s _ wsX6_sponsor RX6 := ⟨B.exec, B.bytes, hml, findClass_of_methodNamed B.named, atoms_spec (ws := wsX6_sponsor) B.pre⟩
  have hr := B.returns
  have hlocks := B.notSynchronized
  have hw : XW D ad cI cJ cR s.heap s.heap [] u := ⟨hP0, hD0, va_S.rf⟩
  refine en_W (Nat.le_of_ble_eq_true rfl) (fun ls hl => ?_)
  have hl : lv_has ls 2 [(0, .ref (ad 0)), (1, .int l1)] := hl
  unfold f_X6_sponsor at hG
  refine lv_iload_n C.1 C.2.1 dX6_sponsor_0 rfl (lv_at hl 1 rfl) ?_
  refine lv_iconst (v := -1) C.1 C.2.1 dX6_sponsor_1 (by decide) ?_
  refine lv_icmp_eq (tgt := 18) C.1 C.2.1 dX6_sponsor_2 (by decide) (fun (h_1 : l1 = (-1 : Int32)) => ?_) (fun (h_1 : ¬ l1 = (-1 : Int32)) => ?_)
  · replace hG := ip h_1 hG
    refine lv_aload_n C.1 C.2.1 dX6_sponsor_18 rfl (lv_at hl 0 rfl) ?_
    refine xg_0_2 C hK hw jX6_sponsor_6 (List.mem_of_getElem? (i := 2) rfl) dX6_sponsor_19 ?_
    refine xg_9_3 C hK hw jX6_sponsor_2 (List.mem_of_getElem? (i := 3) rfl) dX6_sponsor_22 ?_
    refine lv_if_ne (tgt := 31) C.1 C.2.1 dX6_sponsor_25 (by decide) (fun (h_2 : ¬ (x_the u) = (0 : Int32)) => ?_) (fun (h_2 : (x_the u) = (0 : Int32)) => ?_)
    · replace hG := inn h_2 hG
      refine lv_aload_n C.1 C.2.1 dX6_sponsor_31 rfl (lv_at hl 0 rfl) ?_
      refine xg_0_2 C hK hw jX6_sponsor_6 (List.mem_of_getElem? (i := 2) rfl) dX6_sponsor_32 ?_
      refine xg_9_0 C hK hw jX6_sponsor_2 (List.mem_of_getElem? (i := 4) rfl) dX6_sponsor_35 ?_
      refine lv_iload_n C.1 C.2.1 dX6_sponsor_38 rfl (lv_at hl 1 rfl) ?_
      refine xpc_9 (q := 0) C hK hw (by decide) jX6_sponsor_1 (List.mem_of_getElem? (i := 5) rfl) dX6_sponsor_39 (fun H locs hw => ?_)
      refine lv_iconst (v := 1) C.1 C.2.1 dX6_sponsor_42 (by decide) ?_
      exact xret_i C hlocks hK hw hr (ret2 hG) dX6_sponsor_43
    · replace hG := ip h_2 hG
      refine lv_bipush (v := -2) C.1 C.2.1 dX6_sponsor_28 (by decide) ?_
      exact xret_i C hlocks hK hw hr (ret2 hG) dX6_sponsor_30
  · replace hG := inn h_1 hG
    refine lv_aload_n C.1 C.2.1 dX6_sponsor_5 rfl (lv_at hl 0 rfl) ?_
    refine xg_0_0 C hK hw jX6_sponsor_6 (List.mem_of_getElem? (i := 1) rfl) dX6_sponsor_6 ?_
    refine lv_iload_n C.1 C.2.1 dX6_sponsor_9 rfl (lv_at hl 1 rfl) ?_
    obtain ⟨q_3, hc_3, hG⟩ := ob hG
    try dsimp only at hG
    refine xcVi (As := [.int l1]) (rest := []) C hK hw (k_X0_has l D ad cI cJ cR u l1 q_3 hc_3) (cwV 1 C.2.2.2.2 gX6_sponsor_X0_has rfl rfl rfl (by decide +kernel) ⟨Nat.le_of_ble_eq_true rfl, Nat.le_of_ble_eq_true rfl⟩) (va_recv hK hw.1 (ci := 0) (q0 := 1) rfl rfl) rfl hl.1 rfl (Nat.le_of_ble_eq_true rfl) dX6_sponsor_10 (fun H locs hw => ?_)
    refine lv_if_ne (tgt := 18) C.1 C.2.1 dX6_sponsor_13 (by decide) (fun (h_4 : ¬ q_3 = (0 : Int32)) => ?_) (fun (h_4 : q_3 = (0 : Int32)) => ?_)
    · replace hG := inn h_4 hG
      refine lv_aload_n C.1 C.2.1 dX6_sponsor_18 rfl (lv_at hl 0 rfl) ?_
      refine xg_0_2 C hK hw jX6_sponsor_6 (List.mem_of_getElem? (i := 2) rfl) dX6_sponsor_19 ?_
      refine xg_9_3 C hK hw jX6_sponsor_2 (List.mem_of_getElem? (i := 3) rfl) dX6_sponsor_22 ?_
      refine lv_if_ne (tgt := 31) C.1 C.2.1 dX6_sponsor_25 (by decide) (fun (h_5 : ¬ (x_the u) = (0 : Int32)) => ?_) (fun (h_5 : (x_the u) = (0 : Int32)) => ?_)
      · replace hG := inn h_5 hG
        refine lv_aload_n C.1 C.2.1 dX6_sponsor_31 rfl (lv_at hl 0 rfl) ?_
        refine xg_0_2 C hK hw jX6_sponsor_6 (List.mem_of_getElem? (i := 2) rfl) dX6_sponsor_32 ?_
        refine xg_9_0 C hK hw jX6_sponsor_2 (List.mem_of_getElem? (i := 4) rfl) dX6_sponsor_35 ?_
        refine lv_iload_n C.1 C.2.1 dX6_sponsor_38 rfl (lv_at hl 1 rfl) ?_
        refine xpc_9 (q := 0) C hK hw (by decide) jX6_sponsor_1 (List.mem_of_getElem? (i := 5) rfl) dX6_sponsor_39 (fun H locs hw => ?_)
        refine lv_iconst (v := 1) C.1 C.2.1 dX6_sponsor_42 (by decide) ?_
        exact xret_i C hlocks hK hw hr (ret2 hG) dX6_sponsor_43
      · replace hG := ip h_5 hG
        refine lv_bipush (v := -2) C.1 C.2.1 dX6_sponsor_28 (by decide) ?_
        exact xret_i C hlocks hK hw hr (ret2 hG) dX6_sponsor_30
    · replace hG := ip h_4 hG
      refine lv_iconst (v := -1) C.1 C.2.1 dX6_sponsor_16 (by decide) ?_
      exact xret_i C hlocks hK hw hr (ret2 hG) dX6_sponsor_17
theorem jX6_act_1 : ∀ w ∈ wsX10, w ∈ wsX6_act := by decide +kernel
theorem jX6_act_2 : ∀ w ∈ wsX20, w ∈ wsX6_act := by decide +kernel
theorem jX6_act_6 : ∀ w ∈ wsX60, w ∈ wsX6_act := by decide +kernel
def f_X6_act (l1 : Int32) (l2 : Int64) (u : XS) : Option (Int32 × XS) := ((f_X0_has l1 u).bind fun q_1 => (if q_1 = (0 : Int32) then some ((-1 : Int32), u) else ((f_X6_isAmount l2).bind fun q_3 => (if q_3 = (0 : Int32) then some ((-1 : Int32), u) else (if (x_the u) = (0 : Int32) then some ((-2 : Int32), u) else (if ((x_cf u) 2 0) < (4 : Int32) then ((f_X1_append 0 l1 l2 u).bind fun q_7 => some (q_7.1, q_7.2)) else some ((-3 : Int32), u)))))))
set_option maxHeartbeats 4000000 in
set_option maxRecDepth 100000 in
theorem k_X6_act (l : Launch) (D : va_G) (ad : Nat → Nat) (cI cJ cR : ClassId) (u : XS) (l1 : Int32) (l2 : Int64) (r1 : Int32) (u1 : XS) (hG : f_X6_act l1 l2 u = some (r1, u1)) : Met l yX6_act wsX6_act ({ frames := 1, cells := 0, slots := 0, locals := 23 } : Room) (va_Pc [.ref (ad 0), .int l1, .long l2] (XB D ad cI cJ cR u)) (va_Qi (S := XS) (fun r u2 => r = r1 ∧ u2 = u1) (XB D ad cI cJ cR) (AX ad)) 0 0 (AX ad) := by
  refine Met.ofW (cc := cX6_act) (maxL := 4) (ret := (some .int)) (by decide) rfl ?_
  intro p e s m args below meth c s₁ B hml hv
  obtain ⟨rfl, hP0, hK, hD0⟩ := hv
  have C : CallFix p m c cX6_act 4 s _ wsX6_act RX6 := ⟨B.exec, B.bytes, hml, findClass_of_methodNamed B.named, atoms_spec (ws := wsX6_act) B.pre⟩
  have hr := B.returns
  have hlocks := B.notSynchronized
  have hw : XW D ad cI cJ cR s.heap s.heap [] u := ⟨hP0, hD0, va_S.rf⟩
  refine en_W (Nat.le_of_ble_eq_true rfl) (fun ls hl => ?_)
  have hl : lv_has ls 4 [(0, .ref (ad 0)), (1, .int l1), (2, .long l2)] := hl
  unfold f_X6_act at hG
  refine lv_aload_n C.1 C.2.1 dX6_act_0 rfl (lv_at hl 0 rfl) ?_
  refine xg_0_0 C hK hw jX6_act_6 (List.mem_of_getElem? (i := 1) rfl) dX6_act_1 ?_
  refine lv_iload_n C.1 C.2.1 dX6_act_4 rfl (lv_at hl 1 rfl) ?_
  obtain ⟨q_1, hc_1, hG⟩ := ob hG
  try dsimp only at hG
  refine xcVi (As := [.int l1]) (rest := []) C hK hw (k_X0_has l D ad cI cJ cR u l1 q_1 hc_1) (cwV 1 C.2.2.2.2 gX6_act_X0_has rfl rfl rfl (by decide +kernel) ⟨Nat.le_of_ble_eq_true rfl, Nat.le_of_ble_eq_true rfl⟩) (va_recv hK hw.1 (ci := 0) (q0 := 1) rfl rfl) rfl hl.1 rfl (Nat.le_of_ble_eq_true rfl) dX6_act_5 (fun H locs hw => ?_)
  refine lv_if_eq (tgt := 18) C.1 C.2.1 dX6_act_8 (by decide) (fun (h_2 : q_1 = (0 : Int32)) => ?_) (fun (h_2 : ¬ q_1 = (0 : Int32)) => ?_)
  · replace hG := ip h_2 hG
    refine lv_iconst (v := -1) C.1 C.2.1 dX6_act_18 (by decide) ?_
    exact xret_i C hlocks hK hw hr (ret2 hG) dX6_act_19
  · replace hG := inn h_2 hG
    refine lv_lload_n C.1 C.2.1 dX6_act_11 rfl (lv_at hl 2 rfl) ?_
    obtain ⟨q_3, hc_3, hG⟩ := ob hG
    try dsimp only at hG
    refine xcSi (As := [.long l2]) (rest := []) C hK hw (k_X6_isAmount l D ad cI cJ cR u l2 q_3 hc_3) (va_cwS 1 C.2.2.2.2 gX6_act_X6_isAmount rfl rfl rfl (by decide +kernel) ⟨Nat.le_of_ble_eq_true rfl, Nat.le_of_ble_eq_true rfl⟩) rfl hl.1 rfl (Nat.le_of_ble_eq_true rfl) dX6_act_12 (fun H locs hw => ?_)
    refine lv_if_ne (tgt := 20) C.1 C.2.1 dX6_act_15 (by decide) (fun (h_4 : ¬ q_3 = (0 : Int32)) => ?_) (fun (h_4 : q_3 = (0 : Int32)) => ?_)
    · replace hG := inn h_4 hG
      refine lv_aload_n C.1 C.2.1 dX6_act_20 rfl (lv_at hl 0 rfl) ?_
      refine xg_0_2 C hK hw jX6_act_6 (List.mem_of_getElem? (i := 2) rfl) dX6_act_21 ?_
      refine xg_9_3 C hK hw jX6_act_2 (List.mem_of_getElem? (i := 3) rfl) dX6_act_24 ?_
      refine lv_if_ne (tgt := 33) C.1 C.2.1 dX6_act_27 (by decide) (fun (h_5 : ¬ (x_the u) = (0 : Int32)) => ?_) (fun (h_5 : (x_the u) = (0 : Int32)) => ?_)
      · replace hG := inn h_5 hG
        refine lv_aload_n C.1 C.2.1 dX6_act_33 rfl (lv_at hl 0 rfl) ?_
        refine xg_0_2 C hK hw jX6_act_6 (List.mem_of_getElem? (i := 2) rfl) dX6_act_34 ?_
        refine xg_9_0 C hK hw jX6_act_2 (List.mem_of_getElem? (i := 4) rfl) dX6_act_37 ?_
        refine xgc_2 (q := 0) C hK hw (by decide) jX6_act_1 (List.mem_of_getElem? (i := 5) rfl) dX6_act_40 ?_
        refine lv_iconst (v := 4) C.1 C.2.1 dX6_act_43 (by decide) ?_
        refine lv_icmp_lt (tgt := 50) C.1 C.2.1 dX6_act_44 (by decide) (fun (h_6 : ((x_cf u) 2 0) < (4 : Int32)) => ?_) (fun (h_6 : ¬ ((x_cf u) 2 0) < (4 : Int32)) => ?_)
        · replace hG := ip h_6 hG
          refine lv_aload_n C.1 C.2.1 dX6_act_50 rfl (lv_at hl 0 rfl) ?_
          refine xg_0_2 C hK hw jX6_act_6 (List.mem_of_getElem? (i := 2) rfl) dX6_act_51 ?_
          refine xg_9_0 C hK hw jX6_act_2 (List.mem_of_getElem? (i := 4) rfl) dX6_act_54 ?_
          refine lv_iload_n C.1 C.2.1 dX6_act_57 rfl (lv_at hl 1 rfl) ?_
          refine lv_lload_n C.1 C.2.1 dX6_act_58 rfl (lv_at hl 2 rfl) ?_
          obtain ⟨q_7, hc_7, hG⟩ := ob hG
          try dsimp only at hG
          refine xcVi (As := [.int l1, .long l2]) (rest := []) C hK hw (k_X1_append l D ad cI cJ cR u 0 l1 l2 q_7.1 q_7.2 hc_7) (cwV 2 C.2.2.2.2 gX6_act_X1_append rfl rfl rfl (by decide +kernel) ⟨Nat.le_of_ble_eq_true rfl, Nat.le_of_ble_eq_true rfl⟩) (va_recv hK hw.1 (ci := 1) (q0 := 17 + 0) rfl (wX_c (by decide))) rfl hl.1 rfl (Nat.le_of_ble_eq_true rfl) dX6_act_59 (fun H locs hw => ?_)
          exact xret_i C hlocks hK hw hr (ret2 hG) dX6_act_62
        · replace hG := inn h_6 hG
          refine lv_bipush (v := -3) C.1 C.2.1 dX6_act_47 (by decide) ?_
          exact xret_i C hlocks hK hw hr (ret2 hG) dX6_act_49
      · replace hG := ip h_5 hG
        refine lv_bipush (v := -2) C.1 C.2.1 dX6_act_30 (by decide) ?_
        exact xret_i C hlocks hK hw hr (ret2 hG) dX6_act_32
    · replace hG := ip h_4 hG
      refine lv_iconst (v := -1) C.1 C.2.1 dX6_act_18 (by decide) ?_
      exact xret_i C hlocks hK hw hr (ret2 hG) dX6_act_19
theorem jX6_add_2 : ∀ w ∈ wsX20, w ∈ wsX6_add := by decide +kernel
theorem jX6_add_6 : ∀ w ∈ wsX60, w ∈ wsX6_add := by decide +kernel
def f_X6_add (l1 : Int32) (u : XS) : Option (Int32 × XS) := ((f_X4_has l1 u).bind fun q_1 => (if q_1 = (0 : Int32) then some ((-1 : Int32), u) else (if (x_the u) = (0 : Int32) then some ((-2 : Int32), u) else (if (x_add u) < (12 : Int32) then ((f_X2_append l1 u).bind fun q_5 => some (q_5.1, q_5.2)) else some ((-3 : Int32), u)))))
set_option maxHeartbeats 4000000 in
set_option maxRecDepth 100000 in
theorem k_X6_add (l : Launch) (D : va_G) (ad : Nat → Nat) (cI cJ cR : ClassId) (u : XS) (l1 : Int32) (r1 : Int32) (u1 : XS) (hG : f_X6_add l1 u = some (r1, u1)) : Met l yX6_add wsX6_add ({ frames := 1, cells := 0, slots := 0, locals := 21 } : Room) (va_Pc [.ref (ad 0), .int l1] (XB D ad cI cJ cR u)) (va_Qi (S := XS) (fun r u2 => r = r1 ∧ u2 = u1) (XB D ad cI cJ cR) (AX ad)) 0 0 (AX ad) := by
  refine Met.ofW (cc := cX6_add) (maxL := 2) (ret := (some .int)) (by decide) rfl ?_
  intro p e s m args below meth c s₁ B hml hv
  obtain ⟨rfl, hP0, hK, hD0⟩ := hv
  have C : CallFix p m c cX6_add 2 s _ wsX6_add RX6 := ⟨B.exec, B.bytes, hml, findClass_of_methodNamed B.named, atoms_spec (ws := wsX6_add) B.pre⟩
  have hr := B.returns
  have hlocks := B.notSynchronized
  have hw : XW D ad cI cJ cR s.heap s.heap [] u := ⟨hP0, hD0, va_S.rf⟩
  refine en_W (Nat.le_of_ble_eq_true rfl) (fun ls hl => ?_)
  have hl : lv_has ls 2 [(0, .ref (ad 0)), (1, .int l1)] := hl
  unfold f_X6_add at hG
  refine lv_aload_n C.1 C.2.1 dX6_add_0 rfl (lv_at hl 0 rfl) ?_
  refine xg_0_1 C hK hw jX6_add_6 (List.mem_of_getElem? (i := 1) rfl) dX6_add_1 ?_
  refine lv_iload_n C.1 C.2.1 dX6_add_4 rfl (lv_at hl 1 rfl) ?_
  obtain ⟨q_1, hc_1, hG⟩ := ob hG
  try dsimp only at hG
  refine xcVi (As := [.int l1]) (rest := []) C hK hw (k_X4_has l D ad cI cJ cR u l1 q_1 hc_1) (cwV 1 C.2.2.2.2 gX6_add_X4_has rfl rfl rfl (by decide +kernel) ⟨Nat.le_of_ble_eq_true rfl, Nat.le_of_ble_eq_true rfl⟩) (va_recv hK hw.1 (ci := 4) (q0 := 6) rfl rfl) rfl hl.1 rfl (Nat.le_of_ble_eq_true rfl) dX6_add_5 (fun H locs hw => ?_)
  refine lv_if_ne (tgt := 13) C.1 C.2.1 dX6_add_8 (by decide) (fun (h_2 : ¬ q_1 = (0 : Int32)) => ?_) (fun (h_2 : q_1 = (0 : Int32)) => ?_)
  · replace hG := inn h_2 hG
    refine lv_aload_n C.1 C.2.1 dX6_add_13 rfl (lv_at hl 0 rfl) ?_
    refine xg_0_2 C hK hw jX6_add_6 (List.mem_of_getElem? (i := 2) rfl) dX6_add_14 ?_
    refine xg_9_3 C hK hw jX6_add_2 (List.mem_of_getElem? (i := 3) rfl) dX6_add_17 ?_
    refine lv_if_ne (tgt := 26) C.1 C.2.1 dX6_add_20 (by decide) (fun (h_3 : ¬ (x_the u) = (0 : Int32)) => ?_) (fun (h_3 : (x_the u) = (0 : Int32)) => ?_)
    · replace hG := inn h_3 hG
      refine lv_aload_n C.1 C.2.1 dX6_add_26 rfl (lv_at hl 0 rfl) ?_
      refine xg_0_2 C hK hw jX6_add_6 (List.mem_of_getElem? (i := 2) rfl) dX6_add_27 ?_
      refine xg_9_2 C hK hw jX6_add_2 (List.mem_of_getElem? (i := 4) rfl) dX6_add_30 ?_
      refine lv_bipush (v := 12) C.1 C.2.1 dX6_add_33 (by decide) ?_
      refine lv_icmp_lt (tgt := 41) C.1 C.2.1 dX6_add_35 (by decide) (fun (h_4 : (x_add u) < (12 : Int32)) => ?_) (fun (h_4 : ¬ (x_add u) < (12 : Int32)) => ?_)
      · replace hG := ip h_4 hG
        refine lv_aload_n C.1 C.2.1 dX6_add_41 rfl (lv_at hl 0 rfl) ?_
        refine xg_0_2 C hK hw jX6_add_6 (List.mem_of_getElem? (i := 2) rfl) dX6_add_42 ?_
        refine lv_iload_n C.1 C.2.1 dX6_add_45 rfl (lv_at hl 1 rfl) ?_
        obtain ⟨q_5, hc_5, hG⟩ := ob hG
        try dsimp only at hG
        refine xcVi (As := [.int l1]) (rest := []) C hK hw (k_X2_append l D ad cI cJ cR u l1 q_5.1 q_5.2 hc_5) (cwV 1 C.2.2.2.2 gX6_add_X2_append rfl rfl rfl (by decide +kernel) ⟨Nat.le_of_ble_eq_true rfl, Nat.le_of_ble_eq_true rfl⟩) (va_recv hK hw.1 (ci := 2) (q0 := 9) rfl rfl) rfl hl.1 rfl (Nat.le_of_ble_eq_true rfl) dX6_add_46 (fun H locs hw => ?_)
        exact xret_i C hlocks hK hw hr (ret2 hG) dX6_add_49
      · replace hG := inn h_4 hG
        refine lv_bipush (v := -3) C.1 C.2.1 dX6_add_38 (by decide) ?_
        exact xret_i C hlocks hK hw hr (ret2 hG) dX6_add_40
    · replace hG := ip h_3 hG
      refine lv_bipush (v := -2) C.1 C.2.1 dX6_add_23 (by decide) ?_
      exact xret_i C hlocks hK hw hr (ret2 hG) dX6_add_25
  · replace hG := ip h_2 hG
    refine lv_iconst (v := -1) C.1 C.2.1 dX6_add_11 (by decide) ?_
    exact xret_i C hlocks hK hw hr (ret2 hG) dX6_add_12
theorem jX6_digest_2 : ∀ w ∈ wsX20, w ∈ wsX6_digest := by decide +kernel
theorem jX6_digest_6 : ∀ w ∈ wsX60, w ∈ wsX6_digest := by decide +kernel
def f_X6_digest (u : XS) : Option Int64 := (if (x_the u) = (0 : Int32) then some (0 : Int64) else ((f_X1_computeDigest 0 u).bind fun q_2 => some q_2))
set_option maxHeartbeats 4000000 in
set_option maxRecDepth 100000 in
theorem k_X6_digest (l : Launch) (D : va_G) (ad : Nat → Nat) (cI cJ cR : ClassId) (u : XS) (r1 : Int64) (hG : f_X6_digest u = some r1) : Met l yX6_digest wsX6_digest ({ frames := 1, cells := 0, slots := 0, locals := 23 } : Room) (va_Pc [.ref (ad 0)] (XB D ad cI cJ cR u)) (va_Ql (S := XS) (fun r u2 => r = r1 ∧ u2 = u) (XB D ad cI cJ cR) (AX ad)) 0 0 (AX ad) := by
  refine Met.ofW (cc := cX6_digest) (maxL := 1) (ret := (some .long)) (by decide) rfl ?_
  intro p e s m args below meth c s₁ B hml hv
  obtain ⟨rfl, hP0, hK, hD0⟩ := hv
  have C : CallFix p m c cX6_digest 1 s _ wsX6_digest RX6 := ⟨B.exec, B.bytes, hml, findClass_of_methodNamed B.named, atoms_spec (ws := wsX6_digest) B.pre⟩
  have hr := B.returns
  have hlocks := B.notSynchronized
  have hw : XW D ad cI cJ cR s.heap s.heap [] u := ⟨hP0, hD0, va_S.rf⟩
  refine en_W (Nat.le_of_ble_eq_true rfl) (fun ls hl => ?_)
  have hl : lv_has ls 1 [(0, .ref (ad 0))] := hl
  unfold f_X6_digest at hG
  refine lv_aload_n C.1 C.2.1 dX6_digest_0 rfl (lv_at hl 0 rfl) ?_
  refine xg_0_2 C hK hw jX6_digest_6 (List.mem_of_getElem? (i := 1) rfl) dX6_digest_1 ?_
  refine xg_9_3 C hK hw jX6_digest_2 (List.mem_of_getElem? (i := 2) rfl) dX6_digest_4 ?_
  refine lv_if_eq (tgt := 23) C.1 C.2.1 dX6_digest_7 (by decide) (fun (h_1 : (x_the u) = (0 : Int32)) => ?_) (fun (h_1 : ¬ (x_the u) = (0 : Int32)) => ?_)
  · replace hG := ip h_1 hG
    refine lv_lconst (v := 0) C.1 C.2.1 dX6_digest_23 (by decide) ?_
    exact xret_l C hlocks hK hw hr (ret1 hG) dX6_digest_24
  · replace hG := inn h_1 hG
    refine lv_aload_n C.1 C.2.1 dX6_digest_10 rfl (lv_at hl 0 rfl) ?_
    refine xg_0_2 C hK hw jX6_digest_6 (List.mem_of_getElem? (i := 1) rfl) dX6_digest_11 ?_
    refine xg_9_0 C hK hw jX6_digest_2 (List.mem_of_getElem? (i := 3) rfl) dX6_digest_14 ?_
    obtain ⟨q_2, hc_2, hG⟩ := ob hG
    try dsimp only at hG
    refine xcVl (As := []) (rest := []) C hK hw (k_X1_computeDigest l D ad cI cJ cR u 0 q_2 hc_2) (cwV 0 C.2.2.2.2 gX6_digest_X1_computeDigest rfl rfl rfl (by decide +kernel) ⟨Nat.le_of_ble_eq_true rfl, Nat.le_of_ble_eq_true rfl⟩) (va_recv hK hw.1 (ci := 1) (q0 := 17 + 0) rfl (wX_c (by decide))) rfl hl.1 rfl (Nat.le_of_ble_eq_true rfl) dX6_digest_17 (fun H locs hw => ?_)
    refine lv_goto (tgt := 24) C.1 C.2.1 dX6_digest_20 (by decide) ?_
    exact xret_l C hlocks hK hw hr (ret1 hG) dX6_digest_24
theorem jX6_signersOfDraft_2 : ∀ w ∈ wsX20, w ∈ wsX6_signersOfDraft := by decide +kernel
theorem jX6_signersOfDraft_4 : ∀ w ∈ wsX40, w ∈ wsX6_signersOfDraft := by decide +kernel
theorem jX6_signersOfDraft_6 : ∀ w ∈ wsX60, w ∈ wsX6_signersOfDraft := by decide +kernel
def f_X6_signersOfDraft_16 : Nat → Int64 → Int32 → Int32 → XS → Option Int32
  | 0, _, _, _, _ => none
  | n + 1, l1, l3, l4, u => (if (x_add u) ≤ l4 then some l3 else (if inb l4 12 = true then (if inb ((x_dsg u) (Int32.toNatClampNeg l4)) 200 = true then (if ((x_sdg u) (Int32.toNatClampNeg ((x_dsg u) (Int32.toNatClampNeg l4)))) = l1 then (if inb ((x_dsg u) (Int32.toNatClampNeg l4)) 200 = true then (f_X6_signersOfDraft_16 n l1 (l3 ||| ((1 : Int32) <<< (((x_sky u) (Int32.toNatClampNeg ((x_dsg u) (Int32.toNatClampNeg l4)))) &&& 31))) (l4 + (1 : Int32)) u) else none) else (f_X6_signersOfDraft_16 n l1 l3 (l4 + (1 : Int32)) u)) else none) else none))
set_option maxHeartbeats 4000000 in
set_option maxRecDepth 100000 in
theorem kl_X6_signersOfDraft_16 {p : Program} {l : Launch} {e : Env} {s : State} {m : MethodId} {args : Array Value} {below : List Frame} {meth : Method} {c : Code} {D : va_G} {ad : Nat → Nat} {cI cJ cR : ClassId} (C : CallFix p m c cX6_signersOfDraft 6 s args wsX6_signersOfDraft RX6) (hr : meth.sig.returnType = (some .int)) (hlocks : meth.locks = false) (hK : va_K D vwCl (xT cI cJ cR) s) {r1 : Int32} : ∀ (n : Nat) (l1 : Int64) (l3 : Int32) (l4 : Int32) (u : XS) (H : Heap) (locs : List Loc) (ls : Array Slot), f_X6_signersOfDraft_16 n l1 l3 l4 u = some r1 → XW D ad cI cJ cR s.heap H locs u → lv_has ls 6 [(0, .ref (ad 0)), (1, .long l1), (3, .int l3), (4, .int l4)] → W p l e ({ frames := 1, cells := 0, slots := 0, locals := 23 } : Room) s m args below meth c H locs 0 0 (MQ below (va_Qi (S := XS) (fun r u2 => r = r1 ∧ u2 = u) (XB D ad cI cJ cR) (AX ad)) args s 0 0 (AX ad)) (F0 m 16 ls []) := by
  intro n
  induction n with
  | zero =>
    intro l1 l3 l4 u H locs ls hG
    exact ns hG
  | succ n ih =>
    intro l1 l3 l4 u H locs ls hG hw hl
    rw [f_X6_signersOfDraft_16] at hG
    refine lv_iload C.1 C.2.1 dX6_signersOfDraft_16 (lv_at hl 3 rfl) ?_
    refine lv_aload_n C.1 C.2.1 dX6_signersOfDraft_18 rfl (lv_at hl 0 rfl) ?_
    refine xg_0_2 C hK hw jX6_signersOfDraft_6 (List.mem_of_getElem? (i := 1) rfl) dX6_signersOfDraft_19 ?_
    refine xg_9_2 C hK hw jX6_signersOfDraft_2 (List.mem_of_getElem? (i := 3) rfl) dX6_signersOfDraft_22 ?_
    refine lv_icmp_ge (tgt := 76) C.1 C.2.1 dX6_signersOfDraft_25 (by decide) (fun (h_2 : (x_add u) ≤ l4) => ?_) (fun (h_2 : ¬ (x_add u) ≤ l4) => ?_)
    · replace hG := ip h_2 hG
      refine lv_iload_n C.1 C.2.1 dX6_signersOfDraft_76 rfl (lv_at hl 2 rfl) ?_
      exact xret_i C hlocks hK hw hr (ret1 hG) dX6_signersOfDraft_77
    · replace hG := inn h_2 hG
      refine lv_aload_n C.1 C.2.1 dX6_signersOfDraft_28 rfl (lv_at hl 0 rfl) ?_
      refine xg_0_2 C hK hw jX6_signersOfDraft_6 (List.mem_of_getElem? (i := 1) rfl) dX6_signersOfDraft_29 ?_
      refine xg_9_1 C hK hw jX6_signersOfDraft_2 (List.mem_of_getElem? (i := 4) rfl) dX6_signersOfDraft_32 ?_
      refine lv_iload C.1 C.2.1 dX6_signersOfDraft_35 (lv_at hl 3 rfl) ?_
      obtain ⟨h_3, hG⟩ := og hG
      refine xl_10 C hK hw h_3 dX6_signersOfDraft_37 ?_
      refine lv_istore (lv' := [(5, .int ((x_dsg u) (Int32.toNatClampNeg l4))), (0, .ref (ad 0)), (1, .long l1), (3, .int l3), (4, .int l4)]) C.1 C.2.1 dX6_signersOfDraft_38 hl (by decide) rfl (fun ls hl => ?_)
      refine lv_aload_n C.1 C.2.1 dX6_signersOfDraft_40 rfl (lv_at hl 1 rfl) ?_
      refine xg_0_1 C hK hw jX6_signersOfDraft_6 (List.mem_of_getElem? (i := 5) rfl) dX6_signersOfDraft_41 ?_
      refine xg_6_1 C hK hw jX6_signersOfDraft_4 (List.mem_of_getElem? (i := 6) rfl) dX6_signersOfDraft_44 ?_
      refine lv_iload C.1 C.2.1 dX6_signersOfDraft_47 (lv_at hl 0 rfl) ?_
      obtain ⟨h_4, hG⟩ := og hG
      refine xl_8 C hK hw h_4 dX6_signersOfDraft_49 ?_
      refine lv_lload_n C.1 C.2.1 dX6_signersOfDraft_50 rfl (lv_at hl 2 rfl) ?_
      refine W.lcmp C.1 C.2.1 dX6_signersOfDraft_51 ?_
      refine lv_if_ne (tgt := 70) C.1 C.2.1 dX6_signersOfDraft_52 (by decide) (fun hz => ?_) (fun hz => ?_)
      · have h_5 : ¬ ((x_sdg u) (Int32.toNatClampNeg ((x_dsg u) (Int32.toNatClampNeg l4)))) = l1 := fun qz => hz ((lg_cmp_eq _ _).mpr qz)
        replace hG := inn h_5 hG
        refine lv_iinc (v := (l4 + (1 : Int32))) (lv' := [(4, .int (l4 + (1 : Int32))), (5, .int ((x_dsg u) (Int32.toNatClampNeg l4))), (0, .ref (ad 0)), (1, .long l1), (3, .int l3)]) C.1 C.2.1 dX6_signersOfDraft_70 hl (k := 4) rfl rfl (by decide) rfl (fun ls hl => ?_)
        refine lv_goto (tgt := 16) C.1 C.2.1 dX6_signersOfDraft_73 (by decide) ?_
        exact ih l1 l3 (l4 + (1 : Int32)) u _ _ _ hG hw (lv_sub hl [2, 3, 4, 0] rfl)
      · have h_5 : ((x_sdg u) (Int32.toNatClampNeg ((x_dsg u) (Int32.toNatClampNeg l4)))) = l1 := (lg_cmp_eq _ _).mp hz
        replace hG := ip h_5 hG
        refine lv_iload_n C.1 C.2.1 dX6_signersOfDraft_55 rfl (lv_at hl 3 rfl) ?_
        refine lv_iconst (v := 1) C.1 C.2.1 dX6_signersOfDraft_56 (by decide) ?_
        refine lv_aload_n C.1 C.2.1 dX6_signersOfDraft_57 rfl (lv_at hl 1 rfl) ?_
        refine xg_0_1 C hK hw jX6_signersOfDraft_6 (List.mem_of_getElem? (i := 5) rfl) dX6_signersOfDraft_58 ?_
        refine xg_6_0 C hK hw jX6_signersOfDraft_4 (List.mem_of_getElem? (i := 7) rfl) dX6_signersOfDraft_61 ?_
        refine lv_iload C.1 C.2.1 dX6_signersOfDraft_64 (lv_at hl 0 rfl) ?_
        obtain ⟨h_6, hG⟩ := og hG
        refine xl_7 C hK hw h_6 dX6_signersOfDraft_66 ?_
        refine lv_ishl C.1 C.2.1 dX6_signersOfDraft_67 ?_
        refine lv_ior C.1 C.2.1 dX6_signersOfDraft_68 ?_
        refine lv_istore_n (lv' := [(3, .int (l3 ||| ((1 : Int32) <<< (((x_sky u) (Int32.toNatClampNeg ((x_dsg u) (Int32.toNatClampNeg l4)))) &&& 31)))), (5, .int ((x_dsg u) (Int32.toNatClampNeg l4))), (0, .ref (ad 0)), (1, .long l1), (4, .int l4)]) C.1 C.2.1 dX6_signersOfDraft_69 rfl hl (by decide) rfl (fun ls hl => ?_)
        refine lv_iinc (v := (l4 + (1 : Int32))) (lv' := [(4, .int (l4 + (1 : Int32))), (3, .int (l3 ||| ((1 : Int32) <<< (((x_sky u) (Int32.toNatClampNeg ((x_dsg u) (Int32.toNatClampNeg l4)))) &&& 31)))), (5, .int ((x_dsg u) (Int32.toNatClampNeg l4))), (0, .ref (ad 0)), (1, .long l1)]) C.1 C.2.1 dX6_signersOfDraft_70 hl (k := 4) rfl rfl (by decide) rfl (fun ls hl => ?_)
        refine lv_goto (tgt := 16) C.1 C.2.1 dX6_signersOfDraft_73 (by decide) ?_
        exact ih l1 (l3 ||| ((1 : Int32) <<< (((x_sky u) (Int32.toNatClampNeg ((x_dsg u) (Int32.toNatClampNeg l4)))) &&& 31))) (l4 + (1 : Int32)) u _ _ _ hG hw (lv_sub hl [3, 4, 1, 0] rfl)
def f_X6_signersOfDraft (u : XS) : Option Int32 := ((f_X1_computeDigest 0 u).bind fun q_1 => (f_X6_signersOfDraft_16 1000 q_1 (0 : Int32) (0 : Int32) u))
set_option maxHeartbeats 4000000 in
set_option maxRecDepth 100000 in
theorem k_X6_signersOfDraft (l : Launch) (D : va_G) (ad : Nat → Nat) (cI cJ cR : ClassId) (u : XS) (r1 : Int32) (hG : f_X6_signersOfDraft u = some r1) : Met l yX6_signersOfDraft wsX6_signersOfDraft ({ frames := 1, cells := 0, slots := 0, locals := 23 } : Room) (va_Pc [.ref (ad 0)] (XB D ad cI cJ cR u)) (va_Qi (S := XS) (fun r u2 => r = r1 ∧ u2 = u) (XB D ad cI cJ cR) (AX ad)) 0 0 (AX ad) := by
  refine Met.ofW (cc := cX6_signersOfDraft) (maxL := 6) (ret := (some .int)) (by decide) rfl ?_
  intro p e s m args below meth c s₁ B hml hv
  obtain ⟨rfl, hP0, hK, hD0⟩ := hv
  have C : CallFix p m c cX6_signersOfDraft 6 s _ wsX6_signersOfDraft RX6 := ⟨B.exec, B.bytes, hml, findClass_of_methodNamed B.named, atoms_spec (ws := wsX6_signersOfDraft) B.pre⟩
  have hr := B.returns
  have hlocks := B.notSynchronized
  have hw : XW D ad cI cJ cR s.heap s.heap [] u := ⟨hP0, hD0, va_S.rf⟩
  refine en_W (Nat.le_of_ble_eq_true rfl) (fun ls hl => ?_)
  have hl : lv_has ls 6 [(0, .ref (ad 0))] := hl
  unfold f_X6_signersOfDraft at hG
  refine lv_aload_n C.1 C.2.1 dX6_signersOfDraft_0 rfl (lv_at hl 0 rfl) ?_
  refine xg_0_2 C hK hw jX6_signersOfDraft_6 (List.mem_of_getElem? (i := 1) rfl) dX6_signersOfDraft_1 ?_
  refine xg_9_0 C hK hw jX6_signersOfDraft_2 (List.mem_of_getElem? (i := 2) rfl) dX6_signersOfDraft_4 ?_
  obtain ⟨q_1, hc_1, hG⟩ := ob hG
  try dsimp only at hG
  refine xcVl (As := []) (rest := []) C hK hw (k_X1_computeDigest l D ad cI cJ cR u 0 q_1 hc_1) (cwV 0 C.2.2.2.2 gX6_signersOfDraft_X1_computeDigest rfl rfl rfl (by decide +kernel) ⟨Nat.le_of_ble_eq_true rfl, Nat.le_of_ble_eq_true rfl⟩) (va_recv hK hw.1 (ci := 1) (q0 := 17 + 0) rfl (wX_c (by decide))) rfl hl.1 rfl (Nat.le_of_ble_eq_true rfl) dX6_signersOfDraft_7 (fun H locs hw => ?_)
  refine lv_lstore_n (lv' := [(1, .long q_1), (0, .ref (ad 0))]) C.1 C.2.1 dX6_signersOfDraft_10 rfl hl (by decide) rfl (fun ls hl => ?_)
  refine lv_iconst (v := 0) C.1 C.2.1 dX6_signersOfDraft_11 (by decide) ?_
  refine lv_istore_n (lv' := [(3, .int (0 : Int32)), (1, .long q_1), (0, .ref (ad 0))]) C.1 C.2.1 dX6_signersOfDraft_12 rfl hl (by decide) rfl (fun ls hl => ?_)
  refine lv_iconst (v := 0) C.1 C.2.1 dX6_signersOfDraft_13 (by decide) ?_
  refine lv_istore (lv' := [(4, .int (0 : Int32)), (3, .int (0 : Int32)), (1, .long q_1), (0, .ref (ad 0))]) C.1 C.2.1 dX6_signersOfDraft_14 hl (by decide) rfl (fun ls hl => ?_)
  exact kl_X6_signersOfDraft_16 C hr hlocks hK 1000 q_1 (0 : Int32) (0 : Int32) u _ _ _ hG hw (lv_sub hl [3, 2, 1, 0] rfl)
theorem jX6_coversStake_0 : ∀ w ∈ wsX00, w ∈ wsX6_coversStake := by decide +kernel
theorem jX6_coversStake_6 : ∀ w ∈ wsX60, w ∈ wsX6_coversStake := by decide +kernel
def f_X6_coversStake (l1 : Nat) (u : XS) : Option Int32 := (if l1 < 25 then ((f_X1_payer l1 u).bind fun q_1 => (if inb q_1 12 = true then ((f_X1_stake l1 u).bind fun q_3 => (if ((x_fun u) (Int32.toNatClampNeg q_1)) < q_3 then some (0 : Int32) else some (1 : Int32))) else none)) else none)
set_option maxHeartbeats 4000000 in
set_option maxRecDepth 100000 in
theorem k_X6_coversStake (l : Launch) (D : va_G) (ad : Nat → Nat) (cI cJ cR : ClassId) (u : XS) (l1 : Nat) (r1 : Int32) (hG : f_X6_coversStake l1 u = some r1) : Met l yX6_coversStake wsX6_coversStake ({ frames := 1, cells := 0, slots := 0, locals := 20 } : Room) (va_Pc [.ref (ad 0), .ref (ad (17 + l1))] (XB D ad cI cJ cR u)) (va_Qi (S := XS) (fun r u2 => r = r1 ∧ u2 = u) (XB D ad cI cJ cR) (AX ad)) 0 0 (AX ad) := by
  refine Met.ofW (cc := cX6_coversStake) (maxL := 2) (ret := (some .boolean)) (by decide) rfl ?_
  intro p e s m args below meth c s₁ B hml hv
  obtain ⟨rfl, hP0, hK, hD0⟩ := hv
  have C : CallFix p m c cX6_coversStake 2 s _ wsX6_coversStake RX6 := ⟨B.exec, B.bytes, hml, findClass_of_methodNamed B.named, atoms_spec (ws := wsX6_coversStake) B.pre⟩
  have hr := B.returns
  have hlocks := B.notSynchronized
  have hw : XW D ad cI cJ cR s.heap s.heap [] u := ⟨hP0, hD0, va_S.rf⟩
  refine en_W (Nat.le_of_ble_eq_true rfl) (fun ls hl => ?_)
  have hl : lv_has ls 2 [(0, .ref (ad 0)), (1, .ref (ad (17 + l1)))] := hl
  unfold f_X6_coversStake at hG
  obtain ⟨hq_l1, hG⟩ := ot hG
  refine lv_aload_n C.1 C.2.1 dX6_coversStake_0 rfl (lv_at hl 0 rfl) ?_
  refine xg_0_0 C hK hw jX6_coversStake_6 (List.mem_of_getElem? (i := 1) rfl) dX6_coversStake_1 ?_
  refine xg_1_0 C hK hw jX6_coversStake_0 (List.mem_of_getElem? (i := 2) rfl) dX6_coversStake_4 ?_
  refine lv_aload_n C.1 C.2.1 dX6_coversStake_7 rfl (lv_at hl 1 rfl) ?_
  obtain ⟨q_1, hc_1, hG⟩ := ob hG
  try dsimp only at hG
  refine xcVi (As := []) (rest := [.ref (ad 2)]) C hK hw (k_X1_payer l D ad cI cJ cR u l1 q_1 hc_1) (cwV 0 C.2.2.2.2 gX6_coversStake_X1_payer rfl rfl rfl (by decide +kernel) ⟨Nat.le_of_ble_eq_true rfl, Nat.le_of_ble_eq_true rfl⟩) (va_recv hK hw.1 (ci := 1) (q0 := 17 + l1) rfl (wX_c hq_l1)) rfl hl.1 rfl (Nat.le_of_ble_eq_true rfl) dX6_coversStake_8 (fun H locs hw => ?_)
  obtain ⟨h_2, hG⟩ := og hG
  refine xl_2 C hK hw h_2 dX6_coversStake_11 ?_
  refine lv_aload_n C.1 C.2.1 dX6_coversStake_12 rfl (lv_at hl 1 rfl) ?_
  obtain ⟨q_3, hc_3, hG⟩ := ob hG
  try dsimp only at hG
  refine xcVl (As := []) (rest := [.long ((x_fun u) (Int32.toNatClampNeg q_1))]) C hK hw (k_X1_stake l D ad cI cJ cR u l1 q_3 hc_3) (cwV 0 C.2.2.2.2 gX6_coversStake_X1_stake rfl rfl rfl (by decide +kernel) ⟨Nat.le_of_ble_eq_true rfl, Nat.le_of_ble_eq_true rfl⟩) (va_recv hK hw.1 (ci := 1) (q0 := 17 + l1) rfl (wX_c hq_l1)) rfl hl.1 rfl (Nat.le_of_ble_eq_true rfl) dX6_coversStake_13 (fun H locs hw => ?_)
  refine W.lcmp C.1 C.2.1 dX6_coversStake_16 ?_
  refine lv_if_lt (tgt := 24) C.1 C.2.1 dX6_coversStake_17 (by decide) (fun hz => ?_) (fun hz => ?_)
  · have h_4 : ((x_fun u) (Int32.toNatClampNeg q_1)) < q_3 := (lg_cmp_lt _ _).mp hz
    replace hG := ip h_4 hG
    refine lv_iconst (v := 0) C.1 C.2.1 dX6_coversStake_24 (by decide) ?_
    exact xret_z C hlocks hK hw hr rfl (ret1 hG) dX6_coversStake_25
  · have h_4 : ¬ ((x_fun u) (Int32.toNatClampNeg q_1)) < q_3 := fun qz => hz ((lg_cmp_lt _ _).mpr qz)
    replace hG := inn h_4 hG
    refine lv_iconst (v := 1) C.1 C.2.1 dX6_coversStake_20 (by decide) ?_
    refine lv_goto (tgt := 25) C.1 C.2.1 dX6_coversStake_21 (by decide) ?_
    exact xret_z C hlocks hK hw hr rfl (ret1 hG) dX6_coversStake_25
