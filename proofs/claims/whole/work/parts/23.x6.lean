theorem jX6_refusalByRow_1 : ∀ w ∈ wsX10, w ∈ wsX6_refusalByRow := by decide +kernel
theorem jX6_refusalByRow_5 : ∀ w ∈ wsX50, w ∈ wsX6_refusalByRow := by decide +kernel
theorem jX6_refusalByRow_6 : ∀ w ∈ wsX60, w ∈ wsX6_refusalByRow := by decide +kernel
def f_X6_refusalByRow (l1 : Nat) (l2 : Int32) (u : XS) : Option Int32 := (if l1 < 25 then (if l2 = (-1 : Int32) then ((f_X5_isFull u).bind fun q_2 => (if q_2 = (0 : Int32) then some (0 : Int32) else ((f_X5_cheapest u).bind fun q_4 => (if inb q_4 24 = true then (if ((x_row u) (Int32.toNatClampNeg q_4)) < 25 then (if ((x_cf u) 5 ((x_row u) (Int32.toNatClampNeg q_4))) < ((x_cf u) 5 l1) then some (0 : Int32) else some (8 : Int32)) else none) else none)))) else (if inb l2 24 = true then (if ((x_row u) (Int32.toNatClampNeg l2)) < 25 then (if (((x_cf u) 5 ((x_row u) (Int32.toNatClampNeg l2))) + (x_stp u)) ≤ ((x_cf u) 5 l1) then some (0 : Int32) else some (7 : Int32)) else none) else none)) else none)
set_option maxHeartbeats 4000000 in
set_option maxRecDepth 100000 in
theorem k_X6_refusalByRow (l : Launch) (D : va_G) (ad : Nat → Nat) (cI cJ cR : ClassId) (u : XS) (l1 : Nat) (l2 : Int32) (r1 : Int32) (hG : f_X6_refusalByRow l1 l2 u = some r1) : Met l yX6_refusalByRow wsX6_refusalByRow ({ frames := 1, cells := 0, slots := 0, locals := 22 } : Room) (va_Pc [.ref (ad 0), .ref (ad (17 + l1)), .int l2] (XB D ad cI cJ cR u)) (va_Qi (S := XS) (fun r u2 => r = r1 ∧ u2 = u) (XB D ad cI cJ cR) (AX ad)) 0 0 (AX ad) := by
  refine Met.ofW (cc := cX6_refusalByRow) (maxL := 3) (ret := (some .int)) (by decide) rfl ?_
  intro p e s m args below meth c s₁ B hml hv
  obtain ⟨rfl, hP0, hK, hD0⟩ := hv
  have C : CallFix p m c cX6_refusalByRow 3 s _ wsX6_refusalByRow RX6 := ⟨B.exec, B.bytes, hml, findClass_of_methodNamed B.named, atoms_spec (ws := wsX6_refusalByRow) B.pre⟩
  have hr := B.returns
  have hlocks := B.notSynchronized
  have hw : XW D ad cI cJ cR s.heap s.heap [] u := ⟨hP0, hD0, va_S.rf⟩
  refine en_W (Nat.le_of_ble_eq_true rfl) (fun ls hl => ?_)
  have hl : lv_has ls 3 [(0, .ref (ad 0)), (1, .ref (ad (17 + l1))), (2, .int l2)] := hl
  unfold f_X6_refusalByRow at hG
  obtain ⟨hq_l1, hG⟩ := ot hG
  refine lv_iload_n C.1 C.2.1 dX6_refusalByRow_0 rfl (lv_at hl 2 rfl) ?_
  refine lv_iconst (v := -1) C.1 C.2.1 dX6_refusalByRow_1 (by decide) ?_
  refine lv_icmp_eq (tgt := 36) C.1 C.2.1 dX6_refusalByRow_2 (by decide) (fun (h_1 : l2 = (-1 : Int32)) => ?_) (fun (h_1 : ¬ l2 = (-1 : Int32)) => ?_)
  · replace hG := ip h_1 hG
    refine lv_aload_n C.1 C.2.1 dX6_refusalByRow_36 rfl (lv_at hl 0 rfl) ?_
    refine xg_0_3 C hK hw jX6_refusalByRow_6 (List.mem_of_getElem? (i := 2) rfl) dX6_refusalByRow_37 ?_
    obtain ⟨q_2, hc_2, hG⟩ := ob hG
    try dsimp only at hG
    refine xcVi (As := []) (rest := []) C hK hw (k_X5_isFull l D ad cI cJ cR u q_2 hc_2) (cwV 0 C.2.2.2.2 gX6_refusalByRow_X5_isFull rfl rfl rfl (by decide +kernel) ⟨Nat.le_of_ble_eq_true rfl, Nat.le_of_ble_eq_true rfl⟩) (va_recv hK hw.1 (ci := 5) (q0 := 11) rfl rfl) rfl hl.1 rfl (Nat.le_of_ble_eq_true rfl) dX6_refusalByRow_40 (fun H locs hw => ?_)
    refine lv_if_eq (tgt := 74) C.1 C.2.1 dX6_refusalByRow_43 (by decide) (fun (h_3 : q_2 = (0 : Int32)) => ?_) (fun (h_3 : ¬ q_2 = (0 : Int32)) => ?_)
    · replace hG := ip h_3 hG
      refine lv_iconst (v := 0) C.1 C.2.1 dX6_refusalByRow_74 (by decide) ?_
      exact xret_i C hlocks hK hw hr (ret1 hG) dX6_refusalByRow_75
    · replace hG := inn h_3 hG
      refine lv_aload_n C.1 C.2.1 dX6_refusalByRow_46 rfl (lv_at hl 1 rfl) ?_
      refine xgc_5 (q := l1) C hK hw hq_l1 jX6_refusalByRow_1 (List.mem_of_getElem? (i := 1) rfl) dX6_refusalByRow_47 ?_
      refine lv_aload_n C.1 C.2.1 dX6_refusalByRow_50 rfl (lv_at hl 0 rfl) ?_
      refine xg_0_3 C hK hw jX6_refusalByRow_6 (List.mem_of_getElem? (i := 2) rfl) dX6_refusalByRow_51 ?_
      refine xg_11_0 C hK hw jX6_refusalByRow_5 (List.mem_of_getElem? (i := 3) rfl) dX6_refusalByRow_54 ?_
      refine lv_aload_n C.1 C.2.1 dX6_refusalByRow_57 rfl (lv_at hl 0 rfl) ?_
      refine xg_0_3 C hK hw jX6_refusalByRow_6 (List.mem_of_getElem? (i := 2) rfl) dX6_refusalByRow_58 ?_
      obtain ⟨q_4, hc_4, hG⟩ := ob hG
      try dsimp only at hG
      refine xcVi (As := []) (rest := [.ref (ad 12), .int ((x_cf u) 5 l1)]) C hK hw (k_X5_cheapest l D ad cI cJ cR u q_4 hc_4) (cwV 0 C.2.2.2.2 gX6_refusalByRow_X5_cheapest rfl rfl rfl (by decide +kernel) ⟨Nat.le_of_ble_eq_true rfl, Nat.le_of_ble_eq_true rfl⟩) (va_recv hK hw.1 (ci := 5) (q0 := 11) rfl rfl) rfl hl.1 rfl (Nat.le_of_ble_eq_true rfl) dX6_refusalByRow_61 (fun H locs hw => ?_)
      obtain ⟨h_5, hG⟩ := og hG
      refine xl_row C hK hw h_5 dX6_refusalByRow_64 ?_
      obtain ⟨h_6, hG⟩ := ot hG
      refine xgc_5 (q := ((x_row u) (Int32.toNatClampNeg q_4))) C hK hw h_6 jX6_refusalByRow_1 (List.mem_of_getElem? (i := 1) rfl) dX6_refusalByRow_65 ?_
      refine lv_icmp_gt (tgt := 74) C.1 C.2.1 dX6_refusalByRow_68 (by decide) (fun (h_7 : ((x_cf u) 5 ((x_row u) (Int32.toNatClampNeg q_4))) < ((x_cf u) 5 l1)) => ?_) (fun (h_7 : ¬ ((x_cf u) 5 ((x_row u) (Int32.toNatClampNeg q_4))) < ((x_cf u) 5 l1)) => ?_)
      · replace hG := ip h_7 hG
        refine lv_iconst (v := 0) C.1 C.2.1 dX6_refusalByRow_74 (by decide) ?_
        exact xret_i C hlocks hK hw hr (ret1 hG) dX6_refusalByRow_75
      · replace hG := inn h_7 hG
        refine lv_bipush (v := 8) C.1 C.2.1 dX6_refusalByRow_71 (by decide) ?_
        exact xret_i C hlocks hK hw hr (ret1 hG) dX6_refusalByRow_73
  · replace hG := inn h_1 hG
    refine lv_aload_n C.1 C.2.1 dX6_refusalByRow_5 rfl (lv_at hl 1 rfl) ?_
    refine xgc_5 (q := l1) C hK hw hq_l1 jX6_refusalByRow_1 (List.mem_of_getElem? (i := 1) rfl) dX6_refusalByRow_6 ?_
    refine lv_aload_n C.1 C.2.1 dX6_refusalByRow_9 rfl (lv_at hl 0 rfl) ?_
    refine xg_0_3 C hK hw jX6_refusalByRow_6 (List.mem_of_getElem? (i := 2) rfl) dX6_refusalByRow_10 ?_
    refine xg_11_0 C hK hw jX6_refusalByRow_5 (List.mem_of_getElem? (i := 3) rfl) dX6_refusalByRow_13 ?_
    refine lv_iload_n C.1 C.2.1 dX6_refusalByRow_16 rfl (lv_at hl 2 rfl) ?_
    obtain ⟨h_8, hG⟩ := og hG
    refine xl_row C hK hw h_8 dX6_refusalByRow_17 ?_
    obtain ⟨h_9, hG⟩ := ot hG
    refine xgc_5 (q := ((x_row u) (Int32.toNatClampNeg l2))) C hK hw h_9 jX6_refusalByRow_1 (List.mem_of_getElem? (i := 1) rfl) dX6_refusalByRow_18 ?_
    refine lv_aload_n C.1 C.2.1 dX6_refusalByRow_21 rfl (lv_at hl 0 rfl) ?_
    refine xg_0_5 C hK hw jX6_refusalByRow_6 (List.mem_of_getElem? (i := 4) rfl) dX6_refusalByRow_22 ?_
    refine lv_iadd C.1 C.2.1 dX6_refusalByRow_25 ?_
    refine lv_icmp_ge (tgt := 34) C.1 C.2.1 dX6_refusalByRow_26 (by decide) (fun (h_10 : (((x_cf u) 5 ((x_row u) (Int32.toNatClampNeg l2))) + (x_stp u)) ≤ ((x_cf u) 5 l1)) => ?_) (fun (h_10 : ¬ (((x_cf u) 5 ((x_row u) (Int32.toNatClampNeg l2))) + (x_stp u)) ≤ ((x_cf u) 5 l1)) => ?_)
    · replace hG := ip h_10 hG
      refine lv_iconst (v := 0) C.1 C.2.1 dX6_refusalByRow_34 (by decide) ?_
      exact xret_i C hlocks hK hw hr (ret1 hG) dX6_refusalByRow_35
    · replace hG := inn h_10 hG
      refine lv_bipush (v := 7) C.1 C.2.1 dX6_refusalByRow_29 (by decide) ?_
      refine lv_goto (tgt := 35) C.1 C.2.1 dX6_refusalByRow_31 (by decide) ?_
      exact xret_i C hlocks hK hw hr (ret1 hG) dX6_refusalByRow_35
theorem jX6_refusal_0 : ∀ w ∈ wsX00, w ∈ wsX6_refusal := by decide +kernel
theorem jX6_refusal_1 : ∀ w ∈ wsX10, w ∈ wsX6_refusal := by decide +kernel
theorem jX6_refusal_6 : ∀ w ∈ wsX60, w ∈ wsX6_refusal := by decide +kernel
def f_X6_refusal (l1 : Nat) (l2 : Int32) (u : XS) : Option Int32 := (if l1 < 25 then (if ((x_cf u) 2 l1) = (0 : Int32) then some (1 : Int32) else (if (x_hgt u) ≤ ((x_cf u) 7 l1) then (if inb ((x_cf u) 3 l1) 12 = true then (if ((x_nxt u) (Int32.toNatClampNeg ((x_cf u) 3 l1))) ≤ ((x_cf u) 4 l1) then ((f_X6_signersOfDraft u).bind fun q_5 => ((f_X0_isMet ((x_cf u) 3 l1) q_5 u).bind fun q_6 => (if q_6 = (0 : Int32) then some (4 : Int32) else (if ((x_cf u) 9 l1) = (-1 : Int32) then ((f_X6_coversStake l1 u).bind fun q_9 => (if q_9 = (0 : Int32) then some (6 : Int32) else ((f_X6_refusalByRow l1 l2 u).bind fun q_11 => some q_11))) else ((f_X0_isMet ((x_cf u) 9 l1) q_5 u).bind fun q_12 => (if q_12 = (0 : Int32) then some (5 : Int32) else ((f_X6_coversStake l1 u).bind fun q_14 => (if q_14 = (0 : Int32) then some (6 : Int32) else ((f_X6_refusalByRow l1 l2 u).bind fun q_16 => some q_16))))))))) else some (3 : Int32)) else none) else some (2 : Int32))) else none)
set_option maxHeartbeats 4000000 in
set_option maxRecDepth 100000 in
theorem k_X6_refusal (l : Launch) (D : va_G) (ad : Nat → Nat) (cI cJ cR : ClassId) (u : XS) (l1 : Nat) (l2 : Int32) (r1 : Int32) (hG : f_X6_refusal l1 l2 u = some r1) : Met l yX6_refusal wsX6_refusal ({ frames := 2, cells := 0, slots := 0, locals := 48 } : Room) (va_Pc [.ref (ad 0), .ref (ad (17 + l1)), .int l2] (XB D ad cI cJ cR u)) (va_Qi (S := XS) (fun r u2 => r = r1 ∧ u2 = u) (XB D ad cI cJ cR) (AX ad)) 0 0 (AX ad) := by
  refine Met.ofW (cc := cX6_refusal) (maxL := 4) (ret := (some .int)) (by decide) rfl ?_
  intro p e s m args below meth c s₁ B hml hv
  obtain ⟨rfl, hP0, hK, hD0⟩ := hv
  have C : CallFix p m c cX6_refusal 4 s _ wsX6_refusal RX6 := ⟨B.exec, B.bytes, hml, findClass_of_methodNamed B.named, atoms_spec (ws := wsX6_refusal) B.pre⟩
  have hr := B.returns
  have hlocks := B.notSynchronized
  have hw : XW D ad cI cJ cR s.heap s.heap [] u := ⟨hP0, hD0, va_S.rf⟩
  refine en_W (Nat.le_of_ble_eq_true rfl) (fun ls hl => ?_)
  have hl : lv_has ls 4 [(0, .ref (ad 0)), (1, .ref (ad (17 + l1))), (2, .int l2)] := hl
  unfold f_X6_refusal at hG
  obtain ⟨hq_l1, hG⟩ := ot hG
  refine lv_aload_n C.1 C.2.1 dX6_refusal_0 rfl (lv_at hl 1 rfl) ?_
  refine xgc_2 (q := l1) C hK hw hq_l1 jX6_refusal_1 (List.mem_of_getElem? (i := 1) rfl) dX6_refusal_1 ?_
  refine lv_if_ne (tgt := 9) C.1 C.2.1 dX6_refusal_4 (by decide) (fun (h_1 : ¬ ((x_cf u) 2 l1) = (0 : Int32)) => ?_) (fun (h_1 : ((x_cf u) 2 l1) = (0 : Int32)) => ?_)
  · replace hG := inn h_1 hG
    refine lv_aload_n C.1 C.2.1 dX6_refusal_9 rfl (lv_at hl 1 rfl) ?_
    refine xgc_7 (q := l1) C hK hw hq_l1 jX6_refusal_1 (List.mem_of_getElem? (i := 2) rfl) dX6_refusal_10 ?_
    refine lv_aload_n C.1 C.2.1 dX6_refusal_13 rfl (lv_at hl 0 rfl) ?_
    refine xg_0_6 C hK hw jX6_refusal_6 (List.mem_of_getElem? (i := 3) rfl) dX6_refusal_14 ?_
    refine lv_icmp_ge (tgt := 22) C.1 C.2.1 dX6_refusal_17 (by decide) (fun (h_2 : (x_hgt u) ≤ ((x_cf u) 7 l1)) => ?_) (fun (h_2 : ¬ (x_hgt u) ≤ ((x_cf u) 7 l1)) => ?_)
    · replace hG := ip h_2 hG
      refine lv_aload_n C.1 C.2.1 dX6_refusal_22 rfl (lv_at hl 1 rfl) ?_
      refine xgc_4 (q := l1) C hK hw hq_l1 jX6_refusal_1 (List.mem_of_getElem? (i := 4) rfl) dX6_refusal_23 ?_
      refine lv_aload_n C.1 C.2.1 dX6_refusal_26 rfl (lv_at hl 0 rfl) ?_
      refine xg_0_0 C hK hw jX6_refusal_6 (List.mem_of_getElem? (i := 5) rfl) dX6_refusal_27 ?_
      refine xg_1_1 C hK hw jX6_refusal_0 (List.mem_of_getElem? (i := 6) rfl) dX6_refusal_30 ?_
      refine lv_aload_n C.1 C.2.1 dX6_refusal_33 rfl (lv_at hl 1 rfl) ?_
      refine xgc_3 (q := l1) C hK hw hq_l1 jX6_refusal_1 (List.mem_of_getElem? (i := 7) rfl) dX6_refusal_34 ?_
      obtain ⟨h_3, hG⟩ := og hG
      refine xl_3 C hK hw h_3 dX6_refusal_37 ?_
      refine lv_icmp_ge (tgt := 43) C.1 C.2.1 dX6_refusal_38 (by decide) (fun (h_4 : ((x_nxt u) (Int32.toNatClampNeg ((x_cf u) 3 l1))) ≤ ((x_cf u) 4 l1)) => ?_) (fun (h_4 : ¬ ((x_nxt u) (Int32.toNatClampNeg ((x_cf u) 3 l1))) ≤ ((x_cf u) 4 l1)) => ?_)
      · replace hG := ip h_4 hG
        refine lv_aload_n C.1 C.2.1 dX6_refusal_43 rfl (lv_at hl 0 rfl) ?_
        obtain ⟨q_5, hc_5, hG⟩ := ob hG
        try dsimp only at hG
        refine xcVi (As := []) (rest := []) C hK hw (k_X6_signersOfDraft l D ad cI cJ cR u q_5 hc_5) (cwV 0 C.2.2.2.2 gX6_refusal_X6_signersOfDraft rfl rfl rfl (by decide +kernel) ⟨Nat.le_of_ble_eq_true rfl, Nat.le_of_ble_eq_true rfl⟩) (va_recv hK hw.1 (ci := 6) (q0 := 0) rfl rfl) rfl hl.1 rfl (Nat.le_of_ble_eq_true rfl) dX6_refusal_44 (fun H locs hw => ?_)
        refine lv_istore_n (lv' := [(3, .int q_5), (0, .ref (ad 0)), (1, .ref (ad (17 + l1))), (2, .int l2)]) C.1 C.2.1 dX6_refusal_47 rfl hl (by decide) rfl (fun ls hl => ?_)
        refine lv_aload_n C.1 C.2.1 dX6_refusal_48 rfl (lv_at hl 1 rfl) ?_
        refine xg_0_0 C hK hw jX6_refusal_6 (List.mem_of_getElem? (i := 5) rfl) dX6_refusal_49 ?_
        refine lv_aload_n C.1 C.2.1 dX6_refusal_52 rfl (lv_at hl 2 rfl) ?_
        refine xgc_3 (q := l1) C hK hw hq_l1 jX6_refusal_1 (List.mem_of_getElem? (i := 7) rfl) dX6_refusal_53 ?_
        refine lv_iload_n C.1 C.2.1 dX6_refusal_56 rfl (lv_at hl 0 rfl) ?_
        obtain ⟨q_6, hc_6, hG⟩ := ob hG
        try dsimp only at hG
        refine xcVi (As := [.int ((x_cf u) 3 l1), .int q_5]) (rest := []) C hK hw (k_X0_isMet l D ad cI cJ cR u ((x_cf u) 3 l1) q_5 q_6 hc_6) (cwV 2 C.2.2.2.2 gX6_refusal_X0_isMet rfl rfl rfl (by decide +kernel) ⟨Nat.le_of_ble_eq_true rfl, Nat.le_of_ble_eq_true rfl⟩) (va_recv hK hw.1 (ci := 0) (q0 := 1) rfl rfl) rfl hl.1 rfl (Nat.le_of_ble_eq_true rfl) dX6_refusal_57 (fun H locs hw => ?_)
        refine lv_if_ne (tgt := 65) C.1 C.2.1 dX6_refusal_60 (by decide) (fun (h_7 : ¬ q_6 = (0 : Int32)) => ?_) (fun (h_7 : q_6 = (0 : Int32)) => ?_)
        · replace hG := inn h_7 hG
          refine lv_aload_n C.1 C.2.1 dX6_refusal_65 rfl (lv_at hl 2 rfl) ?_
          refine xgc_9 (q := l1) C hK hw hq_l1 jX6_refusal_1 (List.mem_of_getElem? (i := 8) rfl) dX6_refusal_66 ?_
          refine lv_iconst (v := -1) C.1 C.2.1 dX6_refusal_69 (by decide) ?_
          refine lv_icmp_eq (tgt := 90) C.1 C.2.1 dX6_refusal_70 (by decide) (fun (h_8 : ((x_cf u) 9 l1) = (-1 : Int32)) => ?_) (fun (h_8 : ¬ ((x_cf u) 9 l1) = (-1 : Int32)) => ?_)
          · replace hG := ip h_8 hG
            refine lv_aload_n C.1 C.2.1 dX6_refusal_90 rfl (lv_at hl 1 rfl) ?_
            refine lv_aload_n C.1 C.2.1 dX6_refusal_91 rfl (lv_at hl 2 rfl) ?_
            obtain ⟨q_9, hc_9, hG⟩ := ob hG
            try dsimp only at hG
            refine xcVi (As := [.ref (ad (17 + l1))]) (rest := []) C hK hw (k_X6_coversStake l D ad cI cJ cR u l1 q_9 hc_9) (cwV 1 C.2.2.2.2 gX6_refusal_X6_coversStake rfl rfl rfl (by decide +kernel) ⟨Nat.le_of_ble_eq_true rfl, Nat.le_of_ble_eq_true rfl⟩) (va_recv hK hw.1 (ci := 6) (q0 := 0) rfl rfl) rfl hl.1 rfl (Nat.le_of_ble_eq_true rfl) dX6_refusal_92 (fun H locs hw => ?_)
            refine lv_if_ne (tgt := 101) C.1 C.2.1 dX6_refusal_95 (by decide) (fun (h_10 : ¬ q_9 = (0 : Int32)) => ?_) (fun (h_10 : q_9 = (0 : Int32)) => ?_)
            · replace hG := inn h_10 hG
              refine lv_aload_n C.1 C.2.1 dX6_refusal_101 rfl (lv_at hl 1 rfl) ?_
              refine lv_aload_n C.1 C.2.1 dX6_refusal_102 rfl (lv_at hl 2 rfl) ?_
              refine lv_iload_n C.1 C.2.1 dX6_refusal_103 rfl (lv_at hl 3 rfl) ?_
              obtain ⟨q_11, hc_11, hG⟩ := ob hG
              try dsimp only at hG
              refine xcVi (As := [.ref (ad (17 + l1)), .int l2]) (rest := []) C hK hw (k_X6_refusalByRow l D ad cI cJ cR u l1 l2 q_11 hc_11) (cwV 2 C.2.2.2.2 gX6_refusal_X6_refusalByRow rfl rfl rfl (by decide +kernel) ⟨Nat.le_of_ble_eq_true rfl, Nat.le_of_ble_eq_true rfl⟩) (va_recv hK hw.1 (ci := 6) (q0 := 0) rfl rfl) rfl hl.1 rfl (Nat.le_of_ble_eq_true rfl) dX6_refusal_104 (fun H locs hw => ?_)
              exact xret_i C hlocks hK hw hr (ret1 hG) dX6_refusal_107
            · replace hG := ip h_10 hG
              refine lv_bipush (v := 6) C.1 C.2.1 dX6_refusal_98 (by decide) ?_
              exact xret_i C hlocks hK hw hr (ret1 hG) dX6_refusal_100
          · replace hG := inn h_8 hG
            refine lv_aload_n C.1 C.2.1 dX6_refusal_73 rfl (lv_at hl 1 rfl) ?_
            refine xg_0_0 C hK hw jX6_refusal_6 (List.mem_of_getElem? (i := 5) rfl) dX6_refusal_74 ?_
            refine lv_aload_n C.1 C.2.1 dX6_refusal_77 rfl (lv_at hl 2 rfl) ?_
            refine xgc_9 (q := l1) C hK hw hq_l1 jX6_refusal_1 (List.mem_of_getElem? (i := 8) rfl) dX6_refusal_78 ?_
            refine lv_iload_n C.1 C.2.1 dX6_refusal_81 rfl (lv_at hl 0 rfl) ?_
            obtain ⟨q_12, hc_12, hG⟩ := ob hG
            try dsimp only at hG
            refine xcVi (As := [.int ((x_cf u) 9 l1), .int q_5]) (rest := []) C hK hw (k_X0_isMet l D ad cI cJ cR u ((x_cf u) 9 l1) q_5 q_12 hc_12) (cwV 2 C.2.2.2.2 gX6_refusal_X0_isMet rfl rfl rfl (by decide +kernel) ⟨Nat.le_of_ble_eq_true rfl, Nat.le_of_ble_eq_true rfl⟩) (va_recv hK hw.1 (ci := 0) (q0 := 1) rfl rfl) rfl hl.1 rfl (Nat.le_of_ble_eq_true rfl) dX6_refusal_82 (fun H locs hw => ?_)
            refine lv_if_ne (tgt := 90) C.1 C.2.1 dX6_refusal_85 (by decide) (fun (h_13 : ¬ q_12 = (0 : Int32)) => ?_) (fun (h_13 : q_12 = (0 : Int32)) => ?_)
            · replace hG := inn h_13 hG
              refine lv_aload_n C.1 C.2.1 dX6_refusal_90 rfl (lv_at hl 1 rfl) ?_
              refine lv_aload_n C.1 C.2.1 dX6_refusal_91 rfl (lv_at hl 2 rfl) ?_
              obtain ⟨q_14, hc_14, hG⟩ := ob hG
              try dsimp only at hG
              refine xcVi (As := [.ref (ad (17 + l1))]) (rest := []) C hK hw (k_X6_coversStake l D ad cI cJ cR u l1 q_14 hc_14) (cwV 1 C.2.2.2.2 gX6_refusal_X6_coversStake rfl rfl rfl (by decide +kernel) ⟨Nat.le_of_ble_eq_true rfl, Nat.le_of_ble_eq_true rfl⟩) (va_recv hK hw.1 (ci := 6) (q0 := 0) rfl rfl) rfl hl.1 rfl (Nat.le_of_ble_eq_true rfl) dX6_refusal_92 (fun H locs hw => ?_)
              refine lv_if_ne (tgt := 101) C.1 C.2.1 dX6_refusal_95 (by decide) (fun (h_15 : ¬ q_14 = (0 : Int32)) => ?_) (fun (h_15 : q_14 = (0 : Int32)) => ?_)
              · replace hG := inn h_15 hG
                refine lv_aload_n C.1 C.2.1 dX6_refusal_101 rfl (lv_at hl 1 rfl) ?_
                refine lv_aload_n C.1 C.2.1 dX6_refusal_102 rfl (lv_at hl 2 rfl) ?_
                refine lv_iload_n C.1 C.2.1 dX6_refusal_103 rfl (lv_at hl 3 rfl) ?_
                obtain ⟨q_16, hc_16, hG⟩ := ob hG
                try dsimp only at hG
                refine xcVi (As := [.ref (ad (17 + l1)), .int l2]) (rest := []) C hK hw (k_X6_refusalByRow l D ad cI cJ cR u l1 l2 q_16 hc_16) (cwV 2 C.2.2.2.2 gX6_refusal_X6_refusalByRow rfl rfl rfl (by decide +kernel) ⟨Nat.le_of_ble_eq_true rfl, Nat.le_of_ble_eq_true rfl⟩) (va_recv hK hw.1 (ci := 6) (q0 := 0) rfl rfl) rfl hl.1 rfl (Nat.le_of_ble_eq_true rfl) dX6_refusal_104 (fun H locs hw => ?_)
                exact xret_i C hlocks hK hw hr (ret1 hG) dX6_refusal_107
              · replace hG := ip h_15 hG
                refine lv_bipush (v := 6) C.1 C.2.1 dX6_refusal_98 (by decide) ?_
                exact xret_i C hlocks hK hw hr (ret1 hG) dX6_refusal_100
            · replace hG := ip h_13 hG
              refine lv_iconst (v := 5) C.1 C.2.1 dX6_refusal_88 (by decide) ?_
              exact xret_i C hlocks hK hw hr (ret1 hG) dX6_refusal_89
        · replace hG := ip h_7 hG
          refine lv_iconst (v := 4) C.1 C.2.1 dX6_refusal_63 (by decide) ?_
          exact xret_i C hlocks hK hw hr (ret1 hG) dX6_refusal_64
      · replace hG := inn h_4 hG
        refine lv_iconst (v := 3) C.1 C.2.1 dX6_refusal_41 (by decide) ?_
        exact xret_i C hlocks hK hw hr (ret1 hG) dX6_refusal_42
    · replace hG := inn h_2 hG
      refine lv_iconst (v := 2) C.1 C.2.1 dX6_refusal_20 (by decide) ?_
      exact xret_i C hlocks hK hw hr (ret1 hG) dX6_refusal_21
  · replace hG := ip h_1 hG
    refine lv_iconst (v := 1) C.1 C.2.1 dX6_refusal_7 (by decide) ?_
    exact xret_i C hlocks hK hw hr (ret1 hG) dX6_refusal_8
theorem jX6_end_1 : ∀ w ∈ wsX10, w ∈ wsX6_end := by decide +kernel
theorem jX6_end_6 : ∀ w ∈ wsX60, w ∈ wsX6_end := by decide +kernel
def f_X6_end (l1 : Int32) (l2 : Int32) (u : XS) : Option XS := ((f_X5_take l1 u).bind fun q_1 => if q_1.1 < 25 then ((f_X3_note ((x_cf q_1.2) 10 q_1.1) l2 (0 : Int32) q_1.2).bind fun q_3 => some q_3) else none)
set_option maxHeartbeats 4000000 in
set_option maxRecDepth 100000 in
theorem k_X6_end (l : Launch) (D : va_G) (ad : Nat → Nat) (cI cJ cR : ClassId) (u : XS) (l1 : Int32) (l2 : Int32) (u1 : XS) (hG : f_X6_end l1 l2 u = some u1) : Met l yX6_end wsX6_end ({ frames := 2, cells := 0, slots := 0, locals := 44 } : Room) (va_Pc [.ref (ad 0), .int l1, .int l2] (XB D ad cI cJ cR u)) (va_Qv (S := XS) (fun u2 => u2 = u1) (XB D ad cI cJ cR) (AX ad)) 0 0 (AX ad) := by
  refine Met.ofW (cc := cX6_end) (maxL := 4) (ret := none) (by decide) rfl ?_
  intro p e s m args below meth c s₁ B hml hv
  obtain ⟨rfl, hP0, hK, hD0⟩ := hv
  have C : CallFix p m c cX6_end 4 s _ wsX6_end RX6 := ⟨B.exec, B.bytes, hml, findClass_of_methodNamed B.named, atoms_spec (ws := wsX6_end) B.pre⟩
  have hr := B.returns
  have hlocks := B.notSynchronized
  have hw : XW D ad cI cJ cR s.heap s.heap [] u := ⟨hP0, hD0, va_S.rf⟩
  refine en_W (Nat.le_of_ble_eq_true rfl) (fun ls hl => ?_)
  have hl : lv_has ls 4 [(0, .ref (ad 0)), (1, .int l1), (2, .int l2)] := hl
  unfold f_X6_end at hG
  refine lv_aload_n C.1 C.2.1 dX6_end_0 rfl (lv_at hl 0 rfl) ?_
  refine xg_0_3 C hK hw jX6_end_6 (List.mem_of_getElem? (i := 1) rfl) dX6_end_1 ?_
  refine lv_iload_n C.1 C.2.1 dX6_end_4 rfl (lv_at hl 1 rfl) ?_
  obtain ⟨q_1, hc_1, hG⟩ := ob hG
  try dsimp only at hG
  refine xcVq (As := [.int l1]) (rest := []) C hK hw (k_X5_take l D ad cI cJ cR u l1 q_1.1 q_1.2 hc_1) (cwV 1 C.2.2.2.2 gX6_end_X5_take rfl rfl rfl (by decide +kernel) ⟨Nat.le_of_ble_eq_true rfl, Nat.le_of_ble_eq_true rfl⟩) (va_recv hK hw.1 (ci := 5) (q0 := 11) rfl rfl) rfl hl.1 rfl (Nat.le_of_ble_eq_true rfl) dX6_end_5 (fun H locs hw => ?_)
  obtain ⟨h_2, hG⟩ := ot hG
  refine lv_astore_n (lv' := [(3, .ref (ad (17 + q_1.1))), (0, .ref (ad 0)), (1, .int l1), (2, .int l2)]) C.1 C.2.1 dX6_end_8 rfl hl (by decide) rfl (fun ls hl => ?_)
  refine lv_aload_n C.1 C.2.1 dX6_end_9 rfl (lv_at hl 1 rfl) ?_
  refine xg_0_4 C hK hw jX6_end_6 (List.mem_of_getElem? (i := 2) rfl) dX6_end_10 ?_
  refine lv_aload_n C.1 C.2.1 dX6_end_13 rfl (lv_at hl 0 rfl) ?_
  refine xgc_10 (q := q_1.1) C hK hw h_2 jX6_end_1 (List.mem_of_getElem? (i := 3) rfl) dX6_end_14 ?_
  refine lv_iload_n C.1 C.2.1 dX6_end_17 rfl (lv_at hl 3 rfl) ?_
  refine lv_iconst (v := 0) C.1 C.2.1 dX6_end_18 (by decide) ?_
  obtain ⟨q_3, hc_3, hG⟩ := ob hG
  try dsimp only at hG
  refine xcVv (As := [.int ((x_cf q_1.2) 10 q_1.1), .int l2, .int (0 : Int32)]) (rest := []) C hK hw (k_X3_note l D ad cI cJ cR q_1.2 ((x_cf q_1.2) 10 q_1.1) l2 (0 : Int32) q_3 hc_3) (cwV 3 C.2.2.2.2 gX6_end_X3_note rfl rfl rfl (by decide +kernel) ⟨Nat.le_of_ble_eq_true rfl, Nat.le_of_ble_eq_true rfl⟩) (va_recv hK hw.1 (ci := 3) (q0 := 13) rfl rfl) rfl hl.1 rfl (Nat.le_of_ble_eq_true rfl) dX6_end_19 (fun H locs hw => ?_)
  exact xret_v C hlocks hK hw hr (retv hG) dX6_end_22
theorem jX6_offer_1 : ∀ w ∈ wsX10, w ∈ wsX6_offer := by decide +kernel
theorem jX6_offer_2 : ∀ w ∈ wsX20, w ∈ wsX6_offer := by decide +kernel
theorem jX6_offer_6 : ∀ w ∈ wsX60, w ∈ wsX6_offer := by decide +kernel
def f_X6_offer (u : XS) : Option (Int32 × XS) := (if (x_the u) = (0 : Int32) then some ((-2 : Int32), u) else ((f_X5_indexOf ((x_cf u) 3 0) ((x_cf u) 4 0) u).bind fun q_2 => ((f_X6_refusal 0 q_2 u).bind fun q_3 => (if q_3 = (0 : Int32) then (if q_2 = (-1 : Int32) then ((f_X5_isFull u).bind fun q_6 => (if q_6 = (0 : Int32) then ((f_X5_append 0 u).bind fun q_8 => some (q_8.1, q_8.2)) else ((f_X5_cheapest u).bind fun q_9 => ((f_X6_end q_9 (4 : Int32) u).bind fun q_10 => ((f_X5_append 0 q_10).bind fun q_11 => some (q_11.1, q_11.2)))))) else ((f_X6_end q_2 (3 : Int32) u).bind fun q_12 => ((f_X5_append 0 q_12).bind fun q_13 => some (q_13.1, q_13.2)))) else some (((-10 : Int32) - q_3), u)))))
set_option maxHeartbeats 4000000 in
set_option maxRecDepth 100000 in
theorem k_X6_offer (l : Launch) (D : va_G) (ad : Nat → Nat) (cI cJ cR : ClassId) (u : XS) (r1 : Int32) (u1 : XS) (hG : f_X6_offer u = some (r1, u1)) : Met l yX6_offer wsX6_offer ({ frames := 3, cells := 0, slots := 0, locals := 71 } : Room) (va_Pc [.ref (ad 0)] (XB D ad cI cJ cR u)) (va_Qi (S := XS) (fun r u2 => r = r1 ∧ u2 = u1) (XB D ad cI cJ cR) (AX ad)) 0 0 (AX ad) := by
  refine Met.ofW (cc := cX6_offer) (maxL := 4) (ret := (some .int)) (by decide) rfl ?_
  intro p e s m args below meth c s₁ B hml hv
  obtain ⟨rfl, hP0, hK, hD0⟩ := hv
  have C : CallFix p m c cX6_offer 4 s _ wsX6_offer RX6 := ⟨B.exec, B.bytes, hml, findClass_of_methodNamed B.named, atoms_spec (ws := wsX6_offer) B.pre⟩
  have hr := B.returns
  have hlocks := B.notSynchronized
  have hw : XW D ad cI cJ cR s.heap s.heap [] u := ⟨hP0, hD0, va_S.rf⟩
  refine en_W (Nat.le_of_ble_eq_true rfl) (fun ls hl => ?_)
  have hl : lv_has ls 4 [(0, .ref (ad 0))] := hl
  unfold f_X6_offer at hG
  refine lv_aload_n C.1 C.2.1 dX6_offer_0 rfl (lv_at hl 0 rfl) ?_
  refine xg_0_2 C hK hw jX6_offer_6 (List.mem_of_getElem? (i := 1) rfl) dX6_offer_1 ?_
  refine xg_9_3 C hK hw jX6_offer_2 (List.mem_of_getElem? (i := 2) rfl) dX6_offer_4 ?_
  refine lv_if_ne (tgt := 13) C.1 C.2.1 dX6_offer_7 (by decide) (fun (h_1 : ¬ (x_the u) = (0 : Int32)) => ?_) (fun (h_1 : (x_the u) = (0 : Int32)) => ?_)
  · replace hG := inn h_1 hG
    refine lv_aload_n C.1 C.2.1 dX6_offer_13 rfl (lv_at hl 0 rfl) ?_
    refine xg_0_2 C hK hw jX6_offer_6 (List.mem_of_getElem? (i := 1) rfl) dX6_offer_14 ?_
    refine xg_9_0 C hK hw jX6_offer_2 (List.mem_of_getElem? (i := 3) rfl) dX6_offer_17 ?_
    refine lv_astore_n (lv' := [(1, .ref (ad (17 + 0))), (0, .ref (ad 0))]) C.1 C.2.1 dX6_offer_20 rfl hl (by decide) rfl (fun ls hl => ?_)
    refine lv_aload_n C.1 C.2.1 dX6_offer_21 rfl (lv_at hl 1 rfl) ?_
    refine xg_0_3 C hK hw jX6_offer_6 (List.mem_of_getElem? (i := 4) rfl) dX6_offer_22 ?_
    refine lv_aload_n C.1 C.2.1 dX6_offer_25 rfl (lv_at hl 0 rfl) ?_
    refine xgc_3 (q := 0) C hK hw (by decide) jX6_offer_1 (List.mem_of_getElem? (i := 5) rfl) dX6_offer_26 ?_
    refine lv_aload_n C.1 C.2.1 dX6_offer_29 rfl (lv_at hl 0 rfl) ?_
    refine xgc_4 (q := 0) C hK hw (by decide) jX6_offer_1 (List.mem_of_getElem? (i := 6) rfl) dX6_offer_30 ?_
    obtain ⟨q_2, hc_2, hG⟩ := ob hG
    try dsimp only at hG
    refine xcVi (As := [.int ((x_cf u) 3 0), .int ((x_cf u) 4 0)]) (rest := []) C hK hw (k_X5_indexOf l D ad cI cJ cR u ((x_cf u) 3 0) ((x_cf u) 4 0) q_2 hc_2) (cwV 2 C.2.2.2.2 gX6_offer_X5_indexOf rfl rfl rfl (by decide +kernel) ⟨Nat.le_of_ble_eq_true rfl, Nat.le_of_ble_eq_true rfl⟩) (va_recv hK hw.1 (ci := 5) (q0 := 11) rfl rfl) rfl hl.1 rfl (Nat.le_of_ble_eq_true rfl) dX6_offer_33 (fun H locs hw => ?_)
    refine lv_istore_n (lv' := [(2, .int q_2), (1, .ref (ad (17 + 0))), (0, .ref (ad 0))]) C.1 C.2.1 dX6_offer_36 rfl hl (by decide) rfl (fun ls hl => ?_)
    refine lv_aload_n C.1 C.2.1 dX6_offer_37 rfl (lv_at hl 2 rfl) ?_
    refine lv_aload_n C.1 C.2.1 dX6_offer_38 rfl (lv_at hl 1 rfl) ?_
    refine lv_iload_n C.1 C.2.1 dX6_offer_39 rfl (lv_at hl 0 rfl) ?_
    obtain ⟨q_3, hc_3, hG⟩ := ob hG
    try dsimp only at hG
    refine xcVi (As := [.ref (ad (17 + 0)), .int q_2]) (rest := []) C hK hw (k_X6_refusal l D ad cI cJ cR u 0 q_2 q_3 hc_3) (cwV 2 C.2.2.2.2 gX6_offer_X6_refusal rfl rfl rfl (by decide +kernel) ⟨Nat.le_of_ble_eq_true rfl, Nat.le_of_ble_eq_true rfl⟩) (va_recv hK hw.1 (ci := 6) (q0 := 0) rfl rfl) rfl hl.1 rfl (Nat.le_of_ble_eq_true rfl) dX6_offer_40 (fun H locs hw => ?_)
    refine lv_istore_n (lv' := [(3, .int q_3), (2, .int q_2), (1, .ref (ad (17 + 0))), (0, .ref (ad 0))]) C.1 C.2.1 dX6_offer_43 rfl hl (by decide) rfl (fun ls hl => ?_)
    refine lv_iload_n C.1 C.2.1 dX6_offer_44 rfl (lv_at hl 0 rfl) ?_
    refine lv_if_eq (tgt := 53) C.1 C.2.1 dX6_offer_45 (by decide) (fun (h_4 : q_3 = (0 : Int32)) => ?_) (fun (h_4 : ¬ q_3 = (0 : Int32)) => ?_)
    · replace hG := ip h_4 hG
      refine lv_iload_n C.1 C.2.1 dX6_offer_53 rfl (lv_at hl 1 rfl) ?_
      refine lv_iconst (v := -1) C.1 C.2.1 dX6_offer_54 (by decide) ?_
      refine lv_icmp_eq (tgt := 67) C.1 C.2.1 dX6_offer_55 (by decide) (fun (h_5 : q_2 = (-1 : Int32)) => ?_) (fun (h_5 : ¬ q_2 = (-1 : Int32)) => ?_)
      · replace hG := ip h_5 hG
        refine lv_aload_n C.1 C.2.1 dX6_offer_67 rfl (lv_at hl 3 rfl) ?_
        refine xg_0_3 C hK hw jX6_offer_6 (List.mem_of_getElem? (i := 4) rfl) dX6_offer_68 ?_
        obtain ⟨q_6, hc_6, hG⟩ := ob hG
        try dsimp only at hG
        refine xcVi (As := []) (rest := []) C hK hw (k_X5_isFull l D ad cI cJ cR u q_6 hc_6) (cwV 0 C.2.2.2.2 gX6_offer_X5_isFull rfl rfl rfl (by decide +kernel) ⟨Nat.le_of_ble_eq_true rfl, Nat.le_of_ble_eq_true rfl⟩) (va_recv hK hw.1 (ci := 5) (q0 := 11) rfl rfl) rfl hl.1 rfl (Nat.le_of_ble_eq_true rfl) dX6_offer_71 (fun H locs hw => ?_)
        refine lv_if_eq (tgt := 89) C.1 C.2.1 dX6_offer_74 (by decide) (fun (h_7 : q_6 = (0 : Int32)) => ?_) (fun (h_7 : ¬ q_6 = (0 : Int32)) => ?_)
        · replace hG := ip h_7 hG
          refine lv_aload_n C.1 C.2.1 dX6_offer_89 rfl (lv_at hl 3 rfl) ?_
          refine xg_0_3 C hK hw jX6_offer_6 (List.mem_of_getElem? (i := 4) rfl) dX6_offer_90 ?_
          refine lv_aload_n C.1 C.2.1 dX6_offer_93 rfl (lv_at hl 2 rfl) ?_
          obtain ⟨q_8, hc_8, hG⟩ := ob hG
          try dsimp only at hG
          refine xcVi (As := [.ref (ad (17 + 0))]) (rest := []) C hK hw (k_X5_append l D ad cI cJ cR u 0 q_8.1 q_8.2 hc_8) (cwV 1 C.2.2.2.2 gX6_offer_X5_append rfl rfl rfl (by decide +kernel) ⟨Nat.le_of_ble_eq_true rfl, Nat.le_of_ble_eq_true rfl⟩) (va_recv hK hw.1 (ci := 5) (q0 := 11) rfl rfl) rfl hl.1 rfl (Nat.le_of_ble_eq_true rfl) dX6_offer_94 (fun H locs hw => ?_)
          exact xret_i C hlocks hK hw hr (ret2 hG) dX6_offer_97
        · replace hG := inn h_7 hG
          refine lv_aload_n C.1 C.2.1 dX6_offer_77 rfl (lv_at hl 3 rfl) ?_
          refine lv_aload_n C.1 C.2.1 dX6_offer_78 rfl (lv_at hl 3 rfl) ?_
          refine xg_0_3 C hK hw jX6_offer_6 (List.mem_of_getElem? (i := 4) rfl) dX6_offer_79 ?_
          obtain ⟨q_9, hc_9, hG⟩ := ob hG
          try dsimp only at hG
          refine xcVi (As := []) (rest := [.ref (ad 0)]) C hK hw (k_X5_cheapest l D ad cI cJ cR u q_9 hc_9) (cwV 0 C.2.2.2.2 gX6_offer_X5_cheapest rfl rfl rfl (by decide +kernel) ⟨Nat.le_of_ble_eq_true rfl, Nat.le_of_ble_eq_true rfl⟩) (va_recv hK hw.1 (ci := 5) (q0 := 11) rfl rfl) rfl hl.1 rfl (Nat.le_of_ble_eq_true rfl) dX6_offer_82 (fun H locs hw => ?_)
          refine lv_iconst (v := 4) C.1 C.2.1 dX6_offer_85 (by decide) ?_
          obtain ⟨q_10, hc_10, hG⟩ := ob hG
          try dsimp only at hG
          refine xcVv (As := [.int q_9, .int (4 : Int32)]) (rest := []) C hK hw (k_X6_end l D ad cI cJ cR u q_9 (4 : Int32) q_10 hc_10) (cwV 2 C.2.2.2.2 gX6_offer_X6_end rfl rfl rfl (by decide +kernel) ⟨Nat.le_of_ble_eq_true rfl, Nat.le_of_ble_eq_true rfl⟩) (va_recv hK hw.1 (ci := 6) (q0 := 0) rfl rfl) rfl hl.1 rfl (Nat.le_of_ble_eq_true rfl) dX6_offer_86 (fun H locs hw => ?_)
          refine lv_aload_n C.1 C.2.1 dX6_offer_89 rfl (lv_at hl 3 rfl) ?_
          refine xg_0_3 C hK hw jX6_offer_6 (List.mem_of_getElem? (i := 4) rfl) dX6_offer_90 ?_
          refine lv_aload_n C.1 C.2.1 dX6_offer_93 rfl (lv_at hl 2 rfl) ?_
          obtain ⟨q_11, hc_11, hG⟩ := ob hG
          try dsimp only at hG
          refine xcVi (As := [.ref (ad (17 + 0))]) (rest := []) C hK hw (k_X5_append l D ad cI cJ cR q_10 0 q_11.1 q_11.2 hc_11) (cwV 1 C.2.2.2.2 gX6_offer_X5_append rfl rfl rfl (by decide +kernel) ⟨Nat.le_of_ble_eq_true rfl, Nat.le_of_ble_eq_true rfl⟩) (va_recv hK hw.1 (ci := 5) (q0 := 11) rfl rfl) rfl hl.1 rfl (Nat.le_of_ble_eq_true rfl) dX6_offer_94 (fun H locs hw => ?_)
          exact xret_i C hlocks hK hw hr (ret2 hG) dX6_offer_97
      · replace hG := inn h_5 hG
        refine lv_aload_n C.1 C.2.1 dX6_offer_58 rfl (lv_at hl 3 rfl) ?_
        refine lv_iload_n C.1 C.2.1 dX6_offer_59 rfl (lv_at hl 1 rfl) ?_
        refine lv_iconst (v := 3) C.1 C.2.1 dX6_offer_60 (by decide) ?_
        obtain ⟨q_12, hc_12, hG⟩ := ob hG
        try dsimp only at hG
        refine xcVv (As := [.int q_2, .int (3 : Int32)]) (rest := []) C hK hw (k_X6_end l D ad cI cJ cR u q_2 (3 : Int32) q_12 hc_12) (cwV 2 C.2.2.2.2 gX6_offer_X6_end rfl rfl rfl (by decide +kernel) ⟨Nat.le_of_ble_eq_true rfl, Nat.le_of_ble_eq_true rfl⟩) (va_recv hK hw.1 (ci := 6) (q0 := 0) rfl rfl) rfl hl.1 rfl (Nat.le_of_ble_eq_true rfl) dX6_offer_61 (fun H locs hw => ?_)
        refine lv_goto (tgt := 89) C.1 C.2.1 dX6_offer_64 (by decide) ?_
        refine lv_aload_n C.1 C.2.1 dX6_offer_89 rfl (lv_at hl 3 rfl) ?_
        refine xg_0_3 C hK hw jX6_offer_6 (List.mem_of_getElem? (i := 4) rfl) dX6_offer_90 ?_
        refine lv_aload_n C.1 C.2.1 dX6_offer_93 rfl (lv_at hl 2 rfl) ?_
        obtain ⟨q_13, hc_13, hG⟩ := ob hG
        try dsimp only at hG
        refine xcVi (As := [.ref (ad (17 + 0))]) (rest := []) C hK hw (k_X5_append l D ad cI cJ cR q_12 0 q_13.1 q_13.2 hc_13) (cwV 1 C.2.2.2.2 gX6_offer_X5_append rfl rfl rfl (by decide +kernel) ⟨Nat.le_of_ble_eq_true rfl, Nat.le_of_ble_eq_true rfl⟩) (va_recv hK hw.1 (ci := 5) (q0 := 11) rfl rfl) rfl hl.1 rfl (Nat.le_of_ble_eq_true rfl) dX6_offer_94 (fun H locs hw => ?_)
        exact xret_i C hlocks hK hw hr (ret2 hG) dX6_offer_97
    · replace hG := inn h_4 hG
      refine lv_bipush (v := -10) C.1 C.2.1 dX6_offer_48 (by decide) ?_
      refine lv_iload_n C.1 C.2.1 dX6_offer_50 rfl (lv_at hl 0 rfl) ?_
      refine lv_isub C.1 C.2.1 dX6_offer_51 ?_
      exact xret_i C hlocks hK hw hr (ret2 hG) dX6_offer_52
  · replace hG := ip h_1 hG
    refine lv_bipush (v := -2) C.1 C.2.1 dX6_offer_10 (by decide) ?_
    exact xret_i C hlocks hK hw hr (ret2 hG) dX6_offer_12
theorem jX6_step_6 : ∀ w ∈ wsX60, w ∈ wsX6_step := by decide +kernel
def f_X6_step (l1 : Int32) (u : XS) : Option (Int32 × XS) := (if l1 < (1 : Int32) then some ((-1 : Int32), u) else (if l1 ≤ (1000 : Int32) then some ((x_stp u), (xs_stp u l1)) else some ((-1 : Int32), u)))
set_option maxHeartbeats 4000000 in
set_option maxRecDepth 100000 in
theorem k_X6_step (l : Launch) (D : va_G) (ad : Nat → Nat) (cI cJ cR : ClassId) (u : XS) (l1 : Int32) (r1 : Int32) (u1 : XS) (hG : f_X6_step l1 u = some (r1, u1)) : Met l yX6_step wsX6_step ({ frames := 0, cells := 0, slots := 0, locals := 0 } : Room) (va_Pc [.ref (ad 0), .int l1] (XB D ad cI cJ cR u)) (va_Qi (S := XS) (fun r u2 => r = r1 ∧ u2 = u1) (XB D ad cI cJ cR) (AX ad)) 0 0 (AX ad) := by
  refine Met.ofW (cc := cX6_step) (maxL := 3) (ret := (some .int)) (by decide) rfl ?_
  intro p e s m args below meth c s₁ B hml hv
  obtain ⟨rfl, hP0, hK, hD0⟩ := hv
  have C : CallFix p m c cX6_step 3 s _ wsX6_step RX6 := ⟨B.exec, B.bytes, hml, findClass_of_methodNamed B.named, atoms_spec (ws := wsX6_step) B.pre⟩
  have hr := B.returns
  have hlocks := B.notSynchronized
  have hw : XW D ad cI cJ cR s.heap s.heap [] u := ⟨hP0, hD0, va_S.rf⟩
  refine en_W (Nat.le_of_ble_eq_true rfl) (fun ls hl => ?_)
  have hl : lv_has ls 3 [(0, .ref (ad 0)), (1, .int l1)] := hl
  unfold f_X6_step at hG
  refine lv_iload_n C.1 C.2.1 dX6_step_0 rfl (lv_at hl 1 rfl) ?_
  refine lv_iconst (v := 1) C.1 C.2.1 dX6_step_1 (by decide) ?_
  refine lv_icmp_lt (tgt := 12) C.1 C.2.1 dX6_step_2 (by decide) (fun (h_1 : l1 < (1 : Int32)) => ?_) (fun (h_1 : ¬ l1 < (1 : Int32)) => ?_)
  · replace hG := ip h_1 hG
    refine lv_iconst (v := -1) C.1 C.2.1 dX6_step_12 (by decide) ?_
    exact xret_i C hlocks hK hw hr (ret2 hG) dX6_step_13
  · replace hG := inn h_1 hG
    refine lv_iload_n C.1 C.2.1 dX6_step_5 rfl (lv_at hl 1 rfl) ?_
    refine lv_sipush (v := 1000) C.1 C.2.1 dX6_step_6 (by decide) ?_
    refine lv_icmp_le (tgt := 14) C.1 C.2.1 dX6_step_9 (by decide) (fun (h_2 : l1 ≤ (1000 : Int32)) => ?_) (fun (h_2 : ¬ l1 ≤ (1000 : Int32)) => ?_)
    · replace hG := ip h_2 hG
      refine lv_aload_n C.1 C.2.1 dX6_step_14 rfl (lv_at hl 0 rfl) ?_
      refine xg_0_5 C hK hw jX6_step_6 (List.mem_of_getElem? (i := 1) rfl) dX6_step_15 ?_
      refine lv_istore_n (lv' := [(2, .int (x_stp u)), (0, .ref (ad 0)), (1, .int l1)]) C.1 C.2.1 dX6_step_18 rfl hl (by decide) rfl (fun ls hl => ?_)
      refine lv_aload_n C.1 C.2.1 dX6_step_19 rfl (lv_at hl 1 rfl) ?_
      refine lv_iload_n C.1 C.2.1 dX6_step_20 rfl (lv_at hl 2 rfl) ?_
      refine xp_0_5 C hK hw jX6_step_6 (List.mem_of_getElem? (i := 1) rfl) dX6_step_21 (fun H locs hw => ?_)
      refine lv_iload_n C.1 C.2.1 dX6_step_24 rfl (lv_at hl 0 rfl) ?_
      exact xret_i C hlocks hK hw hr (ret2 hG) dX6_step_25
    · replace hG := inn h_2 hG
      refine lv_iconst (v := -1) C.1 C.2.1 dX6_step_12 (by decide) ?_
      exact xret_i C hlocks hK hw hr (ret2 hG) dX6_step_13
theorem jX6_endThoseOver_1 : ∀ w ∈ wsX10, w ∈ wsX6_endThoseOver := by decide +kernel
theorem jX6_endThoseOver_5 : ∀ w ∈ wsX50, w ∈ wsX6_endThoseOver := by decide +kernel
theorem jX6_endThoseOver_6 : ∀ w ∈ wsX60, w ∈ wsX6_endThoseOver := by decide +kernel
def f_X6_endThoseOver_10 : Nat → Int32 → Int32 → XS → Option XS
  | 0, _, _, _ => none
  | n + 1, l1, l2, u => (if l2 ≤ (0 : Int32) then some u else (if inb l1 24 = true then (if ((x_row u) (Int32.toNatClampNeg l1)) < 25 then (if (x_hgt u) ≤ ((x_cf u) 7 ((x_row u) (Int32.toNatClampNeg l1))) then (f_X6_endThoseOver_10 n (l1 + (1 : Int32)) (l2 + (-1 : Int32)) u) else ((f_X6_end l1 (2 : Int32) u).bind fun q_5 => (f_X6_endThoseOver_10 n l1 (l2 + (-1 : Int32)) q_5))) else none) else none))
set_option maxHeartbeats 4000000 in
set_option maxRecDepth 100000 in
theorem kl_X6_endThoseOver_10 {p : Program} {l : Launch} {e : Env} {s : State} {m : MethodId} {args : Array Value} {below : List Frame} {meth : Method} {c : Code} {D : va_G} {ad : Nat → Nat} {cI cJ cR : ClassId} (C : CallFix p m c cX6_endThoseOver 3 s args wsX6_endThoseOver RX6) (hr : meth.sig.returnType = none) (hlocks : meth.locks = false) (hK : va_K D vwCl (xT cI cJ cR) s) {u1 : XS} : ∀ (n : Nat) (l1 : Int32) (l2 : Int32) (u : XS) (H : Heap) (locs : List Loc) (ls : Array Slot), f_X6_endThoseOver_10 n l1 l2 u = some u1 → XW D ad cI cJ cR s.heap H locs u → lv_has ls 3 [(0, .ref (ad 0)), (1, .int l1), (2, .int l2)] → W p l e ({ frames := 3, cells := 0, slots := 0, locals := 67 } : Room) s m args below meth c H locs 0 0 (MQ below (va_Qv (S := XS) (fun u2 => u2 = u1) (XB D ad cI cJ cR) (AX ad)) args s 0 0 (AX ad)) (F0 m 10 ls []) := by
  intro n
  induction n with
  | zero =>
    intro l1 l2 u H locs ls hG
    exact ns hG
  | succ n ih =>
    intro l1 l2 u H locs ls hG hw hl
    rw [f_X6_endThoseOver_10] at hG
    refine lv_iload_n C.1 C.2.1 dX6_endThoseOver_10 rfl (lv_at hl 2 rfl) ?_
    refine lv_if_le (tgt := 51) C.1 C.2.1 dX6_endThoseOver_11 (by decide) (fun (h_1 : l2 ≤ (0 : Int32)) => ?_) (fun (h_1 : ¬ l2 ≤ (0 : Int32)) => ?_)
    · replace hG := ip h_1 hG
      exact xret_v C hlocks hK hw hr (retv hG) dX6_endThoseOver_51
    · replace hG := inn h_1 hG
      refine lv_aload_n C.1 C.2.1 dX6_endThoseOver_14 rfl (lv_at hl 0 rfl) ?_
      refine xg_0_3 C hK hw jX6_endThoseOver_6 (List.mem_of_getElem? (i := 1) rfl) dX6_endThoseOver_15 ?_
      refine xg_11_0 C hK hw jX6_endThoseOver_5 (List.mem_of_getElem? (i := 3) rfl) dX6_endThoseOver_18 ?_
      refine lv_iload_n C.1 C.2.1 dX6_endThoseOver_21 rfl (lv_at hl 1 rfl) ?_
      obtain ⟨h_2, hG⟩ := og hG
      refine xl_row C hK hw h_2 dX6_endThoseOver_22 ?_
      obtain ⟨h_3, hG⟩ := ot hG
      refine xgc_7 (q := ((x_row u) (Int32.toNatClampNeg l1))) C hK hw h_3 jX6_endThoseOver_1 (List.mem_of_getElem? (i := 4) rfl) dX6_endThoseOver_23 ?_
      refine lv_aload_n C.1 C.2.1 dX6_endThoseOver_26 rfl (lv_at hl 0 rfl) ?_
      refine xg_0_6 C hK hw jX6_endThoseOver_6 (List.mem_of_getElem? (i := 5) rfl) dX6_endThoseOver_27 ?_
      refine lv_icmp_ge (tgt := 42) C.1 C.2.1 dX6_endThoseOver_30 (by decide) (fun (h_4 : (x_hgt u) ≤ ((x_cf u) 7 ((x_row u) (Int32.toNatClampNeg l1)))) => ?_) (fun (h_4 : ¬ (x_hgt u) ≤ ((x_cf u) 7 ((x_row u) (Int32.toNatClampNeg l1)))) => ?_)
      · replace hG := ip h_4 hG
        refine lv_iinc (v := (l1 + (1 : Int32))) (lv' := [(1, .int (l1 + (1 : Int32))), (0, .ref (ad 0)), (2, .int l2)]) C.1 C.2.1 dX6_endThoseOver_42 hl (k := 1) rfl rfl (by decide) rfl (fun ls hl => ?_)
        refine lv_iinc (v := (l2 + (-1 : Int32))) (lv' := [(2, .int (l2 + (-1 : Int32))), (1, .int (l1 + (1 : Int32))), (0, .ref (ad 0))]) C.1 C.2.1 dX6_endThoseOver_45 hl (k := 2) rfl rfl (by decide) rfl (fun ls hl => ?_)
        refine lv_goto (tgt := 10) C.1 C.2.1 dX6_endThoseOver_48 (by decide) ?_
        exact ih (l1 + (1 : Int32)) (l2 + (-1 : Int32)) u _ _ _ hG hw (lv_sub hl [2, 1, 0] rfl)
      · replace hG := inn h_4 hG
        refine lv_aload_n C.1 C.2.1 dX6_endThoseOver_33 rfl (lv_at hl 0 rfl) ?_
        refine lv_iload_n C.1 C.2.1 dX6_endThoseOver_34 rfl (lv_at hl 1 rfl) ?_
        refine lv_iconst (v := 2) C.1 C.2.1 dX6_endThoseOver_35 (by decide) ?_
        obtain ⟨q_5, hc_5, hG⟩ := ob hG
        try dsimp only at hG
        refine xcVv (As := [.int l1, .int (2 : Int32)]) (rest := []) C hK hw (k_X6_end l D ad cI cJ cR u l1 (2 : Int32) q_5 hc_5) (cwV 2 C.2.2.2.2 gX6_endThoseOver_X6_end rfl rfl rfl (by decide +kernel) ⟨Nat.le_of_ble_eq_true rfl, Nat.le_of_ble_eq_true rfl⟩) (va_recv hK hw.1 (ci := 6) (q0 := 0) rfl rfl) rfl hl.1 rfl (Nat.le_of_ble_eq_true rfl) dX6_endThoseOver_36 (fun H locs hw => ?_)
        refine lv_goto (tgt := 45) C.1 C.2.1 dX6_endThoseOver_39 (by decide) ?_
        refine lv_iinc (v := (l2 + (-1 : Int32))) (lv' := [(2, .int (l2 + (-1 : Int32))), (0, .ref (ad 0)), (1, .int l1)]) C.1 C.2.1 dX6_endThoseOver_45 hl (k := 2) rfl rfl (by decide) rfl (fun ls hl => ?_)
        refine lv_goto (tgt := 10) C.1 C.2.1 dX6_endThoseOver_48 (by decide) ?_
        exact ih l1 (l2 + (-1 : Int32)) q_5 _ _ _ hG hw (lv_sub hl [1, 2, 0] rfl)
def f_X6_endThoseOver (u : XS) : Option XS := (f_X6_endThoseOver_10 1000 (0 : Int32) (x_rwc u) u)
set_option maxHeartbeats 4000000 in
set_option maxRecDepth 100000 in
theorem k_X6_endThoseOver (l : Launch) (D : va_G) (ad : Nat → Nat) (cI cJ cR : ClassId) (u : XS) (u1 : XS) (hG : f_X6_endThoseOver u = some u1) : Met l yX6_endThoseOver wsX6_endThoseOver ({ frames := 3, cells := 0, slots := 0, locals := 67 } : Room) (va_Pc [.ref (ad 0)] (XB D ad cI cJ cR u)) (va_Qv (S := XS) (fun u2 => u2 = u1) (XB D ad cI cJ cR) (AX ad)) 0 0 (AX ad) := by
  refine Met.ofW (cc := cX6_endThoseOver) (maxL := 3) (ret := none) (by decide) rfl ?_
  intro p e s m args below meth c s₁ B hml hv
  obtain ⟨rfl, hP0, hK, hD0⟩ := hv
  have C : CallFix p m c cX6_endThoseOver 3 s _ wsX6_endThoseOver RX6 := ⟨B.exec, B.bytes, hml, findClass_of_methodNamed B.named, atoms_spec (ws := wsX6_endThoseOver) B.pre⟩
  have hr := B.returns
  have hlocks := B.notSynchronized
  have hw : XW D ad cI cJ cR s.heap s.heap [] u := ⟨hP0, hD0, va_S.rf⟩
  refine en_W (Nat.le_of_ble_eq_true rfl) (fun ls hl => ?_)
  have hl : lv_has ls 3 [(0, .ref (ad 0))] := hl
  unfold f_X6_endThoseOver at hG
  refine lv_iconst (v := 0) C.1 C.2.1 dX6_endThoseOver_0 (by decide) ?_
  refine lv_istore_n (lv' := [(1, .int (0 : Int32)), (0, .ref (ad 0))]) C.1 C.2.1 dX6_endThoseOver_1 rfl hl (by decide) rfl (fun ls hl => ?_)
  refine lv_aload_n C.1 C.2.1 dX6_endThoseOver_2 rfl (lv_at hl 1 rfl) ?_
  refine xg_0_3 C hK hw jX6_endThoseOver_6 (List.mem_of_getElem? (i := 1) rfl) dX6_endThoseOver_3 ?_
  refine xg_11_1 C hK hw jX6_endThoseOver_5 (List.mem_of_getElem? (i := 2) rfl) dX6_endThoseOver_6 ?_
  refine lv_istore_n (lv' := [(2, .int (x_rwc u)), (1, .int (0 : Int32)), (0, .ref (ad 0))]) C.1 C.2.1 dX6_endThoseOver_9 rfl hl (by decide) rfl (fun ls hl => ?_)
  exact kl_X6_endThoseOver_10 C hr hlocks hK 1000 (0 : Int32) (x_rwc u) u _ _ _ hG hw (lv_sub hl [2, 1, 0] rfl)
theorem jX6_isReady_0 : ∀ w ∈ wsX00, w ∈ wsX6_isReady := by decide +kernel
theorem jX6_isReady_1 : ∀ w ∈ wsX10, w ∈ wsX6_isReady := by decide +kernel
theorem jX6_isReady_6 : ∀ w ∈ wsX60, w ∈ wsX6_isReady := by decide +kernel
def f_X6_isReady (l1 : Nat) (l2 : Int32) (u : XS) : Option Int32 := (if l1 < 25 then (if inb ((x_cf u) 3 l1) 12 = true then (if ((x_cf u) 4 l1) = ((x_nxt u) (Int32.toNatClampNeg ((x_cf u) 3 l1))) then (if (x_hgt u) < ((x_cf u) 8 l1) then some (0 : Int32) else (if l2 < ((x_cf u) 6 l1) then some (0 : Int32) else some (1 : Int32))) else some (0 : Int32)) else none) else none)
set_option maxHeartbeats 4000000 in
set_option maxRecDepth 100000 in
theorem k_X6_isReady (l : Launch) (D : va_G) (ad : Nat → Nat) (cI cJ cR : ClassId) (u : XS) (l1 : Nat) (l2 : Int32) (r1 : Int32) (hG : f_X6_isReady l1 l2 u = some r1) : Met l yX6_isReady wsX6_isReady ({ frames := 0, cells := 0, slots := 0, locals := 0 } : Room) (va_Pc [.ref (ad 0), .ref (ad (17 + l1)), .int l2] (XB D ad cI cJ cR u)) (va_Qi (S := XS) (fun r u2 => r = r1 ∧ u2 = u) (XB D ad cI cJ cR) (AX ad)) 0 0 (AX ad) := by
  refine Met.ofW (cc := cX6_isReady) (maxL := 3) (ret := (some .boolean)) (by decide) rfl ?_
  intro p e s m args below meth c s₁ B hml hv
  obtain ⟨rfl, hP0, hK, hD0⟩ := hv
  have C : CallFix p m c cX6_isReady 3 s _ wsX6_isReady RX6 := ⟨B.exec, B.bytes, hml, findClass_of_methodNamed B.named, atoms_spec (ws := wsX6_isReady) B.pre⟩
  have hr := B.returns
  have hlocks := B.notSynchronized
  have hw : XW D ad cI cJ cR s.heap s.heap [] u := ⟨hP0, hD0, va_S.rf⟩
  refine en_W (Nat.le_of_ble_eq_true rfl) (fun ls hl => ?_)
  have hl : lv_has ls 3 [(0, .ref (ad 0)), (1, .ref (ad (17 + l1))), (2, .int l2)] := hl
  unfold f_X6_isReady at hG
  obtain ⟨hq_l1, hG⟩ := ot hG
  refine lv_aload_n C.1 C.2.1 dX6_isReady_0 rfl (lv_at hl 1 rfl) ?_
  refine xgc_4 (q := l1) C hK hw hq_l1 jX6_isReady_1 (List.mem_of_getElem? (i := 1) rfl) dX6_isReady_1 ?_
  refine lv_aload_n C.1 C.2.1 dX6_isReady_4 rfl (lv_at hl 0 rfl) ?_
  refine xg_0_0 C hK hw jX6_isReady_6 (List.mem_of_getElem? (i := 2) rfl) dX6_isReady_5 ?_
  refine xg_1_1 C hK hw jX6_isReady_0 (List.mem_of_getElem? (i := 3) rfl) dX6_isReady_8 ?_
  refine lv_aload_n C.1 C.2.1 dX6_isReady_11 rfl (lv_at hl 1 rfl) ?_
  refine xgc_3 (q := l1) C hK hw hq_l1 jX6_isReady_1 (List.mem_of_getElem? (i := 4) rfl) dX6_isReady_12 ?_
  obtain ⟨h_1, hG⟩ := og hG
  refine xl_3 C hK hw h_1 dX6_isReady_15 ?_
  refine lv_icmp_ne (tgt := 42) C.1 C.2.1 dX6_isReady_16 (by decide) (fun (h_2 : ¬ ((x_cf u) 4 l1) = ((x_nxt u) (Int32.toNatClampNeg ((x_cf u) 3 l1)))) => ?_) (fun (h_2 : ((x_cf u) 4 l1) = ((x_nxt u) (Int32.toNatClampNeg ((x_cf u) 3 l1)))) => ?_)
  · replace hG := inn h_2 hG
    refine lv_iconst (v := 0) C.1 C.2.1 dX6_isReady_42 (by decide) ?_
    exact xret_z C hlocks hK hw hr rfl (ret1 hG) dX6_isReady_43
  · replace hG := ip h_2 hG
    refine lv_aload_n C.1 C.2.1 dX6_isReady_19 rfl (lv_at hl 1 rfl) ?_
    refine xgc_8 (q := l1) C hK hw hq_l1 jX6_isReady_1 (List.mem_of_getElem? (i := 5) rfl) dX6_isReady_20 ?_
    refine lv_aload_n C.1 C.2.1 dX6_isReady_23 rfl (lv_at hl 0 rfl) ?_
    refine xg_0_6 C hK hw jX6_isReady_6 (List.mem_of_getElem? (i := 6) rfl) dX6_isReady_24 ?_
    refine lv_icmp_gt (tgt := 42) C.1 C.2.1 dX6_isReady_27 (by decide) (fun (h_3 : (x_hgt u) < ((x_cf u) 8 l1)) => ?_) (fun (h_3 : ¬ (x_hgt u) < ((x_cf u) 8 l1)) => ?_)
    · replace hG := ip h_3 hG
      refine lv_iconst (v := 0) C.1 C.2.1 dX6_isReady_42 (by decide) ?_
      exact xret_z C hlocks hK hw hr rfl (ret1 hG) dX6_isReady_43
    · replace hG := inn h_3 hG
      refine lv_aload_n C.1 C.2.1 dX6_isReady_30 rfl (lv_at hl 1 rfl) ?_
      refine xgc_6 (q := l1) C hK hw hq_l1 jX6_isReady_1 (List.mem_of_getElem? (i := 7) rfl) dX6_isReady_31 ?_
      refine lv_iload_n C.1 C.2.1 dX6_isReady_34 rfl (lv_at hl 2 rfl) ?_
      refine lv_icmp_gt (tgt := 42) C.1 C.2.1 dX6_isReady_35 (by decide) (fun (h_4 : l2 < ((x_cf u) 6 l1)) => ?_) (fun (h_4 : ¬ l2 < ((x_cf u) 6 l1)) => ?_)
      · replace hG := ip h_4 hG
        refine lv_iconst (v := 0) C.1 C.2.1 dX6_isReady_42 (by decide) ?_
        exact xret_z C hlocks hK hw hr rfl (ret1 hG) dX6_isReady_43
      · replace hG := inn h_4 hG
        refine lv_iconst (v := 1) C.1 C.2.1 dX6_isReady_38 (by decide) ?_
        refine lv_goto (tgt := 43) C.1 C.2.1 dX6_isReady_39 (by decide) ?_
        exact xret_z C hlocks hK hw hr rfl (ret1 hG) dX6_isReady_43
theorem jX6_dearestReady_1 : ∀ w ∈ wsX10, w ∈ wsX6_dearestReady := by decide +kernel
theorem jX6_dearestReady_5 : ∀ w ∈ wsX50, w ∈ wsX6_dearestReady := by decide +kernel
theorem jX6_dearestReady_6 : ∀ w ∈ wsX60, w ∈ wsX6_dearestReady := by decide +kernel
def f_X6_dearestReady_4 : Nat → Int32 → Int32 → Int32 → XS → Option Int32
  | 0, _, _, _, _ => none
  | n + 1, l1, l2, l3, u => (if (x_rwc u) ≤ l3 then some l2 else (if inb l3 24 = true then (if ((x_row u) (Int32.toNatClampNeg l3)) < 25 then ((f_X6_isReady ((x_row u) (Int32.toNatClampNeg l3)) l1 u).bind fun q_4 => (if q_4 = (0 : Int32) then (f_X6_dearestReady_4 n l1 l2 (l3 + (1 : Int32)) u) else (if l2 = (-1 : Int32) then (f_X6_dearestReady_4 n l1 l3 (l3 + (1 : Int32)) u) else (if inb l3 24 = true then (if ((x_row u) (Int32.toNatClampNeg l3)) < 25 then (if inb l2 24 = true then (if ((x_row u) (Int32.toNatClampNeg l2)) < 25 then (if ((x_cf u) 5 ((x_row u) (Int32.toNatClampNeg l3))) ≤ ((x_cf u) 5 ((x_row u) (Int32.toNatClampNeg l2))) then (f_X6_dearestReady_4 n l1 l2 (l3 + (1 : Int32)) u) else (f_X6_dearestReady_4 n l1 l3 (l3 + (1 : Int32)) u)) else none) else none) else none) else none)))) else none) else none))
set_option maxHeartbeats 4000000 in
set_option maxRecDepth 100000 in
theorem kl_X6_dearestReady_4 {p : Program} {l : Launch} {e : Env} {s : State} {m : MethodId} {args : Array Value} {below : List Frame} {meth : Method} {c : Code} {D : va_G} {ad : Nat → Nat} {cI cJ cR : ClassId} (C : CallFix p m c cX6_dearestReady 4 s args wsX6_dearestReady RX6) (hr : meth.sig.returnType = (some .int)) (hlocks : meth.locks = false) (hK : va_K D vwCl (xT cI cJ cR) s) {r1 : Int32} : ∀ (n : Nat) (l1 : Int32) (l2 : Int32) (l3 : Int32) (u : XS) (H : Heap) (locs : List Loc) (ls : Array Slot), f_X6_dearestReady_4 n l1 l2 l3 u = some r1 → XW D ad cI cJ cR s.heap H locs u → lv_has ls 4 [(0, .ref (ad 0)), (1, .int l1), (2, .int l2), (3, .int l3)] → W p l e ({ frames := 1, cells := 0, slots := 0, locals := 22 } : Room) s m args below meth c H locs 0 0 (MQ below (va_Qi (S := XS) (fun r u2 => r = r1 ∧ u2 = u) (XB D ad cI cJ cR) (AX ad)) args s 0 0 (AX ad)) (F0 m 4 ls []) := by
  intro n
  induction n with
  | zero =>
    intro l1 l2 l3 u H locs ls hG
    exact ns hG
  | succ n ih =>
    intro l1 l2 l3 u H locs ls hG hw hl
    rw [f_X6_dearestReady_4] at hG
    refine lv_iload_n C.1 C.2.1 dX6_dearestReady_4 rfl (lv_at hl 3 rfl) ?_
    refine lv_aload_n C.1 C.2.1 dX6_dearestReady_5 rfl (lv_at hl 0 rfl) ?_
    refine xg_0_3 C hK hw jX6_dearestReady_6 (List.mem_of_getElem? (i := 1) rfl) dX6_dearestReady_6 ?_
    refine xg_11_1 C hK hw jX6_dearestReady_5 (List.mem_of_getElem? (i := 2) rfl) dX6_dearestReady_9 ?_
    refine lv_icmp_ge (tgt := 72) C.1 C.2.1 dX6_dearestReady_12 (by decide) (fun (h_1 : (x_rwc u) ≤ l3) => ?_) (fun (h_1 : ¬ (x_rwc u) ≤ l3) => ?_)
    · replace hG := ip h_1 hG
      refine lv_iload_n C.1 C.2.1 dX6_dearestReady_72 rfl (lv_at hl 2 rfl) ?_
      exact xret_i C hlocks hK hw hr (ret1 hG) dX6_dearestReady_73
    · replace hG := inn h_1 hG
      refine lv_aload_n C.1 C.2.1 dX6_dearestReady_15 rfl (lv_at hl 0 rfl) ?_
      refine lv_aload_n C.1 C.2.1 dX6_dearestReady_16 rfl (lv_at hl 0 rfl) ?_
      refine xg_0_3 C hK hw jX6_dearestReady_6 (List.mem_of_getElem? (i := 1) rfl) dX6_dearestReady_17 ?_
      refine xg_11_0 C hK hw jX6_dearestReady_5 (List.mem_of_getElem? (i := 3) rfl) dX6_dearestReady_20 ?_
      refine lv_iload_n C.1 C.2.1 dX6_dearestReady_23 rfl (lv_at hl 3 rfl) ?_
      obtain ⟨h_2, hG⟩ := og hG
      refine xl_row C hK hw h_2 dX6_dearestReady_24 ?_
      obtain ⟨h_3, hG⟩ := ot hG
      refine lv_iload_n C.1 C.2.1 dX6_dearestReady_25 rfl (lv_at hl 1 rfl) ?_
      obtain ⟨q_4, hc_4, hG⟩ := ob hG
      try dsimp only at hG
      refine xcVi (As := [.ref (ad (17 + ((x_row u) (Int32.toNatClampNeg l3)))), .int l1]) (rest := []) C hK hw (k_X6_isReady l D ad cI cJ cR u ((x_row u) (Int32.toNatClampNeg l3)) l1 q_4 hc_4) (cwV 2 C.2.2.2.2 gX6_dearestReady_X6_isReady rfl rfl rfl (by decide +kernel) ⟨Nat.le_of_ble_eq_true rfl, Nat.le_of_ble_eq_true rfl⟩) (va_recv hK hw.1 (ci := 6) (q0 := 0) rfl rfl) rfl hl.1 rfl (Nat.le_of_ble_eq_true rfl) dX6_dearestReady_26 (fun H locs hw => ?_)
      refine lv_if_eq (tgt := 66) C.1 C.2.1 dX6_dearestReady_29 (by decide) (fun (h_5 : q_4 = (0 : Int32)) => ?_) (fun (h_5 : ¬ q_4 = (0 : Int32)) => ?_)
      · replace hG := ip h_5 hG
        refine lv_iinc (v := (l3 + (1 : Int32))) (lv' := [(3, .int (l3 + (1 : Int32))), (0, .ref (ad 0)), (1, .int l1), (2, .int l2)]) C.1 C.2.1 dX6_dearestReady_66 hl (k := 3) rfl rfl (by decide) rfl (fun ls hl => ?_)
        refine lv_goto (tgt := 4) C.1 C.2.1 dX6_dearestReady_69 (by decide) ?_
        exact ih l1 l2 (l3 + (1 : Int32)) u _ _ _ hG hw (lv_sub hl [1, 2, 3, 0] rfl)
      · replace hG := inn h_5 hG
        refine lv_iload_n C.1 C.2.1 dX6_dearestReady_32 rfl (lv_at hl 2 rfl) ?_
        refine lv_iconst (v := -1) C.1 C.2.1 dX6_dearestReady_33 (by decide) ?_
        refine lv_icmp_eq (tgt := 64) C.1 C.2.1 dX6_dearestReady_34 (by decide) (fun (h_6 : l2 = (-1 : Int32)) => ?_) (fun (h_6 : ¬ l2 = (-1 : Int32)) => ?_)
        · replace hG := ip h_6 hG
          refine lv_iload_n C.1 C.2.1 dX6_dearestReady_64 rfl (lv_at hl 3 rfl) ?_
          refine lv_istore_n (lv' := [(2, .int l3), (0, .ref (ad 0)), (1, .int l1), (3, .int l3)]) C.1 C.2.1 dX6_dearestReady_65 rfl hl (by decide) rfl (fun ls hl => ?_)
          refine lv_iinc (v := (l3 + (1 : Int32))) (lv' := [(3, .int (l3 + (1 : Int32))), (2, .int l3), (0, .ref (ad 0)), (1, .int l1)]) C.1 C.2.1 dX6_dearestReady_66 hl (k := 3) rfl rfl (by decide) rfl (fun ls hl => ?_)
          refine lv_goto (tgt := 4) C.1 C.2.1 dX6_dearestReady_69 (by decide) ?_
          exact ih l1 l3 (l3 + (1 : Int32)) u _ _ _ hG hw (lv_sub hl [2, 3, 1, 0] rfl)
        · replace hG := inn h_6 hG
          refine lv_aload_n C.1 C.2.1 dX6_dearestReady_37 rfl (lv_at hl 0 rfl) ?_
          refine xg_0_3 C hK hw jX6_dearestReady_6 (List.mem_of_getElem? (i := 1) rfl) dX6_dearestReady_38 ?_
          refine xg_11_0 C hK hw jX6_dearestReady_5 (List.mem_of_getElem? (i := 3) rfl) dX6_dearestReady_41 ?_
          refine lv_iload_n C.1 C.2.1 dX6_dearestReady_44 rfl (lv_at hl 3 rfl) ?_
          obtain ⟨h_7, hG⟩ := og hG
          refine xl_row C hK hw h_7 dX6_dearestReady_45 ?_
          obtain ⟨h_8, hG⟩ := ot hG
          refine xgc_5 (q := ((x_row u) (Int32.toNatClampNeg l3))) C hK hw h_8 jX6_dearestReady_1 (List.mem_of_getElem? (i := 4) rfl) dX6_dearestReady_46 ?_
          refine lv_aload_n C.1 C.2.1 dX6_dearestReady_49 rfl (lv_at hl 0 rfl) ?_
          refine xg_0_3 C hK hw jX6_dearestReady_6 (List.mem_of_getElem? (i := 1) rfl) dX6_dearestReady_50 ?_
          refine xg_11_0 C hK hw jX6_dearestReady_5 (List.mem_of_getElem? (i := 3) rfl) dX6_dearestReady_53 ?_
          refine lv_iload_n C.1 C.2.1 dX6_dearestReady_56 rfl (lv_at hl 2 rfl) ?_
          obtain ⟨h_9, hG⟩ := og hG
          refine xl_row C hK hw h_9 dX6_dearestReady_57 ?_
          obtain ⟨h_10, hG⟩ := ot hG
          refine xgc_5 (q := ((x_row u) (Int32.toNatClampNeg l2))) C hK hw h_10 jX6_dearestReady_1 (List.mem_of_getElem? (i := 4) rfl) dX6_dearestReady_58 ?_
          refine lv_icmp_le (tgt := 66) C.1 C.2.1 dX6_dearestReady_61 (by decide) (fun (h_11 : ((x_cf u) 5 ((x_row u) (Int32.toNatClampNeg l3))) ≤ ((x_cf u) 5 ((x_row u) (Int32.toNatClampNeg l2)))) => ?_) (fun (h_11 : ¬ ((x_cf u) 5 ((x_row u) (Int32.toNatClampNeg l3))) ≤ ((x_cf u) 5 ((x_row u) (Int32.toNatClampNeg l2)))) => ?_)
          · replace hG := ip h_11 hG
            refine lv_iinc (v := (l3 + (1 : Int32))) (lv' := [(3, .int (l3 + (1 : Int32))), (0, .ref (ad 0)), (1, .int l1), (2, .int l2)]) C.1 C.2.1 dX6_dearestReady_66 hl (k := 3) rfl rfl (by decide) rfl (fun ls hl => ?_)
            refine lv_goto (tgt := 4) C.1 C.2.1 dX6_dearestReady_69 (by decide) ?_
            exact ih l1 l2 (l3 + (1 : Int32)) u _ _ _ hG hw (lv_sub hl [1, 2, 3, 0] rfl)
          · replace hG := inn h_11 hG
            refine lv_iload_n C.1 C.2.1 dX6_dearestReady_64 rfl (lv_at hl 3 rfl) ?_
            refine lv_istore_n (lv' := [(2, .int l3), (0, .ref (ad 0)), (1, .int l1), (3, .int l3)]) C.1 C.2.1 dX6_dearestReady_65 rfl hl (by decide) rfl (fun ls hl => ?_)
            refine lv_iinc (v := (l3 + (1 : Int32))) (lv' := [(3, .int (l3 + (1 : Int32))), (2, .int l3), (0, .ref (ad 0)), (1, .int l1)]) C.1 C.2.1 dX6_dearestReady_66 hl (k := 3) rfl rfl (by decide) rfl (fun ls hl => ?_)
            refine lv_goto (tgt := 4) C.1 C.2.1 dX6_dearestReady_69 (by decide) ?_
            exact ih l1 l3 (l3 + (1 : Int32)) u _ _ _ hG hw (lv_sub hl [2, 3, 1, 0] rfl)
def f_X6_dearestReady (l1 : Int32) (u : XS) : Option Int32 := (f_X6_dearestReady_4 1000 l1 (-1 : Int32) (0 : Int32) u)
set_option maxHeartbeats 4000000 in
set_option maxRecDepth 100000 in
theorem k_X6_dearestReady (l : Launch) (D : va_G) (ad : Nat → Nat) (cI cJ cR : ClassId) (u : XS) (l1 : Int32) (r1 : Int32) (hG : f_X6_dearestReady l1 u = some r1) : Met l yX6_dearestReady wsX6_dearestReady ({ frames := 1, cells := 0, slots := 0, locals := 22 } : Room) (va_Pc [.ref (ad 0), .int l1] (XB D ad cI cJ cR u)) (va_Qi (S := XS) (fun r u2 => r = r1 ∧ u2 = u) (XB D ad cI cJ cR) (AX ad)) 0 0 (AX ad) := by
  refine Met.ofW (cc := cX6_dearestReady) (maxL := 4) (ret := (some .int)) (by decide) rfl ?_
  intro p e s m args below meth c s₁ B hml hv
  obtain ⟨rfl, hP0, hK, hD0⟩ := hv
  have C : CallFix p m c cX6_dearestReady 4 s _ wsX6_dearestReady RX6 := ⟨B.exec, B.bytes, hml, findClass_of_methodNamed B.named, atoms_spec (ws := wsX6_dearestReady) B.pre⟩
  have hr := B.returns
  have hlocks := B.notSynchronized
  have hw : XW D ad cI cJ cR s.heap s.heap [] u := ⟨hP0, hD0, va_S.rf⟩
  refine en_W (Nat.le_of_ble_eq_true rfl) (fun ls hl => ?_)
  have hl : lv_has ls 4 [(0, .ref (ad 0)), (1, .int l1)] := hl
  unfold f_X6_dearestReady at hG
  refine lv_iconst (v := -1) C.1 C.2.1 dX6_dearestReady_0 (by decide) ?_
  refine lv_istore_n (lv' := [(2, .int (-1 : Int32)), (0, .ref (ad 0)), (1, .int l1)]) C.1 C.2.1 dX6_dearestReady_1 rfl hl (by decide) rfl (fun ls hl => ?_)
  refine lv_iconst (v := 0) C.1 C.2.1 dX6_dearestReady_2 (by decide) ?_
  refine lv_istore_n (lv' := [(3, .int (0 : Int32)), (2, .int (-1 : Int32)), (0, .ref (ad 0)), (1, .int l1)]) C.1 C.2.1 dX6_dearestReady_3 rfl hl (by decide) rfl (fun ls hl => ?_)
  exact kl_X6_dearestReady_4 C hr hlocks hK 1000 l1 (-1 : Int32) (0 : Int32) u _ _ _ hG hw (lv_sub hl [2, 3, 1, 0] rfl)
theorem jX6_doAct_0 : ∀ w ∈ wsX00, w ∈ wsX6_doAct := by decide +kernel
theorem jX6_doAct_1 : ∀ w ∈ wsX10, w ∈ wsX6_doAct := by decide +kernel
theorem jX6_doAct_6 : ∀ w ∈ wsX60, w ∈ wsX6_doAct := by decide +kernel
def f_X6_doAct (l1 : Nat) (l2 : Int32) (u : XS) : Option (Int32 × XS) := (if l1 < 25 then (if (((x_cf u) 11 l1) + (10 : Int32)) ≤ ((x_cf u) 6 l1) then (if inb ((up2 (x_cf u) 11 l1 (((x_cf u) 11 l1) + (10 : Int32))) 3 l1) 12 = true then (if inb l2 4 = true then (if ((x_am u) l1 (Int32.toNatClampNeg l2)) ≤ ((x_fun u) (Int32.toNatClampNeg ((up2 (x_cf u) 11 l1 (((x_cf u) 11 l1) + (10 : Int32))) 3 l1))) then (if inb l2 4 = true then (if inb l2 4 = true then ((f_X0_move ((up2 (x_cf u) 11 l1 (((x_cf u) 11 l1) + (10 : Int32))) 3 l1) ((x_rc u) l1 (Int32.toNatClampNeg l2)) ((x_am u) l1 (Int32.toNatClampNeg l2)) (xs_cf u (up2 (x_cf u) 11 l1 (((x_cf u) 11 l1) + (10 : Int32))))).bind fun q_7 => some ((1 : Int32), q_7)) else none) else none) else some ((0 : Int32), (xs_cf u (up2 (x_cf u) 11 l1 (((x_cf u) 11 l1) + (10 : Int32)))))) else none) else none) else some ((0 : Int32), u)) else none)
set_option maxHeartbeats 4000000 in
set_option maxRecDepth 100000 in
theorem k_X6_doAct (l : Launch) (D : va_G) (ad : Nat → Nat) (cI cJ cR : ClassId) (u : XS) (l1 : Nat) (l2 : Int32) (r1 : Int32) (u1 : XS) (hG : f_X6_doAct l1 l2 u = some (r1, u1)) : Met l yX6_doAct wsX6_doAct ({ frames := 1, cells := 0, slots := 0, locals := 24 } : Room) (va_Pc [.ref (ad 0), .ref (ad (17 + l1)), .int l2] (XB D ad cI cJ cR u)) (va_Qi (S := XS) (fun r u2 => r = r1 ∧ u2 = u1) (XB D ad cI cJ cR) (AX ad)) 0 0 (AX ad) := by
  refine Met.ofW (cc := cX6_doAct) (maxL := 3) (ret := (some .boolean)) (by decide) rfl ?_
  intro p e s m args below meth c s₁ B hml hv
  obtain ⟨rfl, hP0, hK, hD0⟩ := hv
  have C : CallFix p m c cX6_doAct 3 s _ wsX6_doAct RX6 := ⟨B.exec, B.bytes, hml, findClass_of_methodNamed B.named, atoms_spec (ws := wsX6_doAct) B.pre⟩
  have hr := B.returns
  have hlocks := B.notSynchronized
  have hw : XW D ad cI cJ cR s.heap s.heap [] u := ⟨hP0, hD0, va_S.rf⟩
  refine en_W (Nat.le_of_ble_eq_true rfl) (fun ls hl => ?_)
  have hl : lv_has ls 3 [(0, .ref (ad 0)), (1, .ref (ad (17 + l1))), (2, .int l2)] := hl
  unfold f_X6_doAct at hG
  obtain ⟨hq_l1, hG⟩ := ot hG
  refine lv_aload_n C.1 C.2.1 dX6_doAct_0 rfl (lv_at hl 1 rfl) ?_
  refine xgc_11 (q := l1) C hK hw hq_l1 jX6_doAct_1 (List.mem_of_getElem? (i := 1) rfl) dX6_doAct_1 ?_
  refine lv_bipush (v := 10) C.1 C.2.1 dX6_doAct_4 (by decide) ?_
  refine lv_iadd C.1 C.2.1 dX6_doAct_6 ?_
  refine lv_aload_n C.1 C.2.1 dX6_doAct_7 rfl (lv_at hl 1 rfl) ?_
  refine xgc_6 (q := l1) C hK hw hq_l1 jX6_doAct_1 (List.mem_of_getElem? (i := 2) rfl) dX6_doAct_8 ?_
  refine lv_icmp_le (tgt := 16) C.1 C.2.1 dX6_doAct_11 (by decide) (fun (h_1 : (((x_cf u) 11 l1) + (10 : Int32)) ≤ ((x_cf u) 6 l1)) => ?_) (fun (h_1 : ¬ (((x_cf u) 11 l1) + (10 : Int32)) ≤ ((x_cf u) 6 l1)) => ?_)
  · replace hG := ip h_1 hG
    refine lv_aload_n C.1 C.2.1 dX6_doAct_16 rfl (lv_at hl 1 rfl) ?_
    refine lv_dup C.1 C.2.1 dX6_doAct_17 rfl ?_
    refine xgc_11 (q := l1) C hK hw hq_l1 jX6_doAct_1 (List.mem_of_getElem? (i := 1) rfl) dX6_doAct_18 ?_
    refine lv_bipush (v := 10) C.1 C.2.1 dX6_doAct_21 (by decide) ?_
    refine lv_iadd C.1 C.2.1 dX6_doAct_23 ?_
    refine xpc_11 (q := l1) C hK hw hq_l1 jX6_doAct_1 (List.mem_of_getElem? (i := 1) rfl) dX6_doAct_24 (fun H locs hw => ?_)
    refine lv_aload_n C.1 C.2.1 dX6_doAct_27 rfl (lv_at hl 0 rfl) ?_
    refine xg_0_0 C hK hw jX6_doAct_6 (List.mem_of_getElem? (i := 3) rfl) dX6_doAct_28 ?_
    refine xg_1_0 C hK hw jX6_doAct_0 (List.mem_of_getElem? (i := 4) rfl) dX6_doAct_31 ?_
    refine lv_aload_n C.1 C.2.1 dX6_doAct_34 rfl (lv_at hl 1 rfl) ?_
    refine xgc_3 (q := l1) C hK hw hq_l1 jX6_doAct_1 (List.mem_of_getElem? (i := 5) rfl) dX6_doAct_35 ?_
    obtain ⟨h_2, hG⟩ := og hG
    refine xl_2 C hK hw h_2 dX6_doAct_38 ?_
    refine lv_aload_n C.1 C.2.1 dX6_doAct_39 rfl (lv_at hl 1 rfl) ?_
    refine xgc_1 (q := l1) C hK hw hq_l1 jX6_doAct_1 (List.mem_of_getElem? (i := 6) rfl) dX6_doAct_40 ?_
    refine lv_iload_n C.1 C.2.1 dX6_doAct_43 rfl (lv_at hl 2 rfl) ?_
    obtain ⟨h_3, hG⟩ := og hG
    refine xl_am (q := l1) C hK hw hq_l1 h_3 dX6_doAct_44 ?_
    refine W.lcmp C.1 C.2.1 dX6_doAct_45 ?_
    refine lv_if_ge (tgt := 51) C.1 C.2.1 dX6_doAct_46 (by decide) (fun hz => ?_) (fun hz => ?_)
    · have h_4 : ((x_am u) l1 (Int32.toNatClampNeg l2)) ≤ ((x_fun u) (Int32.toNatClampNeg ((up2 (x_cf u) 11 l1 (((x_cf u) 11 l1) + (10 : Int32))) 3 l1))) := (lg_cmp_ge _ _).mp hz
      replace hG := ip h_4 hG
      refine lv_aload_n C.1 C.2.1 dX6_doAct_51 rfl (lv_at hl 0 rfl) ?_
      refine xg_0_0 C hK hw jX6_doAct_6 (List.mem_of_getElem? (i := 3) rfl) dX6_doAct_52 ?_
      refine lv_aload_n C.1 C.2.1 dX6_doAct_55 rfl (lv_at hl 1 rfl) ?_
      refine xgc_3 (q := l1) C hK hw hq_l1 jX6_doAct_1 (List.mem_of_getElem? (i := 5) rfl) dX6_doAct_56 ?_
      refine lv_aload_n C.1 C.2.1 dX6_doAct_59 rfl (lv_at hl 1 rfl) ?_
      refine xgc_0 (q := l1) C hK hw hq_l1 jX6_doAct_1 (List.mem_of_getElem? (i := 7) rfl) dX6_doAct_60 ?_
      refine lv_iload_n C.1 C.2.1 dX6_doAct_63 rfl (lv_at hl 2 rfl) ?_
      obtain ⟨h_5, hG⟩ := og hG
      refine xl_rc (q := l1) C hK hw hq_l1 h_5 dX6_doAct_64 ?_
      refine lv_aload_n C.1 C.2.1 dX6_doAct_65 rfl (lv_at hl 1 rfl) ?_
      refine xgc_1 (q := l1) C hK hw hq_l1 jX6_doAct_1 (List.mem_of_getElem? (i := 6) rfl) dX6_doAct_66 ?_
      refine lv_iload_n C.1 C.2.1 dX6_doAct_69 rfl (lv_at hl 2 rfl) ?_
      obtain ⟨h_6, hG⟩ := og hG
      refine xl_am (q := l1) C hK hw hq_l1 h_6 dX6_doAct_70 ?_
      obtain ⟨q_7, hc_7, hG⟩ := ob hG
      try dsimp only at hG
      refine xcVv (As := [.int ((up2 (x_cf u) 11 l1 (((x_cf u) 11 l1) + (10 : Int32))) 3 l1), .int ((x_rc u) l1 (Int32.toNatClampNeg l2)), .long ((x_am u) l1 (Int32.toNatClampNeg l2))]) (rest := []) C hK hw (k_X0_move l D ad cI cJ cR (xs_cf u (up2 (x_cf u) 11 l1 (((x_cf u) 11 l1) + (10 : Int32)))) ((up2 (x_cf u) 11 l1 (((x_cf u) 11 l1) + (10 : Int32))) 3 l1) ((x_rc u) l1 (Int32.toNatClampNeg l2)) ((x_am u) l1 (Int32.toNatClampNeg l2)) q_7 hc_7) (cwV 3 C.2.2.2.2 gX6_doAct_X0_move rfl rfl rfl (by decide +kernel) ⟨Nat.le_of_ble_eq_true rfl, Nat.le_of_ble_eq_true rfl⟩) (va_recv hK hw.1 (ci := 0) (q0 := 1) rfl rfl) rfl hl.1 rfl (Nat.le_of_ble_eq_true rfl) dX6_doAct_71 (fun H locs hw => ?_)
      refine lv_iconst (v := 1) C.1 C.2.1 dX6_doAct_74 (by decide) ?_
      exact xret_z C hlocks hK hw hr rfl (ret2 hG) dX6_doAct_75
    · have h_4 : ¬ ((x_am u) l1 (Int32.toNatClampNeg l2)) ≤ ((x_fun u) (Int32.toNatClampNeg ((up2 (x_cf u) 11 l1 (((x_cf u) 11 l1) + (10 : Int32))) 3 l1))) := fun qz => hz ((lg_cmp_ge _ _).mpr qz)
      replace hG := inn h_4 hG
      refine lv_iconst (v := 0) C.1 C.2.1 dX6_doAct_49 (by decide) ?_
      exact xret_z C hlocks hK hw hr rfl (ret2 hG) dX6_doAct_50
  · replace hG := inn h_1 hG
    refine lv_iconst (v := 0) C.1 C.2.1 dX6_doAct_14 (by decide) ?_
    exact xret_z C hlocks hK hw hr rfl (ret2 hG) dX6_doAct_15
theorem jX6_undoActs_1 : ∀ w ∈ wsX10, w ∈ wsX6_undoActs := by decide +kernel
theorem jX6_undoActs_6 : ∀ w ∈ wsX60, w ∈ wsX6_undoActs := by decide +kernel
def f_X6_undoActs_2 : Nat → Nat → Int32 → Int32 → XS → Option XS
  | 0, _, _, _, _ => none
  | n + 1, l1, l2, l3, u => (if l2 ≤ l3 then some u else (if inb l3 4 = true then (if inb l3 4 = true then ((f_X0_move ((x_rc u) l1 (Int32.toNatClampNeg l3)) ((x_cf u) 3 l1) ((x_am u) l1 (Int32.toNatClampNeg l3)) u).bind fun q_4 => (f_X6_undoActs_2 n l1 l2 (l3 + (1 : Int32)) q_4)) else none) else none))
set_option maxHeartbeats 4000000 in
set_option maxRecDepth 100000 in
theorem kl_X6_undoActs_2 {p : Program} {l : Launch} {e : Env} {s : State} {m : MethodId} {args : Array Value} {below : List Frame} {meth : Method} {c : Code} {D : va_G} {ad : Nat → Nat} {cI cJ cR : ClassId} (C : CallFix p m c cX6_undoActs 4 s args wsX6_undoActs RX6) (hr : meth.sig.returnType = none) (hlocks : meth.locks = false) (hK : va_K D vwCl (xT cI cJ cR) s) {u1 : XS} : ∀ (n : Nat) (l1 : Nat) (l2 : Int32) (l3 : Int32) (u : XS) (H : Heap) (locs : List Loc) (ls : Array Slot), f_X6_undoActs_2 n l1 l2 l3 u = some u1 → XW D ad cI cJ cR s.heap H locs u → lv_has ls 4 [(0, .ref (ad 0)), (1, .ref (ad (17 + l1))), (2, .int l2), (3, .int l3)] → l1 < 25 → W p l e ({ frames := 1, cells := 0, slots := 0, locals := 24 } : Room) s m args below meth c H locs 0 0 (MQ below (va_Qv (S := XS) (fun u2 => u2 = u1) (XB D ad cI cJ cR) (AX ad)) args s 0 0 (AX ad)) (F0 m 2 ls []) := by
  intro n
  induction n with
  | zero =>
    intro l1 l2 l3 u H locs ls hG
    exact ns hG
  | succ n ih =>
    intro l1 l2 l3 u H locs ls hG hw hl hq_l1
    rw [f_X6_undoActs_2] at hG
    refine lv_iload_n C.1 C.2.1 dX6_undoActs_2 rfl (lv_at hl 3 rfl) ?_
    refine lv_iload_n C.1 C.2.1 dX6_undoActs_3 rfl (lv_at hl 2 rfl) ?_
    refine lv_icmp_ge (tgt := 36) C.1 C.2.1 dX6_undoActs_4 (by decide) (fun (h_1 : l2 ≤ l3) => ?_) (fun (h_1 : ¬ l2 ≤ l3) => ?_)
    · replace hG := ip h_1 hG
      exact xret_v C hlocks hK hw hr (retv hG) dX6_undoActs_36
    · replace hG := inn h_1 hG
      refine lv_aload_n C.1 C.2.1 dX6_undoActs_7 rfl (lv_at hl 0 rfl) ?_
      refine xg_0_0 C hK hw jX6_undoActs_6 (List.mem_of_getElem? (i := 1) rfl) dX6_undoActs_8 ?_
      refine lv_aload_n C.1 C.2.1 dX6_undoActs_11 rfl (lv_at hl 1 rfl) ?_
      refine xgc_0 (q := l1) C hK hw hq_l1 jX6_undoActs_1 (List.mem_of_getElem? (i := 2) rfl) dX6_undoActs_12 ?_
      refine lv_iload_n C.1 C.2.1 dX6_undoActs_15 rfl (lv_at hl 3 rfl) ?_
      obtain ⟨h_2, hG⟩ := og hG
      refine xl_rc (q := l1) C hK hw hq_l1 h_2 dX6_undoActs_16 ?_
      refine lv_aload_n C.1 C.2.1 dX6_undoActs_17 rfl (lv_at hl 1 rfl) ?_
      refine xgc_3 (q := l1) C hK hw hq_l1 jX6_undoActs_1 (List.mem_of_getElem? (i := 3) rfl) dX6_undoActs_18 ?_
      refine lv_aload_n C.1 C.2.1 dX6_undoActs_21 rfl (lv_at hl 1 rfl) ?_
      refine xgc_1 (q := l1) C hK hw hq_l1 jX6_undoActs_1 (List.mem_of_getElem? (i := 4) rfl) dX6_undoActs_22 ?_
      refine lv_iload_n C.1 C.2.1 dX6_undoActs_25 rfl (lv_at hl 3 rfl) ?_
      obtain ⟨h_3, hG⟩ := og hG
      refine xl_am (q := l1) C hK hw hq_l1 h_3 dX6_undoActs_26 ?_
      obtain ⟨q_4, hc_4, hG⟩ := ob hG
      try dsimp only at hG
      refine xcVv (As := [.int ((x_rc u) l1 (Int32.toNatClampNeg l3)), .int ((x_cf u) 3 l1), .long ((x_am u) l1 (Int32.toNatClampNeg l3))]) (rest := []) C hK hw (k_X0_move l D ad cI cJ cR u ((x_rc u) l1 (Int32.toNatClampNeg l3)) ((x_cf u) 3 l1) ((x_am u) l1 (Int32.toNatClampNeg l3)) q_4 hc_4) (cwV 3 C.2.2.2.2 gX6_undoActs_X0_move rfl rfl rfl (by decide +kernel) ⟨Nat.le_of_ble_eq_true rfl, Nat.le_of_ble_eq_true rfl⟩) (va_recv hK hw.1 (ci := 0) (q0 := 1) rfl rfl) rfl hl.1 rfl (Nat.le_of_ble_eq_true rfl) dX6_undoActs_27 (fun H locs hw => ?_)
      refine lv_iinc (v := (l3 + (1 : Int32))) (lv' := [(3, .int (l3 + (1 : Int32))), (0, .ref (ad 0)), (1, .ref (ad (17 + l1))), (2, .int l2)]) C.1 C.2.1 dX6_undoActs_30 hl (k := 3) rfl rfl (by decide) rfl (fun ls hl => ?_)
      refine lv_goto (tgt := 2) C.1 C.2.1 dX6_undoActs_33 (by decide) ?_
      exact ih l1 l2 (l3 + (1 : Int32)) q_4 _ _ _ hG hw (lv_sub hl [1, 2, 3, 0] rfl) hq_l1
def f_X6_undoActs (l1 : Nat) (l2 : Int32) (u : XS) : Option XS := (if l1 < 25 then (f_X6_undoActs_2 1000 l1 l2 (0 : Int32) u) else none)
set_option maxHeartbeats 4000000 in
set_option maxRecDepth 100000 in
theorem k_X6_undoActs (l : Launch) (D : va_G) (ad : Nat → Nat) (cI cJ cR : ClassId) (u : XS) (l1 : Nat) (l2 : Int32) (u1 : XS) (hG : f_X6_undoActs l1 l2 u = some u1) : Met l yX6_undoActs wsX6_undoActs ({ frames := 1, cells := 0, slots := 0, locals := 24 } : Room) (va_Pc [.ref (ad 0), .ref (ad (17 + l1)), .int l2] (XB D ad cI cJ cR u)) (va_Qv (S := XS) (fun u2 => u2 = u1) (XB D ad cI cJ cR) (AX ad)) 0 0 (AX ad) := by
  refine Met.ofW (cc := cX6_undoActs) (maxL := 4) (ret := none) (by decide) rfl ?_
  intro p e s m args below meth c s₁ B hml hv
  obtain ⟨rfl, hP0, hK, hD0⟩ := hv
  have C : CallFix p m c cX6_undoActs 4 s _ wsX6_undoActs RX6 := ⟨B.exec, B.bytes, hml, findClass_of_methodNamed B.named, atoms_spec (ws := wsX6_undoActs) B.pre⟩
  have hr := B.returns
  have hlocks := B.notSynchronized
  have hw : XW D ad cI cJ cR s.heap s.heap [] u := ⟨hP0, hD0, va_S.rf⟩
  refine en_W (Nat.le_of_ble_eq_true rfl) (fun ls hl => ?_)
  have hl : lv_has ls 4 [(0, .ref (ad 0)), (1, .ref (ad (17 + l1))), (2, .int l2)] := hl
  unfold f_X6_undoActs at hG
  obtain ⟨hq_l1, hG⟩ := ot hG
  refine lv_iconst (v := 0) C.1 C.2.1 dX6_undoActs_0 (by decide) ?_
  refine lv_istore_n (lv' := [(3, .int (0 : Int32)), (0, .ref (ad 0)), (1, .ref (ad (17 + l1))), (2, .int l2)]) C.1 C.2.1 dX6_undoActs_1 rfl hl (by decide) rfl (fun ls hl => ?_)
  exact kl_X6_undoActs_2 C hr hlocks hK 1000 l1 l2 (0 : Int32) u _ _ _ hG hw (lv_sub hl [1, 2, 3, 0] rfl) hq_l1
theorem jX6_doActs_1 : ∀ w ∈ wsX10, w ∈ wsX6_doActs := by decide +kernel
def f_X6_doActs_2 : Nat → Nat → Int32 → XS → Option (Int32 × XS)
  | 0, _, _, _ => none
  | n + 1, l1, l2, u => (if ((x_cf u) 2 l1) ≤ l2 then some ((1 : Int32), u) else ((f_X6_doAct l1 l2 u).bind fun q_2 => (if q_2.1 = (0 : Int32) then ((f_X6_undoActs l1 l2 q_2.2).bind fun q_4 => some ((0 : Int32), q_4)) else (f_X6_doActs_2 n l1 (l2 + (1 : Int32)) q_2.2))))
set_option maxHeartbeats 4000000 in
set_option maxRecDepth 100000 in
theorem kl_X6_doActs_2 {p : Program} {l : Launch} {e : Env} {s : State} {m : MethodId} {args : Array Value} {below : List Frame} {meth : Method} {c : Code} {D : va_G} {ad : Nat → Nat} {cI cJ cR : ClassId} (C : CallFix p m c cX6_doActs 3 s args wsX6_doActs RX6) (hr : meth.sig.returnType = (some .boolean)) (hlocks : meth.locks = false) (hK : va_K D vwCl (xT cI cJ cR) s) {r1 : Int32} {u1 : XS} : ∀ (n : Nat) (l1 : Nat) (l2 : Int32) (u : XS) (H : Heap) (locs : List Loc) (ls : Array Slot), f_X6_doActs_2 n l1 l2 u = some (r1, u1) → XW D ad cI cJ cR s.heap H locs u → lv_has ls 3 [(0, .ref (ad 0)), (1, .ref (ad (17 + l1))), (2, .int l2)] → l1 < 25 → W p l e ({ frames := 2, cells := 0, slots := 0, locals := 47 } : Room) s m args below meth c H locs 0 0 (MQ below (va_Qi (S := XS) (fun r u2 => r = r1 ∧ u2 = u1) (XB D ad cI cJ cR) (AX ad)) args s 0 0 (AX ad)) (F0 m 2 ls []) := by
  intro n
  induction n with
  | zero =>
    intro l1 l2 u H locs ls hG
    exact ns hG
  | succ n ih =>
    intro l1 l2 u H locs ls hG hw hl hq_l1
    rw [f_X6_doActs_2] at hG
    refine lv_iload_n C.1 C.2.1 dX6_doActs_2 rfl (lv_at hl 2 rfl) ?_
    refine lv_aload_n C.1 C.2.1 dX6_doActs_3 rfl (lv_at hl 1 rfl) ?_
    refine xgc_2 (q := l1) C hK hw hq_l1 jX6_doActs_1 (List.mem_of_getElem? (i := 1) rfl) dX6_doActs_4 ?_
    refine lv_icmp_ge (tgt := 33) C.1 C.2.1 dX6_doActs_7 (by decide) (fun (h_1 : ((x_cf u) 2 l1) ≤ l2) => ?_) (fun (h_1 : ¬ ((x_cf u) 2 l1) ≤ l2) => ?_)
    · replace hG := ip h_1 hG
      refine lv_iconst (v := 1) C.1 C.2.1 dX6_doActs_33 (by decide) ?_
      exact xret_z C hlocks hK hw hr rfl (ret2 hG) dX6_doActs_34
    · replace hG := inn h_1 hG
      refine lv_aload_n C.1 C.2.1 dX6_doActs_10 rfl (lv_at hl 0 rfl) ?_
      refine lv_aload_n C.1 C.2.1 dX6_doActs_11 rfl (lv_at hl 1 rfl) ?_
      refine lv_iload_n C.1 C.2.1 dX6_doActs_12 rfl (lv_at hl 2 rfl) ?_
      obtain ⟨q_2, hc_2, hG⟩ := ob hG
      try dsimp only at hG
      refine xcVi (As := [.ref (ad (17 + l1)), .int l2]) (rest := []) C hK hw (k_X6_doAct l D ad cI cJ cR u l1 l2 q_2.1 q_2.2 hc_2) (cwV 2 C.2.2.2.2 gX6_doActs_X6_doAct rfl rfl rfl (by decide +kernel) ⟨Nat.le_of_ble_eq_true rfl, Nat.le_of_ble_eq_true rfl⟩) (va_recv hK hw.1 (ci := 6) (q0 := 0) rfl rfl) rfl hl.1 rfl (Nat.le_of_ble_eq_true rfl) dX6_doActs_13 (fun H locs hw => ?_)
      refine lv_if_ne (tgt := 27) C.1 C.2.1 dX6_doActs_16 (by decide) (fun (h_3 : ¬ q_2.1 = (0 : Int32)) => ?_) (fun (h_3 : q_2.1 = (0 : Int32)) => ?_)
      · replace hG := inn h_3 hG
        refine lv_iinc (v := (l2 + (1 : Int32))) (lv' := [(2, .int (l2 + (1 : Int32))), (0, .ref (ad 0)), (1, .ref (ad (17 + l1)))]) C.1 C.2.1 dX6_doActs_27 hl (k := 2) rfl rfl (by decide) rfl (fun ls hl => ?_)
        refine lv_goto (tgt := 2) C.1 C.2.1 dX6_doActs_30 (by decide) ?_
        exact ih l1 (l2 + (1 : Int32)) q_2.2 _ _ _ hG hw (lv_sub hl [1, 2, 0] rfl) hq_l1
      · replace hG := ip h_3 hG
        refine lv_aload_n C.1 C.2.1 dX6_doActs_19 rfl (lv_at hl 0 rfl) ?_
        refine lv_aload_n C.1 C.2.1 dX6_doActs_20 rfl (lv_at hl 1 rfl) ?_
        refine lv_iload_n C.1 C.2.1 dX6_doActs_21 rfl (lv_at hl 2 rfl) ?_
        obtain ⟨q_4, hc_4, hG⟩ := ob hG
        try dsimp only at hG
        refine xcVv (As := [.ref (ad (17 + l1)), .int l2]) (rest := []) C hK hw (k_X6_undoActs l D ad cI cJ cR q_2.2 l1 l2 q_4 hc_4) (cwV 2 C.2.2.2.2 gX6_doActs_X6_undoActs rfl rfl rfl (by decide +kernel) ⟨Nat.le_of_ble_eq_true rfl, Nat.le_of_ble_eq_true rfl⟩) (va_recv hK hw.1 (ci := 6) (q0 := 0) rfl rfl) rfl hl.1 rfl (Nat.le_of_ble_eq_true rfl) dX6_doActs_22 (fun H locs hw => ?_)
        refine lv_iconst (v := 0) C.1 C.2.1 dX6_doActs_25 (by decide) ?_
        exact xret_z C hlocks hK hw hr rfl (ret2 hG) dX6_doActs_26
def f_X6_doActs (l1 : Nat) (u : XS) : Option (Int32 × XS) := (if l1 < 25 then (f_X6_doActs_2 1000 l1 (0 : Int32) u) else none)
set_option maxHeartbeats 4000000 in
set_option maxRecDepth 100000 in
theorem k_X6_doActs (l : Launch) (D : va_G) (ad : Nat → Nat) (cI cJ cR : ClassId) (u : XS) (l1 : Nat) (r1 : Int32) (u1 : XS) (hG : f_X6_doActs l1 u = some (r1, u1)) : Met l yX6_doActs wsX6_doActs ({ frames := 2, cells := 0, slots := 0, locals := 47 } : Room) (va_Pc [.ref (ad 0), .ref (ad (17 + l1))] (XB D ad cI cJ cR u)) (va_Qi (S := XS) (fun r u2 => r = r1 ∧ u2 = u1) (XB D ad cI cJ cR) (AX ad)) 0 0 (AX ad) := by
  refine Met.ofW (cc := cX6_doActs) (maxL := 3) (ret := (some .boolean)) (by decide) rfl ?_
  intro p e s m args below meth c s₁ B hml hv
  obtain ⟨rfl, hP0, hK, hD0⟩ := hv
  have C : CallFix p m c cX6_doActs 3 s _ wsX6_doActs RX6 := ⟨B.exec, B.bytes, hml, findClass_of_methodNamed B.named, atoms_spec (ws := wsX6_doActs) B.pre⟩
  have hr := B.returns
  have hlocks := B.notSynchronized
  have hw : XW D ad cI cJ cR s.heap s.heap [] u := ⟨hP0, hD0, va_S.rf⟩
  refine en_W (Nat.le_of_ble_eq_true rfl) (fun ls hl => ?_)
  have hl : lv_has ls 3 [(0, .ref (ad 0)), (1, .ref (ad (17 + l1)))] := hl
  unfold f_X6_doActs at hG
  obtain ⟨hq_l1, hG⟩ := ot hG
  refine lv_iconst (v := 0) C.1 C.2.1 dX6_doActs_0 (by decide) ?_
  refine lv_istore_n (lv' := [(2, .int (0 : Int32)), (0, .ref (ad 0)), (1, .ref (ad (17 + l1)))]) C.1 C.2.1 dX6_doActs_1 rfl hl (by decide) rfl (fun ls hl => ?_)
  exact kl_X6_doActs_2 C hr hlocks hK 1000 l1 (0 : Int32) u _ _ _ hG hw (lv_sub hl [1, 2, 0] rfl) hq_l1
theorem jX6_perform_0 : ∀ w ∈ wsX00, w ∈ wsX6_perform := by decide +kernel
theorem jX6_perform_1 : ∀ w ∈ wsX10, w ∈ wsX6_perform := by decide +kernel
theorem jX6_perform_6 : ∀ w ∈ wsX60, w ∈ wsX6_perform := by decide +kernel
def f_X6_perform (l1 : Nat) (u : XS) : Option (Int32 × XS) := (if l1 < 25 then ((f_X6_coversStake l1 (xs_cf u (up2 (x_cf u) 11 l1 (0 : Int32)))).bind fun q_1 => (if q_1 = (0 : Int32) then some ((5 : Int32), (xs_cf u (up2 (x_cf u) 11 l1 (0 : Int32)))) else ((f_X1_payer l1 (xs_cf u (up2 (x_cf u) 11 l1 (0 : Int32)))).bind fun q_3 => (if inb q_3 12 = true then ((f_X1_stake l1 (xs_cf u (up2 (x_cf u) 11 l1 (0 : Int32)))).bind fun q_5 => (if inb q_3 12 = true then (if inb ((up2 (x_cf u) 11 l1 (0 : Int32)) 3 l1) 12 = true then (if inb ((up2 (x_cf u) 11 l1 (0 : Int32)) 3 l1) 12 = true then ((f_X6_doActs l1 (xs_nxt (xs_fun (xs_cf u (up2 (x_cf u) 11 l1 (0 : Int32))) (vp_updL (x_fun u) (Int32.toNatClampNeg q_3) (((x_fun u) (Int32.toNatClampNeg q_3)) - q_5))) (upd (x_nxt u) (Int32.toNatClampNeg ((up2 (x_cf u) 11 l1 (0 : Int32)) 3 l1)) (((x_nxt u) (Int32.toNatClampNeg ((up2 (x_cf u) 11 l1 (0 : Int32)) 3 l1))) + (1 : Int32))))).bind fun q_9 => (if inb q_3 12 = true then ((f_X1_stake l1 q_9.2).bind fun q_11 => (if inb q_3 12 = true then (if q_9.1 = (0 : Int32) then some ((1 : Int32), (xs_pai (xs_fun q_9.2 (vp_updL (x_fun q_9.2) (Int32.toNatClampNeg q_3) (((x_fun q_9.2) (Int32.toNatClampNeg q_3)) + (q_11 - ((Int32.toInt64 ((x_cf q_9.2) 5 l1)) * (Int32.toInt64 ((x_cf q_9.2) 11 l1))))))) ((x_pai q_9.2) + ((Int32.toInt64 ((x_cf q_9.2) 5 l1)) * (Int32.toInt64 ((x_cf q_9.2) 11 l1)))))) else some ((0 : Int32), (xs_pai (xs_fun q_9.2 (vp_updL (x_fun q_9.2) (Int32.toNatClampNeg q_3) (((x_fun q_9.2) (Int32.toNatClampNeg q_3)) + (q_11 - ((Int32.toInt64 ((x_cf q_9.2) 5 l1)) * (Int32.toInt64 ((x_cf q_9.2) 11 l1))))))) ((x_pai q_9.2) + ((Int32.toInt64 ((x_cf q_9.2) 5 l1)) * (Int32.toInt64 ((x_cf q_9.2) 11 l1))))))) else none)) else none)) else none) else none) else none)) else none)))) else none)
set_option maxHeartbeats 4000000 in
set_option maxRecDepth 100000 in
theorem k_X6_perform (l : Launch) (D : va_G) (ad : Nat → Nat) (cI cJ cR : ClassId) (u : XS) (l1 : Nat) (r1 : Int32) (u1 : XS) (hG : f_X6_perform l1 u = some (r1, u1)) : Met l yX6_perform wsX6_perform ({ frames := 3, cells := 0, slots := 0, locals := 69 } : Room) (va_Pc [.ref (ad 0), .ref (ad (17 + l1))] (XB D ad cI cJ cR u)) (va_Qi (S := XS) (fun r u2 => r = r1 ∧ u2 = u1) (XB D ad cI cJ cR) (AX ad)) 0 0 (AX ad) := by
  refine Met.ofW (cc := cX6_perform) (maxL := 6) (ret := (some .int)) (by decide) rfl ?_
  intro p e s m args below meth c s₁ B hml hv
  obtain ⟨rfl, hP0, hK, hD0⟩ := hv
  have C : CallFix p m c cX6_perform 6 s _ wsX6_perform RX6 := ⟨B.exec, B.bytes, hml, findClass_of_methodNamed B.named, atoms_spec (ws := wsX6_perform) B.pre⟩
  have hr := B.returns
  have hlocks := B.notSynchronized
  have hw : XW D ad cI cJ cR s.heap s.heap [] u := ⟨hP0, hD0, va_S.rf⟩
  refine en_W (Nat.le_of_ble_eq_true rfl) (fun ls hl => ?_)
  have hl : lv_has ls 6 [(0, .ref (ad 0)), (1, .ref (ad (17 + l1)))] := hl
  unfold f_X6_perform at hG
  obtain ⟨hq_l1, hG⟩ := ot hG
  refine lv_aload_n C.1 C.2.1 dX6_perform_0 rfl (lv_at hl 1 rfl) ?_
  refine lv_iconst (v := 0) C.1 C.2.1 dX6_perform_1 (by decide) ?_
  refine xpc_11 (q := l1) C hK hw hq_l1 jX6_perform_1 (List.mem_of_getElem? (i := 1) rfl) dX6_perform_2 (fun H locs hw => ?_)
  refine lv_aload_n C.1 C.2.1 dX6_perform_5 rfl (lv_at hl 0 rfl) ?_
  refine lv_aload_n C.1 C.2.1 dX6_perform_6 rfl (lv_at hl 1 rfl) ?_
  obtain ⟨q_1, hc_1, hG⟩ := ob hG
  try dsimp only at hG
  refine xcVi (As := [.ref (ad (17 + l1))]) (rest := []) C hK hw (k_X6_coversStake l D ad cI cJ cR (xs_cf u (up2 (x_cf u) 11 l1 (0 : Int32))) l1 q_1 hc_1) (cwV 1 C.2.2.2.2 gX6_perform_X6_coversStake rfl rfl rfl (by decide +kernel) ⟨Nat.le_of_ble_eq_true rfl, Nat.le_of_ble_eq_true rfl⟩) (va_recv hK hw.1 (ci := 6) (q0 := 0) rfl rfl) rfl hl.1 rfl (Nat.le_of_ble_eq_true rfl) dX6_perform_7 (fun H locs hw => ?_)
  refine lv_if_ne (tgt := 15) C.1 C.2.1 dX6_perform_10 (by decide) (fun (h_2 : ¬ q_1 = (0 : Int32)) => ?_) (fun (h_2 : q_1 = (0 : Int32)) => ?_)
  · replace hG := inn h_2 hG
    refine lv_aload_n C.1 C.2.1 dX6_perform_15 rfl (lv_at hl 1 rfl) ?_
    obtain ⟨q_3, hc_3, hG⟩ := ob hG
    try dsimp only at hG
    refine xcVi (As := []) (rest := []) C hK hw (k_X1_payer l D ad cI cJ cR (xs_cf u (up2 (x_cf u) 11 l1 (0 : Int32))) l1 q_3 hc_3) (cwV 0 C.2.2.2.2 gX6_perform_X1_payer rfl rfl rfl (by decide +kernel) ⟨Nat.le_of_ble_eq_true rfl, Nat.le_of_ble_eq_true rfl⟩) (va_recv hK hw.1 (ci := 1) (q0 := 17 + l1) rfl (wX_c hq_l1)) rfl hl.1 rfl (Nat.le_of_ble_eq_true rfl) dX6_perform_16 (fun H locs hw => ?_)
    refine lv_istore_n (lv' := [(2, .int q_3), (0, .ref (ad 0)), (1, .ref (ad (17 + l1)))]) C.1 C.2.1 dX6_perform_19 rfl hl (by decide) rfl (fun ls hl => ?_)
    refine lv_aload_n C.1 C.2.1 dX6_perform_20 rfl (lv_at hl 1 rfl) ?_
    refine xg_0_0 C hK hw jX6_perform_6 (List.mem_of_getElem? (i := 2) rfl) dX6_perform_21 ?_
    refine xg_1_0 C hK hw jX6_perform_0 (List.mem_of_getElem? (i := 3) rfl) dX6_perform_24 ?_
    refine lv_iload_n C.1 C.2.1 dX6_perform_27 rfl (lv_at hl 0 rfl) ?_
    refine lv_dup2_11 C.1 C.2.1 dX6_perform_28 rfl rfl ?_
    obtain ⟨h_4, hG⟩ := og hG
    refine xl_2 C hK hw h_4 dX6_perform_29 ?_
    refine lv_aload_n C.1 C.2.1 dX6_perform_30 rfl (lv_at hl 2 rfl) ?_
    obtain ⟨q_5, hc_5, hG⟩ := ob hG
    try dsimp only at hG
    refine xcVl (As := []) (rest := [.long ((x_fun u) (Int32.toNatClampNeg q_3)), .int q_3, .ref (ad 2)]) C hK hw (k_X1_stake l D ad cI cJ cR (xs_cf u (up2 (x_cf u) 11 l1 (0 : Int32))) l1 q_5 hc_5) (cwV 0 C.2.2.2.2 gX6_perform_X1_stake rfl rfl rfl (by decide +kernel) ⟨Nat.le_of_ble_eq_true rfl, Nat.le_of_ble_eq_true rfl⟩) (va_recv hK hw.1 (ci := 1) (q0 := 17 + l1) rfl (wX_c hq_l1)) rfl hl.1 rfl (Nat.le_of_ble_eq_true rfl) dX6_perform_31 (fun H locs hw => ?_)
    refine lv_lsub C.1 C.2.1 dX6_perform_34 ?_
    obtain ⟨h_6, hG⟩ := og hG
    refine xt_2 C hK hw h_6 dX6_perform_35 (fun H locs hw => ?_)
    refine lv_aload_n C.1 C.2.1 dX6_perform_36 rfl (lv_at hl 1 rfl) ?_
    refine xg_0_0 C hK hw jX6_perform_6 (List.mem_of_getElem? (i := 2) rfl) dX6_perform_37 ?_
    refine xg_1_1 C hK hw jX6_perform_0 (List.mem_of_getElem? (i := 4) rfl) dX6_perform_40 ?_
    refine lv_aload_n C.1 C.2.1 dX6_perform_43 rfl (lv_at hl 2 rfl) ?_
    refine xgc_3 (q := l1) C hK hw hq_l1 jX6_perform_1 (List.mem_of_getElem? (i := 5) rfl) dX6_perform_44 ?_
    refine lv_dup2_11 C.1 C.2.1 dX6_perform_47 rfl rfl ?_
    obtain ⟨h_7, hG⟩ := og hG
    refine xl_3 C hK hw h_7 dX6_perform_48 ?_
    refine lv_iconst (v := 1) C.1 C.2.1 dX6_perform_49 (by decide) ?_
    refine lv_iadd C.1 C.2.1 dX6_perform_50 ?_
    obtain ⟨h_8, hG⟩ := og hG
    refine xt_3 C hK hw h_8 dX6_perform_51 (fun H locs hw => ?_)
    refine lv_aload_n C.1 C.2.1 dX6_perform_52 rfl (lv_at hl 1 rfl) ?_
    refine lv_aload_n C.1 C.2.1 dX6_perform_53 rfl (lv_at hl 2 rfl) ?_
    obtain ⟨q_9, hc_9, hG⟩ := ob hG
    try dsimp only at hG
    refine xcVi (As := [.ref (ad (17 + l1))]) (rest := []) C hK hw (k_X6_doActs l D ad cI cJ cR (xs_nxt (xs_fun (xs_cf u (up2 (x_cf u) 11 l1 (0 : Int32))) (vp_updL (x_fun u) (Int32.toNatClampNeg q_3) (((x_fun u) (Int32.toNatClampNeg q_3)) - q_5))) (upd (x_nxt u) (Int32.toNatClampNeg ((up2 (x_cf u) 11 l1 (0 : Int32)) 3 l1)) (((x_nxt u) (Int32.toNatClampNeg ((up2 (x_cf u) 11 l1 (0 : Int32)) 3 l1))) + (1 : Int32)))) l1 q_9.1 q_9.2 hc_9) (cwV 1 C.2.2.2.2 gX6_perform_X6_doActs rfl rfl rfl (by decide +kernel) ⟨Nat.le_of_ble_eq_true rfl, Nat.le_of_ble_eq_true rfl⟩) (va_recv hK hw.1 (ci := 6) (q0 := 0) rfl rfl) rfl hl.1 rfl (Nat.le_of_ble_eq_true rfl) dX6_perform_54 (fun H locs hw => ?_)
    refine lv_istore_n (lv' := [(3, .int q_9.1), (2, .int q_3), (0, .ref (ad 0)), (1, .ref (ad (17 + l1)))]) C.1 C.2.1 dX6_perform_57 rfl hl (by decide) rfl (fun ls hl => ?_)
    refine lv_aload_n C.1 C.2.1 dX6_perform_58 rfl (lv_at hl 3 rfl) ?_
    refine xgc_5 (q := l1) C hK hw hq_l1 jX6_perform_1 (List.mem_of_getElem? (i := 6) rfl) dX6_perform_59 ?_
    refine lv_i2l C.1 C.2.1 dX6_perform_62 rfl ?_
    refine lv_aload_n C.1 C.2.1 dX6_perform_63 rfl (lv_at hl 3 rfl) ?_
    refine xgc_11 (q := l1) C hK hw hq_l1 jX6_perform_1 (List.mem_of_getElem? (i := 1) rfl) dX6_perform_64 ?_
    refine lv_i2l C.1 C.2.1 dX6_perform_67 rfl ?_
    refine lv_lmul C.1 C.2.1 dX6_perform_68 ?_
    refine lv_lstore (lv' := [(4, .long ((Int32.toInt64 ((x_cf q_9.2) 5 l1)) * (Int32.toInt64 ((x_cf q_9.2) 11 l1)))), (3, .int q_9.1), (2, .int q_3), (0, .ref (ad 0)), (1, .ref (ad (17 + l1)))]) C.1 C.2.1 dX6_perform_69 hl (by decide) rfl (fun ls hl => ?_)
    refine lv_aload_n C.1 C.2.1 dX6_perform_71 rfl (lv_at hl 3 rfl) ?_
    refine xg_0_0 C hK hw jX6_perform_6 (List.mem_of_getElem? (i := 2) rfl) dX6_perform_72 ?_
    refine xg_1_0 C hK hw jX6_perform_0 (List.mem_of_getElem? (i := 3) rfl) dX6_perform_75 ?_
    refine lv_iload_n C.1 C.2.1 dX6_perform_78 rfl (lv_at hl 2 rfl) ?_
    refine lv_dup2_11 C.1 C.2.1 dX6_perform_79 rfl rfl ?_
    obtain ⟨h_10, hG⟩ := og hG
    refine xl_2 C hK hw h_10 dX6_perform_80 ?_
    refine lv_aload_n C.1 C.2.1 dX6_perform_81 rfl (lv_at hl 4 rfl) ?_
    obtain ⟨q_11, hc_11, hG⟩ := ob hG
    try dsimp only at hG
    refine xcVl (As := []) (rest := [.long ((x_fun q_9.2) (Int32.toNatClampNeg q_3)), .int q_3, .ref (ad 2)]) C hK hw (k_X1_stake l D ad cI cJ cR q_9.2 l1 q_11 hc_11) (cwV 0 C.2.2.2.2 gX6_perform_X1_stake rfl rfl rfl (by decide +kernel) ⟨Nat.le_of_ble_eq_true rfl, Nat.le_of_ble_eq_true rfl⟩) (va_recv hK hw.1 (ci := 1) (q0 := 17 + l1) rfl (wX_c hq_l1)) rfl hl.1 rfl (Nat.le_of_ble_eq_true rfl) dX6_perform_82 (fun H locs hw => ?_)
    refine lv_lload C.1 C.2.1 dX6_perform_85 (lv_at hl 0 rfl) ?_
    refine lv_lsub C.1 C.2.1 dX6_perform_87 ?_
    refine lv_ladd C.1 C.2.1 dX6_perform_88 ?_
    obtain ⟨h_12, hG⟩ := og hG
    refine xt_2 C hK hw h_12 dX6_perform_89 (fun H locs hw => ?_)
    refine lv_aload_n C.1 C.2.1 dX6_perform_90 rfl (lv_at hl 3 rfl) ?_
    refine lv_dup C.1 C.2.1 dX6_perform_91 rfl ?_
    refine xg_0_7 C hK hw jX6_perform_6 (List.mem_of_getElem? (i := 7) rfl) dX6_perform_92 ?_
    refine lv_lload C.1 C.2.1 dX6_perform_95 (lv_at hl 0 rfl) ?_
    refine lv_ladd C.1 C.2.1 dX6_perform_97 ?_
    refine xp_0_7 C hK hw jX6_perform_6 (List.mem_of_getElem? (i := 7) rfl) dX6_perform_98 (fun H locs hw => ?_)
    refine lv_iload_n C.1 C.2.1 dX6_perform_101 rfl (lv_at hl 1 rfl) ?_
    refine lv_if_eq (tgt := 109) C.1 C.2.1 dX6_perform_102 (by decide) (fun (h_13 : q_9.1 = (0 : Int32)) => ?_) (fun (h_13 : ¬ q_9.1 = (0 : Int32)) => ?_)
    · replace hG := ip h_13 hG
      refine lv_iconst (v := 1) C.1 C.2.1 dX6_perform_109 (by decide) ?_
      exact xret_i C hlocks hK hw hr (ret2 hG) dX6_perform_110
    · replace hG := inn h_13 hG
      refine lv_iconst (v := 0) C.1 C.2.1 dX6_perform_105 (by decide) ?_
      refine lv_goto (tgt := 110) C.1 C.2.1 dX6_perform_106 (by decide) ?_
      exact xret_i C hlocks hK hw hr (ret2 hG) dX6_perform_110
  · replace hG := ip h_2 hG
    refine lv_iconst (v := 5) C.1 C.2.1 dX6_perform_13 (by decide) ?_
    exact xret_i C hlocks hK hw hr (ret2 hG) dX6_perform_14
theorem jX6_block_1 : ∀ w ∈ wsX10, w ∈ wsX6_block := by decide +kernel
theorem jX6_block_6 : ∀ w ∈ wsX60, w ∈ wsX6_block := by decide +kernel
def f_X6_block_34 : Nat → Int32 → Int32 → Int32 → Int32 → XS → Option (Int32 × XS)
  | 0, _, _, _, _, _ => none
  | n + 1, l1, l2, l3, l4, u => (if (24 : Int32) ≤ l4 then some (l3, u) else ((f_X6_dearestReady l2 u).bind fun q_5 => (if q_5 = (-1 : Int32) then some (l3, u) else ((f_X5_take q_5 u).bind fun q_7 => if q_7.1 < 25 then ((f_X6_perform q_7.1 q_7.2).bind fun q_9 => ((f_X3_note ((x_cf q_9.2) 10 q_7.1) q_9.1 ((x_cf q_9.2) 11 q_7.1) q_9.2).bind fun q_10 => (if q_9.1 = (0 : Int32) then (f_X6_block_34 n l1 (l2 - ((x_cf q_10) 11 q_7.1)) (l3 + (1 : Int32)) (l4 + (1 : Int32)) q_10) else (f_X6_block_34 n l1 (l2 - ((x_cf q_10) 11 q_7.1)) l3 (l4 + (1 : Int32)) q_10)))) else none))))
set_option maxHeartbeats 4000000 in
set_option maxRecDepth 100000 in
theorem kl_X6_block_34 {p : Program} {l : Launch} {e : Env} {s : State} {m : MethodId} {args : Array Value} {below : List Frame} {meth : Method} {c : Code} {D : va_G} {ad : Nat → Nat} {cI cJ cR : ClassId} (C : CallFix p m c cX6_block 8 s args wsX6_block RX6) (hr : meth.sig.returnType = (some .int)) (hlocks : meth.locks = false) (hK : va_K D vwCl (xT cI cJ cR) s) {r1 : Int32} {u1 : XS} : ∀ (n : Nat) (l1 : Int32) (l2 : Int32) (l3 : Int32) (l4 : Int32) (u : XS) (H : Heap) (locs : List Loc) (ls : Array Slot), f_X6_block_34 n l1 l2 l3 l4 u = some (r1, u1) → XW D ad cI cJ cR s.heap H locs u → lv_has ls 8 [(0, .ref (ad 0)), (1, .int l1), (2, .int l2), (3, .int l3), (4, .int l4)] → W p l e ({ frames := 4, cells := 0, slots := 0, locals := 94 } : Room) s m args below meth c H locs 0 0 (MQ below (va_Qi (S := XS) (fun r u2 => r = r1 ∧ u2 = u1) (XB D ad cI cJ cR) (AX ad)) args s 0 0 (AX ad)) (F0 m 34 ls []) := by
  intro n
  induction n with
  | zero =>
    intro l1 l2 l3 l4 u H locs ls hG
    exact ns hG
  | succ n ih =>
    intro l1 l2 l3 l4 u H locs ls hG hw hl
    rw [f_X6_block_34] at hG
    refine lv_iload C.1 C.2.1 dX6_block_34 (lv_at hl 4 rfl) ?_
    refine lv_bipush (v := 24) C.1 C.2.1 dX6_block_36 (by decide) ?_
    refine lv_icmp_ge (tgt := 117) C.1 C.2.1 dX6_block_38 (by decide) (fun (h_4 : (24 : Int32) ≤ l4) => ?_) (fun (h_4 : ¬ (24 : Int32) ≤ l4) => ?_)
    · replace hG := ip h_4 hG
      refine lv_iload_n C.1 C.2.1 dX6_block_117 rfl (lv_at hl 3 rfl) ?_
      exact xret_i C hlocks hK hw hr (ret2 hG) dX6_block_118
    · replace hG := inn h_4 hG
      refine lv_aload_n C.1 C.2.1 dX6_block_41 rfl (lv_at hl 0 rfl) ?_
      refine lv_iload_n C.1 C.2.1 dX6_block_42 rfl (lv_at hl 2 rfl) ?_
      obtain ⟨q_5, hc_5, hG⟩ := ob hG
      try dsimp only at hG
      refine xcVi (As := [.int l2]) (rest := []) C hK hw (k_X6_dearestReady l D ad cI cJ cR u l2 q_5 hc_5) (cwV 1 C.2.2.2.2 gX6_block_X6_dearestReady rfl rfl rfl (by decide +kernel) ⟨Nat.le_of_ble_eq_true rfl, Nat.le_of_ble_eq_true rfl⟩) (va_recv hK hw.1 (ci := 6) (q0 := 0) rfl rfl) rfl hl.1 rfl (Nat.le_of_ble_eq_true rfl) dX6_block_43 (fun H locs hw => ?_)
      refine lv_istore (lv' := [(5, .int q_5), (0, .ref (ad 0)), (1, .int l1), (2, .int l2), (3, .int l3), (4, .int l4)]) C.1 C.2.1 dX6_block_46 hl (by decide) rfl (fun ls hl => ?_)
      refine lv_iload C.1 C.2.1 dX6_block_48 (lv_at hl 0 rfl) ?_
      refine lv_iconst (v := -1) C.1 C.2.1 dX6_block_50 (by decide) ?_
      refine lv_icmp_ne (tgt := 57) C.1 C.2.1 dX6_block_51 (by decide) (fun (h_6 : ¬ q_5 = (-1 : Int32)) => ?_) (fun (h_6 : q_5 = (-1 : Int32)) => ?_)
      · replace hG := inn h_6 hG
        refine lv_aload_n C.1 C.2.1 dX6_block_57 rfl (lv_at hl 1 rfl) ?_
        refine xg_0_3 C hK hw jX6_block_6 (List.mem_of_getElem? (i := 2) rfl) dX6_block_58 ?_
        refine lv_iload C.1 C.2.1 dX6_block_61 (lv_at hl 0 rfl) ?_
        obtain ⟨q_7, hc_7, hG⟩ := ob hG
        try dsimp only at hG
        refine xcVq (As := [.int q_5]) (rest := []) C hK hw (k_X5_take l D ad cI cJ cR u q_5 q_7.1 q_7.2 hc_7) (cwV 1 C.2.2.2.2 gX6_block_X5_take rfl rfl rfl (by decide +kernel) ⟨Nat.le_of_ble_eq_true rfl, Nat.le_of_ble_eq_true rfl⟩) (va_recv hK hw.1 (ci := 5) (q0 := 11) rfl rfl) rfl hl.1 rfl (Nat.le_of_ble_eq_true rfl) dX6_block_63 (fun H locs hw => ?_)
        obtain ⟨h_8, hG⟩ := ot hG
        refine lv_astore (lv' := [(6, .ref (ad (17 + q_7.1))), (5, .int q_5), (0, .ref (ad 0)), (1, .int l1), (2, .int l2), (3, .int l3), (4, .int l4)]) C.1 C.2.1 dX6_block_66 hl (by decide) rfl (fun ls hl => ?_)
        refine lv_aload_n C.1 C.2.1 dX6_block_68 rfl (lv_at hl 2 rfl) ?_
        refine lv_aload C.1 C.2.1 dX6_block_69 (lv_at hl 0 rfl) ?_
        obtain ⟨q_9, hc_9, hG⟩ := ob hG
        try dsimp only at hG
        refine xcVi (As := [.ref (ad (17 + q_7.1))]) (rest := []) C hK hw (k_X6_perform l D ad cI cJ cR q_7.2 q_7.1 q_9.1 q_9.2 hc_9) (cwV 1 C.2.2.2.2 gX6_block_X6_perform rfl rfl rfl (by decide +kernel) ⟨Nat.le_of_ble_eq_true rfl, Nat.le_of_ble_eq_true rfl⟩) (va_recv hK hw.1 (ci := 6) (q0 := 0) rfl rfl) rfl hl.1 rfl (Nat.le_of_ble_eq_true rfl) dX6_block_71 (fun H locs hw => ?_)
        refine lv_istore (lv' := [(7, .int q_9.1), (6, .ref (ad (17 + q_7.1))), (5, .int q_5), (0, .ref (ad 0)), (1, .int l1), (2, .int l2), (3, .int l3), (4, .int l4)]) C.1 C.2.1 dX6_block_74 hl (by decide) rfl (fun ls hl => ?_)
        refine lv_aload_n C.1 C.2.1 dX6_block_76 rfl (lv_at hl 3 rfl) ?_
        refine xg_0_4 C hK hw jX6_block_6 (List.mem_of_getElem? (i := 3) rfl) dX6_block_77 ?_
        refine lv_aload C.1 C.2.1 dX6_block_80 (lv_at hl 1 rfl) ?_
        refine xgc_10 (q := q_7.1) C hK hw h_8 jX6_block_1 (List.mem_of_getElem? (i := 4) rfl) dX6_block_82 ?_
        refine lv_iload C.1 C.2.1 dX6_block_85 (lv_at hl 0 rfl) ?_
        refine lv_aload C.1 C.2.1 dX6_block_87 (lv_at hl 1 rfl) ?_
        refine xgc_11 (q := q_7.1) C hK hw h_8 jX6_block_1 (List.mem_of_getElem? (i := 5) rfl) dX6_block_89 ?_
        obtain ⟨q_10, hc_10, hG⟩ := ob hG
        try dsimp only at hG
        refine xcVv (As := [.int ((x_cf q_9.2) 10 q_7.1), .int q_9.1, .int ((x_cf q_9.2) 11 q_7.1)]) (rest := []) C hK hw (k_X3_note l D ad cI cJ cR q_9.2 ((x_cf q_9.2) 10 q_7.1) q_9.1 ((x_cf q_9.2) 11 q_7.1) q_10 hc_10) (cwV 3 C.2.2.2.2 gX6_block_X3_note rfl rfl rfl (by decide +kernel) ⟨Nat.le_of_ble_eq_true rfl, Nat.le_of_ble_eq_true rfl⟩) (va_recv hK hw.1 (ci := 3) (q0 := 13) rfl rfl) rfl hl.1 rfl (Nat.le_of_ble_eq_true rfl) dX6_block_92 (fun H locs hw => ?_)
        refine lv_iload_n C.1 C.2.1 dX6_block_95 rfl (lv_at hl 5 rfl) ?_
        refine lv_aload C.1 C.2.1 dX6_block_96 (lv_at hl 1 rfl) ?_
        refine xgc_11 (q := q_7.1) C hK hw h_8 jX6_block_1 (List.mem_of_getElem? (i := 5) rfl) dX6_block_98 ?_
        refine lv_isub C.1 C.2.1 dX6_block_101 ?_
        refine lv_istore_n (lv' := [(2, .int (l2 - ((x_cf q_10) 11 q_7.1))), (7, .int q_9.1), (6, .ref (ad (17 + q_7.1))), (5, .int q_5), (0, .ref (ad 0)), (1, .int l1), (3, .int l3), (4, .int l4)]) C.1 C.2.1 dX6_block_102 rfl hl (by decide) rfl (fun ls hl => ?_)
        refine lv_iload C.1 C.2.1 dX6_block_103 (lv_at hl 1 rfl) ?_
        refine lv_if_ne (tgt := 111) C.1 C.2.1 dX6_block_105 (by decide) (fun (h_11 : ¬ q_9.1 = (0 : Int32)) => ?_) (fun (h_11 : q_9.1 = (0 : Int32)) => ?_)
        · replace hG := inn h_11 hG
          refine lv_iinc (v := (l4 + (1 : Int32))) (lv' := [(4, .int (l4 + (1 : Int32))), (2, .int (l2 - ((x_cf q_10) 11 q_7.1))), (7, .int q_9.1), (6, .ref (ad (17 + q_7.1))), (5, .int q_5), (0, .ref (ad 0)), (1, .int l1), (3, .int l3)]) C.1 C.2.1 dX6_block_111 hl (k := 7) rfl rfl (by decide) rfl (fun ls hl => ?_)
          refine lv_goto (tgt := 34) C.1 C.2.1 dX6_block_114 (by decide) ?_
          exact ih l1 (l2 - ((x_cf q_10) 11 q_7.1)) l3 (l4 + (1 : Int32)) q_10 _ _ _ hG hw (lv_sub hl [5, 6, 1, 7, 0] rfl)
        · replace hG := ip h_11 hG
          refine lv_iinc (v := (l3 + (1 : Int32))) (lv' := [(3, .int (l3 + (1 : Int32))), (2, .int (l2 - ((x_cf q_10) 11 q_7.1))), (7, .int q_9.1), (6, .ref (ad (17 + q_7.1))), (5, .int q_5), (0, .ref (ad 0)), (1, .int l1), (4, .int l4)]) C.1 C.2.1 dX6_block_108 hl (k := 6) rfl rfl (by decide) rfl (fun ls hl => ?_)
          refine lv_iinc (v := (l4 + (1 : Int32))) (lv' := [(4, .int (l4 + (1 : Int32))), (3, .int (l3 + (1 : Int32))), (2, .int (l2 - ((x_cf q_10) 11 q_7.1))), (7, .int q_9.1), (6, .ref (ad (17 + q_7.1))), (5, .int q_5), (0, .ref (ad 0)), (1, .int l1)]) C.1 C.2.1 dX6_block_111 hl (k := 7) rfl rfl (by decide) rfl (fun ls hl => ?_)
          refine lv_goto (tgt := 34) C.1 C.2.1 dX6_block_114 (by decide) ?_
          exact ih l1 (l2 - ((x_cf q_10) 11 q_7.1)) (l3 + (1 : Int32)) (l4 + (1 : Int32)) q_10 _ _ _ hG hw (lv_sub hl [6, 7, 2, 1, 0] rfl)
      · replace hG := ip h_6 hG
        refine lv_goto (tgt := 117) C.1 C.2.1 dX6_block_54 (by decide) ?_
        refine lv_iload_n C.1 C.2.1 dX6_block_117 rfl (lv_at hl 4 rfl) ?_
        exact xret_i C hlocks hK hw hr (ret2 hG) dX6_block_118
def f_X6_block (l1 : Int32) (u : XS) : Option (Int32 × XS) := (if l1 < (0 : Int32) then some ((-1 : Int32), u) else (if l1 ≤ (10000 : Int32) then ((f_X6_endThoseOver (xs_hgt u ((x_hgt u) + (1 : Int32)))).bind fun q_3 => (f_X6_block_34 1000 l1 l1 (0 : Int32) (0 : Int32) q_3)) else some ((-1 : Int32), u)))
set_option maxHeartbeats 4000000 in
set_option maxRecDepth 100000 in
theorem k_X6_block (l : Launch) (D : va_G) (ad : Nat → Nat) (cI cJ cR : ClassId) (u : XS) (l1 : Int32) (r1 : Int32) (u1 : XS) (hG : f_X6_block l1 u = some (r1, u1)) : Met l yX6_block wsX6_block ({ frames := 4, cells := 0, slots := 0, locals := 94 } : Room) (va_Pc [.ref (ad 0), .int l1] (XB D ad cI cJ cR u)) (va_Qi (S := XS) (fun r u2 => r = r1 ∧ u2 = u1) (XB D ad cI cJ cR) (AX ad)) 0 0 (AX ad) := by
  refine Met.ofW (cc := cX6_block) (maxL := 8) (ret := (some .int)) (by decide) rfl ?_
  intro p e s m args below meth c s₁ B hml hv
  obtain ⟨rfl, hP0, hK, hD0⟩ := hv
  have C : CallFix p m c cX6_block 8 s _ wsX6_block RX6 := ⟨B.exec, B.bytes, hml, findClass_of_methodNamed B.named, atoms_spec (ws := wsX6_block) B.pre⟩
  have hr := B.returns
  have hlocks := B.notSynchronized
  have hw : XW D ad cI cJ cR s.heap s.heap [] u := ⟨hP0, hD0, va_S.rf⟩
  refine en_W (Nat.le_of_ble_eq_true rfl) (fun ls hl => ?_)
  have hl : lv_has ls 8 [(0, .ref (ad 0)), (1, .int l1)] := hl
  unfold f_X6_block at hG
  refine lv_iload_n C.1 C.2.1 dX6_block_0 rfl (lv_at hl 1 rfl) ?_
  refine lv_if_lt (tgt := 11) C.1 C.2.1 dX6_block_1 (by decide) (fun (h_1 : l1 < (0 : Int32)) => ?_) (fun (h_1 : ¬ l1 < (0 : Int32)) => ?_)
  · replace hG := ip h_1 hG
    refine lv_iconst (v := -1) C.1 C.2.1 dX6_block_11 (by decide) ?_
    exact xret_i C hlocks hK hw hr (ret2 hG) dX6_block_12
  · replace hG := inn h_1 hG
    refine lv_iload_n C.1 C.2.1 dX6_block_4 rfl (lv_at hl 1 rfl) ?_
    refine lv_sipush (v := 10000) C.1 C.2.1 dX6_block_5 (by decide) ?_
    refine lv_icmp_le (tgt := 13) C.1 C.2.1 dX6_block_8 (by decide) (fun (h_2 : l1 ≤ (10000 : Int32)) => ?_) (fun (h_2 : ¬ l1 ≤ (10000 : Int32)) => ?_)
    · replace hG := ip h_2 hG
      refine lv_aload_n C.1 C.2.1 dX6_block_13 rfl (lv_at hl 0 rfl) ?_
      refine lv_dup C.1 C.2.1 dX6_block_14 rfl ?_
      refine xg_0_6 C hK hw jX6_block_6 (List.mem_of_getElem? (i := 1) rfl) dX6_block_15 ?_
      refine lv_iconst (v := 1) C.1 C.2.1 dX6_block_18 (by decide) ?_
      refine lv_iadd C.1 C.2.1 dX6_block_19 ?_
      refine xp_0_6 C hK hw jX6_block_6 (List.mem_of_getElem? (i := 1) rfl) dX6_block_20 (fun H locs hw => ?_)
      refine lv_aload_n C.1 C.2.1 dX6_block_23 rfl (lv_at hl 0 rfl) ?_
      obtain ⟨q_3, hc_3, hG⟩ := ob hG
      try dsimp only at hG
      refine xcVv (As := []) (rest := []) C hK hw (k_X6_endThoseOver l D ad cI cJ cR (xs_hgt u ((x_hgt u) + (1 : Int32))) q_3 hc_3) (cwV 0 C.2.2.2.2 gX6_block_X6_endThoseOver rfl rfl rfl (by decide +kernel) ⟨Nat.le_of_ble_eq_true rfl, Nat.le_of_ble_eq_true rfl⟩) (va_recv hK hw.1 (ci := 6) (q0 := 0) rfl rfl) rfl hl.1 rfl (Nat.le_of_ble_eq_true rfl) dX6_block_24 (fun H locs hw => ?_)
      refine lv_iload_n C.1 C.2.1 dX6_block_27 rfl (lv_at hl 1 rfl) ?_
      refine lv_istore_n (lv' := [(2, .int l1), (0, .ref (ad 0)), (1, .int l1)]) C.1 C.2.1 dX6_block_28 rfl hl (by decide) rfl (fun ls hl => ?_)
      refine lv_iconst (v := 0) C.1 C.2.1 dX6_block_29 (by decide) ?_
      refine lv_istore_n (lv' := [(3, .int (0 : Int32)), (2, .int l1), (0, .ref (ad 0)), (1, .int l1)]) C.1 C.2.1 dX6_block_30 rfl hl (by decide) rfl (fun ls hl => ?_)
      refine lv_iconst (v := 0) C.1 C.2.1 dX6_block_31 (by decide) ?_
      refine lv_istore (lv' := [(4, .int (0 : Int32)), (3, .int (0 : Int32)), (2, .int l1), (0, .ref (ad 0)), (1, .int l1)]) C.1 C.2.1 dX6_block_32 hl (by decide) rfl (fun ls hl => ?_)
      exact kl_X6_block_34 C hr hlocks hK 1000 l1 l1 (0 : Int32) (0 : Int32) q_3 _ _ _ hG hw (lv_sub hl [3, 4, 2, 1, 0] rfl)
    · replace hG := inn h_2 hG
      refine lv_iconst (v := -1) C.1 C.2.1 dX6_block_11 (by decide) ?_
      exact xret_i C hlocks hK hw hr (ret2 hG) dX6_block_12
theorem jX6_waiting_1 : ∀ w ∈ wsX10, w ∈ wsX6_waiting := by decide +kernel
theorem jX6_waiting_5 : ∀ w ∈ wsX50, w ∈ wsX6_waiting := by decide +kernel
theorem jX6_waiting_6 : ∀ w ∈ wsX60, w ∈ wsX6_waiting := by decide +kernel
def f_X6_waiting (l1 : Int32) (l2 : Int32) (u : XS) : Option Int32 := (if l1 < (0 : Int32) then some (-1 : Int32) else (if l1 < (x_rwc u) then (if inb l1 24 = true then (if ((x_row u) (Int32.toNatClampNeg l1)) < 25 then (if l2 = (0 : Int32) then some ((x_cf u) 10 ((x_row u) (Int32.toNatClampNeg l1))) else (if l2 = (1 : Int32) then some ((x_cf u) 3 ((x_row u) (Int32.toNatClampNeg l1))) else (if l2 = (2 : Int32) then some ((x_cf u) 4 ((x_row u) (Int32.toNatClampNeg l1))) else (if l2 = (3 : Int32) then some ((x_cf u) 5 ((x_row u) (Int32.toNatClampNeg l1))) else some (-1 : Int32))))) else none) else none) else some (-1 : Int32)))
set_option maxHeartbeats 4000000 in
set_option maxRecDepth 100000 in
theorem k_X6_waiting (l : Launch) (D : va_G) (ad : Nat → Nat) (cI cJ cR : ClassId) (u : XS) (l1 : Int32) (l2 : Int32) (r1 : Int32) (hG : f_X6_waiting l1 l2 u = some r1) : Met l yX6_waiting wsX6_waiting ({ frames := 0, cells := 0, slots := 0, locals := 0 } : Room) (va_Pc [.ref (ad 0), .int l1, .int l2] (XB D ad cI cJ cR u)) (va_Qi (S := XS) (fun r u2 => r = r1 ∧ u2 = u) (XB D ad cI cJ cR) (AX ad)) 0 0 (AX ad) := by
  refine Met.ofW (cc := cX6_waiting) (maxL := 4) (ret := (some .int)) (by decide) rfl ?_
  intro p e s m args below meth c s₁ B hml hv
  obtain ⟨rfl, hP0, hK, hD0⟩ := hv
  have C : CallFix p m c cX6_waiting 4 s _ wsX6_waiting RX6 := ⟨B.exec, B.bytes, hml, findClass_of_methodNamed B.named, atoms_spec (ws := wsX6_waiting) B.pre⟩
  have hr := B.returns
  have hlocks := B.notSynchronized
  have hw : XW D ad cI cJ cR s.heap s.heap [] u := ⟨hP0, hD0, va_S.rf⟩
  refine en_W (Nat.le_of_ble_eq_true rfl) (fun ls hl => ?_)
  have hl : lv_has ls 4 [(0, .ref (ad 0)), (1, .int l1), (2, .int l2)] := hl
  unfold f_X6_waiting at hG
  refine lv_iload_n C.1 C.2.1 dX6_waiting_0 rfl (lv_at hl 1 rfl) ?_
  refine lv_if_lt (tgt := 15) C.1 C.2.1 dX6_waiting_1 (by decide) (fun (h_1 : l1 < (0 : Int32)) => ?_) (fun (h_1 : ¬ l1 < (0 : Int32)) => ?_)
  · replace hG := ip h_1 hG
    refine lv_iconst (v := -1) C.1 C.2.1 dX6_waiting_15 (by decide) ?_
    exact xret_i C hlocks hK hw hr (ret1 hG) dX6_waiting_16
  · replace hG := inn h_1 hG
    refine lv_iload_n C.1 C.2.1 dX6_waiting_4 rfl (lv_at hl 1 rfl) ?_
    refine lv_aload_n C.1 C.2.1 dX6_waiting_5 rfl (lv_at hl 0 rfl) ?_
    refine xg_0_3 C hK hw jX6_waiting_6 (List.mem_of_getElem? (i := 1) rfl) dX6_waiting_6 ?_
    refine xg_11_1 C hK hw jX6_waiting_5 (List.mem_of_getElem? (i := 2) rfl) dX6_waiting_9 ?_
    refine lv_icmp_lt (tgt := 17) C.1 C.2.1 dX6_waiting_12 (by decide) (fun (h_2 : l1 < (x_rwc u)) => ?_) (fun (h_2 : ¬ l1 < (x_rwc u)) => ?_)
    · replace hG := ip h_2 hG
      refine lv_aload_n C.1 C.2.1 dX6_waiting_17 rfl (lv_at hl 0 rfl) ?_
      refine xg_0_3 C hK hw jX6_waiting_6 (List.mem_of_getElem? (i := 1) rfl) dX6_waiting_18 ?_
      refine xg_11_0 C hK hw jX6_waiting_5 (List.mem_of_getElem? (i := 3) rfl) dX6_waiting_21 ?_
      refine lv_iload_n C.1 C.2.1 dX6_waiting_24 rfl (lv_at hl 1 rfl) ?_
      obtain ⟨h_3, hG⟩ := og hG
      refine xl_row C hK hw h_3 dX6_waiting_25 ?_
      obtain ⟨h_4, hG⟩ := ot hG
      refine lv_astore_n (lv' := [(3, .ref (ad (17 + ((x_row u) (Int32.toNatClampNeg l1))))), (0, .ref (ad 0)), (1, .int l1), (2, .int l2)]) C.1 C.2.1 dX6_waiting_26 rfl hl (by decide) rfl (fun ls hl => ?_)
      refine lv_iload_n C.1 C.2.1 dX6_waiting_27 rfl (lv_at hl 3 rfl) ?_
      by_cases h_5 : l2 = (0 : Int32)
      · replace hG := ip h_5 hG
        refine lv_tableIn (off := 32) (tgt := 60) C.1 C.2.1 dX6_waiting_28 (by rw [h_5]; decide) (by rw [h_5]; decide) (by rw [h_5]; rfl) (by decide) ?_
        refine lv_aload_n C.1 C.2.1 dX6_waiting_60 rfl (lv_at hl 0 rfl) ?_
        refine xgc_10 (q := ((x_row u) (Int32.toNatClampNeg l1))) C hK hw h_4 jX6_waiting_1 (List.mem_of_getElem? (i := 4) rfl) dX6_waiting_61 ?_
        exact xret_i C hlocks hK hw hr (ret1 hG) dX6_waiting_64
      replace hG := inn h_5 hG
      by_cases h_6 : l2 = (1 : Int32)
      · replace hG := ip h_6 hG
        refine lv_tableIn (off := 37) (tgt := 65) C.1 C.2.1 dX6_waiting_28 (by rw [h_6]; decide) (by rw [h_6]; decide) (by rw [h_6]; rfl) (by decide) ?_
        refine lv_aload_n C.1 C.2.1 dX6_waiting_65 rfl (lv_at hl 0 rfl) ?_
        refine xgc_3 (q := ((x_row u) (Int32.toNatClampNeg l1))) C hK hw h_4 jX6_waiting_1 (List.mem_of_getElem? (i := 5) rfl) dX6_waiting_66 ?_
        exact xret_i C hlocks hK hw hr (ret1 hG) dX6_waiting_69
      replace hG := inn h_6 hG
      by_cases h_7 : l2 = (2 : Int32)
      · replace hG := ip h_7 hG
        refine lv_tableIn (off := 42) (tgt := 70) C.1 C.2.1 dX6_waiting_28 (by rw [h_7]; decide) (by rw [h_7]; decide) (by rw [h_7]; rfl) (by decide) ?_
        refine lv_aload_n C.1 C.2.1 dX6_waiting_70 rfl (lv_at hl 0 rfl) ?_
        refine xgc_4 (q := ((x_row u) (Int32.toNatClampNeg l1))) C hK hw h_4 jX6_waiting_1 (List.mem_of_getElem? (i := 6) rfl) dX6_waiting_71 ?_
        exact xret_i C hlocks hK hw hr (ret1 hG) dX6_waiting_74
      replace hG := inn h_7 hG
      by_cases h_8 : l2 = (3 : Int32)
      · replace hG := ip h_8 hG
        refine lv_tableIn (off := 47) (tgt := 75) C.1 C.2.1 dX6_waiting_28 (by rw [h_8]; decide) (by rw [h_8]; decide) (by rw [h_8]; rfl) (by decide) ?_
        refine lv_aload_n C.1 C.2.1 dX6_waiting_75 rfl (lv_at hl 0 rfl) ?_
        refine xgc_5 (q := ((x_row u) (Int32.toNatClampNeg l1))) C hK hw h_4 jX6_waiting_1 (List.mem_of_getElem? (i := 7) rfl) dX6_waiting_76 ?_
        exact xret_i C hlocks hK hw hr (ret1 hG) dX6_waiting_79
      replace hG := inn h_8 hG
      refine lv_tableOut (tgt := 80) C.1 C.2.1 dX6_waiting_28 (by have z0 := lv_neT (a := 0) h_5 (by decide); have z1 := lv_neT (a := 1) h_6 (by decide); have z2 := lv_neT (a := 2) h_7 (by decide); have z3 := lv_neT (a := 3) h_8 (by decide); omega) (by decide) ?_
      refine lv_iconst (v := -1) C.1 C.2.1 dX6_waiting_80 (by decide) ?_
      exact xret_i C hlocks hK hw hr (ret1 hG) dX6_waiting_81
    · replace hG := inn h_2 hG
      refine lv_iconst (v := -1) C.1 C.2.1 dX6_waiting_15 (by decide) ?_
      exact xret_i C hlocks hK hw hr (ret1 hG) dX6_waiting_16
theorem jX6_event_3 : ∀ w ∈ wsX30, w ∈ wsX6_event := by decide +kernel
theorem jX6_event_6 : ∀ w ∈ wsX60, w ∈ wsX6_event := by decide +kernel
def f_X6_event (l1 : Int32) (l2 : Int32) (u : XS) : Option Int32 := (if l1 < (0 : Int32) then some (-1 : Int32) else (if l1 < (x_kep u) then ((f_X3_placeOf l1 u).bind fun q_3 => (if l2 = (0 : Int32) then (if inb q_3 60 = true then some ((x_etk u) (Int32.toNatClampNeg q_3)) else none) else (if l2 = (1 : Int32) then (if inb q_3 60 = true then some ((x_ewh u) (Int32.toNatClampNeg q_3)) else none) else (if l2 = (2 : Int32) then (if inb q_3 60 = true then some ((x_eun u) (Int32.toNatClampNeg q_3)) else none) else some (-1 : Int32))))) else some (-1 : Int32)))
set_option maxHeartbeats 4000000 in
set_option maxRecDepth 100000 in
theorem k_X6_event (l : Launch) (D : va_G) (ad : Nat → Nat) (cI cJ cR : ClassId) (u : XS) (l1 : Int32) (l2 : Int32) (r1 : Int32) (hG : f_X6_event l1 l2 u = some r1) : Met l yX6_event wsX6_event ({ frames := 1, cells := 0, slots := 0, locals := 22 } : Room) (va_Pc [.ref (ad 0), .int l1, .int l2] (XB D ad cI cJ cR u)) (va_Qi (S := XS) (fun r u2 => r = r1 ∧ u2 = u) (XB D ad cI cJ cR) (AX ad)) 0 0 (AX ad) := by
  refine Met.ofW (cc := cX6_event) (maxL := 4) (ret := (some .int)) (by decide) rfl ?_
  intro p e s m args below meth c s₁ B hml hv
  obtain ⟨rfl, hP0, hK, hD0⟩ := hv
  have C : CallFix p m c cX6_event 4 s _ wsX6_event RX6 := ⟨B.exec, B.bytes, hml, findClass_of_methodNamed B.named, atoms_spec (ws := wsX6_event) B.pre⟩
  have hr := B.returns
  have hlocks := B.notSynchronized
  have hw : XW D ad cI cJ cR s.heap s.heap [] u := ⟨hP0, hD0, va_S.rf⟩
  refine en_W (Nat.le_of_ble_eq_true rfl) (fun ls hl => ?_)
  have hl : lv_has ls 4 [(0, .ref (ad 0)), (1, .int l1), (2, .int l2)] := hl
  unfold f_X6_event at hG
  refine lv_iload_n C.1 C.2.1 dX6_event_0 rfl (lv_at hl 1 rfl) ?_
  refine lv_if_lt (tgt := 15) C.1 C.2.1 dX6_event_1 (by decide) (fun (h_1 : l1 < (0 : Int32)) => ?_) (fun (h_1 : ¬ l1 < (0 : Int32)) => ?_)
  · replace hG := ip h_1 hG
    refine lv_iconst (v := -1) C.1 C.2.1 dX6_event_15 (by decide) ?_
    exact xret_i C hlocks hK hw hr (ret1 hG) dX6_event_16
  · replace hG := inn h_1 hG
    refine lv_iload_n C.1 C.2.1 dX6_event_4 rfl (lv_at hl 1 rfl) ?_
    refine lv_aload_n C.1 C.2.1 dX6_event_5 rfl (lv_at hl 0 rfl) ?_
    refine xg_0_4 C hK hw jX6_event_6 (List.mem_of_getElem? (i := 1) rfl) dX6_event_6 ?_
    refine xg_13_3 C hK hw jX6_event_3 (List.mem_of_getElem? (i := 2) rfl) dX6_event_9 ?_
    refine lv_icmp_lt (tgt := 17) C.1 C.2.1 dX6_event_12 (by decide) (fun (h_2 : l1 < (x_kep u)) => ?_) (fun (h_2 : ¬ l1 < (x_kep u)) => ?_)
    · replace hG := ip h_2 hG
      refine lv_aload_n C.1 C.2.1 dX6_event_17 rfl (lv_at hl 0 rfl) ?_
      refine xg_0_4 C hK hw jX6_event_6 (List.mem_of_getElem? (i := 1) rfl) dX6_event_18 ?_
      refine lv_iload_n C.1 C.2.1 dX6_event_21 rfl (lv_at hl 1 rfl) ?_
      obtain ⟨q_3, hc_3, hG⟩ := ob hG
      try dsimp only at hG
      refine xcVi (As := [.int l1]) (rest := []) C hK hw (k_X3_placeOf l D ad cI cJ cR u l1 q_3 hc_3) (cwV 1 C.2.2.2.2 gX6_event_X3_placeOf rfl rfl rfl (by decide +kernel) ⟨Nat.le_of_ble_eq_true rfl, Nat.le_of_ble_eq_true rfl⟩) (va_recv hK hw.1 (ci := 3) (q0 := 13) rfl rfl) rfl hl.1 rfl (Nat.le_of_ble_eq_true rfl) dX6_event_22 (fun H locs hw => ?_)
      refine lv_istore_n (lv' := [(3, .int q_3), (0, .ref (ad 0)), (1, .int l1), (2, .int l2)]) C.1 C.2.1 dX6_event_25 rfl hl (by decide) rfl (fun ls hl => ?_)
      refine lv_iload_n C.1 C.2.1 dX6_event_26 rfl (lv_at hl 3 rfl) ?_
      by_cases h_4 : l2 = (0 : Int32)
      · replace hG := ip h_4 hG
        refine lv_tableIn (off := 25) (tgt := 52) C.1 C.2.1 dX6_event_27 (by rw [h_4]; decide) (by rw [h_4]; decide) (by rw [h_4]; rfl) (by decide) ?_
        refine lv_aload_n C.1 C.2.1 dX6_event_52 rfl (lv_at hl 1 rfl) ?_
        refine xg_0_4 C hK hw jX6_event_6 (List.mem_of_getElem? (i := 1) rfl) dX6_event_53 ?_
        refine xg_13_0 C hK hw jX6_event_3 (List.mem_of_getElem? (i := 3) rfl) dX6_event_56 ?_
        refine lv_iload_n C.1 C.2.1 dX6_event_59 rfl (lv_at hl 0 rfl) ?_
        obtain ⟨h_5, hG⟩ := og hG
        refine xl_14 C hK hw h_5 dX6_event_60 ?_
        exact xret_i C hlocks hK hw hr (ret1 hG) dX6_event_61
      replace hG := inn h_4 hG
      by_cases h_6 : l2 = (1 : Int32)
      · replace hG := ip h_6 hG
        refine lv_tableIn (off := 35) (tgt := 62) C.1 C.2.1 dX6_event_27 (by rw [h_6]; decide) (by rw [h_6]; decide) (by rw [h_6]; rfl) (by decide) ?_
        refine lv_aload_n C.1 C.2.1 dX6_event_62 rfl (lv_at hl 1 rfl) ?_
        refine xg_0_4 C hK hw jX6_event_6 (List.mem_of_getElem? (i := 1) rfl) dX6_event_63 ?_
        refine xg_13_1 C hK hw jX6_event_3 (List.mem_of_getElem? (i := 4) rfl) dX6_event_66 ?_
        refine lv_iload_n C.1 C.2.1 dX6_event_69 rfl (lv_at hl 0 rfl) ?_
        obtain ⟨h_7, hG⟩ := og hG
        refine xl_15 C hK hw h_7 dX6_event_70 ?_
        exact xret_i C hlocks hK hw hr (ret1 hG) dX6_event_71
      replace hG := inn h_6 hG
      by_cases h_8 : l2 = (2 : Int32)
      · replace hG := ip h_8 hG
        refine lv_tableIn (off := 45) (tgt := 72) C.1 C.2.1 dX6_event_27 (by rw [h_8]; decide) (by rw [h_8]; decide) (by rw [h_8]; rfl) (by decide) ?_
        refine lv_aload_n C.1 C.2.1 dX6_event_72 rfl (lv_at hl 1 rfl) ?_
        refine xg_0_4 C hK hw jX6_event_6 (List.mem_of_getElem? (i := 1) rfl) dX6_event_73 ?_
        refine xg_13_2 C hK hw jX6_event_3 (List.mem_of_getElem? (i := 5) rfl) dX6_event_76 ?_
        refine lv_iload_n C.1 C.2.1 dX6_event_79 rfl (lv_at hl 0 rfl) ?_
        obtain ⟨h_9, hG⟩ := og hG
        refine xl_16 C hK hw h_9 dX6_event_80 ?_
        exact xret_i C hlocks hK hw hr (ret1 hG) dX6_event_81
      replace hG := inn h_8 hG
      refine lv_tableOut (tgt := 82) C.1 C.2.1 dX6_event_27 (by have z0 := lv_neT (a := 0) h_4 (by decide); have z1 := lv_neT (a := 1) h_6 (by decide); have z2 := lv_neT (a := 2) h_8 (by decide); omega) (by decide) ?_
      refine lv_iconst (v := -1) C.1 C.2.1 dX6_event_82 (by decide) ?_
      exact xret_i C hlocks hK hw hr (ret1 hG) dX6_event_83
    · replace hG := inn h_2 hG
      refine lv_iconst (v := -1) C.1 C.2.1 dX6_event_15 (by decide) ?_
      exact xret_i C hlocks hK hw hr (ret1 hG) dX6_event_16
theorem jX6_paid_6 : ∀ w ∈ wsX60, w ∈ wsX6_paid := by decide +kernel
def f_X6_paid (u : XS) : Option Int64 := some (x_pai u)
set_option maxHeartbeats 4000000 in
set_option maxRecDepth 100000 in
theorem k_X6_paid (l : Launch) (D : va_G) (ad : Nat → Nat) (cI cJ cR : ClassId) (u : XS) (r1 : Int64) (hG : f_X6_paid u = some r1) : Met l yX6_paid wsX6_paid ({ frames := 0, cells := 0, slots := 0, locals := 0 } : Room) (va_Pc [.ref (ad 0)] (XB D ad cI cJ cR u)) (va_Ql (S := XS) (fun r u2 => r = r1 ∧ u2 = u) (XB D ad cI cJ cR) (AX ad)) 0 0 (AX ad) := by
  refine Met.ofW (cc := cX6_paid) (maxL := 1) (ret := (some .long)) (by decide) rfl ?_
  intro p e s m args below meth c s₁ B hml hv
  obtain ⟨rfl, hP0, hK, hD0⟩ := hv
  have C : CallFix p m c cX6_paid 1 s _ wsX6_paid RX6 := ⟨B.exec, B.bytes, hml, findClass_of_methodNamed B.named, atoms_spec (ws := wsX6_paid) B.pre⟩
  have hr := B.returns
  have hlocks := B.notSynchronized
  have hw : XW D ad cI cJ cR s.heap s.heap [] u := ⟨hP0, hD0, va_S.rf⟩
  refine en_W (Nat.le_of_ble_eq_true rfl) (fun ls hl => ?_)
  have hl : lv_has ls 1 [(0, .ref (ad 0))] := hl
  unfold f_X6_paid at hG
  refine lv_aload_n C.1 C.2.1 dX6_paid_0 rfl (lv_at hl 0 rfl) ?_
  refine xg_0_7 C hK hw jX6_paid_6 (List.mem_of_getElem? (i := 1) rfl) dX6_paid_1 ?_
  exact xret_l C hlocks hK hw hr (ret1 hG) dX6_paid_4
theorem jX6_told_0 : ∀ w ∈ wsX00, w ∈ wsX6_told := by decide +kernel
theorem jX6_told_3 : ∀ w ∈ wsX30, w ∈ wsX6_told := by decide +kernel
theorem jX6_told_4 : ∀ w ∈ wsX40, w ∈ wsX6_told := by decide +kernel
theorem jX6_told_5 : ∀ w ∈ wsX50, w ∈ wsX6_told := by decide +kernel
theorem jX6_told_6 : ∀ w ∈ wsX60, w ∈ wsX6_told := by decide +kernel
def f_X6_told (l1 : Int32) (u : XS) : Option Int32 := (if l1 = (0 : Int32) then some (x_cnt u) else (if l1 = (1 : Int32) then some (x_sgc u) else (if l1 = (2 : Int32) then some (x_rwc u) else (if l1 = (3 : Int32) then some (x_tik u) else (if l1 = (4 : Int32) then some (x_ina u) else (if l1 = (5 : Int32) then some (x_hgt u) else some (-1 : Int32)))))))
set_option maxHeartbeats 4000000 in
set_option maxRecDepth 100000 in
theorem k_X6_told (l : Launch) (D : va_G) (ad : Nat → Nat) (cI cJ cR : ClassId) (u : XS) (l1 : Int32) (r1 : Int32) (hG : f_X6_told l1 u = some r1) : Met l yX6_told wsX6_told ({ frames := 0, cells := 0, slots := 0, locals := 0 } : Room) (va_Pc [.ref (ad 0), .int l1] (XB D ad cI cJ cR u)) (va_Qi (S := XS) (fun r u2 => r = r1 ∧ u2 = u) (XB D ad cI cJ cR) (AX ad)) 0 0 (AX ad) := by
  refine Met.ofW (cc := cX6_told) (maxL := 2) (ret := (some .int)) (by decide) rfl ?_
  intro p e s m args below meth c s₁ B hml hv
  obtain ⟨rfl, hP0, hK, hD0⟩ := hv
  have C : CallFix p m c cX6_told 2 s _ wsX6_told RX6 := ⟨B.exec, B.bytes, hml, findClass_of_methodNamed B.named, atoms_spec (ws := wsX6_told) B.pre⟩
  have hr := B.returns
  have hlocks := B.notSynchronized
  have hw : XW D ad cI cJ cR s.heap s.heap [] u := ⟨hP0, hD0, va_S.rf⟩
  refine en_W (Nat.le_of_ble_eq_true rfl) (fun ls hl => ?_)
  have hl : lv_has ls 2 [(0, .ref (ad 0)), (1, .int l1)] := hl
  unfold f_X6_told at hG
  refine lv_iload_n C.1 C.2.1 dX6_told_0 rfl (lv_at hl 1 rfl) ?_
  by_cases h_1 : l1 = (0 : Int32)
  · replace hG := ip h_1 hG
    refine lv_tableIn (off := 39) (tgt := 40) C.1 C.2.1 dX6_told_1 (by rw [h_1]; decide) (by rw [h_1]; decide) (by rw [h_1]; rfl) (by decide) ?_
    refine lv_aload_n C.1 C.2.1 dX6_told_40 rfl (lv_at hl 0 rfl) ?_
    refine xg_0_0 C hK hw jX6_told_6 (List.mem_of_getElem? (i := 1) rfl) dX6_told_41 ?_
    refine xg_1_4 C hK hw jX6_told_0 (List.mem_of_getElem? (i := 2) rfl) dX6_told_44 ?_
    exact xret_i C hlocks hK hw hr (ret1 hG) dX6_told_47
  replace hG := inn h_1 hG
  by_cases h_2 : l1 = (1 : Int32)
  · replace hG := ip h_2 hG
    refine lv_tableIn (off := 47) (tgt := 48) C.1 C.2.1 dX6_told_1 (by rw [h_2]; decide) (by rw [h_2]; decide) (by rw [h_2]; rfl) (by decide) ?_
    refine lv_aload_n C.1 C.2.1 dX6_told_48 rfl (lv_at hl 0 rfl) ?_
    refine xg_0_1 C hK hw jX6_told_6 (List.mem_of_getElem? (i := 3) rfl) dX6_told_49 ?_
    refine xg_6_2 C hK hw jX6_told_4 (List.mem_of_getElem? (i := 4) rfl) dX6_told_52 ?_
    exact xret_i C hlocks hK hw hr (ret1 hG) dX6_told_55
  replace hG := inn h_2 hG
  by_cases h_3 : l1 = (2 : Int32)
  · replace hG := ip h_3 hG
    refine lv_tableIn (off := 55) (tgt := 56) C.1 C.2.1 dX6_told_1 (by rw [h_3]; decide) (by rw [h_3]; decide) (by rw [h_3]; rfl) (by decide) ?_
    refine lv_aload_n C.1 C.2.1 dX6_told_56 rfl (lv_at hl 0 rfl) ?_
    refine xg_0_3 C hK hw jX6_told_6 (List.mem_of_getElem? (i := 5) rfl) dX6_told_57 ?_
    refine xg_11_1 C hK hw jX6_told_5 (List.mem_of_getElem? (i := 6) rfl) dX6_told_60 ?_
    exact xret_i C hlocks hK hw hr (ret1 hG) dX6_told_63
  replace hG := inn h_3 hG
  by_cases h_4 : l1 = (3 : Int32)
  · replace hG := ip h_4 hG
    refine lv_tableIn (off := 63) (tgt := 64) C.1 C.2.1 dX6_told_1 (by rw [h_4]; decide) (by rw [h_4]; decide) (by rw [h_4]; rfl) (by decide) ?_
    refine lv_aload_n C.1 C.2.1 dX6_told_64 rfl (lv_at hl 0 rfl) ?_
    refine xg_0_3 C hK hw jX6_told_6 (List.mem_of_getElem? (i := 5) rfl) dX6_told_65 ?_
    refine xg_11_2 C hK hw jX6_told_5 (List.mem_of_getElem? (i := 7) rfl) dX6_told_68 ?_
    exact xret_i C hlocks hK hw hr (ret1 hG) dX6_told_71
  replace hG := inn h_4 hG
  by_cases h_5 : l1 = (4 : Int32)
  · replace hG := ip h_5 hG
    refine lv_tableIn (off := 71) (tgt := 72) C.1 C.2.1 dX6_told_1 (by rw [h_5]; decide) (by rw [h_5]; decide) (by rw [h_5]; rfl) (by decide) ?_
    refine lv_aload_n C.1 C.2.1 dX6_told_72 rfl (lv_at hl 0 rfl) ?_
    refine xg_0_4 C hK hw jX6_told_6 (List.mem_of_getElem? (i := 8) rfl) dX6_told_73 ?_
    refine xg_13_5 C hK hw jX6_told_3 (List.mem_of_getElem? (i := 9) rfl) dX6_told_76 ?_
    exact xret_i C hlocks hK hw hr (ret1 hG) dX6_told_79
  replace hG := inn h_5 hG
  by_cases h_6 : l1 = (5 : Int32)
  · replace hG := ip h_6 hG
    refine lv_tableIn (off := 79) (tgt := 80) C.1 C.2.1 dX6_told_1 (by rw [h_6]; decide) (by rw [h_6]; decide) (by rw [h_6]; rfl) (by decide) ?_
    refine lv_aload_n C.1 C.2.1 dX6_told_80 rfl (lv_at hl 0 rfl) ?_
    refine xg_0_6 C hK hw jX6_told_6 (List.mem_of_getElem? (i := 10) rfl) dX6_told_81 ?_
    exact xret_i C hlocks hK hw hr (ret1 hG) dX6_told_84
  replace hG := inn h_6 hG
  refine lv_tableOut (tgt := 85) C.1 C.2.1 dX6_told_1 (by have z0 := lv_neT (a := 0) h_1 (by decide); have z1 := lv_neT (a := 1) h_2 (by decide); have z2 := lv_neT (a := 2) h_3 (by decide); have z3 := lv_neT (a := 3) h_4 (by decide); have z4 := lv_neT (a := 4) h_5 (by decide); have z5 := lv_neT (a := 5) h_6 (by decide); omega) (by decide) ?_
  refine lv_iconst (v := -1) C.1 C.2.1 dX6_told_85 (by decide) ?_
  exact xret_i C hlocks hK hw hr (ret1 hG) dX6_told_86
