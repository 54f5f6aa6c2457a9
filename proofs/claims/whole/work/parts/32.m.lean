theorem jX7_sameCall_7 : ∀ w ∈ wsX70, w ∈ wsX7_sameCall := by decide +kernel
def f_X7_sameCall_4 : Nat → Int32 → Int32 → MS → Option Int32
  | 0, _, _, _ => none
  | n + 1, l1, l2, u => (if (m_wts u) < l2 then some l1 else (if inb (((17 : Int32) * l2) + (0 : Int32)) 442 = true then (if inb (0 : Int32) 442 = true then (if ((m_cal u) (Int32.toNatClampNeg (((17 : Int32) * l2) + (0 : Int32)))) = ((m_cal u) (Int32.toNatClampNeg (0 : Int32))) then (if inb (((17 : Int32) * l2) + (1 : Int32)) 442 = true then (if inb (1 : Int32) 442 = true then (if ((m_cal u) (Int32.toNatClampNeg (((17 : Int32) * l2) + (1 : Int32)))) = ((m_cal u) (Int32.toNatClampNeg (1 : Int32))) then (f_X7_sameCall_4 n l2 (l2 + (1 : Int32)) u) else (f_X7_sameCall_4 n l1 (l2 + (1 : Int32)) u)) else none) else none) else (f_X7_sameCall_4 n l1 (l2 + (1 : Int32)) u)) else none) else none))
set_option maxHeartbeats 4000000 in
set_option maxRecDepth 100000 in
theorem kl_X7_sameCall_4 {p : Program} {l : Launch} {e : Env} {s : State} {m : MethodId} {args : Array Value} {below : List Frame} {meth : Method} {c : Code} {D : va_G} {ad : Nat → Nat} {cI cJ : ClassId} (C : CallFix p m c cX7_sameCall 3 s args wsX7_sameCall RX7) (hr : meth.sig.returnType = (some .int)) (hlocks : meth.locks = false) (hK : va_K D vwCl (mT cI cJ) s) {r1 : Int32} : ∀ (n : Nat) (l1 : Int32) (l2 : Int32) (u : MS) (H : Heap) (locs : List Loc) (ls : Array Slot), f_X7_sameCall_4 n l1 l2 u = some r1 → MW D ad cI cJ s.heap H locs u → lv_has ls 3 [(0, .ref (ad 0)), (1, .int l1), (2, .int l2)] → W p l e ({ frames := 0, cells := 0, slots := 0, locals := 0 } : Room) s m args below meth c H locs 0 0 (MQ below (va_Qi (S := MS) (fun r u2 => r = r1 ∧ u2 = u) (MB D ad cI cJ) (AM ad)) args s 0 0 (AM ad)) (F0 m 4 ls []) := by
  intro n
  induction n with
  | zero =>
    intro l1 l2 u H locs ls hG
    exact ns hG
  | succ n ih =>
    intro l1 l2 u H locs ls hG hw hl
    rw [f_X7_sameCall_4] at hG
    refine lv_iload_n C.1 C.2.1 dX7_sameCall_4 rfl (lv_at hl 2 rfl) ?_
    refine lv_aload_n C.1 C.2.1 dX7_sameCall_5 rfl (lv_at hl 0 rfl) ?_
    refine mg_0_12 C hK hw jX7_sameCall_7 (List.mem_of_getElem? (i := 1) rfl) dX7_sameCall_6 ?_
    refine lv_icmp_gt (tgt := 66) C.1 C.2.1 dX7_sameCall_9 (by decide) (fun (h_1 : (m_wts u) < l2) => ?_) (fun (h_1 : ¬ (m_wts u) < l2) => ?_)
    · replace hG := ip h_1 hG
      refine lv_iload_n C.1 C.2.1 dX7_sameCall_66 rfl (lv_at hl 1 rfl) ?_
      exact mret_i C hlocks hK hw hr (ret1 hG) dX7_sameCall_67
    · replace hG := inn h_1 hG
      refine lv_aload_n C.1 C.2.1 dX7_sameCall_12 rfl (lv_at hl 0 rfl) ?_
      refine mg_0_8 C hK hw jX7_sameCall_7 (List.mem_of_getElem? (i := 2) rfl) dX7_sameCall_13 ?_
      refine lv_bipush (v := 17) C.1 C.2.1 dX7_sameCall_16 (by decide) ?_
      refine lv_iload_n C.1 C.2.1 dX7_sameCall_18 rfl (lv_at hl 2 rfl) ?_
      refine lv_imul C.1 C.2.1 dX7_sameCall_19 ?_
      refine lv_iconst (v := 0) C.1 C.2.1 dX7_sameCall_20 (by decide) ?_
      refine lv_iadd C.1 C.2.1 dX7_sameCall_21 ?_
      obtain ⟨h_2, hG⟩ := og hG
      refine ml_7 C hK hw h_2 dX7_sameCall_22 ?_
      refine lv_aload_n C.1 C.2.1 dX7_sameCall_23 rfl (lv_at hl 0 rfl) ?_
      refine mg_0_8 C hK hw jX7_sameCall_7 (List.mem_of_getElem? (i := 2) rfl) dX7_sameCall_24 ?_
      refine lv_iconst (v := 0) C.1 C.2.1 dX7_sameCall_27 (by decide) ?_
      obtain ⟨h_3, hG⟩ := og hG
      refine ml_7 C hK hw h_3 dX7_sameCall_28 ?_
      refine W.lcmp C.1 C.2.1 dX7_sameCall_29 ?_
      refine lv_if_ne (tgt := 58) C.1 C.2.1 dX7_sameCall_30 (by decide) (fun hz => ?_) (fun hz => ?_)
      · have h_4 : ¬ ((m_cal u) (Int32.toNatClampNeg (((17 : Int32) * l2) + (0 : Int32)))) = ((m_cal u) (Int32.toNatClampNeg (0 : Int32))) := fun qz => hz ((lg_cmp_eq _ _).mpr qz)
        replace hG := inn h_4 hG
        refine lv_iload_n C.1 C.2.1 dX7_sameCall_58 rfl (lv_at hl 1 rfl) ?_
        refine lv_istore_n (lv' := [(1, .int l1), (0, .ref (ad 0)), (2, .int l2)]) C.1 C.2.1 dX7_sameCall_59 rfl hl (by decide) rfl (fun ls hl => ?_)
        refine lv_iinc (v := (l2 + (1 : Int32))) (lv' := [(2, .int (l2 + (1 : Int32))), (1, .int l1), (0, .ref (ad 0))]) C.1 C.2.1 dX7_sameCall_60 hl (k := 2) rfl rfl (by decide) rfl (fun ls hl => ?_)
        refine lv_goto (tgt := 4) C.1 C.2.1 dX7_sameCall_63 (by decide) ?_
        exact ih l1 (l2 + (1 : Int32)) u _ _ _ hG hw (lv_sub hl [2, 1, 0] rfl)
      · have h_4 : ((m_cal u) (Int32.toNatClampNeg (((17 : Int32) * l2) + (0 : Int32)))) = ((m_cal u) (Int32.toNatClampNeg (0 : Int32))) := (lg_cmp_eq _ _).mp hz
        replace hG := ip h_4 hG
        refine lv_aload_n C.1 C.2.1 dX7_sameCall_33 rfl (lv_at hl 0 rfl) ?_
        refine mg_0_8 C hK hw jX7_sameCall_7 (List.mem_of_getElem? (i := 2) rfl) dX7_sameCall_34 ?_
        refine lv_bipush (v := 17) C.1 C.2.1 dX7_sameCall_37 (by decide) ?_
        refine lv_iload_n C.1 C.2.1 dX7_sameCall_39 rfl (lv_at hl 2 rfl) ?_
        refine lv_imul C.1 C.2.1 dX7_sameCall_40 ?_
        refine lv_iconst (v := 1) C.1 C.2.1 dX7_sameCall_41 (by decide) ?_
        refine lv_iadd C.1 C.2.1 dX7_sameCall_42 ?_
        obtain ⟨h_5, hG⟩ := og hG
        refine ml_7 C hK hw h_5 dX7_sameCall_43 ?_
        refine lv_aload_n C.1 C.2.1 dX7_sameCall_44 rfl (lv_at hl 0 rfl) ?_
        refine mg_0_8 C hK hw jX7_sameCall_7 (List.mem_of_getElem? (i := 2) rfl) dX7_sameCall_45 ?_
        refine lv_iconst (v := 1) C.1 C.2.1 dX7_sameCall_48 (by decide) ?_
        obtain ⟨h_6, hG⟩ := og hG
        refine ml_7 C hK hw h_6 dX7_sameCall_49 ?_
        refine W.lcmp C.1 C.2.1 dX7_sameCall_50 ?_
        refine lv_if_ne (tgt := 58) C.1 C.2.1 dX7_sameCall_51 (by decide) (fun hz => ?_) (fun hz => ?_)
        · have h_7 : ¬ ((m_cal u) (Int32.toNatClampNeg (((17 : Int32) * l2) + (1 : Int32)))) = ((m_cal u) (Int32.toNatClampNeg (1 : Int32))) := fun qz => hz ((lg_cmp_eq _ _).mpr qz)
          replace hG := inn h_7 hG
          refine lv_iload_n C.1 C.2.1 dX7_sameCall_58 rfl (lv_at hl 1 rfl) ?_
          refine lv_istore_n (lv' := [(1, .int l1), (0, .ref (ad 0)), (2, .int l2)]) C.1 C.2.1 dX7_sameCall_59 rfl hl (by decide) rfl (fun ls hl => ?_)
          refine lv_iinc (v := (l2 + (1 : Int32))) (lv' := [(2, .int (l2 + (1 : Int32))), (1, .int l1), (0, .ref (ad 0))]) C.1 C.2.1 dX7_sameCall_60 hl (k := 2) rfl rfl (by decide) rfl (fun ls hl => ?_)
          refine lv_goto (tgt := 4) C.1 C.2.1 dX7_sameCall_63 (by decide) ?_
          exact ih l1 (l2 + (1 : Int32)) u _ _ _ hG hw (lv_sub hl [2, 1, 0] rfl)
        · have h_7 : ((m_cal u) (Int32.toNatClampNeg (((17 : Int32) * l2) + (1 : Int32)))) = ((m_cal u) (Int32.toNatClampNeg (1 : Int32))) := (lg_cmp_eq _ _).mp hz
          replace hG := ip h_7 hG
          refine lv_iload_n C.1 C.2.1 dX7_sameCall_54 rfl (lv_at hl 2 rfl) ?_
          refine lv_goto (tgt := 59) C.1 C.2.1 dX7_sameCall_55 (by decide) ?_
          refine lv_istore_n (lv' := [(1, .int l2), (0, .ref (ad 0)), (2, .int l2)]) C.1 C.2.1 dX7_sameCall_59 rfl hl (by decide) rfl (fun ls hl => ?_)
          refine lv_iinc (v := (l2 + (1 : Int32))) (lv' := [(2, .int (l2 + (1 : Int32))), (1, .int l2), (0, .ref (ad 0))]) C.1 C.2.1 dX7_sameCall_60 hl (k := 2) rfl rfl (by decide) rfl (fun ls hl => ?_)
          refine lv_goto (tgt := 4) C.1 C.2.1 dX7_sameCall_63 (by decide) ?_
          exact ih l2 (l2 + (1 : Int32)) u _ _ _ hG hw (lv_sub hl [2, 1, 0] rfl)
def f_X7_sameCall (u : MS) : Option Int32 := (f_X7_sameCall_4 1000 (0 : Int32) (1 : Int32) u)
set_option maxHeartbeats 4000000 in
set_option maxRecDepth 100000 in
theorem k_X7_sameCall (l : Launch) (D : va_G) (ad : Nat → Nat) (cI cJ : ClassId) (u : MS) (r1 : Int32) (hG : f_X7_sameCall u = some r1) : Met l yX7_sameCall wsX7_sameCall ({ frames := 0, cells := 0, slots := 0, locals := 0 } : Room) (va_Pc [.ref (ad 0)] (MB D ad cI cJ u)) (va_Qi (S := MS) (fun r u2 => r = r1 ∧ u2 = u) (MB D ad cI cJ) (AM ad)) 0 0 (AM ad) := by
  refine Met.ofW (cc := cX7_sameCall) (maxL := 3) (ret := (some .int)) (by decide) rfl ?_
  intro p e s m args below meth c s₁ B hml hv
  obtain ⟨rfl, hP0, hK, hD0⟩ := hv
  have C : CallFix p m c cX7_sameCall 3 s _ wsX7_sameCall RX7 := ⟨B.exec, B.bytes, hml, findClass_of_methodNamed B.named, atoms_spec (ws := wsX7_sameCall) B.pre⟩
  have hr := B.returns
  have hlocks := B.notSynchronized
  have hw : MW D ad cI cJ s.heap s.heap [] u := ⟨hP0, hD0, va_S.rf⟩
  refine en_W (Nat.le_of_ble_eq_true rfl) (fun ls hl => ?_)
  have hl : lv_has ls 3 [(0, .ref (ad 0))] := hl
  unfold f_X7_sameCall at hG
  refine lv_iconst (v := 0) C.1 C.2.1 dX7_sameCall_0 (by decide) ?_
  refine lv_istore_n (lv' := [(1, .int (0 : Int32)), (0, .ref (ad 0))]) C.1 C.2.1 dX7_sameCall_1 rfl hl (by decide) rfl (fun ls hl => ?_)
  refine lv_iconst (v := 1) C.1 C.2.1 dX7_sameCall_2 (by decide) ?_
  refine lv_istore_n (lv' := [(2, .int (1 : Int32)), (1, .int (0 : Int32)), (0, .ref (ad 0))]) C.1 C.2.1 dX7_sameCall_3 rfl hl (by decide) rfl (fun ls hl => ?_)
  exact kl_X7_sameCall_4 C hr hlocks hK 1000 (0 : Int32) (1 : Int32) u _ _ _ hG hw (lv_sub hl [2, 1, 0] rfl)
theorem jX7_cheapest_7 : ∀ w ∈ wsX70, w ∈ wsX7_cheapest := by decide +kernel
def f_X7_cheapest_4 : Nat → Int32 → Int32 → MS → Option Int32
  | 0, _, _, _ => none
  | n + 1, l1, l2, u => (if (m_wts u) < l2 then some l1 else (if inb (((17 : Int32) * l2) + (2 : Int32)) 442 = true then (if inb (((17 : Int32) * l1) + (2 : Int32)) 442 = true then (if ((m_cal u) (Int32.toNatClampNeg (((17 : Int32) * l1) + (2 : Int32)))) < ((m_cal u) (Int32.toNatClampNeg (((17 : Int32) * l2) + (2 : Int32)))) then (f_X7_cheapest_4 n l1 (l2 + (1 : Int32)) u) else (f_X7_cheapest_4 n l2 (l2 + (1 : Int32)) u)) else none) else none))
set_option maxHeartbeats 4000000 in
set_option maxRecDepth 100000 in
theorem kl_X7_cheapest_4 {p : Program} {l : Launch} {e : Env} {s : State} {m : MethodId} {args : Array Value} {below : List Frame} {meth : Method} {c : Code} {D : va_G} {ad : Nat → Nat} {cI cJ : ClassId} (C : CallFix p m c cX7_cheapest 3 s args wsX7_cheapest RX7) (hr : meth.sig.returnType = (some .int)) (hlocks : meth.locks = false) (hK : va_K D vwCl (mT cI cJ) s) {r1 : Int32} : ∀ (n : Nat) (l1 : Int32) (l2 : Int32) (u : MS) (H : Heap) (locs : List Loc) (ls : Array Slot), f_X7_cheapest_4 n l1 l2 u = some r1 → MW D ad cI cJ s.heap H locs u → lv_has ls 3 [(0, .ref (ad 0)), (1, .int l1), (2, .int l2)] → W p l e ({ frames := 0, cells := 0, slots := 0, locals := 0 } : Room) s m args below meth c H locs 0 0 (MQ below (va_Qi (S := MS) (fun r u2 => r = r1 ∧ u2 = u) (MB D ad cI cJ) (AM ad)) args s 0 0 (AM ad)) (F0 m 4 ls []) := by
  intro n
  induction n with
  | zero =>
    intro l1 l2 u H locs ls hG
    exact ns hG
  | succ n ih =>
    intro l1 l2 u H locs ls hG hw hl
    rw [f_X7_cheapest_4] at hG
    refine lv_iload_n C.1 C.2.1 dX7_cheapest_4 rfl (lv_at hl 2 rfl) ?_
    refine lv_aload_n C.1 C.2.1 dX7_cheapest_5 rfl (lv_at hl 0 rfl) ?_
    refine mg_0_12 C hK hw jX7_cheapest_7 (List.mem_of_getElem? (i := 1) rfl) dX7_cheapest_6 ?_
    refine lv_icmp_gt (tgt := 50) C.1 C.2.1 dX7_cheapest_9 (by decide) (fun (h_1 : (m_wts u) < l2) => ?_) (fun (h_1 : ¬ (m_wts u) < l2) => ?_)
    · replace hG := ip h_1 hG
      refine lv_iload_n C.1 C.2.1 dX7_cheapest_50 rfl (lv_at hl 1 rfl) ?_
      exact mret_i C hlocks hK hw hr (ret1 hG) dX7_cheapest_51
    · replace hG := inn h_1 hG
      refine lv_aload_n C.1 C.2.1 dX7_cheapest_12 rfl (lv_at hl 0 rfl) ?_
      refine mg_0_8 C hK hw jX7_cheapest_7 (List.mem_of_getElem? (i := 2) rfl) dX7_cheapest_13 ?_
      refine lv_bipush (v := 17) C.1 C.2.1 dX7_cheapest_16 (by decide) ?_
      refine lv_iload_n C.1 C.2.1 dX7_cheapest_18 rfl (lv_at hl 2 rfl) ?_
      refine lv_imul C.1 C.2.1 dX7_cheapest_19 ?_
      refine lv_iconst (v := 2) C.1 C.2.1 dX7_cheapest_20 (by decide) ?_
      refine lv_iadd C.1 C.2.1 dX7_cheapest_21 ?_
      obtain ⟨h_2, hG⟩ := og hG
      refine ml_7 C hK hw h_2 dX7_cheapest_22 ?_
      refine lv_aload_n C.1 C.2.1 dX7_cheapest_23 rfl (lv_at hl 0 rfl) ?_
      refine mg_0_8 C hK hw jX7_cheapest_7 (List.mem_of_getElem? (i := 2) rfl) dX7_cheapest_24 ?_
      refine lv_bipush (v := 17) C.1 C.2.1 dX7_cheapest_27 (by decide) ?_
      refine lv_iload_n C.1 C.2.1 dX7_cheapest_29 rfl (lv_at hl 1 rfl) ?_
      refine lv_imul C.1 C.2.1 dX7_cheapest_30 ?_
      refine lv_iconst (v := 2) C.1 C.2.1 dX7_cheapest_31 (by decide) ?_
      refine lv_iadd C.1 C.2.1 dX7_cheapest_32 ?_
      obtain ⟨h_3, hG⟩ := og hG
      refine ml_7 C hK hw h_3 dX7_cheapest_33 ?_
      refine W.lcmp C.1 C.2.1 dX7_cheapest_34 ?_
      refine lv_if_gt (tgt := 42) C.1 C.2.1 dX7_cheapest_35 (by decide) (fun hz => ?_) (fun hz => ?_)
      · have h_4 : ((m_cal u) (Int32.toNatClampNeg (((17 : Int32) * l1) + (2 : Int32)))) < ((m_cal u) (Int32.toNatClampNeg (((17 : Int32) * l2) + (2 : Int32)))) := (lg_cmp_gt _ _).mp hz
        replace hG := ip h_4 hG
        refine lv_iload_n C.1 C.2.1 dX7_cheapest_42 rfl (lv_at hl 1 rfl) ?_
        refine lv_istore_n (lv' := [(1, .int l1), (0, .ref (ad 0)), (2, .int l2)]) C.1 C.2.1 dX7_cheapest_43 rfl hl (by decide) rfl (fun ls hl => ?_)
        refine lv_iinc (v := (l2 + (1 : Int32))) (lv' := [(2, .int (l2 + (1 : Int32))), (1, .int l1), (0, .ref (ad 0))]) C.1 C.2.1 dX7_cheapest_44 hl (k := 2) rfl rfl (by decide) rfl (fun ls hl => ?_)
        refine lv_goto (tgt := 4) C.1 C.2.1 dX7_cheapest_47 (by decide) ?_
        exact ih l1 (l2 + (1 : Int32)) u _ _ _ hG hw (lv_sub hl [2, 1, 0] rfl)
      · have h_4 : ¬ ((m_cal u) (Int32.toNatClampNeg (((17 : Int32) * l1) + (2 : Int32)))) < ((m_cal u) (Int32.toNatClampNeg (((17 : Int32) * l2) + (2 : Int32)))) := fun qz => hz ((lg_cmp_gt _ _).mpr qz)
        replace hG := inn h_4 hG
        refine lv_iload_n C.1 C.2.1 dX7_cheapest_38 rfl (lv_at hl 2 rfl) ?_
        refine lv_goto (tgt := 43) C.1 C.2.1 dX7_cheapest_39 (by decide) ?_
        refine lv_istore_n (lv' := [(1, .int l2), (0, .ref (ad 0)), (2, .int l2)]) C.1 C.2.1 dX7_cheapest_43 rfl hl (by decide) rfl (fun ls hl => ?_)
        refine lv_iinc (v := (l2 + (1 : Int32))) (lv' := [(2, .int (l2 + (1 : Int32))), (1, .int l2), (0, .ref (ad 0))]) C.1 C.2.1 dX7_cheapest_44 hl (k := 2) rfl rfl (by decide) rfl (fun ls hl => ?_)
        refine lv_goto (tgt := 4) C.1 C.2.1 dX7_cheapest_47 (by decide) ?_
        exact ih l2 (l2 + (1 : Int32)) u _ _ _ hG hw (lv_sub hl [2, 1, 0] rfl)
def f_X7_cheapest (u : MS) : Option Int32 := (f_X7_cheapest_4 1000 (1 : Int32) (2 : Int32) u)
set_option maxHeartbeats 4000000 in
set_option maxRecDepth 100000 in
theorem k_X7_cheapest (l : Launch) (D : va_G) (ad : Nat → Nat) (cI cJ : ClassId) (u : MS) (r1 : Int32) (hG : f_X7_cheapest u = some r1) : Met l yX7_cheapest wsX7_cheapest ({ frames := 0, cells := 0, slots := 0, locals := 0 } : Room) (va_Pc [.ref (ad 0)] (MB D ad cI cJ u)) (va_Qi (S := MS) (fun r u2 => r = r1 ∧ u2 = u) (MB D ad cI cJ) (AM ad)) 0 0 (AM ad) := by
  refine Met.ofW (cc := cX7_cheapest) (maxL := 3) (ret := (some .int)) (by decide) rfl ?_
  intro p e s m args below meth c s₁ B hml hv
  obtain ⟨rfl, hP0, hK, hD0⟩ := hv
  have C : CallFix p m c cX7_cheapest 3 s _ wsX7_cheapest RX7 := ⟨B.exec, B.bytes, hml, findClass_of_methodNamed B.named, atoms_spec (ws := wsX7_cheapest) B.pre⟩
  have hr := B.returns
  have hlocks := B.notSynchronized
  have hw : MW D ad cI cJ s.heap s.heap [] u := ⟨hP0, hD0, va_S.rf⟩
  refine en_W (Nat.le_of_ble_eq_true rfl) (fun ls hl => ?_)
  have hl : lv_has ls 3 [(0, .ref (ad 0))] := hl
  unfold f_X7_cheapest at hG
  refine lv_iconst (v := 1) C.1 C.2.1 dX7_cheapest_0 (by decide) ?_
  refine lv_istore_n (lv' := [(1, .int (1 : Int32)), (0, .ref (ad 0))]) C.1 C.2.1 dX7_cheapest_1 rfl hl (by decide) rfl (fun ls hl => ?_)
  refine lv_iconst (v := 2) C.1 C.2.1 dX7_cheapest_2 (by decide) ?_
  refine lv_istore_n (lv' := [(2, .int (2 : Int32)), (1, .int (1 : Int32)), (0, .ref (ad 0))]) C.1 C.2.1 dX7_cheapest_3 rfl hl (by decide) rfl (fun ls hl => ?_)
  exact kl_X7_cheapest_4 C hr hlocks hK 1000 (1 : Int32) (2 : Int32) u _ _ _ hG hw (lv_sub hl [2, 1, 0] rfl)
theorem jX7_refusedBy_7 : ∀ w ∈ wsX70, w ∈ wsX7_refusedBy := by decide +kernel
def f_X7_refusedBy (l1 : Int32) (u : MS) : Option Int32 := (if inb (0 : Int32) 442 = true then (if inb (6 : Int32) 442 = true then (if inb (8 : Int32) 442 = true then (if ((m_cal u) (Int32.toNatClampNeg (8 : Int32))) = (0 : Int64) then some (1 : Int32) else (if inb (4 : Int32) 442 = true then (if (Int32.toInt64 (m_hgt u)) ≤ ((m_cal u) (Int32.toNatClampNeg (4 : Int32))) then (if inb (1 : Int32) 442 = true then (if inb (Int64.toInt32 ((m_cal u) (Int32.toNatClampNeg (0 : Int32)))) 12 = true then (if (Int32.toInt64 ((m_nxt u) (Int32.toNatClampNeg (Int64.toInt32 ((m_cal u) (Int32.toNatClampNeg (0 : Int32))))))) ≤ ((m_cal u) (Int32.toNatClampNeg (1 : Int32))) then ((f_X7_meets (Int64.toInt32 ((m_cal u) (Int32.toNatClampNeg (0 : Int32)))) u).bind fun q_10 => (if q_10 = (0 : Int32) then some (4 : Int32) else (if (Int64.toInt32 ((m_cal u) (Int32.toNatClampNeg (6 : Int32)))) < (0 : Int32) then ((f_X7_payer (Int32.toInt64 (Int64.toInt32 ((m_cal u) (Int32.toNatClampNeg (0 : Int32))))) (Int32.toInt64 (Int64.toInt32 ((m_cal u) (Int32.toNatClampNeg (6 : Int32)))))).bind fun q_13 => (if inb q_13 12 = true then (if inb (2 : Int32) 442 = true then (if inb (3 : Int32) 442 = true then (if (((m_cal u) (Int32.toNatClampNeg (2 : Int32))) * ((m_cal u) (Int32.toNatClampNeg (3 : Int32)))) ≤ ((m_fun u) (Int32.toNatClampNeg q_13)) then (if l1 ≤ (0 : Int32) then (if (m_wts u) = (24 : Int32) then (if inb (2 : Int32) 442 = true then ((f_X7_cheapest u).bind fun q_21 => (if inb (((17 : Int32) * q_21) + (2 : Int32)) 442 = true then (if ((m_cal u) (Int32.toNatClampNeg (((17 : Int32) * q_21) + (2 : Int32)))) < ((m_cal u) (Int32.toNatClampNeg (2 : Int32))) then some (0 : Int32) else some (8 : Int32)) else none)) else none) else some (0 : Int32)) else (if inb (2 : Int32) 442 = true then (if inb (((17 : Int32) * l1) + (2 : Int32)) 442 = true then (if (((m_cal u) (Int32.toNatClampNeg (((17 : Int32) * l1) + (2 : Int32)))) + (Int32.toInt64 (m_stp u))) ≤ ((m_cal u) (Int32.toNatClampNeg (2 : Int32))) then some (0 : Int32) else some (7 : Int32)) else none) else none)) else some (6 : Int32)) else none) else none) else none)) else ((f_X7_meets (Int64.toInt32 ((m_cal u) (Int32.toNatClampNeg (6 : Int32)))) u).bind fun q_27 => (if q_27 = (0 : Int32) then some (5 : Int32) else ((f_X7_payer (Int32.toInt64 (Int64.toInt32 ((m_cal u) (Int32.toNatClampNeg (0 : Int32))))) (Int32.toInt64 (Int64.toInt32 ((m_cal u) (Int32.toNatClampNeg (6 : Int32)))))).bind fun q_29 => (if inb q_29 12 = true then (if inb (2 : Int32) 442 = true then (if inb (3 : Int32) 442 = true then (if (((m_cal u) (Int32.toNatClampNeg (2 : Int32))) * ((m_cal u) (Int32.toNatClampNeg (3 : Int32)))) ≤ ((m_fun u) (Int32.toNatClampNeg q_29)) then (if l1 ≤ (0 : Int32) then (if (m_wts u) = (24 : Int32) then (if inb (2 : Int32) 442 = true then ((f_X7_cheapest u).bind fun q_37 => (if inb (((17 : Int32) * q_37) + (2 : Int32)) 442 = true then (if ((m_cal u) (Int32.toNatClampNeg (((17 : Int32) * q_37) + (2 : Int32)))) < ((m_cal u) (Int32.toNatClampNeg (2 : Int32))) then some (0 : Int32) else some (8 : Int32)) else none)) else none) else some (0 : Int32)) else (if inb (2 : Int32) 442 = true then (if inb (((17 : Int32) * l1) + (2 : Int32)) 442 = true then (if (((m_cal u) (Int32.toNatClampNeg (((17 : Int32) * l1) + (2 : Int32)))) + (Int32.toInt64 (m_stp u))) ≤ ((m_cal u) (Int32.toNatClampNeg (2 : Int32))) then some (0 : Int32) else some (7 : Int32)) else none) else none)) else some (6 : Int32)) else none) else none) else none))))))) else some (3 : Int32)) else none) else none) else some (2 : Int32)) else none)) else none) else none) else none)
set_option maxHeartbeats 4000000 in
set_option maxRecDepth 100000 in
theorem k_X7_refusedBy (l : Launch) (D : va_G) (ad : Nat → Nat) (cI cJ : ClassId) (u : MS) (l1 : Int32) (r1 : Int32) (hG : f_X7_refusedBy l1 u = some r1) : Met l yX7_refusedBy wsX7_refusedBy ({ frames := 2, cells := 0, slots := 0, locals := 49 } : Room) (va_Pc [.ref (ad 0), .int l1] (MB D ad cI cJ u)) (va_Qi (S := MS) (fun r u2 => r = r1 ∧ u2 = u) (MB D ad cI cJ) (AM ad)) 0 0 (AM ad) := by
  refine Met.ofW (cc := cX7_refusedBy) (maxL := 4) (ret := (some .int)) (by decide) rfl ?_
  intro p e s m args below meth c s₁ B hml hv
  obtain ⟨rfl, hP0, hK, hD0⟩ := hv
  have C : CallFix p m c cX7_refusedBy 4 s _ wsX7_refusedBy RX7 := ⟨B.exec, B.bytes, hml, findClass_of_methodNamed B.named, atoms_spec (ws := wsX7_refusedBy) B.pre⟩
  have hr := B.returns
  have hlocks := B.notSynchronized
  have hw : MW D ad cI cJ s.heap s.heap [] u := ⟨hP0, hD0, va_S.rf⟩
  refine en_W (Nat.le_of_ble_eq_true rfl) (fun ls hl => ?_)
  have hl : lv_has ls 4 [(0, .ref (ad 0)), (1, .int l1)] := hl
  unfold f_X7_refusedBy at hG
  refine lv_aload_n C.1 C.2.1 dX7_refusedBy_0 rfl (lv_at hl 0 rfl) ?_
  refine mg_0_8 C hK hw jX7_refusedBy_7 (List.mem_of_getElem? (i := 1) rfl) dX7_refusedBy_1 ?_
  refine lv_iconst (v := 0) C.1 C.2.1 dX7_refusedBy_4 (by decide) ?_
  obtain ⟨h_1, hG⟩ := og hG
  refine ml_7 C hK hw h_1 dX7_refusedBy_5 ?_
  refine lv_l2i C.1 C.2.1 dX7_refusedBy_6 rfl ?_
  refine lv_istore_n (lv' := [(2, .int (Int64.toInt32 ((m_cal u) (Int32.toNatClampNeg (0 : Int32))))), (0, .ref (ad 0)), (1, .int l1)]) C.1 C.2.1 dX7_refusedBy_7 rfl hl (by decide) rfl (fun ls hl => ?_)
  refine lv_aload_n C.1 C.2.1 dX7_refusedBy_8 rfl (lv_at hl 1 rfl) ?_
  refine mg_0_8 C hK hw jX7_refusedBy_7 (List.mem_of_getElem? (i := 1) rfl) dX7_refusedBy_9 ?_
  refine lv_bipush (v := 6) C.1 C.2.1 dX7_refusedBy_12 (by decide) ?_
  obtain ⟨h_2, hG⟩ := og hG
  refine ml_7 C hK hw h_2 dX7_refusedBy_14 ?_
  refine lv_l2i C.1 C.2.1 dX7_refusedBy_15 rfl ?_
  refine lv_istore_n (lv' := [(3, .int (Int64.toInt32 ((m_cal u) (Int32.toNatClampNeg (6 : Int32))))), (2, .int (Int64.toInt32 ((m_cal u) (Int32.toNatClampNeg (0 : Int32))))), (0, .ref (ad 0)), (1, .int l1)]) C.1 C.2.1 dX7_refusedBy_16 rfl hl (by decide) rfl (fun ls hl => ?_)
  refine lv_aload_n C.1 C.2.1 dX7_refusedBy_17 rfl (lv_at hl 2 rfl) ?_
  refine mg_0_8 C hK hw jX7_refusedBy_7 (List.mem_of_getElem? (i := 1) rfl) dX7_refusedBy_18 ?_
  refine lv_bipush (v := 8) C.1 C.2.1 dX7_refusedBy_21 (by decide) ?_
  obtain ⟨h_3, hG⟩ := og hG
  refine ml_7 C hK hw h_3 dX7_refusedBy_23 ?_
  refine lv_lconst (v := 0) C.1 C.2.1 dX7_refusedBy_24 (by decide) ?_
  refine W.lcmp C.1 C.2.1 dX7_refusedBy_25 ?_
  refine lv_if_ne (tgt := 31) C.1 C.2.1 dX7_refusedBy_26 (by decide) (fun hz => ?_) (fun hz => ?_)
  · have h_4 : ¬ ((m_cal u) (Int32.toNatClampNeg (8 : Int32))) = (0 : Int64) := fun qz => hz ((lg_cmp_eq _ _).mpr qz)
    replace hG := inn h_4 hG
    refine lv_aload_n C.1 C.2.1 dX7_refusedBy_31 rfl (lv_at hl 2 rfl) ?_
    refine mg_0_8 C hK hw jX7_refusedBy_7 (List.mem_of_getElem? (i := 1) rfl) dX7_refusedBy_32 ?_
    refine lv_iconst (v := 4) C.1 C.2.1 dX7_refusedBy_35 (by decide) ?_
    obtain ⟨h_5, hG⟩ := og hG
    refine ml_7 C hK hw h_5 dX7_refusedBy_36 ?_
    refine lv_aload_n C.1 C.2.1 dX7_refusedBy_37 rfl (lv_at hl 2 rfl) ?_
    refine mg_0_15 C hK hw jX7_refusedBy_7 (List.mem_of_getElem? (i := 2) rfl) dX7_refusedBy_38 ?_
    refine lv_i2l C.1 C.2.1 dX7_refusedBy_41 rfl ?_
    refine W.lcmp C.1 C.2.1 dX7_refusedBy_42 ?_
    refine lv_if_ge (tgt := 48) C.1 C.2.1 dX7_refusedBy_43 (by decide) (fun hz => ?_) (fun hz => ?_)
    · have h_6 : (Int32.toInt64 (m_hgt u)) ≤ ((m_cal u) (Int32.toNatClampNeg (4 : Int32))) := (lg_cmp_ge _ _).mp hz
      replace hG := ip h_6 hG
      refine lv_aload_n C.1 C.2.1 dX7_refusedBy_48 rfl (lv_at hl 2 rfl) ?_
      refine mg_0_8 C hK hw jX7_refusedBy_7 (List.mem_of_getElem? (i := 1) rfl) dX7_refusedBy_49 ?_
      refine lv_iconst (v := 1) C.1 C.2.1 dX7_refusedBy_52 (by decide) ?_
      obtain ⟨h_7, hG⟩ := og hG
      refine ml_7 C hK hw h_7 dX7_refusedBy_53 ?_
      refine lv_aload_n C.1 C.2.1 dX7_refusedBy_54 rfl (lv_at hl 2 rfl) ?_
      refine mg_0_2 C hK hw jX7_refusedBy_7 (List.mem_of_getElem? (i := 3) rfl) dX7_refusedBy_55 ?_
      refine lv_iload_n C.1 C.2.1 dX7_refusedBy_58 rfl (lv_at hl 1 rfl) ?_
      obtain ⟨h_8, hG⟩ := og hG
      refine ml_2 C hK hw h_8 dX7_refusedBy_59 ?_
      refine lv_i2l C.1 C.2.1 dX7_refusedBy_60 rfl ?_
      refine W.lcmp C.1 C.2.1 dX7_refusedBy_61 ?_
      refine lv_if_ge (tgt := 67) C.1 C.2.1 dX7_refusedBy_62 (by decide) (fun hz => ?_) (fun hz => ?_)
      · have h_9 : (Int32.toInt64 ((m_nxt u) (Int32.toNatClampNeg (Int64.toInt32 ((m_cal u) (Int32.toNatClampNeg (0 : Int32))))))) ≤ ((m_cal u) (Int32.toNatClampNeg (1 : Int32))) := (lg_cmp_ge _ _).mp hz
        replace hG := ip h_9 hG
        refine lv_aload_n C.1 C.2.1 dX7_refusedBy_67 rfl (lv_at hl 2 rfl) ?_
        refine lv_iload_n C.1 C.2.1 dX7_refusedBy_68 rfl (lv_at hl 1 rfl) ?_
        obtain ⟨q_10, hc_10, hG⟩ := ob hG
        try dsimp only at hG
        refine mcVi (As := [.int (Int64.toInt32 ((m_cal u) (Int32.toNatClampNeg (0 : Int32))))]) (rest := []) C hK hw (k_X7_meets l D ad cI cJ u (Int64.toInt32 ((m_cal u) (Int32.toNatClampNeg (0 : Int32)))) q_10 hc_10) (cwV 1 C.2.2.2.2 gX7_refusedBy_X7_meets rfl rfl rfl (by decide +kernel) ⟨Nat.le_of_ble_eq_true rfl, Nat.le_of_ble_eq_true rfl⟩) (va_recv hK hw.1 (ci := 7) (q0 := 0) rfl rfl) rfl hl.1 rfl (Nat.le_of_ble_eq_true rfl) dX7_refusedBy_69 (fun H locs hw => ?_)
        refine lv_if_ne (tgt := 77) C.1 C.2.1 dX7_refusedBy_72 (by decide) (fun (h_11 : ¬ q_10 = (0 : Int32)) => ?_) (fun (h_11 : q_10 = (0 : Int32)) => ?_)
        · replace hG := inn h_11 hG
          refine lv_iload_n C.1 C.2.1 dX7_refusedBy_77 rfl (lv_at hl 0 rfl) ?_
          refine lv_if_lt (tgt := 91) C.1 C.2.1 dX7_refusedBy_78 (by decide) (fun (h_12 : (Int64.toInt32 ((m_cal u) (Int32.toNatClampNeg (6 : Int32)))) < (0 : Int32)) => ?_) (fun (h_12 : ¬ (Int64.toInt32 ((m_cal u) (Int32.toNatClampNeg (6 : Int32)))) < (0 : Int32)) => ?_)
          · replace hG := ip h_12 hG
            refine lv_aload_n C.1 C.2.1 dX7_refusedBy_91 rfl (lv_at hl 2 rfl) ?_
            refine mg_0_1 C hK hw jX7_refusedBy_7 (List.mem_of_getElem? (i := 4) rfl) dX7_refusedBy_92 ?_
            refine lv_iload_n C.1 C.2.1 dX7_refusedBy_95 rfl (lv_at hl 1 rfl) ?_
            refine lv_i2l C.1 C.2.1 dX7_refusedBy_96 rfl ?_
            refine lv_iload_n C.1 C.2.1 dX7_refusedBy_97 rfl (lv_at hl 0 rfl) ?_
            refine lv_i2l C.1 C.2.1 dX7_refusedBy_98 rfl ?_
            obtain ⟨q_13, hc_13, hG⟩ := ob hG
            try dsimp only at hG
            refine mcSi (As := [.long (Int32.toInt64 (Int64.toInt32 ((m_cal u) (Int32.toNatClampNeg (0 : Int32))))), .long (Int32.toInt64 (Int64.toInt32 ((m_cal u) (Int32.toNatClampNeg (6 : Int32)))))]) (rest := [.ref (ad 1)]) C hK hw (k_X7_payer l D ad cI cJ u (Int32.toInt64 (Int64.toInt32 ((m_cal u) (Int32.toNatClampNeg (0 : Int32))))) (Int32.toInt64 (Int64.toInt32 ((m_cal u) (Int32.toNatClampNeg (6 : Int32))))) q_13 hc_13) (va_cwS 2 C.2.2.2.2 gX7_refusedBy_X7_payer rfl rfl rfl (by decide +kernel) ⟨Nat.le_of_ble_eq_true rfl, Nat.le_of_ble_eq_true rfl⟩) rfl hl.1 rfl (Nat.le_of_ble_eq_true rfl) dX7_refusedBy_99 (fun H locs hw => ?_)
            obtain ⟨h_14, hG⟩ := og hG
            refine ml_1 C hK hw h_14 dX7_refusedBy_102 ?_
            refine lv_aload_n C.1 C.2.1 dX7_refusedBy_103 rfl (lv_at hl 2 rfl) ?_
            refine mg_0_8 C hK hw jX7_refusedBy_7 (List.mem_of_getElem? (i := 1) rfl) dX7_refusedBy_104 ?_
            refine lv_iconst (v := 2) C.1 C.2.1 dX7_refusedBy_107 (by decide) ?_
            obtain ⟨h_15, hG⟩ := og hG
            refine ml_7 C hK hw h_15 dX7_refusedBy_108 ?_
            refine lv_aload_n C.1 C.2.1 dX7_refusedBy_109 rfl (lv_at hl 2 rfl) ?_
            refine mg_0_8 C hK hw jX7_refusedBy_7 (List.mem_of_getElem? (i := 1) rfl) dX7_refusedBy_110 ?_
            refine lv_iconst (v := 3) C.1 C.2.1 dX7_refusedBy_113 (by decide) ?_
            obtain ⟨h_16, hG⟩ := og hG
            refine ml_7 C hK hw h_16 dX7_refusedBy_114 ?_
            refine lv_lmul C.1 C.2.1 dX7_refusedBy_115 ?_
            refine W.lcmp C.1 C.2.1 dX7_refusedBy_116 ?_
            refine lv_if_ge (tgt := 123) C.1 C.2.1 dX7_refusedBy_117 (by decide) (fun hz => ?_) (fun hz => ?_)
            · have h_17 : (((m_cal u) (Int32.toNatClampNeg (2 : Int32))) * ((m_cal u) (Int32.toNatClampNeg (3 : Int32)))) ≤ ((m_fun u) (Int32.toNatClampNeg q_13)) := (lg_cmp_ge _ _).mp hz
              replace hG := ip h_17 hG
              refine lv_iload_n C.1 C.2.1 dX7_refusedBy_123 rfl (lv_at hl 3 rfl) ?_
              refine lv_if_le (tgt := 161) C.1 C.2.1 dX7_refusedBy_124 (by decide) (fun (h_18 : l1 ≤ (0 : Int32)) => ?_) (fun (h_18 : ¬ l1 ≤ (0 : Int32)) => ?_)
              · replace hG := ip h_18 hG
                refine lv_aload_n C.1 C.2.1 dX7_refusedBy_161 rfl (lv_at hl 2 rfl) ?_
                refine mg_0_12 C hK hw jX7_refusedBy_7 (List.mem_of_getElem? (i := 6) rfl) dX7_refusedBy_162 ?_
                refine lv_bipush (v := 24) C.1 C.2.1 dX7_refusedBy_165 (by decide) ?_
                refine lv_icmp_ne (tgt := 199) C.1 C.2.1 dX7_refusedBy_167 (by decide) (fun (h_19 : ¬ (m_wts u) = (24 : Int32)) => ?_) (fun (h_19 : (m_wts u) = (24 : Int32)) => ?_)
                · replace hG := inn h_19 hG
                  refine lv_iconst (v := 0) C.1 C.2.1 dX7_refusedBy_199 (by decide) ?_
                  exact mret_i C hlocks hK hw hr (ret1 hG) dX7_refusedBy_200
                · replace hG := ip h_19 hG
                  refine lv_aload_n C.1 C.2.1 dX7_refusedBy_170 rfl (lv_at hl 2 rfl) ?_
                  refine mg_0_8 C hK hw jX7_refusedBy_7 (List.mem_of_getElem? (i := 1) rfl) dX7_refusedBy_171 ?_
                  refine lv_iconst (v := 2) C.1 C.2.1 dX7_refusedBy_174 (by decide) ?_
                  obtain ⟨h_20, hG⟩ := og hG
                  refine ml_7 C hK hw h_20 dX7_refusedBy_175 ?_
                  refine lv_aload_n C.1 C.2.1 dX7_refusedBy_176 rfl (lv_at hl 2 rfl) ?_
                  refine mg_0_8 C hK hw jX7_refusedBy_7 (List.mem_of_getElem? (i := 1) rfl) dX7_refusedBy_177 ?_
                  refine lv_bipush (v := 17) C.1 C.2.1 dX7_refusedBy_180 (by decide) ?_
                  refine lv_aload_n C.1 C.2.1 dX7_refusedBy_182 rfl (lv_at hl 2 rfl) ?_
                  obtain ⟨q_21, hc_21, hG⟩ := ob hG
                  try dsimp only at hG
                  refine mcVi (As := []) (rest := [.int (17 : Int32), .ref (ad 7), .long ((m_cal u) (Int32.toNatClampNeg (2 : Int32)))]) C hK hw (k_X7_cheapest l D ad cI cJ u q_21 hc_21) (cwV 0 C.2.2.2.2 gX7_refusedBy_X7_cheapest rfl rfl rfl (by decide +kernel) ⟨Nat.le_of_ble_eq_true rfl, Nat.le_of_ble_eq_true rfl⟩) (va_recv hK hw.1 (ci := 7) (q0 := 0) rfl rfl) rfl hl.1 rfl (Nat.le_of_ble_eq_true rfl) dX7_refusedBy_183 (fun H locs hw => ?_)
                  refine lv_imul C.1 C.2.1 dX7_refusedBy_186 ?_
                  refine lv_iconst (v := 2) C.1 C.2.1 dX7_refusedBy_187 (by decide) ?_
                  refine lv_iadd C.1 C.2.1 dX7_refusedBy_188 ?_
                  obtain ⟨h_22, hG⟩ := og hG
                  refine ml_7 C hK hw h_22 dX7_refusedBy_189 ?_
                  refine W.lcmp C.1 C.2.1 dX7_refusedBy_190 ?_
                  refine lv_if_gt (tgt := 199) C.1 C.2.1 dX7_refusedBy_191 (by decide) (fun hz => ?_) (fun hz => ?_)
                  · have h_23 : ((m_cal u) (Int32.toNatClampNeg (((17 : Int32) * q_21) + (2 : Int32)))) < ((m_cal u) (Int32.toNatClampNeg (2 : Int32))) := (lg_cmp_gt _ _).mp hz
                    replace hG := ip h_23 hG
                    refine lv_iconst (v := 0) C.1 C.2.1 dX7_refusedBy_199 (by decide) ?_
                    exact mret_i C hlocks hK hw hr (ret1 hG) dX7_refusedBy_200
                  · have h_23 : ¬ ((m_cal u) (Int32.toNatClampNeg (((17 : Int32) * q_21) + (2 : Int32)))) < ((m_cal u) (Int32.toNatClampNeg (2 : Int32))) := fun qz => hz ((lg_cmp_gt _ _).mpr qz)
                    replace hG := inn h_23 hG
                    refine lv_bipush (v := 8) C.1 C.2.1 dX7_refusedBy_194 (by decide) ?_
                    refine lv_goto (tgt := 200) C.1 C.2.1 dX7_refusedBy_196 (by decide) ?_
                    exact mret_i C hlocks hK hw hr (ret1 hG) dX7_refusedBy_200
              · replace hG := inn h_18 hG
                refine lv_aload_n C.1 C.2.1 dX7_refusedBy_127 rfl (lv_at hl 2 rfl) ?_
                refine mg_0_8 C hK hw jX7_refusedBy_7 (List.mem_of_getElem? (i := 1) rfl) dX7_refusedBy_128 ?_
                refine lv_iconst (v := 2) C.1 C.2.1 dX7_refusedBy_131 (by decide) ?_
                obtain ⟨h_24, hG⟩ := og hG
                refine ml_7 C hK hw h_24 dX7_refusedBy_132 ?_
                refine lv_aload_n C.1 C.2.1 dX7_refusedBy_133 rfl (lv_at hl 2 rfl) ?_
                refine mg_0_8 C hK hw jX7_refusedBy_7 (List.mem_of_getElem? (i := 1) rfl) dX7_refusedBy_134 ?_
                refine lv_bipush (v := 17) C.1 C.2.1 dX7_refusedBy_137 (by decide) ?_
                refine lv_iload_n C.1 C.2.1 dX7_refusedBy_139 rfl (lv_at hl 3 rfl) ?_
                refine lv_imul C.1 C.2.1 dX7_refusedBy_140 ?_
                refine lv_iconst (v := 2) C.1 C.2.1 dX7_refusedBy_141 (by decide) ?_
                refine lv_iadd C.1 C.2.1 dX7_refusedBy_142 ?_
                obtain ⟨h_25, hG⟩ := og hG
                refine ml_7 C hK hw h_25 dX7_refusedBy_143 ?_
                refine lv_aload_n C.1 C.2.1 dX7_refusedBy_144 rfl (lv_at hl 2 rfl) ?_
                refine mg_0_14 C hK hw jX7_refusedBy_7 (List.mem_of_getElem? (i := 5) rfl) dX7_refusedBy_145 ?_
                refine lv_i2l C.1 C.2.1 dX7_refusedBy_148 rfl ?_
                refine lv_ladd C.1 C.2.1 dX7_refusedBy_149 ?_
                refine W.lcmp C.1 C.2.1 dX7_refusedBy_150 ?_
                refine lv_if_ge (tgt := 159) C.1 C.2.1 dX7_refusedBy_151 (by decide) (fun hz => ?_) (fun hz => ?_)
                · have h_26 : (((m_cal u) (Int32.toNatClampNeg (((17 : Int32) * l1) + (2 : Int32)))) + (Int32.toInt64 (m_stp u))) ≤ ((m_cal u) (Int32.toNatClampNeg (2 : Int32))) := (lg_cmp_ge _ _).mp hz
                  replace hG := ip h_26 hG
                  refine lv_iconst (v := 0) C.1 C.2.1 dX7_refusedBy_159 (by decide) ?_
                  exact mret_i C hlocks hK hw hr (ret1 hG) dX7_refusedBy_160
                · have h_26 : ¬ (((m_cal u) (Int32.toNatClampNeg (((17 : Int32) * l1) + (2 : Int32)))) + (Int32.toInt64 (m_stp u))) ≤ ((m_cal u) (Int32.toNatClampNeg (2 : Int32))) := fun qz => hz ((lg_cmp_ge _ _).mpr qz)
                  replace hG := inn h_26 hG
                  refine lv_bipush (v := 7) C.1 C.2.1 dX7_refusedBy_154 (by decide) ?_
                  refine lv_goto (tgt := 160) C.1 C.2.1 dX7_refusedBy_156 (by decide) ?_
                  exact mret_i C hlocks hK hw hr (ret1 hG) dX7_refusedBy_160
            · have h_17 : ¬ (((m_cal u) (Int32.toNatClampNeg (2 : Int32))) * ((m_cal u) (Int32.toNatClampNeg (3 : Int32)))) ≤ ((m_fun u) (Int32.toNatClampNeg q_13)) := fun qz => hz ((lg_cmp_ge _ _).mpr qz)
              replace hG := inn h_17 hG
              refine lv_bipush (v := 6) C.1 C.2.1 dX7_refusedBy_120 (by decide) ?_
              exact mret_i C hlocks hK hw hr (ret1 hG) dX7_refusedBy_122
          · replace hG := inn h_12 hG
            refine lv_aload_n C.1 C.2.1 dX7_refusedBy_81 rfl (lv_at hl 2 rfl) ?_
            refine lv_iload_n C.1 C.2.1 dX7_refusedBy_82 rfl (lv_at hl 0 rfl) ?_
            obtain ⟨q_27, hc_27, hG⟩ := ob hG
            try dsimp only at hG
            refine mcVi (As := [.int (Int64.toInt32 ((m_cal u) (Int32.toNatClampNeg (6 : Int32))))]) (rest := []) C hK hw (k_X7_meets l D ad cI cJ u (Int64.toInt32 ((m_cal u) (Int32.toNatClampNeg (6 : Int32)))) q_27 hc_27) (cwV 1 C.2.2.2.2 gX7_refusedBy_X7_meets rfl rfl rfl (by decide +kernel) ⟨Nat.le_of_ble_eq_true rfl, Nat.le_of_ble_eq_true rfl⟩) (va_recv hK hw.1 (ci := 7) (q0 := 0) rfl rfl) rfl hl.1 rfl (Nat.le_of_ble_eq_true rfl) dX7_refusedBy_83 (fun H locs hw => ?_)
            refine lv_if_ne (tgt := 91) C.1 C.2.1 dX7_refusedBy_86 (by decide) (fun (h_28 : ¬ q_27 = (0 : Int32)) => ?_) (fun (h_28 : q_27 = (0 : Int32)) => ?_)
            · replace hG := inn h_28 hG
              refine lv_aload_n C.1 C.2.1 dX7_refusedBy_91 rfl (lv_at hl 2 rfl) ?_
              refine mg_0_1 C hK hw jX7_refusedBy_7 (List.mem_of_getElem? (i := 4) rfl) dX7_refusedBy_92 ?_
              refine lv_iload_n C.1 C.2.1 dX7_refusedBy_95 rfl (lv_at hl 1 rfl) ?_
              refine lv_i2l C.1 C.2.1 dX7_refusedBy_96 rfl ?_
              refine lv_iload_n C.1 C.2.1 dX7_refusedBy_97 rfl (lv_at hl 0 rfl) ?_
              refine lv_i2l C.1 C.2.1 dX7_refusedBy_98 rfl ?_
              obtain ⟨q_29, hc_29, hG⟩ := ob hG
              try dsimp only at hG
              refine mcSi (As := [.long (Int32.toInt64 (Int64.toInt32 ((m_cal u) (Int32.toNatClampNeg (0 : Int32))))), .long (Int32.toInt64 (Int64.toInt32 ((m_cal u) (Int32.toNatClampNeg (6 : Int32)))))]) (rest := [.ref (ad 1)]) C hK hw (k_X7_payer l D ad cI cJ u (Int32.toInt64 (Int64.toInt32 ((m_cal u) (Int32.toNatClampNeg (0 : Int32))))) (Int32.toInt64 (Int64.toInt32 ((m_cal u) (Int32.toNatClampNeg (6 : Int32))))) q_29 hc_29) (va_cwS 2 C.2.2.2.2 gX7_refusedBy_X7_payer rfl rfl rfl (by decide +kernel) ⟨Nat.le_of_ble_eq_true rfl, Nat.le_of_ble_eq_true rfl⟩) rfl hl.1 rfl (Nat.le_of_ble_eq_true rfl) dX7_refusedBy_99 (fun H locs hw => ?_)
              obtain ⟨h_30, hG⟩ := og hG
              refine ml_1 C hK hw h_30 dX7_refusedBy_102 ?_
              refine lv_aload_n C.1 C.2.1 dX7_refusedBy_103 rfl (lv_at hl 2 rfl) ?_
              refine mg_0_8 C hK hw jX7_refusedBy_7 (List.mem_of_getElem? (i := 1) rfl) dX7_refusedBy_104 ?_
              refine lv_iconst (v := 2) C.1 C.2.1 dX7_refusedBy_107 (by decide) ?_
              obtain ⟨h_31, hG⟩ := og hG
              refine ml_7 C hK hw h_31 dX7_refusedBy_108 ?_
              refine lv_aload_n C.1 C.2.1 dX7_refusedBy_109 rfl (lv_at hl 2 rfl) ?_
              refine mg_0_8 C hK hw jX7_refusedBy_7 (List.mem_of_getElem? (i := 1) rfl) dX7_refusedBy_110 ?_
              refine lv_iconst (v := 3) C.1 C.2.1 dX7_refusedBy_113 (by decide) ?_
              obtain ⟨h_32, hG⟩ := og hG
              refine ml_7 C hK hw h_32 dX7_refusedBy_114 ?_
              refine lv_lmul C.1 C.2.1 dX7_refusedBy_115 ?_
              refine W.lcmp C.1 C.2.1 dX7_refusedBy_116 ?_
              refine lv_if_ge (tgt := 123) C.1 C.2.1 dX7_refusedBy_117 (by decide) (fun hz => ?_) (fun hz => ?_)
              · have h_33 : (((m_cal u) (Int32.toNatClampNeg (2 : Int32))) * ((m_cal u) (Int32.toNatClampNeg (3 : Int32)))) ≤ ((m_fun u) (Int32.toNatClampNeg q_29)) := (lg_cmp_ge _ _).mp hz
                replace hG := ip h_33 hG
                refine lv_iload_n C.1 C.2.1 dX7_refusedBy_123 rfl (lv_at hl 3 rfl) ?_
                refine lv_if_le (tgt := 161) C.1 C.2.1 dX7_refusedBy_124 (by decide) (fun (h_34 : l1 ≤ (0 : Int32)) => ?_) (fun (h_34 : ¬ l1 ≤ (0 : Int32)) => ?_)
                · replace hG := ip h_34 hG
                  refine lv_aload_n C.1 C.2.1 dX7_refusedBy_161 rfl (lv_at hl 2 rfl) ?_
                  refine mg_0_12 C hK hw jX7_refusedBy_7 (List.mem_of_getElem? (i := 6) rfl) dX7_refusedBy_162 ?_
                  refine lv_bipush (v := 24) C.1 C.2.1 dX7_refusedBy_165 (by decide) ?_
                  refine lv_icmp_ne (tgt := 199) C.1 C.2.1 dX7_refusedBy_167 (by decide) (fun (h_35 : ¬ (m_wts u) = (24 : Int32)) => ?_) (fun (h_35 : (m_wts u) = (24 : Int32)) => ?_)
                  · replace hG := inn h_35 hG
                    refine lv_iconst (v := 0) C.1 C.2.1 dX7_refusedBy_199 (by decide) ?_
                    exact mret_i C hlocks hK hw hr (ret1 hG) dX7_refusedBy_200
                  · replace hG := ip h_35 hG
                    refine lv_aload_n C.1 C.2.1 dX7_refusedBy_170 rfl (lv_at hl 2 rfl) ?_
                    refine mg_0_8 C hK hw jX7_refusedBy_7 (List.mem_of_getElem? (i := 1) rfl) dX7_refusedBy_171 ?_
                    refine lv_iconst (v := 2) C.1 C.2.1 dX7_refusedBy_174 (by decide) ?_
                    obtain ⟨h_36, hG⟩ := og hG
                    refine ml_7 C hK hw h_36 dX7_refusedBy_175 ?_
                    refine lv_aload_n C.1 C.2.1 dX7_refusedBy_176 rfl (lv_at hl 2 rfl) ?_
                    refine mg_0_8 C hK hw jX7_refusedBy_7 (List.mem_of_getElem? (i := 1) rfl) dX7_refusedBy_177 ?_
                    refine lv_bipush (v := 17) C.1 C.2.1 dX7_refusedBy_180 (by decide) ?_
                    refine lv_aload_n C.1 C.2.1 dX7_refusedBy_182 rfl (lv_at hl 2 rfl) ?_
                    obtain ⟨q_37, hc_37, hG⟩ := ob hG
                    try dsimp only at hG
                    refine mcVi (As := []) (rest := [.int (17 : Int32), .ref (ad 7), .long ((m_cal u) (Int32.toNatClampNeg (2 : Int32)))]) C hK hw (k_X7_cheapest l D ad cI cJ u q_37 hc_37) (cwV 0 C.2.2.2.2 gX7_refusedBy_X7_cheapest rfl rfl rfl (by decide +kernel) ⟨Nat.le_of_ble_eq_true rfl, Nat.le_of_ble_eq_true rfl⟩) (va_recv hK hw.1 (ci := 7) (q0 := 0) rfl rfl) rfl hl.1 rfl (Nat.le_of_ble_eq_true rfl) dX7_refusedBy_183 (fun H locs hw => ?_)
                    refine lv_imul C.1 C.2.1 dX7_refusedBy_186 ?_
                    refine lv_iconst (v := 2) C.1 C.2.1 dX7_refusedBy_187 (by decide) ?_
                    refine lv_iadd C.1 C.2.1 dX7_refusedBy_188 ?_
                    obtain ⟨h_38, hG⟩ := og hG
                    refine ml_7 C hK hw h_38 dX7_refusedBy_189 ?_
                    refine W.lcmp C.1 C.2.1 dX7_refusedBy_190 ?_
                    refine lv_if_gt (tgt := 199) C.1 C.2.1 dX7_refusedBy_191 (by decide) (fun hz => ?_) (fun hz => ?_)
                    · have h_39 : ((m_cal u) (Int32.toNatClampNeg (((17 : Int32) * q_37) + (2 : Int32)))) < ((m_cal u) (Int32.toNatClampNeg (2 : Int32))) := (lg_cmp_gt _ _).mp hz
                      replace hG := ip h_39 hG
                      refine lv_iconst (v := 0) C.1 C.2.1 dX7_refusedBy_199 (by decide) ?_
                      exact mret_i C hlocks hK hw hr (ret1 hG) dX7_refusedBy_200
                    · have h_39 : ¬ ((m_cal u) (Int32.toNatClampNeg (((17 : Int32) * q_37) + (2 : Int32)))) < ((m_cal u) (Int32.toNatClampNeg (2 : Int32))) := fun qz => hz ((lg_cmp_gt _ _).mpr qz)
                      replace hG := inn h_39 hG
                      refine lv_bipush (v := 8) C.1 C.2.1 dX7_refusedBy_194 (by decide) ?_
                      refine lv_goto (tgt := 200) C.1 C.2.1 dX7_refusedBy_196 (by decide) ?_
                      exact mret_i C hlocks hK hw hr (ret1 hG) dX7_refusedBy_200
                · replace hG := inn h_34 hG
                  refine lv_aload_n C.1 C.2.1 dX7_refusedBy_127 rfl (lv_at hl 2 rfl) ?_
                  refine mg_0_8 C hK hw jX7_refusedBy_7 (List.mem_of_getElem? (i := 1) rfl) dX7_refusedBy_128 ?_
                  refine lv_iconst (v := 2) C.1 C.2.1 dX7_refusedBy_131 (by decide) ?_
                  obtain ⟨h_40, hG⟩ := og hG
                  refine ml_7 C hK hw h_40 dX7_refusedBy_132 ?_
                  refine lv_aload_n C.1 C.2.1 dX7_refusedBy_133 rfl (lv_at hl 2 rfl) ?_
                  refine mg_0_8 C hK hw jX7_refusedBy_7 (List.mem_of_getElem? (i := 1) rfl) dX7_refusedBy_134 ?_
                  refine lv_bipush (v := 17) C.1 C.2.1 dX7_refusedBy_137 (by decide) ?_
                  refine lv_iload_n C.1 C.2.1 dX7_refusedBy_139 rfl (lv_at hl 3 rfl) ?_
                  refine lv_imul C.1 C.2.1 dX7_refusedBy_140 ?_
                  refine lv_iconst (v := 2) C.1 C.2.1 dX7_refusedBy_141 (by decide) ?_
                  refine lv_iadd C.1 C.2.1 dX7_refusedBy_142 ?_
                  obtain ⟨h_41, hG⟩ := og hG
                  refine ml_7 C hK hw h_41 dX7_refusedBy_143 ?_
                  refine lv_aload_n C.1 C.2.1 dX7_refusedBy_144 rfl (lv_at hl 2 rfl) ?_
                  refine mg_0_14 C hK hw jX7_refusedBy_7 (List.mem_of_getElem? (i := 5) rfl) dX7_refusedBy_145 ?_
                  refine lv_i2l C.1 C.2.1 dX7_refusedBy_148 rfl ?_
                  refine lv_ladd C.1 C.2.1 dX7_refusedBy_149 ?_
                  refine W.lcmp C.1 C.2.1 dX7_refusedBy_150 ?_
                  refine lv_if_ge (tgt := 159) C.1 C.2.1 dX7_refusedBy_151 (by decide) (fun hz => ?_) (fun hz => ?_)
                  · have h_42 : (((m_cal u) (Int32.toNatClampNeg (((17 : Int32) * l1) + (2 : Int32)))) + (Int32.toInt64 (m_stp u))) ≤ ((m_cal u) (Int32.toNatClampNeg (2 : Int32))) := (lg_cmp_ge _ _).mp hz
                    replace hG := ip h_42 hG
                    refine lv_iconst (v := 0) C.1 C.2.1 dX7_refusedBy_159 (by decide) ?_
                    exact mret_i C hlocks hK hw hr (ret1 hG) dX7_refusedBy_160
                  · have h_42 : ¬ (((m_cal u) (Int32.toNatClampNeg (((17 : Int32) * l1) + (2 : Int32)))) + (Int32.toInt64 (m_stp u))) ≤ ((m_cal u) (Int32.toNatClampNeg (2 : Int32))) := fun qz => hz ((lg_cmp_ge _ _).mpr qz)
                    replace hG := inn h_42 hG
                    refine lv_bipush (v := 7) C.1 C.2.1 dX7_refusedBy_154 (by decide) ?_
                    refine lv_goto (tgt := 160) C.1 C.2.1 dX7_refusedBy_156 (by decide) ?_
                    exact mret_i C hlocks hK hw hr (ret1 hG) dX7_refusedBy_160
              · have h_33 : ¬ (((m_cal u) (Int32.toNatClampNeg (2 : Int32))) * ((m_cal u) (Int32.toNatClampNeg (3 : Int32)))) ≤ ((m_fun u) (Int32.toNatClampNeg q_29)) := fun qz => hz ((lg_cmp_ge _ _).mpr qz)
                replace hG := inn h_33 hG
                refine lv_bipush (v := 6) C.1 C.2.1 dX7_refusedBy_120 (by decide) ?_
                exact mret_i C hlocks hK hw hr (ret1 hG) dX7_refusedBy_122
            · replace hG := ip h_28 hG
              refine lv_iconst (v := 5) C.1 C.2.1 dX7_refusedBy_89 (by decide) ?_
              exact mret_i C hlocks hK hw hr (ret1 hG) dX7_refusedBy_90
        · replace hG := ip h_11 hG
          refine lv_iconst (v := 4) C.1 C.2.1 dX7_refusedBy_75 (by decide) ?_
          exact mret_i C hlocks hK hw hr (ret1 hG) dX7_refusedBy_76
      · have h_9 : ¬ (Int32.toInt64 ((m_nxt u) (Int32.toNatClampNeg (Int64.toInt32 ((m_cal u) (Int32.toNatClampNeg (0 : Int32))))))) ≤ ((m_cal u) (Int32.toNatClampNeg (1 : Int32))) := fun qz => hz ((lg_cmp_ge _ _).mpr qz)
        replace hG := inn h_9 hG
        refine lv_iconst (v := 3) C.1 C.2.1 dX7_refusedBy_65 (by decide) ?_
        exact mret_i C hlocks hK hw hr (ret1 hG) dX7_refusedBy_66
    · have h_6 : ¬ (Int32.toInt64 (m_hgt u)) ≤ ((m_cal u) (Int32.toNatClampNeg (4 : Int32))) := fun qz => hz ((lg_cmp_ge _ _).mpr qz)
      replace hG := inn h_6 hG
      refine lv_iconst (v := 2) C.1 C.2.1 dX7_refusedBy_46 (by decide) ?_
      exact mret_i C hlocks hK hw hr (ret1 hG) dX7_refusedBy_47
  · have h_4 : ((m_cal u) (Int32.toNatClampNeg (8 : Int32))) = (0 : Int64) := (lg_cmp_eq _ _).mp hz
    replace hG := ip h_4 hG
    refine lv_iconst (v := 1) C.1 C.2.1 dX7_refusedBy_29 (by decide) ?_
    exact mret_i C hlocks hK hw hr (ret1 hG) dX7_refusedBy_30
theorem jX7_takeOut_7 : ∀ w ∈ wsX70, w ∈ wsX7_takeOut := by decide +kernel
def f_X7_takeOut_5 : Nat → Int32 → Int32 → MS → Option MS
  | 0, _, _, _ => none
  | n + 1, l1, l2, u => (if ((17 : Int32) * (m_wts u)) ≤ l2 then some (ms_wts u ((m_wts u) - (1 : Int32))) else (if inb (l2 + (17 : Int32)) 442 = true then (if inb l2 442 = true then (f_X7_takeOut_5 n l1 (l2 + (1 : Int32)) (ms_cal u (vp_updL (m_cal u) (Int32.toNatClampNeg l2) ((m_cal u) (Int32.toNatClampNeg (l2 + (17 : Int32))))))) else none) else none))
set_option maxHeartbeats 4000000 in
set_option maxRecDepth 100000 in
theorem kl_X7_takeOut_5 {p : Program} {l : Launch} {e : Env} {s : State} {m : MethodId} {args : Array Value} {below : List Frame} {meth : Method} {c : Code} {D : va_G} {ad : Nat → Nat} {cI cJ : ClassId} (C : CallFix p m c cX7_takeOut 3 s args wsX7_takeOut RX7) (hr : meth.sig.returnType = none) (hlocks : meth.locks = false) (hK : va_K D vwCl (mT cI cJ) s) {u1 : MS} : ∀ (n : Nat) (l1 : Int32) (l2 : Int32) (u : MS) (H : Heap) (locs : List Loc) (ls : Array Slot), f_X7_takeOut_5 n l1 l2 u = some u1 → MW D ad cI cJ s.heap H locs u → lv_has ls 3 [(0, .ref (ad 0)), (1, .int l1), (2, .int l2)] → W p l e ({ frames := 0, cells := 0, slots := 0, locals := 0 } : Room) s m args below meth c H locs 0 0 (MQ below (va_Qv (S := MS) (fun u2 => u2 = u1) (MB D ad cI cJ) (AM ad)) args s 0 0 (AM ad)) (F0 m 5 ls []) := by
  intro n
  induction n with
  | zero =>
    intro l1 l2 u H locs ls hG
    exact ns hG
  | succ n ih =>
    intro l1 l2 u H locs ls hG hw hl
    rw [f_X7_takeOut_5] at hG
    refine lv_iload_n C.1 C.2.1 dX7_takeOut_5 rfl (lv_at hl 2 rfl) ?_
    refine lv_bipush (v := 17) C.1 C.2.1 dX7_takeOut_6 (by decide) ?_
    refine lv_aload_n C.1 C.2.1 dX7_takeOut_8 rfl (lv_at hl 0 rfl) ?_
    refine mg_0_12 C hK hw jX7_takeOut_7 (List.mem_of_getElem? (i := 1) rfl) dX7_takeOut_9 ?_
    refine lv_imul C.1 C.2.1 dX7_takeOut_12 ?_
    refine lv_icmp_ge (tgt := 37) C.1 C.2.1 dX7_takeOut_13 (by decide) (fun (h_1 : ((17 : Int32) * (m_wts u)) ≤ l2) => ?_) (fun (h_1 : ¬ ((17 : Int32) * (m_wts u)) ≤ l2) => ?_)
    · replace hG := ip h_1 hG
      refine lv_aload_n C.1 C.2.1 dX7_takeOut_37 rfl (lv_at hl 0 rfl) ?_
      refine lv_dup C.1 C.2.1 dX7_takeOut_38 rfl ?_
      refine mg_0_12 C hK hw jX7_takeOut_7 (List.mem_of_getElem? (i := 1) rfl) dX7_takeOut_39 ?_
      refine lv_iconst (v := 1) C.1 C.2.1 dX7_takeOut_42 (by decide) ?_
      refine lv_isub C.1 C.2.1 dX7_takeOut_43 ?_
      refine mp_0_12 C hK hw jX7_takeOut_7 (List.mem_of_getElem? (i := 1) rfl) dX7_takeOut_44 (fun H locs hw => ?_)
      exact mret_v C hlocks hK hw hr (retv hG) dX7_takeOut_47
    · replace hG := inn h_1 hG
      refine lv_aload_n C.1 C.2.1 dX7_takeOut_16 rfl (lv_at hl 0 rfl) ?_
      refine mg_0_8 C hK hw jX7_takeOut_7 (List.mem_of_getElem? (i := 2) rfl) dX7_takeOut_17 ?_
      refine lv_iload_n C.1 C.2.1 dX7_takeOut_20 rfl (lv_at hl 2 rfl) ?_
      refine lv_aload_n C.1 C.2.1 dX7_takeOut_21 rfl (lv_at hl 0 rfl) ?_
      refine mg_0_8 C hK hw jX7_takeOut_7 (List.mem_of_getElem? (i := 2) rfl) dX7_takeOut_22 ?_
      refine lv_iload_n C.1 C.2.1 dX7_takeOut_25 rfl (lv_at hl 2 rfl) ?_
      refine lv_bipush (v := 17) C.1 C.2.1 dX7_takeOut_26 (by decide) ?_
      refine lv_iadd C.1 C.2.1 dX7_takeOut_28 ?_
      obtain ⟨h_2, hG⟩ := og hG
      refine ml_7 C hK hw h_2 dX7_takeOut_29 ?_
      obtain ⟨h_3, hG⟩ := og hG
      refine mt_7 C hK hw h_3 dX7_takeOut_30 (fun H locs hw => ?_)
      refine lv_iinc (v := (l2 + (1 : Int32))) (lv' := [(2, .int (l2 + (1 : Int32))), (0, .ref (ad 0)), (1, .int l1)]) C.1 C.2.1 dX7_takeOut_31 hl (k := 2) rfl rfl (by decide) rfl (fun ls hl => ?_)
      refine lv_goto (tgt := 5) C.1 C.2.1 dX7_takeOut_34 (by decide) ?_
      exact ih l1 (l2 + (1 : Int32)) (ms_cal u (vp_updL (m_cal u) (Int32.toNatClampNeg l2) ((m_cal u) (Int32.toNatClampNeg (l2 + (17 : Int32)))))) _ _ _ hG hw (lv_sub hl [1, 2, 0] rfl)
def f_X7_takeOut (l1 : Int32) (u : MS) : Option MS := (f_X7_takeOut_5 1000 l1 ((17 : Int32) * l1) u)
set_option maxHeartbeats 4000000 in
set_option maxRecDepth 100000 in
theorem k_X7_takeOut (l : Launch) (D : va_G) (ad : Nat → Nat) (cI cJ : ClassId) (u : MS) (l1 : Int32) (u1 : MS) (hG : f_X7_takeOut l1 u = some u1) : Met l yX7_takeOut wsX7_takeOut ({ frames := 0, cells := 0, slots := 0, locals := 0 } : Room) (va_Pc [.ref (ad 0), .int l1] (MB D ad cI cJ u)) (va_Qv (S := MS) (fun u2 => u2 = u1) (MB D ad cI cJ) (AM ad)) 0 0 (AM ad) := by
  refine Met.ofW (cc := cX7_takeOut) (maxL := 3) (ret := none) (by decide) rfl ?_
  intro p e s m args below meth c s₁ B hml hv
  obtain ⟨rfl, hP0, hK, hD0⟩ := hv
  have C : CallFix p m c cX7_takeOut 3 s _ wsX7_takeOut RX7 := ⟨B.exec, B.bytes, hml, findClass_of_methodNamed B.named, atoms_spec (ws := wsX7_takeOut) B.pre⟩
  have hr := B.returns
  have hlocks := B.notSynchronized
  have hw : MW D ad cI cJ s.heap s.heap [] u := ⟨hP0, hD0, va_S.rf⟩
  refine en_W (Nat.le_of_ble_eq_true rfl) (fun ls hl => ?_)
  have hl : lv_has ls 3 [(0, .ref (ad 0)), (1, .int l1)] := hl
  unfold f_X7_takeOut at hG
  refine lv_bipush (v := 17) C.1 C.2.1 dX7_takeOut_0 (by decide) ?_
  refine lv_iload_n C.1 C.2.1 dX7_takeOut_2 rfl (lv_at hl 1 rfl) ?_
  refine lv_imul C.1 C.2.1 dX7_takeOut_3 ?_
  refine lv_istore_n (lv' := [(2, .int ((17 : Int32) * l1)), (0, .ref (ad 0)), (1, .int l1)]) C.1 C.2.1 dX7_takeOut_4 rfl hl (by decide) rfl (fun ls hl => ?_)
  exact kl_X7_takeOut_5 C hr hlocks hK 1000 l1 ((17 : Int32) * l1) u _ _ _ hG hw (lv_sub hl [1, 2, 0] rfl)
theorem jX7_comes_7 : ∀ w ∈ wsX70, w ∈ wsX7_comes := by decide +kernel
def f_X7_comes (l1 : Int32) (l2 : Int32) (l3 : Int32) (u : MS) : Option MS := (if inb ((3 : Int32) * ((m_evs u) - (m_evs u) / (60 : Int32) * (60 : Int32))) 180 = true then (if inb (((3 : Int32) * ((m_evs u) - (m_evs u) / (60 : Int32) * (60 : Int32))) + (1 : Int32)) 180 = true then (if inb (((3 : Int32) * ((m_evs u) - (m_evs u) / (60 : Int32) * (60 : Int32))) + (2 : Int32)) 180 = true then some (ms_evs (ms_evr u (upd (upd (upd (m_evr u) (Int32.toNatClampNeg ((3 : Int32) * ((m_evs u) - (m_evs u) / (60 : Int32) * (60 : Int32)))) l1) (Int32.toNatClampNeg (((3 : Int32) * ((m_evs u) - (m_evs u) / (60 : Int32) * (60 : Int32))) + (1 : Int32))) l2) (Int32.toNatClampNeg (((3 : Int32) * ((m_evs u) - (m_evs u) / (60 : Int32) * (60 : Int32))) + (2 : Int32))) l3)) ((m_evs u) + (1 : Int32))) else none) else none) else none)
set_option maxHeartbeats 4000000 in
set_option maxRecDepth 100000 in
theorem k_X7_comes (l : Launch) (D : va_G) (ad : Nat → Nat) (cI cJ : ClassId) (u : MS) (l1 : Int32) (l2 : Int32) (l3 : Int32) (u1 : MS) (hG : f_X7_comes l1 l2 l3 u = some u1) : Met l yX7_comes wsX7_comes ({ frames := 0, cells := 0, slots := 0, locals := 0 } : Room) (va_Pc [.ref (ad 0), .int l1, .int l2, .int l3] (MB D ad cI cJ u)) (va_Qv (S := MS) (fun u2 => u2 = u1) (MB D ad cI cJ) (AM ad)) 0 0 (AM ad) := by
  refine Met.ofW (cc := cX7_comes) (maxL := 5) (ret := none) (by decide) rfl ?_
  intro p e s m args below meth c s₁ B hml hv
  obtain ⟨rfl, hP0, hK, hD0⟩ := hv
  have C : CallFix p m c cX7_comes 5 s _ wsX7_comes RX7 := ⟨B.exec, B.bytes, hml, findClass_of_methodNamed B.named, atoms_spec (ws := wsX7_comes) B.pre⟩
  have hr := B.returns
  have hlocks := B.notSynchronized
  have hw : MW D ad cI cJ s.heap s.heap [] u := ⟨hP0, hD0, va_S.rf⟩
  refine en_W (Nat.le_of_ble_eq_true rfl) (fun ls hl => ?_)
  have hl : lv_has ls 5 [(0, .ref (ad 0)), (1, .int l1), (2, .int l2), (3, .int l3)] := hl
  unfold f_X7_comes at hG
  refine lv_iconst (v := 3) C.1 C.2.1 dX7_comes_0 (by decide) ?_
  refine lv_aload_n C.1 C.2.1 dX7_comes_1 rfl (lv_at hl 0 rfl) ?_
  refine mg_0_17 C hK hw jX7_comes_7 (List.mem_of_getElem? (i := 1) rfl) dX7_comes_2 ?_
  refine lv_bipush (v := 60) C.1 C.2.1 dX7_comes_5 (by decide) ?_
  refine lv_irem C.1 C.2.1 dX7_comes_7 (by decide) ?_
  refine lv_imul C.1 C.2.1 dX7_comes_8 ?_
  refine lv_istore (lv' := [(4, .int ((3 : Int32) * ((m_evs u) - (m_evs u) / (60 : Int32) * (60 : Int32)))), (0, .ref (ad 0)), (1, .int l1), (2, .int l2), (3, .int l3)]) C.1 C.2.1 dX7_comes_9 hl (by decide) rfl (fun ls hl => ?_)
  refine lv_aload_n C.1 C.2.1 dX7_comes_11 rfl (lv_at hl 1 rfl) ?_
  refine mg_0_18 C hK hw jX7_comes_7 (List.mem_of_getElem? (i := 2) rfl) dX7_comes_12 ?_
  refine lv_iload C.1 C.2.1 dX7_comes_15 (lv_at hl 0 rfl) ?_
  refine lv_iload_n C.1 C.2.1 dX7_comes_17 rfl (lv_at hl 2 rfl) ?_
  obtain ⟨h_1, hG⟩ := og hG
  refine mt_9 C hK hw h_1 dX7_comes_18 (fun H locs hw => ?_)
  refine lv_aload_n C.1 C.2.1 dX7_comes_19 rfl (lv_at hl 1 rfl) ?_
  refine mg_0_18 C hK hw jX7_comes_7 (List.mem_of_getElem? (i := 2) rfl) dX7_comes_20 ?_
  refine lv_iload C.1 C.2.1 dX7_comes_23 (lv_at hl 0 rfl) ?_
  refine lv_iconst (v := 1) C.1 C.2.1 dX7_comes_25 (by decide) ?_
  refine lv_iadd C.1 C.2.1 dX7_comes_26 ?_
  refine lv_iload_n C.1 C.2.1 dX7_comes_27 rfl (lv_at hl 3 rfl) ?_
  obtain ⟨h_2, hG⟩ := og hG
  refine mt_9 C hK hw h_2 dX7_comes_28 (fun H locs hw => ?_)
  refine lv_aload_n C.1 C.2.1 dX7_comes_29 rfl (lv_at hl 1 rfl) ?_
  refine mg_0_18 C hK hw jX7_comes_7 (List.mem_of_getElem? (i := 2) rfl) dX7_comes_30 ?_
  refine lv_iload C.1 C.2.1 dX7_comes_33 (lv_at hl 0 rfl) ?_
  refine lv_iconst (v := 2) C.1 C.2.1 dX7_comes_35 (by decide) ?_
  refine lv_iadd C.1 C.2.1 dX7_comes_36 ?_
  refine lv_iload_n C.1 C.2.1 dX7_comes_37 rfl (lv_at hl 4 rfl) ?_
  obtain ⟨h_3, hG⟩ := og hG
  refine mt_9 C hK hw h_3 dX7_comes_38 (fun H locs hw => ?_)
  refine lv_aload_n C.1 C.2.1 dX7_comes_39 rfl (lv_at hl 1 rfl) ?_
  refine lv_dup C.1 C.2.1 dX7_comes_40 rfl ?_
  refine mg_0_17 C hK hw jX7_comes_7 (List.mem_of_getElem? (i := 1) rfl) dX7_comes_41 ?_
  refine lv_iconst (v := 1) C.1 C.2.1 dX7_comes_44 (by decide) ?_
  refine lv_iadd C.1 C.2.1 dX7_comes_45 ?_
  refine mp_0_17 C hK hw jX7_comes_7 (List.mem_of_getElem? (i := 1) rfl) dX7_comes_46 (fun H locs hw => ?_)
  exact mret_v C hlocks hK hw hr (retv hG) dX7_comes_49
theorem jX7_offer_7 : ∀ w ∈ wsX70, w ∈ wsX7_offer := by decide +kernel
def f_X7_offer_100 : Nat → Int32 → Int32 → Int32 → MS → Option (Int32 × MS)
  | 0, _, _, _, _ => none
  | n + 1, l1, l2, l3, u => (if (17 : Int32) ≤ l3 then (if inb (((17 : Int32) * (m_wts u)) + (7 : Int32)) 442 = true then some ((((m_tik u) + (1 : Int32)) - (1 : Int32)), (ms_tik (ms_cal u (vp_updL (m_cal u) (Int32.toNatClampNeg (((17 : Int32) * (m_wts u)) + (7 : Int32))) (Int32.toInt64 (m_tik u)))) ((m_tik u) + (1 : Int32)))) else none) else (if inb l3 442 = true then (if inb (((17 : Int32) * (m_wts u)) + l3) 442 = true then (f_X7_offer_100 n l1 l2 (l3 + (1 : Int32)) (ms_cal u (vp_updL (m_cal u) (Int32.toNatClampNeg (((17 : Int32) * (m_wts u)) + l3)) ((m_cal u) (Int32.toNatClampNeg l3))))) else none) else none))
set_option maxHeartbeats 4000000 in
set_option maxRecDepth 100000 in
theorem kl_X7_offer_100 {p : Program} {l : Launch} {e : Env} {s : State} {m : MethodId} {args : Array Value} {below : List Frame} {meth : Method} {c : Code} {D : va_G} {ad : Nat → Nat} {cI cJ : ClassId} (C : CallFix p m c cX7_offer 4 s args wsX7_offer RX7) (hr : meth.sig.returnType = (some .int)) (hlocks : meth.locks = false) (hK : va_K D vwCl (mT cI cJ) s) {r1 : Int32} {u1 : MS} : ∀ (n : Nat) (l1 : Int32) (l2 : Int32) (l3 : Int32) (u : MS) (H : Heap) (locs : List Loc) (ls : Array Slot), f_X7_offer_100 n l1 l2 l3 u = some (r1, u1) → MW D ad cI cJ s.heap H locs u → lv_has ls 4 [(0, .ref (ad 0)), (1, .int l1), (2, .int l2), (3, .int l3)] → W p l e ({ frames := 3, cells := 0, slots := 0, locals := 72 } : Room) s m args below meth c H locs 0 0 (MQ below (va_Qi (S := MS) (fun r u2 => r = r1 ∧ u2 = u1) (MB D ad cI cJ) (AM ad)) args s 0 0 (AM ad)) (F0 m 100 ls []) := by
  intro n
  induction n with
  | zero =>
    intro l1 l2 l3 u H locs ls hG
    exact ns hG
  | succ n ih =>
    intro l1 l2 l3 u H locs ls hG hw hl
    rw [f_X7_offer_100] at hG
    refine lv_iload_n C.1 C.2.1 dX7_offer_100 rfl (lv_at hl 3 rfl) ?_
    refine lv_bipush (v := 17) C.1 C.2.1 dX7_offer_101 (by decide) ?_
    refine lv_icmp_ge (tgt := 132) C.1 C.2.1 dX7_offer_103 (by decide) (fun (h_23 : (17 : Int32) ≤ l3) => ?_) (fun (h_23 : ¬ (17 : Int32) ≤ l3) => ?_)
    · replace hG := ip h_23 hG
      refine lv_aload_n C.1 C.2.1 dX7_offer_132 rfl (lv_at hl 0 rfl) ?_
      refine mg_0_8 C hK hw jX7_offer_7 (List.mem_of_getElem? (i := 3) rfl) dX7_offer_133 ?_
      refine lv_bipush (v := 17) C.1 C.2.1 dX7_offer_136 (by decide) ?_
      refine lv_aload_n C.1 C.2.1 dX7_offer_138 rfl (lv_at hl 0 rfl) ?_
      refine mg_0_12 C hK hw jX7_offer_7 (List.mem_of_getElem? (i := 2) rfl) dX7_offer_139 ?_
      refine lv_imul C.1 C.2.1 dX7_offer_142 ?_
      refine lv_bipush (v := 7) C.1 C.2.1 dX7_offer_143 (by decide) ?_
      refine lv_iadd C.1 C.2.1 dX7_offer_145 ?_
      refine lv_aload_n C.1 C.2.1 dX7_offer_146 rfl (lv_at hl 0 rfl) ?_
      refine mg_0_13 C hK hw jX7_offer_7 (List.mem_of_getElem? (i := 4) rfl) dX7_offer_147 ?_
      refine lv_i2l C.1 C.2.1 dX7_offer_150 rfl ?_
      obtain ⟨h_24, hG⟩ := og hG
      refine mt_7 C hK hw h_24 dX7_offer_151 (fun H locs hw => ?_)
      refine lv_aload_n C.1 C.2.1 dX7_offer_152 rfl (lv_at hl 0 rfl) ?_
      refine lv_dup C.1 C.2.1 dX7_offer_153 rfl ?_
      refine mg_0_13 C hK hw jX7_offer_7 (List.mem_of_getElem? (i := 4) rfl) dX7_offer_154 ?_
      refine lv_iconst (v := 1) C.1 C.2.1 dX7_offer_157 (by decide) ?_
      refine lv_iadd C.1 C.2.1 dX7_offer_158 ?_
      refine mp_0_13 C hK hw jX7_offer_7 (List.mem_of_getElem? (i := 4) rfl) dX7_offer_159 (fun H locs hw => ?_)
      refine lv_aload_n C.1 C.2.1 dX7_offer_162 rfl (lv_at hl 0 rfl) ?_
      refine mg_0_13 C hK hw jX7_offer_7 (List.mem_of_getElem? (i := 4) rfl) dX7_offer_163 ?_
      refine lv_iconst (v := 1) C.1 C.2.1 dX7_offer_166 (by decide) ?_
      refine lv_isub C.1 C.2.1 dX7_offer_167 ?_
      exact mret_i C hlocks hK hw hr (ret2 hG) dX7_offer_168
    · replace hG := inn h_23 hG
      refine lv_aload_n C.1 C.2.1 dX7_offer_106 rfl (lv_at hl 0 rfl) ?_
      refine mg_0_8 C hK hw jX7_offer_7 (List.mem_of_getElem? (i := 3) rfl) dX7_offer_107 ?_
      refine lv_bipush (v := 17) C.1 C.2.1 dX7_offer_110 (by decide) ?_
      refine lv_aload_n C.1 C.2.1 dX7_offer_112 rfl (lv_at hl 0 rfl) ?_
      refine mg_0_12 C hK hw jX7_offer_7 (List.mem_of_getElem? (i := 2) rfl) dX7_offer_113 ?_
      refine lv_imul C.1 C.2.1 dX7_offer_116 ?_
      refine lv_iload_n C.1 C.2.1 dX7_offer_117 rfl (lv_at hl 3 rfl) ?_
      refine lv_iadd C.1 C.2.1 dX7_offer_118 ?_
      refine lv_aload_n C.1 C.2.1 dX7_offer_119 rfl (lv_at hl 0 rfl) ?_
      refine mg_0_8 C hK hw jX7_offer_7 (List.mem_of_getElem? (i := 3) rfl) dX7_offer_120 ?_
      refine lv_iload_n C.1 C.2.1 dX7_offer_123 rfl (lv_at hl 3 rfl) ?_
      obtain ⟨h_25, hG⟩ := og hG
      refine ml_7 C hK hw h_25 dX7_offer_124 ?_
      obtain ⟨h_26, hG⟩ := og hG
      refine mt_7 C hK hw h_26 dX7_offer_125 (fun H locs hw => ?_)
      refine lv_iinc (v := (l3 + (1 : Int32))) (lv' := [(3, .int (l3 + (1 : Int32))), (0, .ref (ad 0)), (1, .int l1), (2, .int l2)]) C.1 C.2.1 dX7_offer_126 hl (k := 3) rfl rfl (by decide) rfl (fun ls hl => ?_)
      refine lv_goto (tgt := 100) C.1 C.2.1 dX7_offer_129 (by decide) ?_
      exact ih l1 l2 (l3 + (1 : Int32)) (ms_cal u (vp_updL (m_cal u) (Int32.toNatClampNeg (((17 : Int32) * (m_wts u)) + l3)) ((m_cal u) (Int32.toNatClampNeg l3)))) _ _ _ hG hw (lv_sub hl [1, 2, 3, 0] rfl)
def f_X7_offer (u : MS) : Option (Int32 × MS) := (if (m_dra u) = (0 : Int32) then some ((-2 : Int32), u) else ((f_X7_sameCall u).bind fun q_2 => ((f_X7_refusedBy q_2 u).bind fun q_3 => (if q_3 ≤ (0 : Int32) then (if (0 : Int32) < q_2 then (if q_2 ≤ (0 : Int32) then ((f_X7_cheapest u).bind fun q_7 => (if inb (((17 : Int32) * q_7) + (7 : Int32)) 442 = true then ((f_X7_comes (Int64.toInt32 ((m_cal u) (Int32.toNatClampNeg (((17 : Int32) * q_7) + (7 : Int32))))) (4 : Int32) (0 : Int32) u).bind fun q_9 => ((f_X7_takeOut q_7 q_9).bind fun q_10 => (f_X7_offer_100 1000 q_2 q_3 (0 : Int32) (ms_wts q_10 ((m_wts q_10) + (1 : Int32)))))) else none)) else (if inb (((17 : Int32) * q_2) + (7 : Int32)) 442 = true then ((f_X7_comes (Int64.toInt32 ((m_cal u) (Int32.toNatClampNeg (((17 : Int32) * q_2) + (7 : Int32))))) (3 : Int32) (0 : Int32) u).bind fun q_12 => ((f_X7_takeOut q_2 q_12).bind fun q_13 => (f_X7_offer_100 1000 q_2 q_3 (0 : Int32) (ms_wts q_13 ((m_wts q_13) + (1 : Int32)))))) else none)) else (if (m_wts u) = (24 : Int32) then (if q_2 ≤ (0 : Int32) then ((f_X7_cheapest u).bind fun q_16 => (if inb (((17 : Int32) * q_16) + (7 : Int32)) 442 = true then ((f_X7_comes (Int64.toInt32 ((m_cal u) (Int32.toNatClampNeg (((17 : Int32) * q_16) + (7 : Int32))))) (4 : Int32) (0 : Int32) u).bind fun q_18 => ((f_X7_takeOut q_16 q_18).bind fun q_19 => (f_X7_offer_100 1000 q_2 q_3 (0 : Int32) (ms_wts q_19 ((m_wts q_19) + (1 : Int32)))))) else none)) else (if inb (((17 : Int32) * q_2) + (7 : Int32)) 442 = true then ((f_X7_comes (Int64.toInt32 ((m_cal u) (Int32.toNatClampNeg (((17 : Int32) * q_2) + (7 : Int32))))) (3 : Int32) (0 : Int32) u).bind fun q_21 => ((f_X7_takeOut q_2 q_21).bind fun q_22 => (f_X7_offer_100 1000 q_2 q_3 (0 : Int32) (ms_wts q_22 ((m_wts q_22) + (1 : Int32)))))) else none)) else (f_X7_offer_100 1000 q_2 q_3 (0 : Int32) (ms_wts u ((m_wts u) + (1 : Int32)))))) else some (((-10 : Int32) - q_3), u)))))
set_option maxHeartbeats 4000000 in
set_option maxRecDepth 100000 in
theorem k_X7_offer (l : Launch) (D : va_G) (ad : Nat → Nat) (cI cJ : ClassId) (u : MS) (r1 : Int32) (u1 : MS) (hG : f_X7_offer u = some (r1, u1)) : Met l yX7_offer wsX7_offer ({ frames := 3, cells := 0, slots := 0, locals := 72 } : Room) (va_Pc [.ref (ad 0)] (MB D ad cI cJ u)) (va_Qi (S := MS) (fun r u2 => r = r1 ∧ u2 = u1) (MB D ad cI cJ) (AM ad)) 0 0 (AM ad) := by
  refine Met.ofW (cc := cX7_offer) (maxL := 4) (ret := (some .int)) (by decide) rfl ?_
  intro p e s m args below meth c s₁ B hml hv
  obtain ⟨rfl, hP0, hK, hD0⟩ := hv
  have C : CallFix p m c cX7_offer 4 s _ wsX7_offer RX7 := ⟨B.exec, B.bytes, hml, findClass_of_methodNamed B.named, atoms_spec (ws := wsX7_offer) B.pre⟩
  have hr := B.returns
  have hlocks := B.notSynchronized
  have hw : MW D ad cI cJ s.heap s.heap [] u := ⟨hP0, hD0, va_S.rf⟩
  refine en_W (Nat.le_of_ble_eq_true rfl) (fun ls hl => ?_)
  have hl : lv_has ls 4 [(0, .ref (ad 0))] := hl
  unfold f_X7_offer at hG
  refine lv_aload_n C.1 C.2.1 dX7_offer_0 rfl (lv_at hl 0 rfl) ?_
  refine mg_0_9 C hK hw jX7_offer_7 (List.mem_of_getElem? (i := 1) rfl) dX7_offer_1 ?_
  refine lv_if_ne (tgt := 10) C.1 C.2.1 dX7_offer_4 (by decide) (fun (h_1 : ¬ (m_dra u) = (0 : Int32)) => ?_) (fun (h_1 : (m_dra u) = (0 : Int32)) => ?_)
  · replace hG := inn h_1 hG
    refine lv_aload_n C.1 C.2.1 dX7_offer_10 rfl (lv_at hl 0 rfl) ?_
    obtain ⟨q_2, hc_2, hG⟩ := ob hG
    try dsimp only at hG
    refine mcVi (As := []) (rest := []) C hK hw (k_X7_sameCall l D ad cI cJ u q_2 hc_2) (cwV 0 C.2.2.2.2 gX7_offer_X7_sameCall rfl rfl rfl (by decide +kernel) ⟨Nat.le_of_ble_eq_true rfl, Nat.le_of_ble_eq_true rfl⟩) (va_recv hK hw.1 (ci := 7) (q0 := 0) rfl rfl) rfl hl.1 rfl (Nat.le_of_ble_eq_true rfl) dX7_offer_11 (fun H locs hw => ?_)
    refine lv_istore_n (lv' := [(1, .int q_2), (0, .ref (ad 0))]) C.1 C.2.1 dX7_offer_14 rfl hl (by decide) rfl (fun ls hl => ?_)
    refine lv_aload_n C.1 C.2.1 dX7_offer_15 rfl (lv_at hl 1 rfl) ?_
    refine lv_iload_n C.1 C.2.1 dX7_offer_16 rfl (lv_at hl 0 rfl) ?_
    obtain ⟨q_3, hc_3, hG⟩ := ob hG
    try dsimp only at hG
    refine mcVi (As := [.int q_2]) (rest := []) C hK hw (k_X7_refusedBy l D ad cI cJ u q_2 q_3 hc_3) (cwV 1 C.2.2.2.2 gX7_offer_X7_refusedBy rfl rfl rfl (by decide +kernel) ⟨Nat.le_of_ble_eq_true rfl, Nat.le_of_ble_eq_true rfl⟩) (va_recv hK hw.1 (ci := 7) (q0 := 0) rfl rfl) rfl hl.1 rfl (Nat.le_of_ble_eq_true rfl) dX7_offer_17 (fun H locs hw => ?_)
    refine lv_istore_n (lv' := [(2, .int q_3), (1, .int q_2), (0, .ref (ad 0))]) C.1 C.2.1 dX7_offer_20 rfl hl (by decide) rfl (fun ls hl => ?_)
    refine lv_iload_n C.1 C.2.1 dX7_offer_21 rfl (lv_at hl 0 rfl) ?_
    refine lv_if_le (tgt := 30) C.1 C.2.1 dX7_offer_22 (by decide) (fun (h_4 : q_3 ≤ (0 : Int32)) => ?_) (fun (h_4 : ¬ q_3 ≤ (0 : Int32)) => ?_)
    · replace hG := ip h_4 hG
      refine lv_iload_n C.1 C.2.1 dX7_offer_30 rfl (lv_at hl 1 rfl) ?_
      refine lv_if_gt (tgt := 43) C.1 C.2.1 dX7_offer_31 (by decide) (fun (h_5 : (0 : Int32) < q_2) => ?_) (fun (h_5 : ¬ (0 : Int32) < q_2) => ?_)
      · replace hG := ip h_5 hG
        refine lv_iload_n C.1 C.2.1 dX7_offer_43 rfl (lv_at hl 1 rfl) ?_
        refine lv_if_le (tgt := 51) C.1 C.2.1 dX7_offer_44 (by decide) (fun (h_6 : q_2 ≤ (0 : Int32)) => ?_) (fun (h_6 : ¬ q_2 ≤ (0 : Int32)) => ?_)
        · replace hG := ip h_6 hG
          refine lv_aload_n C.1 C.2.1 dX7_offer_51 rfl (lv_at hl 2 rfl) ?_
          obtain ⟨q_7, hc_7, hG⟩ := ob hG
          try dsimp only at hG
          refine mcVi (As := []) (rest := []) C hK hw (k_X7_cheapest l D ad cI cJ u q_7 hc_7) (cwV 0 C.2.2.2.2 gX7_offer_X7_cheapest rfl rfl rfl (by decide +kernel) ⟨Nat.le_of_ble_eq_true rfl, Nat.le_of_ble_eq_true rfl⟩) (va_recv hK hw.1 (ci := 7) (q0 := 0) rfl rfl) rfl hl.1 rfl (Nat.le_of_ble_eq_true rfl) dX7_offer_52 (fun H locs hw => ?_)
          refine lv_istore_n (lv' := [(3, .int q_7), (2, .int q_3), (1, .int q_2), (0, .ref (ad 0))]) C.1 C.2.1 dX7_offer_55 rfl hl (by decide) rfl (fun ls hl => ?_)
          refine lv_aload_n C.1 C.2.1 dX7_offer_56 rfl (lv_at hl 3 rfl) ?_
          refine lv_aload_n C.1 C.2.1 dX7_offer_57 rfl (lv_at hl 3 rfl) ?_
          refine mg_0_8 C hK hw jX7_offer_7 (List.mem_of_getElem? (i := 3) rfl) dX7_offer_58 ?_
          refine lv_bipush (v := 17) C.1 C.2.1 dX7_offer_61 (by decide) ?_
          refine lv_iload_n C.1 C.2.1 dX7_offer_63 rfl (lv_at hl 0 rfl) ?_
          refine lv_imul C.1 C.2.1 dX7_offer_64 ?_
          refine lv_bipush (v := 7) C.1 C.2.1 dX7_offer_65 (by decide) ?_
          refine lv_iadd C.1 C.2.1 dX7_offer_67 ?_
          obtain ⟨h_8, hG⟩ := og hG
          refine ml_7 C hK hw h_8 dX7_offer_68 ?_
          refine lv_l2i C.1 C.2.1 dX7_offer_69 rfl ?_
          refine lv_iload_n C.1 C.2.1 dX7_offer_70 rfl (lv_at hl 2 rfl) ?_
          refine lv_if_le (tgt := 78) C.1 C.2.1 dX7_offer_71 (by decide) (fun _ => ?_) (fun hz => absurd h_6 hz)
          refine lv_iconst (v := 4) C.1 C.2.1 dX7_offer_78 (by decide) ?_
          refine lv_iconst (v := 0) C.1 C.2.1 dX7_offer_79 (by decide) ?_
          obtain ⟨q_9, hc_9, hG⟩ := ob hG
          try dsimp only at hG
          refine mcVv (As := [.int (Int64.toInt32 ((m_cal u) (Int32.toNatClampNeg (((17 : Int32) * q_7) + (7 : Int32))))), .int (4 : Int32), .int (0 : Int32)]) (rest := []) C hK hw (k_X7_comes l D ad cI cJ u (Int64.toInt32 ((m_cal u) (Int32.toNatClampNeg (((17 : Int32) * q_7) + (7 : Int32))))) (4 : Int32) (0 : Int32) q_9 hc_9) (cwV 3 C.2.2.2.2 gX7_offer_X7_comes rfl rfl rfl (by decide +kernel) ⟨Nat.le_of_ble_eq_true rfl, Nat.le_of_ble_eq_true rfl⟩) (va_recv hK hw.1 (ci := 7) (q0 := 0) rfl rfl) rfl hl.1 rfl (Nat.le_of_ble_eq_true rfl) dX7_offer_80 (fun H locs hw => ?_)
          refine lv_aload_n C.1 C.2.1 dX7_offer_83 rfl (lv_at hl 3 rfl) ?_
          refine lv_iload_n C.1 C.2.1 dX7_offer_84 rfl (lv_at hl 0 rfl) ?_
          obtain ⟨q_10, hc_10, hG⟩ := ob hG
          try dsimp only at hG
          refine mcVv (As := [.int q_7]) (rest := []) C hK hw (k_X7_takeOut l D ad cI cJ q_9 q_7 q_10 hc_10) (cwV 1 C.2.2.2.2 gX7_offer_X7_takeOut rfl rfl rfl (by decide +kernel) ⟨Nat.le_of_ble_eq_true rfl, Nat.le_of_ble_eq_true rfl⟩) (va_recv hK hw.1 (ci := 7) (q0 := 0) rfl rfl) rfl hl.1 rfl (Nat.le_of_ble_eq_true rfl) dX7_offer_85 (fun H locs hw => ?_)
          refine lv_aload_n C.1 C.2.1 dX7_offer_88 rfl (lv_at hl 3 rfl) ?_
          refine lv_dup C.1 C.2.1 dX7_offer_89 rfl ?_
          refine mg_0_12 C hK hw jX7_offer_7 (List.mem_of_getElem? (i := 2) rfl) dX7_offer_90 ?_
          refine lv_iconst (v := 1) C.1 C.2.1 dX7_offer_93 (by decide) ?_
          refine lv_iadd C.1 C.2.1 dX7_offer_94 ?_
          refine mp_0_12 C hK hw jX7_offer_7 (List.mem_of_getElem? (i := 2) rfl) dX7_offer_95 (fun H locs hw => ?_)
          refine lv_iconst (v := 0) C.1 C.2.1 dX7_offer_98 (by decide) ?_
          refine lv_istore_n (lv' := [(3, .int (0 : Int32)), (2, .int q_3), (1, .int q_2), (0, .ref (ad 0))]) C.1 C.2.1 dX7_offer_99 rfl hl (by decide) rfl (fun ls hl => ?_)
          exact kl_X7_offer_100 C hr hlocks hK 1000 q_2 q_3 (0 : Int32) (ms_wts q_10 ((m_wts q_10) + (1 : Int32))) _ _ _ hG hw (lv_sub hl [3, 2, 1, 0] rfl)
        · replace hG := inn h_6 hG
          refine lv_iload_n C.1 C.2.1 dX7_offer_47 rfl (lv_at hl 1 rfl) ?_
          refine lv_goto (tgt := 55) C.1 C.2.1 dX7_offer_48 (by decide) ?_
          refine lv_istore_n (lv' := [(3, .int q_2), (2, .int q_3), (1, .int q_2), (0, .ref (ad 0))]) C.1 C.2.1 dX7_offer_55 rfl hl (by decide) rfl (fun ls hl => ?_)
          refine lv_aload_n C.1 C.2.1 dX7_offer_56 rfl (lv_at hl 3 rfl) ?_
          refine lv_aload_n C.1 C.2.1 dX7_offer_57 rfl (lv_at hl 3 rfl) ?_
          refine mg_0_8 C hK hw jX7_offer_7 (List.mem_of_getElem? (i := 3) rfl) dX7_offer_58 ?_
          refine lv_bipush (v := 17) C.1 C.2.1 dX7_offer_61 (by decide) ?_
          refine lv_iload_n C.1 C.2.1 dX7_offer_63 rfl (lv_at hl 0 rfl) ?_
          refine lv_imul C.1 C.2.1 dX7_offer_64 ?_
          refine lv_bipush (v := 7) C.1 C.2.1 dX7_offer_65 (by decide) ?_
          refine lv_iadd C.1 C.2.1 dX7_offer_67 ?_
          obtain ⟨h_11, hG⟩ := og hG
          refine ml_7 C hK hw h_11 dX7_offer_68 ?_
          refine lv_l2i C.1 C.2.1 dX7_offer_69 rfl ?_
          refine lv_iload_n C.1 C.2.1 dX7_offer_70 rfl (lv_at hl 2 rfl) ?_
          refine lv_if_le (tgt := 78) C.1 C.2.1 dX7_offer_71 (by decide) (fun hz => absurd hz h_6) (fun _ => ?_)
          refine lv_iconst (v := 3) C.1 C.2.1 dX7_offer_74 (by decide) ?_
          refine lv_goto (tgt := 79) C.1 C.2.1 dX7_offer_75 (by decide) ?_
          refine lv_iconst (v := 0) C.1 C.2.1 dX7_offer_79 (by decide) ?_
          obtain ⟨q_12, hc_12, hG⟩ := ob hG
          try dsimp only at hG
          refine mcVv (As := [.int (Int64.toInt32 ((m_cal u) (Int32.toNatClampNeg (((17 : Int32) * q_2) + (7 : Int32))))), .int (3 : Int32), .int (0 : Int32)]) (rest := []) C hK hw (k_X7_comes l D ad cI cJ u (Int64.toInt32 ((m_cal u) (Int32.toNatClampNeg (((17 : Int32) * q_2) + (7 : Int32))))) (3 : Int32) (0 : Int32) q_12 hc_12) (cwV 3 C.2.2.2.2 gX7_offer_X7_comes rfl rfl rfl (by decide +kernel) ⟨Nat.le_of_ble_eq_true rfl, Nat.le_of_ble_eq_true rfl⟩) (va_recv hK hw.1 (ci := 7) (q0 := 0) rfl rfl) rfl hl.1 rfl (Nat.le_of_ble_eq_true rfl) dX7_offer_80 (fun H locs hw => ?_)
          refine lv_aload_n C.1 C.2.1 dX7_offer_83 rfl (lv_at hl 3 rfl) ?_
          refine lv_iload_n C.1 C.2.1 dX7_offer_84 rfl (lv_at hl 0 rfl) ?_
          obtain ⟨q_13, hc_13, hG⟩ := ob hG
          try dsimp only at hG
          refine mcVv (As := [.int q_2]) (rest := []) C hK hw (k_X7_takeOut l D ad cI cJ q_12 q_2 q_13 hc_13) (cwV 1 C.2.2.2.2 gX7_offer_X7_takeOut rfl rfl rfl (by decide +kernel) ⟨Nat.le_of_ble_eq_true rfl, Nat.le_of_ble_eq_true rfl⟩) (va_recv hK hw.1 (ci := 7) (q0 := 0) rfl rfl) rfl hl.1 rfl (Nat.le_of_ble_eq_true rfl) dX7_offer_85 (fun H locs hw => ?_)
          refine lv_aload_n C.1 C.2.1 dX7_offer_88 rfl (lv_at hl 3 rfl) ?_
          refine lv_dup C.1 C.2.1 dX7_offer_89 rfl ?_
          refine mg_0_12 C hK hw jX7_offer_7 (List.mem_of_getElem? (i := 2) rfl) dX7_offer_90 ?_
          refine lv_iconst (v := 1) C.1 C.2.1 dX7_offer_93 (by decide) ?_
          refine lv_iadd C.1 C.2.1 dX7_offer_94 ?_
          refine mp_0_12 C hK hw jX7_offer_7 (List.mem_of_getElem? (i := 2) rfl) dX7_offer_95 (fun H locs hw => ?_)
          refine lv_iconst (v := 0) C.1 C.2.1 dX7_offer_98 (by decide) ?_
          refine lv_istore_n (lv' := [(3, .int (0 : Int32)), (2, .int q_3), (1, .int q_2), (0, .ref (ad 0))]) C.1 C.2.1 dX7_offer_99 rfl hl (by decide) rfl (fun ls hl => ?_)
          exact kl_X7_offer_100 C hr hlocks hK 1000 q_2 q_3 (0 : Int32) (ms_wts q_13 ((m_wts q_13) + (1 : Int32))) _ _ _ hG hw (lv_sub hl [3, 2, 1, 0] rfl)
      · replace hG := inn h_5 hG
        refine lv_aload_n C.1 C.2.1 dX7_offer_34 rfl (lv_at hl 2 rfl) ?_
        refine mg_0_12 C hK hw jX7_offer_7 (List.mem_of_getElem? (i := 2) rfl) dX7_offer_35 ?_
        refine lv_bipush (v := 24) C.1 C.2.1 dX7_offer_38 (by decide) ?_
        refine lv_icmp_ne (tgt := 88) C.1 C.2.1 dX7_offer_40 (by decide) (fun (h_14 : ¬ (m_wts u) = (24 : Int32)) => ?_) (fun (h_14 : (m_wts u) = (24 : Int32)) => ?_)
        · replace hG := inn h_14 hG
          refine lv_aload_n C.1 C.2.1 dX7_offer_88 rfl (lv_at hl 2 rfl) ?_
          refine lv_dup C.1 C.2.1 dX7_offer_89 rfl ?_
          refine mg_0_12 C hK hw jX7_offer_7 (List.mem_of_getElem? (i := 2) rfl) dX7_offer_90 ?_
          refine lv_iconst (v := 1) C.1 C.2.1 dX7_offer_93 (by decide) ?_
          refine lv_iadd C.1 C.2.1 dX7_offer_94 ?_
          refine mp_0_12 C hK hw jX7_offer_7 (List.mem_of_getElem? (i := 2) rfl) dX7_offer_95 (fun H locs hw => ?_)
          refine lv_iconst (v := 0) C.1 C.2.1 dX7_offer_98 (by decide) ?_
          refine lv_istore_n (lv' := [(3, .int (0 : Int32)), (2, .int q_3), (1, .int q_2), (0, .ref (ad 0))]) C.1 C.2.1 dX7_offer_99 rfl hl (by decide) rfl (fun ls hl => ?_)
          exact kl_X7_offer_100 C hr hlocks hK 1000 q_2 q_3 (0 : Int32) (ms_wts u ((m_wts u) + (1 : Int32))) _ _ _ hG hw (lv_sub hl [3, 2, 1, 0] rfl)
        · replace hG := ip h_14 hG
          refine lv_iload_n C.1 C.2.1 dX7_offer_43 rfl (lv_at hl 1 rfl) ?_
          refine lv_if_le (tgt := 51) C.1 C.2.1 dX7_offer_44 (by decide) (fun (h_15 : q_2 ≤ (0 : Int32)) => ?_) (fun (h_15 : ¬ q_2 ≤ (0 : Int32)) => ?_)
          · replace hG := ip h_15 hG
            refine lv_aload_n C.1 C.2.1 dX7_offer_51 rfl (lv_at hl 2 rfl) ?_
            obtain ⟨q_16, hc_16, hG⟩ := ob hG
            try dsimp only at hG
            refine mcVi (As := []) (rest := []) C hK hw (k_X7_cheapest l D ad cI cJ u q_16 hc_16) (cwV 0 C.2.2.2.2 gX7_offer_X7_cheapest rfl rfl rfl (by decide +kernel) ⟨Nat.le_of_ble_eq_true rfl, Nat.le_of_ble_eq_true rfl⟩) (va_recv hK hw.1 (ci := 7) (q0 := 0) rfl rfl) rfl hl.1 rfl (Nat.le_of_ble_eq_true rfl) dX7_offer_52 (fun H locs hw => ?_)
            refine lv_istore_n (lv' := [(3, .int q_16), (2, .int q_3), (1, .int q_2), (0, .ref (ad 0))]) C.1 C.2.1 dX7_offer_55 rfl hl (by decide) rfl (fun ls hl => ?_)
            refine lv_aload_n C.1 C.2.1 dX7_offer_56 rfl (lv_at hl 3 rfl) ?_
            refine lv_aload_n C.1 C.2.1 dX7_offer_57 rfl (lv_at hl 3 rfl) ?_
            refine mg_0_8 C hK hw jX7_offer_7 (List.mem_of_getElem? (i := 3) rfl) dX7_offer_58 ?_
            refine lv_bipush (v := 17) C.1 C.2.1 dX7_offer_61 (by decide) ?_
            refine lv_iload_n C.1 C.2.1 dX7_offer_63 rfl (lv_at hl 0 rfl) ?_
            refine lv_imul C.1 C.2.1 dX7_offer_64 ?_
            refine lv_bipush (v := 7) C.1 C.2.1 dX7_offer_65 (by decide) ?_
            refine lv_iadd C.1 C.2.1 dX7_offer_67 ?_
            obtain ⟨h_17, hG⟩ := og hG
            refine ml_7 C hK hw h_17 dX7_offer_68 ?_
            refine lv_l2i C.1 C.2.1 dX7_offer_69 rfl ?_
            refine lv_iload_n C.1 C.2.1 dX7_offer_70 rfl (lv_at hl 2 rfl) ?_
            refine lv_if_le (tgt := 78) C.1 C.2.1 dX7_offer_71 (by decide) (fun _ => ?_) (fun hz => absurd h_15 hz)
            refine lv_iconst (v := 4) C.1 C.2.1 dX7_offer_78 (by decide) ?_
            refine lv_iconst (v := 0) C.1 C.2.1 dX7_offer_79 (by decide) ?_
            obtain ⟨q_18, hc_18, hG⟩ := ob hG
            try dsimp only at hG
            refine mcVv (As := [.int (Int64.toInt32 ((m_cal u) (Int32.toNatClampNeg (((17 : Int32) * q_16) + (7 : Int32))))), .int (4 : Int32), .int (0 : Int32)]) (rest := []) C hK hw (k_X7_comes l D ad cI cJ u (Int64.toInt32 ((m_cal u) (Int32.toNatClampNeg (((17 : Int32) * q_16) + (7 : Int32))))) (4 : Int32) (0 : Int32) q_18 hc_18) (cwV 3 C.2.2.2.2 gX7_offer_X7_comes rfl rfl rfl (by decide +kernel) ⟨Nat.le_of_ble_eq_true rfl, Nat.le_of_ble_eq_true rfl⟩) (va_recv hK hw.1 (ci := 7) (q0 := 0) rfl rfl) rfl hl.1 rfl (Nat.le_of_ble_eq_true rfl) dX7_offer_80 (fun H locs hw => ?_)
            refine lv_aload_n C.1 C.2.1 dX7_offer_83 rfl (lv_at hl 3 rfl) ?_
            refine lv_iload_n C.1 C.2.1 dX7_offer_84 rfl (lv_at hl 0 rfl) ?_
            obtain ⟨q_19, hc_19, hG⟩ := ob hG
            try dsimp only at hG
            refine mcVv (As := [.int q_16]) (rest := []) C hK hw (k_X7_takeOut l D ad cI cJ q_18 q_16 q_19 hc_19) (cwV 1 C.2.2.2.2 gX7_offer_X7_takeOut rfl rfl rfl (by decide +kernel) ⟨Nat.le_of_ble_eq_true rfl, Nat.le_of_ble_eq_true rfl⟩) (va_recv hK hw.1 (ci := 7) (q0 := 0) rfl rfl) rfl hl.1 rfl (Nat.le_of_ble_eq_true rfl) dX7_offer_85 (fun H locs hw => ?_)
            refine lv_aload_n C.1 C.2.1 dX7_offer_88 rfl (lv_at hl 3 rfl) ?_
            refine lv_dup C.1 C.2.1 dX7_offer_89 rfl ?_
            refine mg_0_12 C hK hw jX7_offer_7 (List.mem_of_getElem? (i := 2) rfl) dX7_offer_90 ?_
            refine lv_iconst (v := 1) C.1 C.2.1 dX7_offer_93 (by decide) ?_
            refine lv_iadd C.1 C.2.1 dX7_offer_94 ?_
            refine mp_0_12 C hK hw jX7_offer_7 (List.mem_of_getElem? (i := 2) rfl) dX7_offer_95 (fun H locs hw => ?_)
            refine lv_iconst (v := 0) C.1 C.2.1 dX7_offer_98 (by decide) ?_
            refine lv_istore_n (lv' := [(3, .int (0 : Int32)), (2, .int q_3), (1, .int q_2), (0, .ref (ad 0))]) C.1 C.2.1 dX7_offer_99 rfl hl (by decide) rfl (fun ls hl => ?_)
            exact kl_X7_offer_100 C hr hlocks hK 1000 q_2 q_3 (0 : Int32) (ms_wts q_19 ((m_wts q_19) + (1 : Int32))) _ _ _ hG hw (lv_sub hl [3, 2, 1, 0] rfl)
          · replace hG := inn h_15 hG
            refine lv_iload_n C.1 C.2.1 dX7_offer_47 rfl (lv_at hl 1 rfl) ?_
            refine lv_goto (tgt := 55) C.1 C.2.1 dX7_offer_48 (by decide) ?_
            refine lv_istore_n (lv' := [(3, .int q_2), (2, .int q_3), (1, .int q_2), (0, .ref (ad 0))]) C.1 C.2.1 dX7_offer_55 rfl hl (by decide) rfl (fun ls hl => ?_)
            refine lv_aload_n C.1 C.2.1 dX7_offer_56 rfl (lv_at hl 3 rfl) ?_
            refine lv_aload_n C.1 C.2.1 dX7_offer_57 rfl (lv_at hl 3 rfl) ?_
            refine mg_0_8 C hK hw jX7_offer_7 (List.mem_of_getElem? (i := 3) rfl) dX7_offer_58 ?_
            refine lv_bipush (v := 17) C.1 C.2.1 dX7_offer_61 (by decide) ?_
            refine lv_iload_n C.1 C.2.1 dX7_offer_63 rfl (lv_at hl 0 rfl) ?_
            refine lv_imul C.1 C.2.1 dX7_offer_64 ?_
            refine lv_bipush (v := 7) C.1 C.2.1 dX7_offer_65 (by decide) ?_
            refine lv_iadd C.1 C.2.1 dX7_offer_67 ?_
            obtain ⟨h_20, hG⟩ := og hG
            refine ml_7 C hK hw h_20 dX7_offer_68 ?_
            refine lv_l2i C.1 C.2.1 dX7_offer_69 rfl ?_
            refine lv_iload_n C.1 C.2.1 dX7_offer_70 rfl (lv_at hl 2 rfl) ?_
            refine lv_if_le (tgt := 78) C.1 C.2.1 dX7_offer_71 (by decide) (fun hz => absurd hz h_15) (fun _ => ?_)
            refine lv_iconst (v := 3) C.1 C.2.1 dX7_offer_74 (by decide) ?_
            refine lv_goto (tgt := 79) C.1 C.2.1 dX7_offer_75 (by decide) ?_
            refine lv_iconst (v := 0) C.1 C.2.1 dX7_offer_79 (by decide) ?_
            obtain ⟨q_21, hc_21, hG⟩ := ob hG
            try dsimp only at hG
            refine mcVv (As := [.int (Int64.toInt32 ((m_cal u) (Int32.toNatClampNeg (((17 : Int32) * q_2) + (7 : Int32))))), .int (3 : Int32), .int (0 : Int32)]) (rest := []) C hK hw (k_X7_comes l D ad cI cJ u (Int64.toInt32 ((m_cal u) (Int32.toNatClampNeg (((17 : Int32) * q_2) + (7 : Int32))))) (3 : Int32) (0 : Int32) q_21 hc_21) (cwV 3 C.2.2.2.2 gX7_offer_X7_comes rfl rfl rfl (by decide +kernel) ⟨Nat.le_of_ble_eq_true rfl, Nat.le_of_ble_eq_true rfl⟩) (va_recv hK hw.1 (ci := 7) (q0 := 0) rfl rfl) rfl hl.1 rfl (Nat.le_of_ble_eq_true rfl) dX7_offer_80 (fun H locs hw => ?_)
            refine lv_aload_n C.1 C.2.1 dX7_offer_83 rfl (lv_at hl 3 rfl) ?_
            refine lv_iload_n C.1 C.2.1 dX7_offer_84 rfl (lv_at hl 0 rfl) ?_
            obtain ⟨q_22, hc_22, hG⟩ := ob hG
            try dsimp only at hG
            refine mcVv (As := [.int q_2]) (rest := []) C hK hw (k_X7_takeOut l D ad cI cJ q_21 q_2 q_22 hc_22) (cwV 1 C.2.2.2.2 gX7_offer_X7_takeOut rfl rfl rfl (by decide +kernel) ⟨Nat.le_of_ble_eq_true rfl, Nat.le_of_ble_eq_true rfl⟩) (va_recv hK hw.1 (ci := 7) (q0 := 0) rfl rfl) rfl hl.1 rfl (Nat.le_of_ble_eq_true rfl) dX7_offer_85 (fun H locs hw => ?_)
            refine lv_aload_n C.1 C.2.1 dX7_offer_88 rfl (lv_at hl 3 rfl) ?_
            refine lv_dup C.1 C.2.1 dX7_offer_89 rfl ?_
            refine mg_0_12 C hK hw jX7_offer_7 (List.mem_of_getElem? (i := 2) rfl) dX7_offer_90 ?_
            refine lv_iconst (v := 1) C.1 C.2.1 dX7_offer_93 (by decide) ?_
            refine lv_iadd C.1 C.2.1 dX7_offer_94 ?_
            refine mp_0_12 C hK hw jX7_offer_7 (List.mem_of_getElem? (i := 2) rfl) dX7_offer_95 (fun H locs hw => ?_)
            refine lv_iconst (v := 0) C.1 C.2.1 dX7_offer_98 (by decide) ?_
            refine lv_istore_n (lv' := [(3, .int (0 : Int32)), (2, .int q_3), (1, .int q_2), (0, .ref (ad 0))]) C.1 C.2.1 dX7_offer_99 rfl hl (by decide) rfl (fun ls hl => ?_)
            exact kl_X7_offer_100 C hr hlocks hK 1000 q_2 q_3 (0 : Int32) (ms_wts q_22 ((m_wts q_22) + (1 : Int32))) _ _ _ hG hw (lv_sub hl [3, 2, 1, 0] rfl)
    · replace hG := inn h_4 hG
      refine lv_bipush (v := -10) C.1 C.2.1 dX7_offer_25 (by decide) ?_
      refine lv_iload_n C.1 C.2.1 dX7_offer_27 rfl (lv_at hl 0 rfl) ?_
      refine lv_isub C.1 C.2.1 dX7_offer_28 ?_
      exact mret_i C hlocks hK hw hr (ret2 hG) dX7_offer_29
  · replace hG := ip h_1 hG
    refine lv_bipush (v := -2) C.1 C.2.1 dX7_offer_7 (by decide) ?_
    exact mret_i C hlocks hK hw hr (ret2 hG) dX7_offer_9
theorem jX7_step_7 : ∀ w ∈ wsX70, w ∈ wsX7_step := by decide +kernel
def f_X7_step (l1 : Int32) (u : MS) : Option (Int32 × MS) := ((f_X7_in (Int32.toInt64 l1) (1 : Int64) (1000 : Int64)).bind fun q_1 => (if q_1 = (0 : Int32) then some ((-1 : Int32), u) else some ((m_stp u), (ms_stp u l1))))
set_option maxHeartbeats 4000000 in
set_option maxRecDepth 100000 in
theorem k_X7_step (l : Launch) (D : va_G) (ad : Nat → Nat) (cI cJ : ClassId) (u : MS) (l1 : Int32) (r1 : Int32) (u1 : MS) (hG : f_X7_step l1 u = some (r1, u1)) : Met l yX7_step wsX7_step ({ frames := 1, cells := 0, slots := 0, locals := 25 } : Room) (va_Pc [.ref (ad 0), .int l1] (MB D ad cI cJ u)) (va_Qi (S := MS) (fun r u2 => r = r1 ∧ u2 = u1) (MB D ad cI cJ) (AM ad)) 0 0 (AM ad) := by
  refine Met.ofW (cc := cX7_step) (maxL := 3) (ret := (some .int)) (by decide) rfl ?_
  intro p e s m args below meth c s₁ B hml hv
  obtain ⟨rfl, hP0, hK, hD0⟩ := hv
  have C : CallFix p m c cX7_step 3 s _ wsX7_step RX7 := ⟨B.exec, B.bytes, hml, findClass_of_methodNamed B.named, atoms_spec (ws := wsX7_step) B.pre⟩
  have hr := B.returns
  have hlocks := B.notSynchronized
  have hw : MW D ad cI cJ s.heap s.heap [] u := ⟨hP0, hD0, va_S.rf⟩
  refine en_W (Nat.le_of_ble_eq_true rfl) (fun ls hl => ?_)
  have hl : lv_has ls 3 [(0, .ref (ad 0)), (1, .int l1)] := hl
  unfold f_X7_step at hG
  refine lv_iload_n C.1 C.2.1 dX7_step_0 rfl (lv_at hl 1 rfl) ?_
  refine lv_i2l C.1 C.2.1 dX7_step_1 rfl ?_
  refine lv_lconst (v := 1) C.1 C.2.1 dX7_step_2 (by decide) ?_
  refine lv_ldc2 (v := 1000) C.1 C.2.1 C.2.2.2.1 (C.2.2.2.2 _ (List.mem_of_getElem? (i := 1) rfl)) dX7_step_3 ?_
  obtain ⟨q_1, hc_1, hG⟩ := ob hG
  try dsimp only at hG
  refine mcSi (As := [.long (Int32.toInt64 l1), .long (1 : Int64), .long (1000 : Int64)]) (rest := []) C hK hw (k_X7_in l D ad cI cJ u (Int32.toInt64 l1) (1 : Int64) (1000 : Int64) q_1 hc_1) (va_cwS 3 C.2.2.2.2 gX7_step_X7_in rfl rfl rfl (by decide +kernel) ⟨Nat.le_of_ble_eq_true rfl, Nat.le_of_ble_eq_true rfl⟩) rfl hl.1 rfl (Nat.le_of_ble_eq_true rfl) dX7_step_6 (fun H locs hw => ?_)
  refine lv_if_ne (tgt := 14) C.1 C.2.1 dX7_step_9 (by decide) (fun (h_2 : ¬ q_1 = (0 : Int32)) => ?_) (fun (h_2 : q_1 = (0 : Int32)) => ?_)
  · replace hG := inn h_2 hG
    refine lv_aload_n C.1 C.2.1 dX7_step_14 rfl (lv_at hl 0 rfl) ?_
    refine mg_0_14 C hK hw jX7_step_7 (List.mem_of_getElem? (i := 2) rfl) dX7_step_15 ?_
    refine lv_istore_n (lv' := [(2, .int (m_stp u)), (0, .ref (ad 0)), (1, .int l1)]) C.1 C.2.1 dX7_step_18 rfl hl (by decide) rfl (fun ls hl => ?_)
    refine lv_aload_n C.1 C.2.1 dX7_step_19 rfl (lv_at hl 1 rfl) ?_
    refine lv_iload_n C.1 C.2.1 dX7_step_20 rfl (lv_at hl 2 rfl) ?_
    refine mp_0_14 C hK hw jX7_step_7 (List.mem_of_getElem? (i := 2) rfl) dX7_step_21 (fun H locs hw => ?_)
    refine lv_iload_n C.1 C.2.1 dX7_step_24 rfl (lv_at hl 0 rfl) ?_
    exact mret_i C hlocks hK hw hr (ret2 hG) dX7_step_25
  · replace hG := ip h_2 hG
    refine lv_iconst (v := -1) C.1 C.2.1 dX7_step_12 (by decide) ?_
    exact mret_i C hlocks hK hw hr (ret2 hG) dX7_step_13
theorem jX7_ends_7 : ∀ w ∈ wsX70, w ∈ wsX7_ends := by decide +kernel
def f_X7_ends_2 : Nat → Int32 → MS → Option MS
  | 0, _, _ => none
  | n + 1, l1, u => (if (m_wts u) < l1 then some u else (if inb (((17 : Int32) * l1) + (4 : Int32)) 442 = true then (if (Int32.toInt64 (m_hgt u)) ≤ ((m_cal u) (Int32.toNatClampNeg (((17 : Int32) * l1) + (4 : Int32)))) then (f_X7_ends_2 n (l1 + (1 : Int32)) u) else (if inb (((17 : Int32) * l1) + (7 : Int32)) 442 = true then ((f_X7_comes (Int64.toInt32 ((m_cal u) (Int32.toNatClampNeg (((17 : Int32) * l1) + (7 : Int32))))) (2 : Int32) (0 : Int32) u).bind fun q_5 => ((f_X7_takeOut l1 q_5).bind fun q_6 => (f_X7_ends_2 n l1 q_6))) else none)) else none))
set_option maxHeartbeats 4000000 in
set_option maxRecDepth 100000 in
theorem kl_X7_ends_2 {p : Program} {l : Launch} {e : Env} {s : State} {m : MethodId} {args : Array Value} {below : List Frame} {meth : Method} {c : Code} {D : va_G} {ad : Nat → Nat} {cI cJ : ClassId} (C : CallFix p m c cX7_ends 2 s args wsX7_ends RX7) (hr : meth.sig.returnType = none) (hlocks : meth.locks = false) (hK : va_K D vwCl (mT cI cJ) s) {u1 : MS} : ∀ (n : Nat) (l1 : Int32) (u : MS) (H : Heap) (locs : List Loc) (ls : Array Slot), f_X7_ends_2 n l1 u = some u1 → MW D ad cI cJ s.heap H locs u → lv_has ls 2 [(0, .ref (ad 0)), (1, .int l1)] → W p l e ({ frames := 1, cells := 0, slots := 0, locals := 24 } : Room) s m args below meth c H locs 0 0 (MQ below (va_Qv (S := MS) (fun u2 => u2 = u1) (MB D ad cI cJ) (AM ad)) args s 0 0 (AM ad)) (F0 m 2 ls []) := by
  intro n
  induction n with
  | zero =>
    intro l1 u H locs ls hG
    exact ns hG
  | succ n ih =>
    intro l1 u H locs ls hG hw hl
    rw [f_X7_ends_2] at hG
    refine lv_iload_n C.1 C.2.1 dX7_ends_2 rfl (lv_at hl 1 rfl) ?_
    refine lv_aload_n C.1 C.2.1 dX7_ends_3 rfl (lv_at hl 0 rfl) ?_
    refine mg_0_12 C hK hw jX7_ends_7 (List.mem_of_getElem? (i := 1) rfl) dX7_ends_4 ?_
    refine lv_icmp_gt (tgt := 63) C.1 C.2.1 dX7_ends_7 (by decide) (fun (h_1 : (m_wts u) < l1) => ?_) (fun (h_1 : ¬ (m_wts u) < l1) => ?_)
    · replace hG := ip h_1 hG
      exact mret_v C hlocks hK hw hr (retv hG) dX7_ends_63
    · replace hG := inn h_1 hG
      refine lv_aload_n C.1 C.2.1 dX7_ends_10 rfl (lv_at hl 0 rfl) ?_
      refine mg_0_8 C hK hw jX7_ends_7 (List.mem_of_getElem? (i := 2) rfl) dX7_ends_11 ?_
      refine lv_bipush (v := 17) C.1 C.2.1 dX7_ends_14 (by decide) ?_
      refine lv_iload_n C.1 C.2.1 dX7_ends_16 rfl (lv_at hl 1 rfl) ?_
      refine lv_imul C.1 C.2.1 dX7_ends_17 ?_
      refine lv_iconst (v := 4) C.1 C.2.1 dX7_ends_18 (by decide) ?_
      refine lv_iadd C.1 C.2.1 dX7_ends_19 ?_
      obtain ⟨h_2, hG⟩ := og hG
      refine ml_7 C hK hw h_2 dX7_ends_20 ?_
      refine lv_aload_n C.1 C.2.1 dX7_ends_21 rfl (lv_at hl 0 rfl) ?_
      refine mg_0_15 C hK hw jX7_ends_7 (List.mem_of_getElem? (i := 3) rfl) dX7_ends_22 ?_
      refine lv_i2l C.1 C.2.1 dX7_ends_25 rfl ?_
      refine W.lcmp C.1 C.2.1 dX7_ends_26 ?_
      refine lv_if_ge (tgt := 57) C.1 C.2.1 dX7_ends_27 (by decide) (fun hz => ?_) (fun hz => ?_)
      · have h_3 : (Int32.toInt64 (m_hgt u)) ≤ ((m_cal u) (Int32.toNatClampNeg (((17 : Int32) * l1) + (4 : Int32)))) := (lg_cmp_ge _ _).mp hz
        replace hG := ip h_3 hG
        refine lv_iinc (v := (l1 + (1 : Int32))) (lv' := [(1, .int (l1 + (1 : Int32))), (0, .ref (ad 0))]) C.1 C.2.1 dX7_ends_57 hl (k := 1) rfl rfl (by decide) rfl (fun ls hl => ?_)
        refine lv_goto (tgt := 2) C.1 C.2.1 dX7_ends_60 (by decide) ?_
        exact ih (l1 + (1 : Int32)) u _ _ _ hG hw (lv_sub hl [1, 0] rfl)
      · have h_3 : ¬ (Int32.toInt64 (m_hgt u)) ≤ ((m_cal u) (Int32.toNatClampNeg (((17 : Int32) * l1) + (4 : Int32)))) := fun qz => hz ((lg_cmp_ge _ _).mpr qz)
        replace hG := inn h_3 hG
        refine lv_aload_n C.1 C.2.1 dX7_ends_30 rfl (lv_at hl 0 rfl) ?_
        refine lv_aload_n C.1 C.2.1 dX7_ends_31 rfl (lv_at hl 0 rfl) ?_
        refine mg_0_8 C hK hw jX7_ends_7 (List.mem_of_getElem? (i := 2) rfl) dX7_ends_32 ?_
        refine lv_bipush (v := 17) C.1 C.2.1 dX7_ends_35 (by decide) ?_
        refine lv_iload_n C.1 C.2.1 dX7_ends_37 rfl (lv_at hl 1 rfl) ?_
        refine lv_imul C.1 C.2.1 dX7_ends_38 ?_
        refine lv_bipush (v := 7) C.1 C.2.1 dX7_ends_39 (by decide) ?_
        refine lv_iadd C.1 C.2.1 dX7_ends_41 ?_
        obtain ⟨h_4, hG⟩ := og hG
        refine ml_7 C hK hw h_4 dX7_ends_42 ?_
        refine lv_l2i C.1 C.2.1 dX7_ends_43 rfl ?_
        refine lv_iconst (v := 2) C.1 C.2.1 dX7_ends_44 (by decide) ?_
        refine lv_iconst (v := 0) C.1 C.2.1 dX7_ends_45 (by decide) ?_
        obtain ⟨q_5, hc_5, hG⟩ := ob hG
        try dsimp only at hG
        refine mcVv (As := [.int (Int64.toInt32 ((m_cal u) (Int32.toNatClampNeg (((17 : Int32) * l1) + (7 : Int32))))), .int (2 : Int32), .int (0 : Int32)]) (rest := []) C hK hw (k_X7_comes l D ad cI cJ u (Int64.toInt32 ((m_cal u) (Int32.toNatClampNeg (((17 : Int32) * l1) + (7 : Int32))))) (2 : Int32) (0 : Int32) q_5 hc_5) (cwV 3 C.2.2.2.2 gX7_ends_X7_comes rfl rfl rfl (by decide +kernel) ⟨Nat.le_of_ble_eq_true rfl, Nat.le_of_ble_eq_true rfl⟩) (va_recv hK hw.1 (ci := 7) (q0 := 0) rfl rfl) rfl hl.1 rfl (Nat.le_of_ble_eq_true rfl) dX7_ends_46 (fun H locs hw => ?_)
        refine lv_aload_n C.1 C.2.1 dX7_ends_49 rfl (lv_at hl 0 rfl) ?_
        refine lv_iload_n C.1 C.2.1 dX7_ends_50 rfl (lv_at hl 1 rfl) ?_
        obtain ⟨q_6, hc_6, hG⟩ := ob hG
        try dsimp only at hG
        refine mcVv (As := [.int l1]) (rest := []) C hK hw (k_X7_takeOut l D ad cI cJ q_5 l1 q_6 hc_6) (cwV 1 C.2.2.2.2 gX7_ends_X7_takeOut rfl rfl rfl (by decide +kernel) ⟨Nat.le_of_ble_eq_true rfl, Nat.le_of_ble_eq_true rfl⟩) (va_recv hK hw.1 (ci := 7) (q0 := 0) rfl rfl) rfl hl.1 rfl (Nat.le_of_ble_eq_true rfl) dX7_ends_51 (fun H locs hw => ?_)
        refine lv_goto (tgt := 2) C.1 C.2.1 dX7_ends_54 (by decide) ?_
        exact ih l1 q_6 _ _ _ hG hw (lv_sub hl [0, 1] rfl)
def f_X7_ends (u : MS) : Option MS := (f_X7_ends_2 1000 (1 : Int32) u)
set_option maxHeartbeats 4000000 in
set_option maxRecDepth 100000 in
theorem k_X7_ends (l : Launch) (D : va_G) (ad : Nat → Nat) (cI cJ : ClassId) (u : MS) (u1 : MS) (hG : f_X7_ends u = some u1) : Met l yX7_ends wsX7_ends ({ frames := 1, cells := 0, slots := 0, locals := 24 } : Room) (va_Pc [.ref (ad 0)] (MB D ad cI cJ u)) (va_Qv (S := MS) (fun u2 => u2 = u1) (MB D ad cI cJ) (AM ad)) 0 0 (AM ad) := by
  refine Met.ofW (cc := cX7_ends) (maxL := 2) (ret := none) (by decide) rfl ?_
  intro p e s m args below meth c s₁ B hml hv
  obtain ⟨rfl, hP0, hK, hD0⟩ := hv
  have C : CallFix p m c cX7_ends 2 s _ wsX7_ends RX7 := ⟨B.exec, B.bytes, hml, findClass_of_methodNamed B.named, atoms_spec (ws := wsX7_ends) B.pre⟩
  have hr := B.returns
  have hlocks := B.notSynchronized
  have hw : MW D ad cI cJ s.heap s.heap [] u := ⟨hP0, hD0, va_S.rf⟩
  refine en_W (Nat.le_of_ble_eq_true rfl) (fun ls hl => ?_)
  have hl : lv_has ls 2 [(0, .ref (ad 0))] := hl
  unfold f_X7_ends at hG
  refine lv_iconst (v := 1) C.1 C.2.1 dX7_ends_0 (by decide) ?_
  refine lv_istore_n (lv' := [(1, .int (1 : Int32)), (0, .ref (ad 0))]) C.1 C.2.1 dX7_ends_1 rfl hl (by decide) rfl (fun ls hl => ?_)
  exact kl_X7_ends_2 C hr hlocks hK 1000 (1 : Int32) u _ _ _ hG hw (lv_sub hl [1, 0] rfl)
theorem jX7_dearest_7 : ∀ w ∈ wsX70, w ∈ wsX7_dearest := by decide +kernel
def f_X7_dearest_4 : Nat → Int32 → Int32 → MS → Option Int32
  | 0, _, _, _ => none
  | n + 1, l1, l2, u => (if (m_wts u) < l2 then some l1 else (if inb (((17 : Int32) * l2) + (1 : Int32)) 442 = true then (if inb (((17 : Int32) * l2) + (0 : Int32)) 442 = true then (if inb (Int64.toInt32 ((m_cal u) (Int32.toNatClampNeg (((17 : Int32) * l2) + (0 : Int32))))) 12 = true then (if ((m_cal u) (Int32.toNatClampNeg (((17 : Int32) * l2) + (1 : Int32)))) = (Int32.toInt64 ((m_nxt u) (Int32.toNatClampNeg (Int64.toInt32 ((m_cal u) (Int32.toNatClampNeg (((17 : Int32) * l2) + (0 : Int32)))))))) then (if inb (((17 : Int32) * l2) + (5 : Int32)) 442 = true then (if (Int32.toInt64 (m_hgt u)) < ((m_cal u) (Int32.toNatClampNeg (((17 : Int32) * l2) + (5 : Int32)))) then (f_X7_dearest_4 n l1 (l2 + (1 : Int32)) u) else (if inb (((17 : Int32) * l2) + (3 : Int32)) 442 = true then (if (Int32.toInt64 (m_rom u)) < ((m_cal u) (Int32.toNatClampNeg (((17 : Int32) * l2) + (3 : Int32)))) then (f_X7_dearest_4 n l1 (l2 + (1 : Int32)) u) else (if l1 = (0 : Int32) then (f_X7_dearest_4 n l2 (l2 + (1 : Int32)) u) else (if inb (((17 : Int32) * l2) + (2 : Int32)) 442 = true then (if inb (((17 : Int32) * l1) + (2 : Int32)) 442 = true then (if ((m_cal u) (Int32.toNatClampNeg (((17 : Int32) * l2) + (2 : Int32)))) ≤ ((m_cal u) (Int32.toNatClampNeg (((17 : Int32) * l1) + (2 : Int32)))) then (f_X7_dearest_4 n l1 (l2 + (1 : Int32)) u) else (f_X7_dearest_4 n l2 (l2 + (1 : Int32)) u)) else none) else none))) else none)) else none) else (f_X7_dearest_4 n l1 (l2 + (1 : Int32)) u)) else none) else none) else none))
set_option maxHeartbeats 4000000 in
set_option maxRecDepth 100000 in
theorem kl_X7_dearest_4 {p : Program} {l : Launch} {e : Env} {s : State} {m : MethodId} {args : Array Value} {below : List Frame} {meth : Method} {c : Code} {D : va_G} {ad : Nat → Nat} {cI cJ : ClassId} (C : CallFix p m c cX7_dearest 5 s args wsX7_dearest RX7) (hr : meth.sig.returnType = (some .int)) (hlocks : meth.locks = false) (hK : va_K D vwCl (mT cI cJ) s) {r1 : Int32} : ∀ (n : Nat) (l1 : Int32) (l2 : Int32) (u : MS) (H : Heap) (locs : List Loc) (ls : Array Slot), f_X7_dearest_4 n l1 l2 u = some r1 → MW D ad cI cJ s.heap H locs u → lv_has ls 5 [(0, .ref (ad 0)), (1, .int l1), (2, .int l2)] → W p l e ({ frames := 0, cells := 0, slots := 0, locals := 0 } : Room) s m args below meth c H locs 0 0 (MQ below (va_Qi (S := MS) (fun r u2 => r = r1 ∧ u2 = u) (MB D ad cI cJ) (AM ad)) args s 0 0 (AM ad)) (F0 m 4 ls []) := by
  intro n
  induction n with
  | zero =>
    intro l1 l2 u H locs ls hG
    exact ns hG
  | succ n ih =>
    intro l1 l2 u H locs ls hG hw hl
    rw [f_X7_dearest_4] at hG
    refine lv_iload_n C.1 C.2.1 dX7_dearest_4 rfl (lv_at hl 2 rfl) ?_
    refine lv_aload_n C.1 C.2.1 dX7_dearest_5 rfl (lv_at hl 0 rfl) ?_
    refine mg_0_12 C hK hw jX7_dearest_7 (List.mem_of_getElem? (i := 1) rfl) dX7_dearest_6 ?_
    refine lv_icmp_gt (tgt := 129) C.1 C.2.1 dX7_dearest_9 (by decide) (fun (h_1 : (m_wts u) < l2) => ?_) (fun (h_1 : ¬ (m_wts u) < l2) => ?_)
    · replace hG := ip h_1 hG
      refine lv_iload_n C.1 C.2.1 dX7_dearest_129 rfl (lv_at hl 1 rfl) ?_
      exact mret_i C hlocks hK hw hr (ret1 hG) dX7_dearest_130
    · replace hG := inn h_1 hG
      refine lv_bipush (v := 17) C.1 C.2.1 dX7_dearest_12 (by decide) ?_
      refine lv_iload_n C.1 C.2.1 dX7_dearest_14 rfl (lv_at hl 2 rfl) ?_
      refine lv_imul C.1 C.2.1 dX7_dearest_15 ?_
      refine lv_istore_n (lv' := [(3, .int ((17 : Int32) * l2)), (0, .ref (ad 0)), (1, .int l1), (2, .int l2)]) C.1 C.2.1 dX7_dearest_16 rfl hl (by decide) rfl (fun ls hl => ?_)
      refine lv_aload_n C.1 C.2.1 dX7_dearest_17 rfl (lv_at hl 1 rfl) ?_
      refine mg_0_8 C hK hw jX7_dearest_7 (List.mem_of_getElem? (i := 2) rfl) dX7_dearest_18 ?_
      refine lv_iload_n C.1 C.2.1 dX7_dearest_21 rfl (lv_at hl 0 rfl) ?_
      refine lv_iconst (v := 1) C.1 C.2.1 dX7_dearest_22 (by decide) ?_
      refine lv_iadd C.1 C.2.1 dX7_dearest_23 ?_
      obtain ⟨h_2, hG⟩ := og hG
      refine ml_7 C hK hw h_2 dX7_dearest_24 ?_
      refine lv_aload_n C.1 C.2.1 dX7_dearest_25 rfl (lv_at hl 1 rfl) ?_
      refine mg_0_2 C hK hw jX7_dearest_7 (List.mem_of_getElem? (i := 3) rfl) dX7_dearest_26 ?_
      refine lv_aload_n C.1 C.2.1 dX7_dearest_29 rfl (lv_at hl 1 rfl) ?_
      refine mg_0_8 C hK hw jX7_dearest_7 (List.mem_of_getElem? (i := 2) rfl) dX7_dearest_30 ?_
      refine lv_iload_n C.1 C.2.1 dX7_dearest_33 rfl (lv_at hl 0 rfl) ?_
      refine lv_iconst (v := 0) C.1 C.2.1 dX7_dearest_34 (by decide) ?_
      refine lv_iadd C.1 C.2.1 dX7_dearest_35 ?_
      obtain ⟨h_3, hG⟩ := og hG
      refine ml_7 C hK hw h_3 dX7_dearest_36 ?_
      refine lv_l2i C.1 C.2.1 dX7_dearest_37 rfl ?_
      obtain ⟨h_4, hG⟩ := og hG
      refine ml_2 C hK hw h_4 dX7_dearest_38 ?_
      refine lv_i2l C.1 C.2.1 dX7_dearest_39 rfl ?_
      refine W.lcmp C.1 C.2.1 dX7_dearest_40 ?_
      refine lv_if_ne (tgt := 82) C.1 C.2.1 dX7_dearest_41 (by decide) (fun hz => ?_) (fun hz => ?_)
      · have h_5 : ¬ ((m_cal u) (Int32.toNatClampNeg (((17 : Int32) * l2) + (1 : Int32)))) = (Int32.toInt64 ((m_nxt u) (Int32.toNatClampNeg (Int64.toInt32 ((m_cal u) (Int32.toNatClampNeg (((17 : Int32) * l2) + (0 : Int32)))))))) := fun qz => hz ((lg_cmp_eq _ _).mpr qz)
        replace hG := inn h_5 hG
        refine lv_iconst (v := 0) C.1 C.2.1 dX7_dearest_82 (by decide) ?_
        refine lv_istore (lv' := [(4, .int (0 : Int32)), (3, .int ((17 : Int32) * l2)), (0, .ref (ad 0)), (1, .int l1), (2, .int l2)]) C.1 C.2.1 dX7_dearest_83 hl (by decide) rfl (fun ls hl => ?_)
        refine lv_iload C.1 C.2.1 dX7_dearest_85 (lv_at hl 0 rfl) ?_
        refine lv_if_eq (tgt := 121) C.1 C.2.1 dX7_dearest_87 (by decide) (fun _ => ?_) (fun hz => absurd hz (by decide))
        refine lv_iload_n C.1 C.2.1 dX7_dearest_121 rfl (lv_at hl 3 rfl) ?_
        refine lv_istore_n (lv' := [(1, .int l1), (4, .int (0 : Int32)), (3, .int ((17 : Int32) * l2)), (0, .ref (ad 0)), (2, .int l2)]) C.1 C.2.1 dX7_dearest_122 rfl hl (by decide) rfl (fun ls hl => ?_)
        refine lv_iinc (v := (l2 + (1 : Int32))) (lv' := [(2, .int (l2 + (1 : Int32))), (1, .int l1), (4, .int (0 : Int32)), (3, .int ((17 : Int32) * l2)), (0, .ref (ad 0))]) C.1 C.2.1 dX7_dearest_123 hl (k := 4) rfl rfl (by decide) rfl (fun ls hl => ?_)
        refine lv_goto (tgt := 4) C.1 C.2.1 dX7_dearest_126 (by decide) ?_
        exact ih l1 (l2 + (1 : Int32)) u _ _ _ hG hw (lv_sub hl [4, 1, 0] rfl)
      · have h_5 : ((m_cal u) (Int32.toNatClampNeg (((17 : Int32) * l2) + (1 : Int32)))) = (Int32.toInt64 ((m_nxt u) (Int32.toNatClampNeg (Int64.toInt32 ((m_cal u) (Int32.toNatClampNeg (((17 : Int32) * l2) + (0 : Int32)))))))) := (lg_cmp_eq _ _).mp hz
        replace hG := ip h_5 hG
        refine lv_aload_n C.1 C.2.1 dX7_dearest_44 rfl (lv_at hl 1 rfl) ?_
        refine mg_0_8 C hK hw jX7_dearest_7 (List.mem_of_getElem? (i := 2) rfl) dX7_dearest_45 ?_
        refine lv_iload_n C.1 C.2.1 dX7_dearest_48 rfl (lv_at hl 0 rfl) ?_
        refine lv_iconst (v := 5) C.1 C.2.1 dX7_dearest_49 (by decide) ?_
        refine lv_iadd C.1 C.2.1 dX7_dearest_50 ?_
        obtain ⟨h_6, hG⟩ := og hG
        refine ml_7 C hK hw h_6 dX7_dearest_51 ?_
        refine lv_aload_n C.1 C.2.1 dX7_dearest_52 rfl (lv_at hl 1 rfl) ?_
        refine mg_0_15 C hK hw jX7_dearest_7 (List.mem_of_getElem? (i := 4) rfl) dX7_dearest_53 ?_
        refine lv_i2l C.1 C.2.1 dX7_dearest_56 rfl ?_
        refine W.lcmp C.1 C.2.1 dX7_dearest_57 ?_
        refine lv_if_gt (tgt := 82) C.1 C.2.1 dX7_dearest_58 (by decide) (fun hz => ?_) (fun hz => ?_)
        · have h_7 : (Int32.toInt64 (m_hgt u)) < ((m_cal u) (Int32.toNatClampNeg (((17 : Int32) * l2) + (5 : Int32)))) := (lg_cmp_gt _ _).mp hz
          replace hG := ip h_7 hG
          refine lv_iconst (v := 0) C.1 C.2.1 dX7_dearest_82 (by decide) ?_
          refine lv_istore (lv' := [(4, .int (0 : Int32)), (3, .int ((17 : Int32) * l2)), (0, .ref (ad 0)), (1, .int l1), (2, .int l2)]) C.1 C.2.1 dX7_dearest_83 hl (by decide) rfl (fun ls hl => ?_)
          refine lv_iload C.1 C.2.1 dX7_dearest_85 (lv_at hl 0 rfl) ?_
          refine lv_if_eq (tgt := 121) C.1 C.2.1 dX7_dearest_87 (by decide) (fun _ => ?_) (fun hz => absurd hz (by decide))
          refine lv_iload_n C.1 C.2.1 dX7_dearest_121 rfl (lv_at hl 3 rfl) ?_
          refine lv_istore_n (lv' := [(1, .int l1), (4, .int (0 : Int32)), (3, .int ((17 : Int32) * l2)), (0, .ref (ad 0)), (2, .int l2)]) C.1 C.2.1 dX7_dearest_122 rfl hl (by decide) rfl (fun ls hl => ?_)
          refine lv_iinc (v := (l2 + (1 : Int32))) (lv' := [(2, .int (l2 + (1 : Int32))), (1, .int l1), (4, .int (0 : Int32)), (3, .int ((17 : Int32) * l2)), (0, .ref (ad 0))]) C.1 C.2.1 dX7_dearest_123 hl (k := 4) rfl rfl (by decide) rfl (fun ls hl => ?_)
          refine lv_goto (tgt := 4) C.1 C.2.1 dX7_dearest_126 (by decide) ?_
          exact ih l1 (l2 + (1 : Int32)) u _ _ _ hG hw (lv_sub hl [4, 1, 0] rfl)
        · have h_7 : ¬ (Int32.toInt64 (m_hgt u)) < ((m_cal u) (Int32.toNatClampNeg (((17 : Int32) * l2) + (5 : Int32)))) := fun qz => hz ((lg_cmp_gt _ _).mpr qz)
          replace hG := inn h_7 hG
          refine lv_aload_n C.1 C.2.1 dX7_dearest_61 rfl (lv_at hl 1 rfl) ?_
          refine mg_0_8 C hK hw jX7_dearest_7 (List.mem_of_getElem? (i := 2) rfl) dX7_dearest_62 ?_
          refine lv_iload_n C.1 C.2.1 dX7_dearest_65 rfl (lv_at hl 0 rfl) ?_
          refine lv_iconst (v := 3) C.1 C.2.1 dX7_dearest_66 (by decide) ?_
          refine lv_iadd C.1 C.2.1 dX7_dearest_67 ?_
          obtain ⟨h_8, hG⟩ := og hG
          refine ml_7 C hK hw h_8 dX7_dearest_68 ?_
          refine lv_aload_n C.1 C.2.1 dX7_dearest_69 rfl (lv_at hl 1 rfl) ?_
          refine mg_0_19 C hK hw jX7_dearest_7 (List.mem_of_getElem? (i := 5) rfl) dX7_dearest_70 ?_
          refine lv_i2l C.1 C.2.1 dX7_dearest_73 rfl ?_
          refine W.lcmp C.1 C.2.1 dX7_dearest_74 ?_
          refine lv_if_gt (tgt := 82) C.1 C.2.1 dX7_dearest_75 (by decide) (fun hz => ?_) (fun hz => ?_)
          · have h_9 : (Int32.toInt64 (m_rom u)) < ((m_cal u) (Int32.toNatClampNeg (((17 : Int32) * l2) + (3 : Int32)))) := (lg_cmp_gt _ _).mp hz
            replace hG := ip h_9 hG
            refine lv_iconst (v := 0) C.1 C.2.1 dX7_dearest_82 (by decide) ?_
            refine lv_istore (lv' := [(4, .int (0 : Int32)), (3, .int ((17 : Int32) * l2)), (0, .ref (ad 0)), (1, .int l1), (2, .int l2)]) C.1 C.2.1 dX7_dearest_83 hl (by decide) rfl (fun ls hl => ?_)
            refine lv_iload C.1 C.2.1 dX7_dearest_85 (lv_at hl 0 rfl) ?_
            refine lv_if_eq (tgt := 121) C.1 C.2.1 dX7_dearest_87 (by decide) (fun _ => ?_) (fun hz => absurd hz (by decide))
            refine lv_iload_n C.1 C.2.1 dX7_dearest_121 rfl (lv_at hl 3 rfl) ?_
            refine lv_istore_n (lv' := [(1, .int l1), (4, .int (0 : Int32)), (3, .int ((17 : Int32) * l2)), (0, .ref (ad 0)), (2, .int l2)]) C.1 C.2.1 dX7_dearest_122 rfl hl (by decide) rfl (fun ls hl => ?_)
            refine lv_iinc (v := (l2 + (1 : Int32))) (lv' := [(2, .int (l2 + (1 : Int32))), (1, .int l1), (4, .int (0 : Int32)), (3, .int ((17 : Int32) * l2)), (0, .ref (ad 0))]) C.1 C.2.1 dX7_dearest_123 hl (k := 4) rfl rfl (by decide) rfl (fun ls hl => ?_)
            refine lv_goto (tgt := 4) C.1 C.2.1 dX7_dearest_126 (by decide) ?_
            exact ih l1 (l2 + (1 : Int32)) u _ _ _ hG hw (lv_sub hl [4, 1, 0] rfl)
          · have h_9 : ¬ (Int32.toInt64 (m_rom u)) < ((m_cal u) (Int32.toNatClampNeg (((17 : Int32) * l2) + (3 : Int32)))) := fun qz => hz ((lg_cmp_gt _ _).mpr qz)
            replace hG := inn h_9 hG
            refine lv_iconst (v := 1) C.1 C.2.1 dX7_dearest_78 (by decide) ?_
            refine lv_goto (tgt := 83) C.1 C.2.1 dX7_dearest_79 (by decide) ?_
            refine lv_istore (lv' := [(4, .int (1 : Int32)), (3, .int ((17 : Int32) * l2)), (0, .ref (ad 0)), (1, .int l1), (2, .int l2)]) C.1 C.2.1 dX7_dearest_83 hl (by decide) rfl (fun ls hl => ?_)
            refine lv_iload C.1 C.2.1 dX7_dearest_85 (lv_at hl 0 rfl) ?_
            refine lv_if_eq (tgt := 121) C.1 C.2.1 dX7_dearest_87 (by decide) (fun hz => absurd hz (by decide)) (fun _ => ?_)
            refine lv_iload_n C.1 C.2.1 dX7_dearest_90 rfl (lv_at hl 3 rfl) ?_
            refine lv_if_eq (tgt := 117) C.1 C.2.1 dX7_dearest_91 (by decide) (fun (h_10 : l1 = (0 : Int32)) => ?_) (fun (h_10 : ¬ l1 = (0 : Int32)) => ?_)
            · replace hG := ip h_10 hG
              refine lv_iload_n C.1 C.2.1 dX7_dearest_117 rfl (lv_at hl 4 rfl) ?_
              refine lv_goto (tgt := 122) C.1 C.2.1 dX7_dearest_118 (by decide) ?_
              refine lv_istore_n (lv' := [(1, .int l2), (4, .int (1 : Int32)), (3, .int ((17 : Int32) * l2)), (0, .ref (ad 0)), (2, .int l2)]) C.1 C.2.1 dX7_dearest_122 rfl hl (by decide) rfl (fun ls hl => ?_)
              refine lv_iinc (v := (l2 + (1 : Int32))) (lv' := [(2, .int (l2 + (1 : Int32))), (1, .int l2), (4, .int (1 : Int32)), (3, .int ((17 : Int32) * l2)), (0, .ref (ad 0))]) C.1 C.2.1 dX7_dearest_123 hl (k := 4) rfl rfl (by decide) rfl (fun ls hl => ?_)
              refine lv_goto (tgt := 4) C.1 C.2.1 dX7_dearest_126 (by decide) ?_
              exact ih l2 (l2 + (1 : Int32)) u _ _ _ hG hw (lv_sub hl [4, 1, 0] rfl)
            · replace hG := inn h_10 hG
              refine lv_aload_n C.1 C.2.1 dX7_dearest_94 rfl (lv_at hl 2 rfl) ?_
              refine mg_0_8 C hK hw jX7_dearest_7 (List.mem_of_getElem? (i := 2) rfl) dX7_dearest_95 ?_
              refine lv_iload_n C.1 C.2.1 dX7_dearest_98 rfl (lv_at hl 1 rfl) ?_
              refine lv_iconst (v := 2) C.1 C.2.1 dX7_dearest_99 (by decide) ?_
              refine lv_iadd C.1 C.2.1 dX7_dearest_100 ?_
              obtain ⟨h_11, hG⟩ := og hG
              refine ml_7 C hK hw h_11 dX7_dearest_101 ?_
              refine lv_aload_n C.1 C.2.1 dX7_dearest_102 rfl (lv_at hl 2 rfl) ?_
              refine mg_0_8 C hK hw jX7_dearest_7 (List.mem_of_getElem? (i := 2) rfl) dX7_dearest_103 ?_
              refine lv_bipush (v := 17) C.1 C.2.1 dX7_dearest_106 (by decide) ?_
              refine lv_iload_n C.1 C.2.1 dX7_dearest_108 rfl (lv_at hl 3 rfl) ?_
              refine lv_imul C.1 C.2.1 dX7_dearest_109 ?_
              refine lv_iconst (v := 2) C.1 C.2.1 dX7_dearest_110 (by decide) ?_
              refine lv_iadd C.1 C.2.1 dX7_dearest_111 ?_
              obtain ⟨h_12, hG⟩ := og hG
              refine ml_7 C hK hw h_12 dX7_dearest_112 ?_
              refine W.lcmp C.1 C.2.1 dX7_dearest_113 ?_
              refine lv_if_le (tgt := 121) C.1 C.2.1 dX7_dearest_114 (by decide) (fun hz => ?_) (fun hz => ?_)
              · have h_13 : ((m_cal u) (Int32.toNatClampNeg (((17 : Int32) * l2) + (2 : Int32)))) ≤ ((m_cal u) (Int32.toNatClampNeg (((17 : Int32) * l1) + (2 : Int32)))) := (lg_cmp_le _ _).mp hz
                replace hG := ip h_13 hG
                refine lv_iload_n C.1 C.2.1 dX7_dearest_121 rfl (lv_at hl 3 rfl) ?_
                refine lv_istore_n (lv' := [(1, .int l1), (4, .int (1 : Int32)), (3, .int ((17 : Int32) * l2)), (0, .ref (ad 0)), (2, .int l2)]) C.1 C.2.1 dX7_dearest_122 rfl hl (by decide) rfl (fun ls hl => ?_)
                refine lv_iinc (v := (l2 + (1 : Int32))) (lv' := [(2, .int (l2 + (1 : Int32))), (1, .int l1), (4, .int (1 : Int32)), (3, .int ((17 : Int32) * l2)), (0, .ref (ad 0))]) C.1 C.2.1 dX7_dearest_123 hl (k := 4) rfl rfl (by decide) rfl (fun ls hl => ?_)
                refine lv_goto (tgt := 4) C.1 C.2.1 dX7_dearest_126 (by decide) ?_
                exact ih l1 (l2 + (1 : Int32)) u _ _ _ hG hw (lv_sub hl [4, 1, 0] rfl)
              · have h_13 : ¬ ((m_cal u) (Int32.toNatClampNeg (((17 : Int32) * l2) + (2 : Int32)))) ≤ ((m_cal u) (Int32.toNatClampNeg (((17 : Int32) * l1) + (2 : Int32)))) := fun qz => hz ((lg_cmp_le _ _).mpr qz)
                replace hG := inn h_13 hG
                refine lv_iload_n C.1 C.2.1 dX7_dearest_117 rfl (lv_at hl 4 rfl) ?_
                refine lv_goto (tgt := 122) C.1 C.2.1 dX7_dearest_118 (by decide) ?_
                refine lv_istore_n (lv' := [(1, .int l2), (4, .int (1 : Int32)), (3, .int ((17 : Int32) * l2)), (0, .ref (ad 0)), (2, .int l2)]) C.1 C.2.1 dX7_dearest_122 rfl hl (by decide) rfl (fun ls hl => ?_)
                refine lv_iinc (v := (l2 + (1 : Int32))) (lv' := [(2, .int (l2 + (1 : Int32))), (1, .int l2), (4, .int (1 : Int32)), (3, .int ((17 : Int32) * l2)), (0, .ref (ad 0))]) C.1 C.2.1 dX7_dearest_123 hl (k := 4) rfl rfl (by decide) rfl (fun ls hl => ?_)
                refine lv_goto (tgt := 4) C.1 C.2.1 dX7_dearest_126 (by decide) ?_
                exact ih l2 (l2 + (1 : Int32)) u _ _ _ hG hw (lv_sub hl [4, 1, 0] rfl)
def f_X7_dearest (u : MS) : Option Int32 := (f_X7_dearest_4 1000 (0 : Int32) (1 : Int32) u)
set_option maxHeartbeats 4000000 in
set_option maxRecDepth 100000 in
theorem k_X7_dearest (l : Launch) (D : va_G) (ad : Nat → Nat) (cI cJ : ClassId) (u : MS) (r1 : Int32) (hG : f_X7_dearest u = some r1) : Met l yX7_dearest wsX7_dearest ({ frames := 0, cells := 0, slots := 0, locals := 0 } : Room) (va_Pc [.ref (ad 0)] (MB D ad cI cJ u)) (va_Qi (S := MS) (fun r u2 => r = r1 ∧ u2 = u) (MB D ad cI cJ) (AM ad)) 0 0 (AM ad) := by
  refine Met.ofW (cc := cX7_dearest) (maxL := 5) (ret := (some .int)) (by decide) rfl ?_
  intro p e s m args below meth c s₁ B hml hv
  obtain ⟨rfl, hP0, hK, hD0⟩ := hv
  have C : CallFix p m c cX7_dearest 5 s _ wsX7_dearest RX7 := ⟨B.exec, B.bytes, hml, findClass_of_methodNamed B.named, atoms_spec (ws := wsX7_dearest) B.pre⟩
  have hr := B.returns
  have hlocks := B.notSynchronized
  have hw : MW D ad cI cJ s.heap s.heap [] u := ⟨hP0, hD0, va_S.rf⟩
  refine en_W (Nat.le_of_ble_eq_true rfl) (fun ls hl => ?_)
  have hl : lv_has ls 5 [(0, .ref (ad 0))] := hl
  unfold f_X7_dearest at hG
  refine lv_iconst (v := 0) C.1 C.2.1 dX7_dearest_0 (by decide) ?_
  refine lv_istore_n (lv' := [(1, .int (0 : Int32)), (0, .ref (ad 0))]) C.1 C.2.1 dX7_dearest_1 rfl hl (by decide) rfl (fun ls hl => ?_)
  refine lv_iconst (v := 1) C.1 C.2.1 dX7_dearest_2 (by decide) ?_
  refine lv_istore_n (lv' := [(2, .int (1 : Int32)), (1, .int (0 : Int32)), (0, .ref (ad 0))]) C.1 C.2.1 dX7_dearest_3 rfl hl (by decide) rfl (fun ls hl => ?_)
  exact kl_X7_dearest_4 C hr hlocks hK 1000 (0 : Int32) (1 : Int32) u _ _ _ hG hw (lv_sub hl [2, 1, 0] rfl)
theorem jX7_does_7 : ∀ w ∈ wsX70, w ∈ wsX7_does := by decide +kernel
def f_X7_does_298 : Nat → Int32 → Int32 → Int32 → Int32 → Int32 → Int64 → Int64 → Int32 → Int32 → Int32 → MS → Option (Int32 × MS)
  | 0, _, _, _, _, _, _, _, _, _, _, _ => none
  | n + 1, l1, l2, l3, l4, l5, l6, l8, l10, l11, l12, u => (if (12 : Int32) ≤ l12 then (if inb l4 12 = true then (if inb l4 12 = true then (if l11 = (0 : Int32) then ((f_X7_comes l5 (0 : Int32) l10 (ms_pai (ms_rom (ms_fun u (vp_updL (m_fun u) (Int32.toNatClampNeg l4) (((m_fun u) (Int32.toNatClampNeg l4)) + (l8 - (l6 * (Int32.toInt64 l10)))))) ((m_rom u) - l10)) ((m_pai u) + (l6 * (Int32.toInt64 l10))))).bind fun q_35 => ((f_X7_takeOut l1 q_35).bind fun q_36 => (if l11 = (0 : Int32) then some ((1 : Int32), q_36) else some ((0 : Int32), q_36)))) else ((f_X7_comes l5 (1 : Int32) l10 (ms_pai (ms_rom (ms_fun u (vp_updL (m_fun u) (Int32.toNatClampNeg l4) (((m_fun u) (Int32.toNatClampNeg l4)) + (l8 - (l6 * (Int32.toInt64 l10)))))) ((m_rom u) - l10)) ((m_pai u) + (l6 * (Int32.toInt64 l10))))).bind fun q_38 => ((f_X7_takeOut l1 q_38).bind fun q_39 => (if l11 = (0 : Int32) then some ((1 : Int32), q_39) else some ((0 : Int32), q_39))))) else none) else none) else (if l11 = (0 : Int32) then (if inb l4 12 = true then (if inb l4 12 = true then ((f_X7_comes l5 (0 : Int32) l10 (ms_pai (ms_rom (ms_fun u (vp_updL (m_fun u) (Int32.toNatClampNeg l4) (((m_fun u) (Int32.toNatClampNeg l4)) + (l8 - (l6 * (Int32.toInt64 l10)))))) ((m_rom u) - l10)) ((m_pai u) + (l6 * (Int32.toInt64 l10))))).bind fun q_44 => ((f_X7_takeOut l1 q_44).bind fun q_45 => (if l11 = (0 : Int32) then some ((1 : Int32), q_45) else some ((0 : Int32), q_45)))) else none) else none) else (if inb l12 12 = true then (if inb l12 12 = true then (f_X7_does_298 n l1 l2 l3 l4 l5 l6 l8 l10 l11 (l12 + (1 : Int32)) (ms_fun u (vp_updL (m_fun u) (Int32.toNatClampNeg l12) ((m_bef u) (Int32.toNatClampNeg l12))))) else none) else none)))
set_option maxHeartbeats 4000000 in
set_option maxRecDepth 100000 in
theorem kl_X7_does_298 {p : Program} {l : Launch} {e : Env} {s : State} {m : MethodId} {args : Array Value} {below : List Frame} {meth : Method} {c : Code} {D : va_G} {ad : Nat → Nat} {cI cJ : ClassId} (C : CallFix p m c cX7_does 16 s args wsX7_does RX7) (hr : meth.sig.returnType = (some .boolean)) (hlocks : meth.locks = false) (hK : va_K D vwCl (mT cI cJ) s) {r1 : Int32} {u1 : MS} : ∀ (n : Nat) (l1 : Int32) (l2 : Int32) (l3 : Int32) (l4 : Int32) (l5 : Int32) (l6 : Int64) (l8 : Int64) (l10 : Int32) (l11 : Int32) (l12 : Int32) (u : MS) (H : Heap) (locs : List Loc) (ls : Array Slot), f_X7_does_298 n l1 l2 l3 l4 l5 l6 l8 l10 l11 l12 u = some (r1, u1) → MW D ad cI cJ s.heap H locs u → lv_has ls 16 [(0, .ref (ad 0)), (1, .int l1), (2, .int l2), (3, .int l3), (4, .int l4), (5, .int l5), (6, .long l6), (8, .long l8), (10, .int l10), (11, .int l11), (12, .int l12)] → W p l e ({ frames := 1, cells := 0, slots := 0, locals := 24 } : Room) s m args below meth c H locs 0 0 (MQ below (va_Qi (S := MS) (fun r u2 => r = r1 ∧ u2 = u1) (MB D ad cI cJ) (AM ad)) args s 0 0 (AM ad)) (F0 m 298 ls []) := by
  intro n
  induction n with
  | zero =>
    intro l1 l2 l3 l4 l5 l6 l8 l10 l11 l12 u H locs ls hG
    exact ns hG
  | succ n ih =>
    intro l1 l2 l3 l4 l5 l6 l8 l10 l11 l12 u H locs ls hG hw hl
    rw [f_X7_does_298] at hG
    refine lv_iload C.1 C.2.1 dX7_does_298 (lv_at hl 10 rfl) ?_
    refine lv_bipush (v := 12) C.1 C.2.1 dX7_does_300 (by decide) ?_
    refine lv_icmp_ge (tgt := 330) C.1 C.2.1 dX7_does_302 (by decide) (fun (h_31 : (12 : Int32) ≤ l12) => ?_) (fun (h_31 : ¬ (12 : Int32) ≤ l12) => ?_)
    · replace hG := ip h_31 hG
      refine lv_aload_n C.1 C.2.1 dX7_does_330 rfl (lv_at hl 0 rfl) ?_
      refine mg_0_1 C hK hw jX7_does_7 (List.mem_of_getElem? (i := 2) rfl) dX7_does_331 ?_
      refine lv_iload C.1 C.2.1 dX7_does_334 (lv_at hl 4 rfl) ?_
      refine lv_dup2_11 C.1 C.2.1 dX7_does_336 rfl rfl ?_
      obtain ⟨h_32, hG⟩ := og hG
      refine ml_1 C hK hw h_32 dX7_does_337 ?_
      refine lv_lload C.1 C.2.1 dX7_does_338 (lv_at hl 7 rfl) ?_
      refine lv_lload C.1 C.2.1 dX7_does_340 (lv_at hl 6 rfl) ?_
      refine lv_iload C.1 C.2.1 dX7_does_342 (lv_at hl 8 rfl) ?_
      refine lv_i2l C.1 C.2.1 dX7_does_344 rfl ?_
      refine lv_lmul C.1 C.2.1 dX7_does_345 ?_
      refine lv_lsub C.1 C.2.1 dX7_does_346 ?_
      refine lv_ladd C.1 C.2.1 dX7_does_347 ?_
      obtain ⟨h_33, hG⟩ := og hG
      refine mt_1 C hK hw h_33 dX7_does_348 (fun H locs hw => ?_)
      refine lv_aload_n C.1 C.2.1 dX7_does_349 rfl (lv_at hl 0 rfl) ?_
      refine lv_dup C.1 C.2.1 dX7_does_350 rfl ?_
      refine mg_0_19 C hK hw jX7_does_7 (List.mem_of_getElem? (i := 5) rfl) dX7_does_351 ?_
      refine lv_iload C.1 C.2.1 dX7_does_354 (lv_at hl 8 rfl) ?_
      refine lv_isub C.1 C.2.1 dX7_does_356 ?_
      refine mp_0_19 C hK hw jX7_does_7 (List.mem_of_getElem? (i := 5) rfl) dX7_does_357 (fun H locs hw => ?_)
      refine lv_aload_n C.1 C.2.1 dX7_does_360 rfl (lv_at hl 0 rfl) ?_
      refine lv_dup C.1 C.2.1 dX7_does_361 rfl ?_
      refine mg_0_16 C hK hw jX7_does_7 (List.mem_of_getElem? (i := 6) rfl) dX7_does_362 ?_
      refine lv_lload C.1 C.2.1 dX7_does_365 (lv_at hl 6 rfl) ?_
      refine lv_iload C.1 C.2.1 dX7_does_367 (lv_at hl 8 rfl) ?_
      refine lv_i2l C.1 C.2.1 dX7_does_369 rfl ?_
      refine lv_lmul C.1 C.2.1 dX7_does_370 ?_
      refine lv_ladd C.1 C.2.1 dX7_does_371 ?_
      refine mp_0_16 C hK hw jX7_does_7 (List.mem_of_getElem? (i := 6) rfl) dX7_does_372 (fun H locs hw => ?_)
      refine lv_aload_n C.1 C.2.1 dX7_does_375 rfl (lv_at hl 0 rfl) ?_
      refine lv_iload C.1 C.2.1 dX7_does_376 (lv_at hl 5 rfl) ?_
      refine lv_iload C.1 C.2.1 dX7_does_378 (lv_at hl 9 rfl) ?_
      refine lv_if_eq (tgt := 387) C.1 C.2.1 dX7_does_380 (by decide) (fun (h_34 : l11 = (0 : Int32)) => ?_) (fun (h_34 : ¬ l11 = (0 : Int32)) => ?_)
      · replace hG := ip h_34 hG
        refine lv_iconst (v := 0) C.1 C.2.1 dX7_does_387 (by decide) ?_
        refine lv_iload C.1 C.2.1 dX7_does_388 (lv_at hl 8 rfl) ?_
        obtain ⟨q_35, hc_35, hG⟩ := ob hG
        try dsimp only at hG
        refine mcVv (As := [.int l5, .int (0 : Int32), .int l10]) (rest := []) C hK hw (k_X7_comes l D ad cI cJ (ms_pai (ms_rom (ms_fun u (vp_updL (m_fun u) (Int32.toNatClampNeg l4) (((m_fun u) (Int32.toNatClampNeg l4)) + (l8 - (l6 * (Int32.toInt64 l10)))))) ((m_rom u) - l10)) ((m_pai u) + (l6 * (Int32.toInt64 l10)))) l5 (0 : Int32) l10 q_35 hc_35) (cwV 3 C.2.2.2.2 gX7_does_X7_comes rfl rfl rfl (by decide +kernel) ⟨Nat.le_of_ble_eq_true rfl, Nat.le_of_ble_eq_true rfl⟩) (va_recv hK hw.1 (ci := 7) (q0 := 0) rfl rfl) rfl hl.1 rfl (Nat.le_of_ble_eq_true rfl) dX7_does_390 (fun H locs hw => ?_)
        refine lv_aload_n C.1 C.2.1 dX7_does_393 rfl (lv_at hl 0 rfl) ?_
        refine lv_iload_n C.1 C.2.1 dX7_does_394 rfl (lv_at hl 1 rfl) ?_
        obtain ⟨q_36, hc_36, hG⟩ := ob hG
        try dsimp only at hG
        refine mcVv (As := [.int l1]) (rest := []) C hK hw (k_X7_takeOut l D ad cI cJ q_35 l1 q_36 hc_36) (cwV 1 C.2.2.2.2 gX7_does_X7_takeOut rfl rfl rfl (by decide +kernel) ⟨Nat.le_of_ble_eq_true rfl, Nat.le_of_ble_eq_true rfl⟩) (va_recv hK hw.1 (ci := 7) (q0 := 0) rfl rfl) rfl hl.1 rfl (Nat.le_of_ble_eq_true rfl) dX7_does_395 (fun H locs hw => ?_)
        refine lv_iload C.1 C.2.1 dX7_does_398 (lv_at hl 9 rfl) ?_
        refine lv_if_ne (tgt := 407) C.1 C.2.1 dX7_does_400 (by decide) (fun (h_37 : ¬ l11 = (0 : Int32)) => ?_) (fun (h_37 : l11 = (0 : Int32)) => ?_)
        · replace hG := inn h_37 hG
          refine lv_iconst (v := 0) C.1 C.2.1 dX7_does_407 (by decide) ?_
          exact mret_z C hlocks hK hw hr rfl (ret2 hG) dX7_does_408
        · replace hG := ip h_37 hG
          refine lv_iconst (v := 1) C.1 C.2.1 dX7_does_403 (by decide) ?_
          refine lv_goto (tgt := 408) C.1 C.2.1 dX7_does_404 (by decide) ?_
          exact mret_z C hlocks hK hw hr rfl (ret2 hG) dX7_does_408
      · replace hG := inn h_34 hG
        refine lv_iconst (v := 1) C.1 C.2.1 dX7_does_383 (by decide) ?_
        refine lv_goto (tgt := 388) C.1 C.2.1 dX7_does_384 (by decide) ?_
        refine lv_iload C.1 C.2.1 dX7_does_388 (lv_at hl 8 rfl) ?_
        obtain ⟨q_38, hc_38, hG⟩ := ob hG
        try dsimp only at hG
        refine mcVv (As := [.int l5, .int (1 : Int32), .int l10]) (rest := []) C hK hw (k_X7_comes l D ad cI cJ (ms_pai (ms_rom (ms_fun u (vp_updL (m_fun u) (Int32.toNatClampNeg l4) (((m_fun u) (Int32.toNatClampNeg l4)) + (l8 - (l6 * (Int32.toInt64 l10)))))) ((m_rom u) - l10)) ((m_pai u) + (l6 * (Int32.toInt64 l10)))) l5 (1 : Int32) l10 q_38 hc_38) (cwV 3 C.2.2.2.2 gX7_does_X7_comes rfl rfl rfl (by decide +kernel) ⟨Nat.le_of_ble_eq_true rfl, Nat.le_of_ble_eq_true rfl⟩) (va_recv hK hw.1 (ci := 7) (q0 := 0) rfl rfl) rfl hl.1 rfl (Nat.le_of_ble_eq_true rfl) dX7_does_390 (fun H locs hw => ?_)
        refine lv_aload_n C.1 C.2.1 dX7_does_393 rfl (lv_at hl 0 rfl) ?_
        refine lv_iload_n C.1 C.2.1 dX7_does_394 rfl (lv_at hl 1 rfl) ?_
        obtain ⟨q_39, hc_39, hG⟩ := ob hG
        try dsimp only at hG
        refine mcVv (As := [.int l1]) (rest := []) C hK hw (k_X7_takeOut l D ad cI cJ q_38 l1 q_39 hc_39) (cwV 1 C.2.2.2.2 gX7_does_X7_takeOut rfl rfl rfl (by decide +kernel) ⟨Nat.le_of_ble_eq_true rfl, Nat.le_of_ble_eq_true rfl⟩) (va_recv hK hw.1 (ci := 7) (q0 := 0) rfl rfl) rfl hl.1 rfl (Nat.le_of_ble_eq_true rfl) dX7_does_395 (fun H locs hw => ?_)
        refine lv_iload C.1 C.2.1 dX7_does_398 (lv_at hl 9 rfl) ?_
        refine lv_if_ne (tgt := 407) C.1 C.2.1 dX7_does_400 (by decide) (fun (h_40 : ¬ l11 = (0 : Int32)) => ?_) (fun (h_40 : l11 = (0 : Int32)) => ?_)
        · replace hG := inn h_40 hG
          refine lv_iconst (v := 0) C.1 C.2.1 dX7_does_407 (by decide) ?_
          exact mret_z C hlocks hK hw hr rfl (ret2 hG) dX7_does_408
        · replace hG := ip h_40 hG
          refine lv_iconst (v := 1) C.1 C.2.1 dX7_does_403 (by decide) ?_
          refine lv_goto (tgt := 408) C.1 C.2.1 dX7_does_404 (by decide) ?_
          exact mret_z C hlocks hK hw hr rfl (ret2 hG) dX7_does_408
    · replace hG := inn h_31 hG
      refine lv_iload C.1 C.2.1 dX7_does_305 (lv_at hl 9 rfl) ?_
      refine lv_if_eq (tgt := 330) C.1 C.2.1 dX7_does_307 (by decide) (fun (h_41 : l11 = (0 : Int32)) => ?_) (fun (h_41 : ¬ l11 = (0 : Int32)) => ?_)
      · replace hG := ip h_41 hG
        refine lv_aload_n C.1 C.2.1 dX7_does_330 rfl (lv_at hl 0 rfl) ?_
        refine mg_0_1 C hK hw jX7_does_7 (List.mem_of_getElem? (i := 2) rfl) dX7_does_331 ?_
        refine lv_iload C.1 C.2.1 dX7_does_334 (lv_at hl 4 rfl) ?_
        refine lv_dup2_11 C.1 C.2.1 dX7_does_336 rfl rfl ?_
        obtain ⟨h_42, hG⟩ := og hG
        refine ml_1 C hK hw h_42 dX7_does_337 ?_
        refine lv_lload C.1 C.2.1 dX7_does_338 (lv_at hl 7 rfl) ?_
        refine lv_lload C.1 C.2.1 dX7_does_340 (lv_at hl 6 rfl) ?_
        refine lv_iload C.1 C.2.1 dX7_does_342 (lv_at hl 8 rfl) ?_
        refine lv_i2l C.1 C.2.1 dX7_does_344 rfl ?_
        refine lv_lmul C.1 C.2.1 dX7_does_345 ?_
        refine lv_lsub C.1 C.2.1 dX7_does_346 ?_
        refine lv_ladd C.1 C.2.1 dX7_does_347 ?_
        obtain ⟨h_43, hG⟩ := og hG
        refine mt_1 C hK hw h_43 dX7_does_348 (fun H locs hw => ?_)
        refine lv_aload_n C.1 C.2.1 dX7_does_349 rfl (lv_at hl 0 rfl) ?_
        refine lv_dup C.1 C.2.1 dX7_does_350 rfl ?_
        refine mg_0_19 C hK hw jX7_does_7 (List.mem_of_getElem? (i := 5) rfl) dX7_does_351 ?_
        refine lv_iload C.1 C.2.1 dX7_does_354 (lv_at hl 8 rfl) ?_
        refine lv_isub C.1 C.2.1 dX7_does_356 ?_
        refine mp_0_19 C hK hw jX7_does_7 (List.mem_of_getElem? (i := 5) rfl) dX7_does_357 (fun H locs hw => ?_)
        refine lv_aload_n C.1 C.2.1 dX7_does_360 rfl (lv_at hl 0 rfl) ?_
        refine lv_dup C.1 C.2.1 dX7_does_361 rfl ?_
        refine mg_0_16 C hK hw jX7_does_7 (List.mem_of_getElem? (i := 6) rfl) dX7_does_362 ?_
        refine lv_lload C.1 C.2.1 dX7_does_365 (lv_at hl 6 rfl) ?_
        refine lv_iload C.1 C.2.1 dX7_does_367 (lv_at hl 8 rfl) ?_
        refine lv_i2l C.1 C.2.1 dX7_does_369 rfl ?_
        refine lv_lmul C.1 C.2.1 dX7_does_370 ?_
        refine lv_ladd C.1 C.2.1 dX7_does_371 ?_
        refine mp_0_16 C hK hw jX7_does_7 (List.mem_of_getElem? (i := 6) rfl) dX7_does_372 (fun H locs hw => ?_)
        refine lv_aload_n C.1 C.2.1 dX7_does_375 rfl (lv_at hl 0 rfl) ?_
        refine lv_iload C.1 C.2.1 dX7_does_376 (lv_at hl 5 rfl) ?_
        refine lv_iload C.1 C.2.1 dX7_does_378 (lv_at hl 9 rfl) ?_
        refine lv_if_eq (tgt := 387) C.1 C.2.1 dX7_does_380 (by decide) (fun _ => ?_) (fun hz => absurd h_41 hz)
        refine lv_iconst (v := 0) C.1 C.2.1 dX7_does_387 (by decide) ?_
        refine lv_iload C.1 C.2.1 dX7_does_388 (lv_at hl 8 rfl) ?_
        obtain ⟨q_44, hc_44, hG⟩ := ob hG
        try dsimp only at hG
        refine mcVv (As := [.int l5, .int (0 : Int32), .int l10]) (rest := []) C hK hw (k_X7_comes l D ad cI cJ (ms_pai (ms_rom (ms_fun u (vp_updL (m_fun u) (Int32.toNatClampNeg l4) (((m_fun u) (Int32.toNatClampNeg l4)) + (l8 - (l6 * (Int32.toInt64 l10)))))) ((m_rom u) - l10)) ((m_pai u) + (l6 * (Int32.toInt64 l10)))) l5 (0 : Int32) l10 q_44 hc_44) (cwV 3 C.2.2.2.2 gX7_does_X7_comes rfl rfl rfl (by decide +kernel) ⟨Nat.le_of_ble_eq_true rfl, Nat.le_of_ble_eq_true rfl⟩) (va_recv hK hw.1 (ci := 7) (q0 := 0) rfl rfl) rfl hl.1 rfl (Nat.le_of_ble_eq_true rfl) dX7_does_390 (fun H locs hw => ?_)
        refine lv_aload_n C.1 C.2.1 dX7_does_393 rfl (lv_at hl 0 rfl) ?_
        refine lv_iload_n C.1 C.2.1 dX7_does_394 rfl (lv_at hl 1 rfl) ?_
        obtain ⟨q_45, hc_45, hG⟩ := ob hG
        try dsimp only at hG
        refine mcVv (As := [.int l1]) (rest := []) C hK hw (k_X7_takeOut l D ad cI cJ q_44 l1 q_45 hc_45) (cwV 1 C.2.2.2.2 gX7_does_X7_takeOut rfl rfl rfl (by decide +kernel) ⟨Nat.le_of_ble_eq_true rfl, Nat.le_of_ble_eq_true rfl⟩) (va_recv hK hw.1 (ci := 7) (q0 := 0) rfl rfl) rfl hl.1 rfl (Nat.le_of_ble_eq_true rfl) dX7_does_395 (fun H locs hw => ?_)
        refine lv_iload C.1 C.2.1 dX7_does_398 (lv_at hl 9 rfl) ?_
        refine lv_if_ne (tgt := 407) C.1 C.2.1 dX7_does_400 (by decide) (fun (h_46 : ¬ l11 = (0 : Int32)) => ?_) (fun (h_46 : l11 = (0 : Int32)) => ?_)
        · replace hG := inn h_46 hG
          refine lv_iconst (v := 0) C.1 C.2.1 dX7_does_407 (by decide) ?_
          exact mret_z C hlocks hK hw hr rfl (ret2 hG) dX7_does_408
        · replace hG := ip h_46 hG
          refine lv_iconst (v := 1) C.1 C.2.1 dX7_does_403 (by decide) ?_
          refine lv_goto (tgt := 408) C.1 C.2.1 dX7_does_404 (by decide) ?_
          exact mret_z C hlocks hK hw hr rfl (ret2 hG) dX7_does_408
      · replace hG := inn h_41 hG
        refine lv_aload_n C.1 C.2.1 dX7_does_310 rfl (lv_at hl 0 rfl) ?_
        refine mg_0_1 C hK hw jX7_does_7 (List.mem_of_getElem? (i := 2) rfl) dX7_does_311 ?_
        refine lv_iload C.1 C.2.1 dX7_does_314 (lv_at hl 10 rfl) ?_
        refine lv_aload_n C.1 C.2.1 dX7_does_316 rfl (lv_at hl 0 rfl) ?_
        refine mg_0_20 C hK hw jX7_does_7 (List.mem_of_getElem? (i := 4) rfl) dX7_does_317 ?_
        refine lv_iload C.1 C.2.1 dX7_does_320 (lv_at hl 10 rfl) ?_
        obtain ⟨h_47, hG⟩ := og hG
        refine ml_10 C hK hw h_47 dX7_does_322 ?_
        obtain ⟨h_48, hG⟩ := og hG
        refine mt_1 C hK hw h_48 dX7_does_323 (fun H locs hw => ?_)
        refine lv_iinc (v := (l12 + (1 : Int32))) (lv' := [(12, .int (l12 + (1 : Int32))), (0, .ref (ad 0)), (1, .int l1), (2, .int l2), (3, .int l3), (4, .int l4), (5, .int l5), (6, .long l6), (8, .long l8), (10, .int l10), (11, .int l11)]) C.1 C.2.1 dX7_does_324 hl (k := 10) rfl rfl (by decide) rfl (fun ls hl => ?_)
        refine lv_goto (tgt := 298) C.1 C.2.1 dX7_does_327 (by decide) ?_
        exact ih l1 l2 l3 l4 l5 l6 l8 l10 l11 (l12 + (1 : Int32)) (ms_fun u (vp_updL (m_fun u) (Int32.toNatClampNeg l12) ((m_bef u) (Int32.toNatClampNeg l12)))) _ _ _ hG hw (lv_sub hl [1, 2, 3, 4, 5, 6, 7, 8, 9, 10, 0] rfl)
def f_X7_does_155 : Nat → Int32 → Int32 → Int32 → Int32 → Int32 → Int64 → Int64 → Int32 → Int32 → Int32 → MS → Option (Int32 × MS)
  | 0, _, _, _, _, _, _, _, _, _, _, _ => none
  | n + 1, l1, l2, l3, l4, l5, l6, l8, l10, l11, l12, u => (if inb (l2 + (8 : Int32)) 442 = true then (if ((m_cal u) (Int32.toNatClampNeg (l2 + (8 : Int32)))) ≤ (Int32.toInt64 l12) then (f_X7_does_298 1000 l1 l2 l3 l4 l5 l6 l8 l10 l11 (0 : Int32) u) else (if l11 = (0 : Int32) then (if inb ((l2 + (9 : Int32)) + ((2 : Int32) * l12)) 442 = true then (if inb ((l2 + (10 : Int32)) + ((2 : Int32) * l12)) 442 = true then (if inb (l2 + (3 : Int32)) 442 = true then (if (Int32.toInt64 (l10 + (10 : Int32))) ≤ ((m_cal u) (Int32.toNatClampNeg (l2 + (3 : Int32)))) then (if inb l3 12 = true then (if ((m_cal u) (Int32.toNatClampNeg ((l2 + (10 : Int32)) + ((2 : Int32) * l12)))) ≤ ((m_fun u) (Int32.toNatClampNeg l3)) then (if inb l3 12 = true then (if inb l3 12 = true then (if inb (Int64.toInt32 ((m_cal u) (Int32.toNatClampNeg ((l2 + (9 : Int32)) + ((2 : Int32) * l12))))) 12 = true then (if inb (Int64.toInt32 ((m_cal u) (Int32.toNatClampNeg ((l2 + (9 : Int32)) + ((2 : Int32) * l12))))) 12 = true then (f_X7_does_155 n l1 l2 l3 l4 l5 l6 l8 (l10 + (10 : Int32)) (0 : Int32) (l12 + (1 : Int32)) (ms_fun u (vp_updL (vp_updL (m_fun u) (Int32.toNatClampNeg l3) (((m_fun u) (Int32.toNatClampNeg l3)) - ((m_cal u) (Int32.toNatClampNeg ((l2 + (10 : Int32)) + ((2 : Int32) * l12)))))) (Int32.toNatClampNeg (Int64.toInt32 ((m_cal u) (Int32.toNatClampNeg ((l2 + (9 : Int32)) + ((2 : Int32) * l12)))))) (((vp_updL (m_fun u) (Int32.toNatClampNeg l3) (((m_fun u) (Int32.toNatClampNeg l3)) - ((m_cal u) (Int32.toNatClampNeg ((l2 + (10 : Int32)) + ((2 : Int32) * l12)))))) (Int32.toNatClampNeg (Int64.toInt32 ((m_cal u) (Int32.toNatClampNeg ((l2 + (9 : Int32)) + ((2 : Int32) * l12))))))) + ((m_cal u) (Int32.toNatClampNeg ((l2 + (10 : Int32)) + ((2 : Int32) * l12)))))))) else none) else none) else none) else none) else (f_X7_does_155 n l1 l2 l3 l4 l5 l6 l8 (l10 + (10 : Int32)) (1 : Int32) (l12 + (1 : Int32)) u)) else none) else (f_X7_does_155 n l1 l2 l3 l4 l5 l6 l8 l10 (1 : Int32) (l12 + (1 : Int32)) u)) else none) else none) else none) else (f_X7_does_298 1000 l1 l2 l3 l4 l5 l6 l8 l10 l11 (0 : Int32) u))) else none)
set_option maxHeartbeats 4000000 in
set_option maxRecDepth 100000 in
theorem kl_X7_does_155 {p : Program} {l : Launch} {e : Env} {s : State} {m : MethodId} {args : Array Value} {below : List Frame} {meth : Method} {c : Code} {D : va_G} {ad : Nat → Nat} {cI cJ : ClassId} (C : CallFix p m c cX7_does 16 s args wsX7_does RX7) (hr : meth.sig.returnType = (some .boolean)) (hlocks : meth.locks = false) (hK : va_K D vwCl (mT cI cJ) s) {r1 : Int32} {u1 : MS} : ∀ (n : Nat) (l1 : Int32) (l2 : Int32) (l3 : Int32) (l4 : Int32) (l5 : Int32) (l6 : Int64) (l8 : Int64) (l10 : Int32) (l11 : Int32) (l12 : Int32) (u : MS) (H : Heap) (locs : List Loc) (ls : Array Slot), f_X7_does_155 n l1 l2 l3 l4 l5 l6 l8 l10 l11 l12 u = some (r1, u1) → MW D ad cI cJ s.heap H locs u → lv_has ls 16 [(0, .ref (ad 0)), (1, .int l1), (2, .int l2), (3, .int l3), (4, .int l4), (5, .int l5), (6, .long l6), (8, .long l8), (10, .int l10), (11, .int l11), (12, .int l12)] → W p l e ({ frames := 1, cells := 0, slots := 0, locals := 24 } : Room) s m args below meth c H locs 0 0 (MQ below (va_Qi (S := MS) (fun r u2 => r = r1 ∧ u2 = u1) (MB D ad cI cJ) (AM ad)) args s 0 0 (AM ad)) (F0 m 155 ls []) := by
  intro n
  induction n with
  | zero =>
    intro l1 l2 l3 l4 l5 l6 l8 l10 l11 l12 u H locs ls hG
    exact ns hG
  | succ n ih =>
    intro l1 l2 l3 l4 l5 l6 l8 l10 l11 l12 u H locs ls hG hw hl
    rw [f_X7_does_155] at hG
    refine lv_iload C.1 C.2.1 dX7_does_155 (lv_at hl 10 rfl) ?_
    refine lv_i2l C.1 C.2.1 dX7_does_157 rfl ?_
    refine lv_aload_n C.1 C.2.1 dX7_does_158 rfl (lv_at hl 0 rfl) ?_
    refine mg_0_8 C hK hw jX7_does_7 (List.mem_of_getElem? (i := 1) rfl) dX7_does_159 ?_
    refine lv_iload_n C.1 C.2.1 dX7_does_162 rfl (lv_at hl 2 rfl) ?_
    refine lv_bipush (v := 8) C.1 C.2.1 dX7_does_163 (by decide) ?_
    refine lv_iadd C.1 C.2.1 dX7_does_165 ?_
    obtain ⟨h_18, hG⟩ := og hG
    refine ml_7 C hK hw h_18 dX7_does_166 ?_
    refine W.lcmp C.1 C.2.1 dX7_does_167 ?_
    refine lv_if_ge (tgt := 295) C.1 C.2.1 dX7_does_168 (by decide) (fun hz => ?_) (fun hz => ?_)
    · have h_19 : ((m_cal u) (Int32.toNatClampNeg (l2 + (8 : Int32)))) ≤ (Int32.toInt64 l12) := (lg_cmp_ge _ _).mp hz
      replace hG := ip h_19 hG
      refine lv_iconst (v := 0) C.1 C.2.1 dX7_does_295 (by decide) ?_
      refine lv_istore (lv' := [(12, .int (0 : Int32)), (0, .ref (ad 0)), (1, .int l1), (2, .int l2), (3, .int l3), (4, .int l4), (5, .int l5), (6, .long l6), (8, .long l8), (10, .int l10), (11, .int l11)]) C.1 C.2.1 dX7_does_296 hl (by decide) rfl (fun ls hl => ?_)
      exact kl_X7_does_298 C hr hlocks hK 1000 l1 l2 l3 l4 l5 l6 l8 l10 l11 (0 : Int32) u _ _ _ hG hw (lv_sub hl [1, 2, 3, 4, 5, 6, 7, 8, 9, 10, 0] rfl)
    · have h_19 : ¬ ((m_cal u) (Int32.toNatClampNeg (l2 + (8 : Int32)))) ≤ (Int32.toInt64 l12) := fun qz => hz ((lg_cmp_ge _ _).mpr qz)
      replace hG := inn h_19 hG
      refine lv_iload C.1 C.2.1 dX7_does_171 (lv_at hl 9 rfl) ?_
      refine lv_if_ne (tgt := 295) C.1 C.2.1 dX7_does_173 (by decide) (fun (h_20 : ¬ l11 = (0 : Int32)) => ?_) (fun (h_20 : l11 = (0 : Int32)) => ?_)
      · replace hG := inn h_20 hG
        refine lv_iconst (v := 0) C.1 C.2.1 dX7_does_295 (by decide) ?_
        refine lv_istore (lv' := [(12, .int (0 : Int32)), (0, .ref (ad 0)), (1, .int l1), (2, .int l2), (3, .int l3), (4, .int l4), (5, .int l5), (6, .long l6), (8, .long l8), (10, .int l10), (11, .int l11)]) C.1 C.2.1 dX7_does_296 hl (by decide) rfl (fun ls hl => ?_)
        exact kl_X7_does_298 C hr hlocks hK 1000 l1 l2 l3 l4 l5 l6 l8 l10 l11 (0 : Int32) u _ _ _ hG hw (lv_sub hl [1, 2, 3, 4, 5, 6, 7, 8, 9, 10, 0] rfl)
      · replace hG := ip h_20 hG
        refine lv_aload_n C.1 C.2.1 dX7_does_176 rfl (lv_at hl 0 rfl) ?_
        refine mg_0_8 C hK hw jX7_does_7 (List.mem_of_getElem? (i := 1) rfl) dX7_does_177 ?_
        refine lv_iload_n C.1 C.2.1 dX7_does_180 rfl (lv_at hl 2 rfl) ?_
        refine lv_bipush (v := 9) C.1 C.2.1 dX7_does_181 (by decide) ?_
        refine lv_iadd C.1 C.2.1 dX7_does_183 ?_
        refine lv_iconst (v := 2) C.1 C.2.1 dX7_does_184 (by decide) ?_
        refine lv_iload C.1 C.2.1 dX7_does_185 (lv_at hl 10 rfl) ?_
        refine lv_imul C.1 C.2.1 dX7_does_187 ?_
        refine lv_iadd C.1 C.2.1 dX7_does_188 ?_
        obtain ⟨h_21, hG⟩ := og hG
        refine ml_7 C hK hw h_21 dX7_does_189 ?_
        refine lv_l2i C.1 C.2.1 dX7_does_190 rfl ?_
        refine lv_istore (lv' := [(13, .int (Int64.toInt32 ((m_cal u) (Int32.toNatClampNeg ((l2 + (9 : Int32)) + ((2 : Int32) * l12)))))), (0, .ref (ad 0)), (1, .int l1), (2, .int l2), (3, .int l3), (4, .int l4), (5, .int l5), (6, .long l6), (8, .long l8), (10, .int l10), (11, .int l11), (12, .int l12)]) C.1 C.2.1 dX7_does_191 hl (by decide) rfl (fun ls hl => ?_)
        refine lv_aload_n C.1 C.2.1 dX7_does_193 rfl (lv_at hl 1 rfl) ?_
        refine mg_0_8 C hK hw jX7_does_7 (List.mem_of_getElem? (i := 1) rfl) dX7_does_194 ?_
        refine lv_iload_n C.1 C.2.1 dX7_does_197 rfl (lv_at hl 3 rfl) ?_
        refine lv_bipush (v := 10) C.1 C.2.1 dX7_does_198 (by decide) ?_
        refine lv_iadd C.1 C.2.1 dX7_does_200 ?_
        refine lv_iconst (v := 2) C.1 C.2.1 dX7_does_201 (by decide) ?_
        refine lv_iload C.1 C.2.1 dX7_does_202 (lv_at hl 11 rfl) ?_
        refine lv_imul C.1 C.2.1 dX7_does_204 ?_
        refine lv_iadd C.1 C.2.1 dX7_does_205 ?_
        obtain ⟨h_22, hG⟩ := og hG
        refine ml_7 C hK hw h_22 dX7_does_206 ?_
        refine lv_lstore (lv' := [(14, .long ((m_cal u) (Int32.toNatClampNeg ((l2 + (10 : Int32)) + ((2 : Int32) * l12))))), (13, .int (Int64.toInt32 ((m_cal u) (Int32.toNatClampNeg ((l2 + (9 : Int32)) + ((2 : Int32) * l12)))))), (0, .ref (ad 0)), (1, .int l1), (2, .int l2), (3, .int l3), (4, .int l4), (5, .int l5), (6, .long l6), (8, .long l8), (10, .int l10), (11, .int l11), (12, .int l12)]) C.1 C.2.1 dX7_does_207 hl (by decide) rfl (fun ls hl => ?_)
        refine lv_iload C.1 C.2.1 dX7_does_209 (lv_at hl 10 rfl) ?_
        refine lv_bipush (v := 10) C.1 C.2.1 dX7_does_211 (by decide) ?_
        refine lv_iadd C.1 C.2.1 dX7_does_213 ?_
        refine lv_i2l C.1 C.2.1 dX7_does_214 rfl ?_
        refine lv_aload_n C.1 C.2.1 dX7_does_215 rfl (lv_at hl 2 rfl) ?_
        refine mg_0_8 C hK hw jX7_does_7 (List.mem_of_getElem? (i := 1) rfl) dX7_does_216 ?_
        refine lv_iload_n C.1 C.2.1 dX7_does_219 rfl (lv_at hl 4 rfl) ?_
        refine lv_iconst (v := 3) C.1 C.2.1 dX7_does_220 (by decide) ?_
        refine lv_iadd C.1 C.2.1 dX7_does_221 ?_
        obtain ⟨h_23, hG⟩ := og hG
        refine ml_7 C hK hw h_23 dX7_does_222 ?_
        refine W.lcmp C.1 C.2.1 dX7_does_223 ?_
        refine lv_if_le (tgt := 231) C.1 C.2.1 dX7_does_224 (by decide) (fun hz => ?_) (fun hz => ?_)
        · have h_24 : (Int32.toInt64 (l10 + (10 : Int32))) ≤ ((m_cal u) (Int32.toNatClampNeg (l2 + (3 : Int32)))) := (lg_cmp_le _ _).mp hz
          replace hG := ip h_24 hG
          refine lv_iconst (v := 0) C.1 C.2.1 dX7_does_231 (by decide) ?_
          refine lv_istore (lv' := [(11, .int (0 : Int32)), (14, .long ((m_cal u) (Int32.toNatClampNeg ((l2 + (10 : Int32)) + ((2 : Int32) * l12))))), (13, .int (Int64.toInt32 ((m_cal u) (Int32.toNatClampNeg ((l2 + (9 : Int32)) + ((2 : Int32) * l12)))))), (0, .ref (ad 0)), (1, .int l1), (2, .int l2), (3, .int l3), (4, .int l4), (5, .int l5), (6, .long l6), (8, .long l8), (10, .int l10), (12, .int l12)]) C.1 C.2.1 dX7_does_232 hl (by decide) rfl (fun ls hl => ?_)
          refine lv_iload C.1 C.2.1 dX7_does_234 (lv_at hl 0 rfl) ?_
          refine lv_if_ne (tgt := 261) C.1 C.2.1 dX7_does_236 (by decide) (fun hz => absurd hz (by decide)) (fun _ => ?_)
          refine lv_iinc (v := (l10 + (10 : Int32))) (lv' := [(10, .int (l10 + (10 : Int32))), (11, .int (0 : Int32)), (14, .long ((m_cal u) (Int32.toNatClampNeg ((l2 + (10 : Int32)) + ((2 : Int32) * l12))))), (13, .int (Int64.toInt32 ((m_cal u) (Int32.toNatClampNeg ((l2 + (9 : Int32)) + ((2 : Int32) * l12)))))), (0, .ref (ad 0)), (1, .int l1), (2, .int l2), (3, .int l3), (4, .int l4), (5, .int l5), (6, .long l6), (8, .long l8), (12, .int l12)]) C.1 C.2.1 dX7_does_239 hl (k := 11) rfl rfl (by decide) rfl (fun ls hl => ?_)
          refine lv_aload_n C.1 C.2.1 dX7_does_242 rfl (lv_at hl 4 rfl) ?_
          refine mg_0_1 C hK hw jX7_does_7 (List.mem_of_getElem? (i := 2) rfl) dX7_does_243 ?_
          refine lv_iload_n C.1 C.2.1 dX7_does_246 rfl (lv_at hl 7 rfl) ?_
          obtain ⟨h_25, hG⟩ := og hG
          refine ml_1 C hK hw h_25 dX7_does_247 ?_
          refine lv_lload C.1 C.2.1 dX7_does_248 (lv_at hl 2 rfl) ?_
          refine W.lcmp C.1 C.2.1 dX7_does_250 ?_
          refine lv_if_ge (tgt := 258) C.1 C.2.1 dX7_does_251 (by decide) (fun hz => ?_) (fun hz => ?_)
          · have h_26 : ((m_cal u) (Int32.toNatClampNeg ((l2 + (10 : Int32)) + ((2 : Int32) * l12)))) ≤ ((m_fun u) (Int32.toNatClampNeg l3)) := (lg_cmp_ge _ _).mp hz
            replace hG := ip h_26 hG
            refine lv_iconst (v := 0) C.1 C.2.1 dX7_does_258 (by decide) ?_
            refine lv_istore (lv' := [(11, .int (0 : Int32)), (10, .int (l10 + (10 : Int32))), (14, .long ((m_cal u) (Int32.toNatClampNeg ((l2 + (10 : Int32)) + ((2 : Int32) * l12))))), (13, .int (Int64.toInt32 ((m_cal u) (Int32.toNatClampNeg ((l2 + (9 : Int32)) + ((2 : Int32) * l12)))))), (0, .ref (ad 0)), (1, .int l1), (2, .int l2), (3, .int l3), (4, .int l4), (5, .int l5), (6, .long l6), (8, .long l8), (12, .int l12)]) C.1 C.2.1 dX7_does_259 hl (by decide) rfl (fun ls hl => ?_)
            refine lv_iload C.1 C.2.1 dX7_does_261 (lv_at hl 0 rfl) ?_
            refine lv_if_ne (tgt := 289) C.1 C.2.1 dX7_does_263 (by decide) (fun hz => absurd hz (by decide)) (fun _ => ?_)
            refine lv_aload_n C.1 C.2.1 dX7_does_266 rfl (lv_at hl 4 rfl) ?_
            refine mg_0_1 C hK hw jX7_does_7 (List.mem_of_getElem? (i := 2) rfl) dX7_does_267 ?_
            refine lv_iload_n C.1 C.2.1 dX7_does_270 rfl (lv_at hl 7 rfl) ?_
            refine lv_dup2_11 C.1 C.2.1 dX7_does_271 rfl rfl ?_
            obtain ⟨h_27, hG⟩ := og hG
            refine ml_1 C hK hw h_27 dX7_does_272 ?_
            refine lv_lload C.1 C.2.1 dX7_does_273 (lv_at hl 2 rfl) ?_
            refine lv_lsub C.1 C.2.1 dX7_does_275 ?_
            obtain ⟨h_28, hG⟩ := og hG
            refine mt_1 C hK hw h_28 dX7_does_276 (fun H locs hw => ?_)
            refine lv_aload_n C.1 C.2.1 dX7_does_277 rfl (lv_at hl 4 rfl) ?_
            refine mg_0_1 C hK hw jX7_does_7 (List.mem_of_getElem? (i := 2) rfl) dX7_does_278 ?_
            refine lv_iload C.1 C.2.1 dX7_does_281 (lv_at hl 3 rfl) ?_
            refine lv_dup2_11 C.1 C.2.1 dX7_does_283 rfl rfl ?_
            obtain ⟨h_29, hG⟩ := og hG
            refine ml_1 C hK hw h_29 dX7_does_284 ?_
            refine lv_lload C.1 C.2.1 dX7_does_285 (lv_at hl 2 rfl) ?_
            refine lv_ladd C.1 C.2.1 dX7_does_287 ?_
            obtain ⟨h_30, hG⟩ := og hG
            refine mt_1 C hK hw h_30 dX7_does_288 (fun H locs hw => ?_)
            refine lv_iinc (v := (l12 + (1 : Int32))) (lv' := [(12, .int (l12 + (1 : Int32))), (11, .int (0 : Int32)), (10, .int (l10 + (10 : Int32))), (14, .long ((m_cal u) (Int32.toNatClampNeg ((l2 + (10 : Int32)) + ((2 : Int32) * l12))))), (13, .int (Int64.toInt32 ((m_cal u) (Int32.toNatClampNeg ((l2 + (9 : Int32)) + ((2 : Int32) * l12)))))), (0, .ref (ad 0)), (1, .int l1), (2, .int l2), (3, .int l3), (4, .int l4), (5, .int l5), (6, .long l6), (8, .long l8)]) C.1 C.2.1 dX7_does_289 hl (k := 12) rfl rfl (by decide) rfl (fun ls hl => ?_)
            refine lv_goto (tgt := 155) C.1 C.2.1 dX7_does_292 (by decide) ?_
            exact ih l1 l2 l3 l4 l5 l6 l8 (l10 + (10 : Int32)) (0 : Int32) (l12 + (1 : Int32)) (ms_fun u (vp_updL (vp_updL (m_fun u) (Int32.toNatClampNeg l3) (((m_fun u) (Int32.toNatClampNeg l3)) - ((m_cal u) (Int32.toNatClampNeg ((l2 + (10 : Int32)) + ((2 : Int32) * l12)))))) (Int32.toNatClampNeg (Int64.toInt32 ((m_cal u) (Int32.toNatClampNeg ((l2 + (9 : Int32)) + ((2 : Int32) * l12)))))) (((vp_updL (m_fun u) (Int32.toNatClampNeg l3) (((m_fun u) (Int32.toNatClampNeg l3)) - ((m_cal u) (Int32.toNatClampNeg ((l2 + (10 : Int32)) + ((2 : Int32) * l12)))))) (Int32.toNatClampNeg (Int64.toInt32 ((m_cal u) (Int32.toNatClampNeg ((l2 + (9 : Int32)) + ((2 : Int32) * l12))))))) + ((m_cal u) (Int32.toNatClampNeg ((l2 + (10 : Int32)) + ((2 : Int32) * l12))))))) _ _ _ hG hw (lv_sub hl [5, 6, 7, 8, 9, 10, 11, 12, 2, 1, 0] rfl)
          · have h_26 : ¬ ((m_cal u) (Int32.toNatClampNeg ((l2 + (10 : Int32)) + ((2 : Int32) * l12)))) ≤ ((m_fun u) (Int32.toNatClampNeg l3)) := fun qz => hz ((lg_cmp_ge _ _).mpr qz)
            replace hG := inn h_26 hG
            refine lv_iconst (v := 1) C.1 C.2.1 dX7_does_254 (by decide) ?_
            refine lv_goto (tgt := 259) C.1 C.2.1 dX7_does_255 (by decide) ?_
            refine lv_istore (lv' := [(11, .int (1 : Int32)), (10, .int (l10 + (10 : Int32))), (14, .long ((m_cal u) (Int32.toNatClampNeg ((l2 + (10 : Int32)) + ((2 : Int32) * l12))))), (13, .int (Int64.toInt32 ((m_cal u) (Int32.toNatClampNeg ((l2 + (9 : Int32)) + ((2 : Int32) * l12)))))), (0, .ref (ad 0)), (1, .int l1), (2, .int l2), (3, .int l3), (4, .int l4), (5, .int l5), (6, .long l6), (8, .long l8), (12, .int l12)]) C.1 C.2.1 dX7_does_259 hl (by decide) rfl (fun ls hl => ?_)
            refine lv_iload C.1 C.2.1 dX7_does_261 (lv_at hl 0 rfl) ?_
            refine lv_if_ne (tgt := 289) C.1 C.2.1 dX7_does_263 (by decide) (fun _ => ?_) (fun hz => absurd hz (by decide))
            refine lv_iinc (v := (l12 + (1 : Int32))) (lv' := [(12, .int (l12 + (1 : Int32))), (11, .int (1 : Int32)), (10, .int (l10 + (10 : Int32))), (14, .long ((m_cal u) (Int32.toNatClampNeg ((l2 + (10 : Int32)) + ((2 : Int32) * l12))))), (13, .int (Int64.toInt32 ((m_cal u) (Int32.toNatClampNeg ((l2 + (9 : Int32)) + ((2 : Int32) * l12)))))), (0, .ref (ad 0)), (1, .int l1), (2, .int l2), (3, .int l3), (4, .int l4), (5, .int l5), (6, .long l6), (8, .long l8)]) C.1 C.2.1 dX7_does_289 hl (k := 12) rfl rfl (by decide) rfl (fun ls hl => ?_)
            refine lv_goto (tgt := 155) C.1 C.2.1 dX7_does_292 (by decide) ?_
            exact ih l1 l2 l3 l4 l5 l6 l8 (l10 + (10 : Int32)) (1 : Int32) (l12 + (1 : Int32)) u _ _ _ hG hw (lv_sub hl [5, 6, 7, 8, 9, 10, 11, 12, 2, 1, 0] rfl)
        · have h_24 : ¬ (Int32.toInt64 (l10 + (10 : Int32))) ≤ ((m_cal u) (Int32.toNatClampNeg (l2 + (3 : Int32)))) := fun qz => hz ((lg_cmp_le _ _).mpr qz)
          replace hG := inn h_24 hG
          refine lv_iconst (v := 1) C.1 C.2.1 dX7_does_227 (by decide) ?_
          refine lv_goto (tgt := 232) C.1 C.2.1 dX7_does_228 (by decide) ?_
          refine lv_istore (lv' := [(11, .int (1 : Int32)), (14, .long ((m_cal u) (Int32.toNatClampNeg ((l2 + (10 : Int32)) + ((2 : Int32) * l12))))), (13, .int (Int64.toInt32 ((m_cal u) (Int32.toNatClampNeg ((l2 + (9 : Int32)) + ((2 : Int32) * l12)))))), (0, .ref (ad 0)), (1, .int l1), (2, .int l2), (3, .int l3), (4, .int l4), (5, .int l5), (6, .long l6), (8, .long l8), (10, .int l10), (12, .int l12)]) C.1 C.2.1 dX7_does_232 hl (by decide) rfl (fun ls hl => ?_)
          refine lv_iload C.1 C.2.1 dX7_does_234 (lv_at hl 0 rfl) ?_
          refine lv_if_ne (tgt := 261) C.1 C.2.1 dX7_does_236 (by decide) (fun _ => ?_) (fun hz => absurd hz (by decide))
          refine lv_iload C.1 C.2.1 dX7_does_261 (lv_at hl 0 rfl) ?_
          refine lv_if_ne (tgt := 289) C.1 C.2.1 dX7_does_263 (by decide) (fun _ => ?_) (fun hz => absurd hz (by decide))
          refine lv_iinc (v := (l12 + (1 : Int32))) (lv' := [(12, .int (l12 + (1 : Int32))), (11, .int (1 : Int32)), (14, .long ((m_cal u) (Int32.toNatClampNeg ((l2 + (10 : Int32)) + ((2 : Int32) * l12))))), (13, .int (Int64.toInt32 ((m_cal u) (Int32.toNatClampNeg ((l2 + (9 : Int32)) + ((2 : Int32) * l12)))))), (0, .ref (ad 0)), (1, .int l1), (2, .int l2), (3, .int l3), (4, .int l4), (5, .int l5), (6, .long l6), (8, .long l8), (10, .int l10)]) C.1 C.2.1 dX7_does_289 hl (k := 12) rfl rfl (by decide) rfl (fun ls hl => ?_)
          refine lv_goto (tgt := 155) C.1 C.2.1 dX7_does_292 (by decide) ?_
          exact ih l1 l2 l3 l4 l5 l6 l8 l10 (1 : Int32) (l12 + (1 : Int32)) u _ _ _ hG hw (lv_sub hl [4, 5, 6, 7, 8, 9, 10, 11, 12, 1, 0] rfl)
def f_X7_does_119 : Nat → Int32 → Int32 → Int32 → Int32 → Int32 → Int64 → Int64 → Int32 → MS → Option (Int32 × MS)
  | 0, _, _, _, _, _, _, _, _, _ => none
  | n + 1, l1, l2, l3, l4, l5, l6, l8, l10, u => (if (12 : Int32) ≤ l10 then (f_X7_does_155 1000 l1 l2 l3 l4 l5 l6 l8 (0 : Int32) (0 : Int32) (0 : Int32) u) else (if inb l10 12 = true then (if inb l10 12 = true then (f_X7_does_119 n l1 l2 l3 l4 l5 l6 l8 (l10 + (1 : Int32)) (ms_bef u (vp_updL (m_bef u) (Int32.toNatClampNeg l10) ((m_fun u) (Int32.toNatClampNeg l10))))) else none) else none))
set_option maxHeartbeats 4000000 in
set_option maxRecDepth 100000 in
theorem kl_X7_does_119 {p : Program} {l : Launch} {e : Env} {s : State} {m : MethodId} {args : Array Value} {below : List Frame} {meth : Method} {c : Code} {D : va_G} {ad : Nat → Nat} {cI cJ : ClassId} (C : CallFix p m c cX7_does 16 s args wsX7_does RX7) (hr : meth.sig.returnType = (some .boolean)) (hlocks : meth.locks = false) (hK : va_K D vwCl (mT cI cJ) s) {r1 : Int32} {u1 : MS} : ∀ (n : Nat) (l1 : Int32) (l2 : Int32) (l3 : Int32) (l4 : Int32) (l5 : Int32) (l6 : Int64) (l8 : Int64) (l10 : Int32) (u : MS) (H : Heap) (locs : List Loc) (ls : Array Slot), f_X7_does_119 n l1 l2 l3 l4 l5 l6 l8 l10 u = some (r1, u1) → MW D ad cI cJ s.heap H locs u → lv_has ls 16 [(0, .ref (ad 0)), (1, .int l1), (2, .int l2), (3, .int l3), (4, .int l4), (5, .int l5), (6, .long l6), (8, .long l8), (10, .int l10)] → W p l e ({ frames := 1, cells := 0, slots := 0, locals := 24 } : Room) s m args below meth c H locs 0 0 (MQ below (va_Qi (S := MS) (fun r u2 => r = r1 ∧ u2 = u1) (MB D ad cI cJ) (AM ad)) args s 0 0 (AM ad)) (F0 m 119 ls []) := by
  intro n
  induction n with
  | zero =>
    intro l1 l2 l3 l4 l5 l6 l8 l10 u H locs ls hG
    exact ns hG
  | succ n ih =>
    intro l1 l2 l3 l4 l5 l6 l8 l10 u H locs ls hG hw hl
    rw [f_X7_does_119] at hG
    refine lv_iload C.1 C.2.1 dX7_does_119 (lv_at hl 8 rfl) ?_
    refine lv_bipush (v := 12) C.1 C.2.1 dX7_does_121 (by decide) ?_
    refine lv_icmp_ge (tgt := 146) C.1 C.2.1 dX7_does_123 (by decide) (fun (h_15 : (12 : Int32) ≤ l10) => ?_) (fun (h_15 : ¬ (12 : Int32) ≤ l10) => ?_)
    · replace hG := ip h_15 hG
      refine lv_iconst (v := 0) C.1 C.2.1 dX7_does_146 (by decide) ?_
      refine lv_istore (lv' := [(10, .int (0 : Int32)), (0, .ref (ad 0)), (1, .int l1), (2, .int l2), (3, .int l3), (4, .int l4), (5, .int l5), (6, .long l6), (8, .long l8)]) C.1 C.2.1 dX7_does_147 hl (by decide) rfl (fun ls hl => ?_)
      refine lv_iconst (v := 0) C.1 C.2.1 dX7_does_149 (by decide) ?_
      refine lv_istore (lv' := [(11, .int (0 : Int32)), (10, .int (0 : Int32)), (0, .ref (ad 0)), (1, .int l1), (2, .int l2), (3, .int l3), (4, .int l4), (5, .int l5), (6, .long l6), (8, .long l8)]) C.1 C.2.1 dX7_does_150 hl (by decide) rfl (fun ls hl => ?_)
      refine lv_iconst (v := 0) C.1 C.2.1 dX7_does_152 (by decide) ?_
      refine lv_istore (lv' := [(12, .int (0 : Int32)), (11, .int (0 : Int32)), (10, .int (0 : Int32)), (0, .ref (ad 0)), (1, .int l1), (2, .int l2), (3, .int l3), (4, .int l4), (5, .int l5), (6, .long l6), (8, .long l8)]) C.1 C.2.1 dX7_does_153 hl (by decide) rfl (fun ls hl => ?_)
      exact kl_X7_does_155 C hr hlocks hK 1000 l1 l2 l3 l4 l5 l6 l8 (0 : Int32) (0 : Int32) (0 : Int32) u _ _ _ hG hw (lv_sub hl [3, 4, 5, 6, 7, 8, 9, 10, 2, 1, 0] rfl)
    · replace hG := inn h_15 hG
      refine lv_aload_n C.1 C.2.1 dX7_does_126 rfl (lv_at hl 0 rfl) ?_
      refine mg_0_20 C hK hw jX7_does_7 (List.mem_of_getElem? (i := 4) rfl) dX7_does_127 ?_
      refine lv_iload C.1 C.2.1 dX7_does_130 (lv_at hl 8 rfl) ?_
      refine lv_aload_n C.1 C.2.1 dX7_does_132 rfl (lv_at hl 0 rfl) ?_
      refine mg_0_1 C hK hw jX7_does_7 (List.mem_of_getElem? (i := 2) rfl) dX7_does_133 ?_
      refine lv_iload C.1 C.2.1 dX7_does_136 (lv_at hl 8 rfl) ?_
      obtain ⟨h_16, hG⟩ := og hG
      refine ml_1 C hK hw h_16 dX7_does_138 ?_
      obtain ⟨h_17, hG⟩ := og hG
      refine mt_10 C hK hw h_17 dX7_does_139 (fun H locs hw => ?_)
      refine lv_iinc (v := (l10 + (1 : Int32))) (lv' := [(10, .int (l10 + (1 : Int32))), (0, .ref (ad 0)), (1, .int l1), (2, .int l2), (3, .int l3), (4, .int l4), (5, .int l5), (6, .long l6), (8, .long l8)]) C.1 C.2.1 dX7_does_140 hl (k := 8) rfl rfl (by decide) rfl (fun ls hl => ?_)
      refine lv_goto (tgt := 119) C.1 C.2.1 dX7_does_143 (by decide) ?_
      exact ih l1 l2 l3 l4 l5 l6 l8 (l10 + (1 : Int32)) (ms_bef u (vp_updL (m_bef u) (Int32.toNatClampNeg l10) ((m_fun u) (Int32.toNatClampNeg l10)))) _ _ _ hG hw (lv_sub hl [1, 2, 3, 4, 5, 6, 7, 8, 0] rfl)
def f_X7_does (l1 : Int32) (u : MS) : Option (Int32 × MS) := (if inb (((17 : Int32) * l1) + (0 : Int32)) 442 = true then (if inb (((17 : Int32) * l1) + (6 : Int32)) 442 = true then ((f_X7_payer (Int32.toInt64 (Int64.toInt32 ((m_cal u) (Int32.toNatClampNeg (((17 : Int32) * l1) + (0 : Int32)))))) ((m_cal u) (Int32.toNatClampNeg (((17 : Int32) * l1) + (6 : Int32))))).bind fun q_3 => (if inb (((17 : Int32) * l1) + (7 : Int32)) 442 = true then (if inb (((17 : Int32) * l1) + (2 : Int32)) 442 = true then (if inb (((17 : Int32) * l1) + (3 : Int32)) 442 = true then (if inb q_3 12 = true then (if (((m_cal u) (Int32.toNatClampNeg (((17 : Int32) * l1) + (2 : Int32)))) * ((m_cal u) (Int32.toNatClampNeg (((17 : Int32) * l1) + (3 : Int32))))) ≤ ((m_fun u) (Int32.toNatClampNeg q_3)) then (if inb q_3 12 = true then (if inb q_3 12 = true then (if inb (Int64.toInt32 ((m_cal u) (Int32.toNatClampNeg (((17 : Int32) * l1) + (0 : Int32))))) 12 = true then (if inb (Int64.toInt32 ((m_cal u) (Int32.toNatClampNeg (((17 : Int32) * l1) + (0 : Int32))))) 12 = true then (f_X7_does_119 1000 l1 ((17 : Int32) * l1) (Int64.toInt32 ((m_cal u) (Int32.toNatClampNeg (((17 : Int32) * l1) + (0 : Int32))))) q_3 (Int64.toInt32 ((m_cal u) (Int32.toNatClampNeg (((17 : Int32) * l1) + (7 : Int32))))) ((m_cal u) (Int32.toNatClampNeg (((17 : Int32) * l1) + (2 : Int32)))) (((m_cal u) (Int32.toNatClampNeg (((17 : Int32) * l1) + (2 : Int32)))) * ((m_cal u) (Int32.toNatClampNeg (((17 : Int32) * l1) + (3 : Int32))))) (0 : Int32) (ms_nxt (ms_fun u (vp_updL (m_fun u) (Int32.toNatClampNeg q_3) (((m_fun u) (Int32.toNatClampNeg q_3)) - (((m_cal u) (Int32.toNatClampNeg (((17 : Int32) * l1) + (2 : Int32)))) * ((m_cal u) (Int32.toNatClampNeg (((17 : Int32) * l1) + (3 : Int32)))))))) (upd (m_nxt u) (Int32.toNatClampNeg (Int64.toInt32 ((m_cal u) (Int32.toNatClampNeg (((17 : Int32) * l1) + (0 : Int32)))))) (((m_nxt u) (Int32.toNatClampNeg (Int64.toInt32 ((m_cal u) (Int32.toNatClampNeg (((17 : Int32) * l1) + (0 : Int32))))))) + (1 : Int32))))) else none) else none) else none) else none) else ((f_X7_comes (Int64.toInt32 ((m_cal u) (Int32.toNatClampNeg (((17 : Int32) * l1) + (7 : Int32))))) (5 : Int32) (0 : Int32) u).bind fun q_13 => ((f_X7_takeOut l1 q_13).bind fun q_14 => some ((0 : Int32), q_14)))) else none) else none) else none) else none)) else none) else none)
set_option maxHeartbeats 4000000 in
set_option maxRecDepth 100000 in
theorem k_X7_does (l : Launch) (D : va_G) (ad : Nat → Nat) (cI cJ : ClassId) (u : MS) (l1 : Int32) (r1 : Int32) (u1 : MS) (hG : f_X7_does l1 u = some (r1, u1)) : Met l yX7_does wsX7_does ({ frames := 1, cells := 0, slots := 0, locals := 24 } : Room) (va_Pc [.ref (ad 0), .int l1] (MB D ad cI cJ u)) (va_Qi (S := MS) (fun r u2 => r = r1 ∧ u2 = u1) (MB D ad cI cJ) (AM ad)) 0 0 (AM ad) := by
  refine Met.ofW (cc := cX7_does) (maxL := 16) (ret := (some .boolean)) (by decide) rfl ?_
  intro p e s m args below meth c s₁ B hml hv
  obtain ⟨rfl, hP0, hK, hD0⟩ := hv
  have C : CallFix p m c cX7_does 16 s _ wsX7_does RX7 := ⟨B.exec, B.bytes, hml, findClass_of_methodNamed B.named, atoms_spec (ws := wsX7_does) B.pre⟩
  have hr := B.returns
  have hlocks := B.notSynchronized
  have hw : MW D ad cI cJ s.heap s.heap [] u := ⟨hP0, hD0, va_S.rf⟩
  refine en_W (Nat.le_of_ble_eq_true rfl) (fun ls hl => ?_)
  have hl : lv_has ls 16 [(0, .ref (ad 0)), (1, .int l1)] := hl
  unfold f_X7_does at hG
  refine lv_bipush (v := 17) C.1 C.2.1 dX7_does_0 (by decide) ?_
  refine lv_iload_n C.1 C.2.1 dX7_does_2 rfl (lv_at hl 1 rfl) ?_
  refine lv_imul C.1 C.2.1 dX7_does_3 ?_
  refine lv_istore_n (lv' := [(2, .int ((17 : Int32) * l1)), (0, .ref (ad 0)), (1, .int l1)]) C.1 C.2.1 dX7_does_4 rfl hl (by decide) rfl (fun ls hl => ?_)
  refine lv_aload_n C.1 C.2.1 dX7_does_5 rfl (lv_at hl 1 rfl) ?_
  refine mg_0_8 C hK hw jX7_does_7 (List.mem_of_getElem? (i := 1) rfl) dX7_does_6 ?_
  refine lv_iload_n C.1 C.2.1 dX7_does_9 rfl (lv_at hl 0 rfl) ?_
  refine lv_iconst (v := 0) C.1 C.2.1 dX7_does_10 (by decide) ?_
  refine lv_iadd C.1 C.2.1 dX7_does_11 ?_
  obtain ⟨h_1, hG⟩ := og hG
  refine ml_7 C hK hw h_1 dX7_does_12 ?_
  refine lv_l2i C.1 C.2.1 dX7_does_13 rfl ?_
  refine lv_istore_n (lv' := [(3, .int (Int64.toInt32 ((m_cal u) (Int32.toNatClampNeg (((17 : Int32) * l1) + (0 : Int32)))))), (2, .int ((17 : Int32) * l1)), (0, .ref (ad 0)), (1, .int l1)]) C.1 C.2.1 dX7_does_14 rfl hl (by decide) rfl (fun ls hl => ?_)
  refine lv_iload_n C.1 C.2.1 dX7_does_15 rfl (lv_at hl 0 rfl) ?_
  refine lv_i2l C.1 C.2.1 dX7_does_16 rfl ?_
  refine lv_aload_n C.1 C.2.1 dX7_does_17 rfl (lv_at hl 2 rfl) ?_
  refine mg_0_8 C hK hw jX7_does_7 (List.mem_of_getElem? (i := 1) rfl) dX7_does_18 ?_
  refine lv_iload_n C.1 C.2.1 dX7_does_21 rfl (lv_at hl 1 rfl) ?_
  refine lv_bipush (v := 6) C.1 C.2.1 dX7_does_22 (by decide) ?_
  refine lv_iadd C.1 C.2.1 dX7_does_24 ?_
  obtain ⟨h_2, hG⟩ := og hG
  refine ml_7 C hK hw h_2 dX7_does_25 ?_
  obtain ⟨q_3, hc_3, hG⟩ := ob hG
  try dsimp only at hG
  refine mcSi (As := [.long (Int32.toInt64 (Int64.toInt32 ((m_cal u) (Int32.toNatClampNeg (((17 : Int32) * l1) + (0 : Int32)))))), .long ((m_cal u) (Int32.toNatClampNeg (((17 : Int32) * l1) + (6 : Int32))))]) (rest := []) C hK hw (k_X7_payer l D ad cI cJ u (Int32.toInt64 (Int64.toInt32 ((m_cal u) (Int32.toNatClampNeg (((17 : Int32) * l1) + (0 : Int32)))))) ((m_cal u) (Int32.toNatClampNeg (((17 : Int32) * l1) + (6 : Int32)))) q_3 hc_3) (va_cwS 2 C.2.2.2.2 gX7_does_X7_payer rfl rfl rfl (by decide +kernel) ⟨Nat.le_of_ble_eq_true rfl, Nat.le_of_ble_eq_true rfl⟩) rfl hl.1 rfl (Nat.le_of_ble_eq_true rfl) dX7_does_26 (fun H locs hw => ?_)
  refine lv_istore (lv' := [(4, .int q_3), (3, .int (Int64.toInt32 ((m_cal u) (Int32.toNatClampNeg (((17 : Int32) * l1) + (0 : Int32)))))), (2, .int ((17 : Int32) * l1)), (0, .ref (ad 0)), (1, .int l1)]) C.1 C.2.1 dX7_does_29 hl (by decide) rfl (fun ls hl => ?_)
  refine lv_aload_n C.1 C.2.1 dX7_does_31 rfl (lv_at hl 3 rfl) ?_
  refine mg_0_8 C hK hw jX7_does_7 (List.mem_of_getElem? (i := 1) rfl) dX7_does_32 ?_
  refine lv_iload_n C.1 C.2.1 dX7_does_35 rfl (lv_at hl 2 rfl) ?_
  refine lv_bipush (v := 7) C.1 C.2.1 dX7_does_36 (by decide) ?_
  refine lv_iadd C.1 C.2.1 dX7_does_38 ?_
  obtain ⟨h_4, hG⟩ := og hG
  refine ml_7 C hK hw h_4 dX7_does_39 ?_
  refine lv_l2i C.1 C.2.1 dX7_does_40 rfl ?_
  refine lv_istore (lv' := [(5, .int (Int64.toInt32 ((m_cal u) (Int32.toNatClampNeg (((17 : Int32) * l1) + (7 : Int32)))))), (4, .int q_3), (3, .int (Int64.toInt32 ((m_cal u) (Int32.toNatClampNeg (((17 : Int32) * l1) + (0 : Int32)))))), (2, .int ((17 : Int32) * l1)), (0, .ref (ad 0)), (1, .int l1)]) C.1 C.2.1 dX7_does_41 hl (by decide) rfl (fun ls hl => ?_)
  refine lv_aload_n C.1 C.2.1 dX7_does_43 rfl (lv_at hl 4 rfl) ?_
  refine mg_0_8 C hK hw jX7_does_7 (List.mem_of_getElem? (i := 1) rfl) dX7_does_44 ?_
  refine lv_iload_n C.1 C.2.1 dX7_does_47 rfl (lv_at hl 3 rfl) ?_
  refine lv_iconst (v := 2) C.1 C.2.1 dX7_does_48 (by decide) ?_
  refine lv_iadd C.1 C.2.1 dX7_does_49 ?_
  obtain ⟨h_5, hG⟩ := og hG
  refine ml_7 C hK hw h_5 dX7_does_50 ?_
  refine lv_lstore (lv' := [(6, .long ((m_cal u) (Int32.toNatClampNeg (((17 : Int32) * l1) + (2 : Int32))))), (5, .int (Int64.toInt32 ((m_cal u) (Int32.toNatClampNeg (((17 : Int32) * l1) + (7 : Int32)))))), (4, .int q_3), (3, .int (Int64.toInt32 ((m_cal u) (Int32.toNatClampNeg (((17 : Int32) * l1) + (0 : Int32)))))), (2, .int ((17 : Int32) * l1)), (0, .ref (ad 0)), (1, .int l1)]) C.1 C.2.1 dX7_does_51 hl (by decide) rfl (fun ls hl => ?_)
  refine lv_lload C.1 C.2.1 dX7_does_53 (lv_at hl 0 rfl) ?_
  refine lv_aload_n C.1 C.2.1 dX7_does_55 rfl (lv_at hl 5 rfl) ?_
  refine mg_0_8 C hK hw jX7_does_7 (List.mem_of_getElem? (i := 1) rfl) dX7_does_56 ?_
  refine lv_iload_n C.1 C.2.1 dX7_does_59 rfl (lv_at hl 4 rfl) ?_
  refine lv_iconst (v := 3) C.1 C.2.1 dX7_does_60 (by decide) ?_
  refine lv_iadd C.1 C.2.1 dX7_does_61 ?_
  obtain ⟨h_6, hG⟩ := og hG
  refine ml_7 C hK hw h_6 dX7_does_62 ?_
  refine lv_lmul C.1 C.2.1 dX7_does_63 ?_
  refine lv_lstore (lv' := [(8, .long (((m_cal u) (Int32.toNatClampNeg (((17 : Int32) * l1) + (2 : Int32)))) * ((m_cal u) (Int32.toNatClampNeg (((17 : Int32) * l1) + (3 : Int32)))))), (6, .long ((m_cal u) (Int32.toNatClampNeg (((17 : Int32) * l1) + (2 : Int32))))), (5, .int (Int64.toInt32 ((m_cal u) (Int32.toNatClampNeg (((17 : Int32) * l1) + (7 : Int32)))))), (4, .int q_3), (3, .int (Int64.toInt32 ((m_cal u) (Int32.toNatClampNeg (((17 : Int32) * l1) + (0 : Int32)))))), (2, .int ((17 : Int32) * l1)), (0, .ref (ad 0)), (1, .int l1)]) C.1 C.2.1 dX7_does_64 hl (by decide) rfl (fun ls hl => ?_)
  refine lv_aload_n C.1 C.2.1 dX7_does_66 rfl (lv_at hl 6 rfl) ?_
  refine mg_0_1 C hK hw jX7_does_7 (List.mem_of_getElem? (i := 2) rfl) dX7_does_67 ?_
  refine lv_iload C.1 C.2.1 dX7_does_70 (lv_at hl 3 rfl) ?_
  obtain ⟨h_7, hG⟩ := og hG
  refine ml_1 C hK hw h_7 dX7_does_72 ?_
  refine lv_lload C.1 C.2.1 dX7_does_73 (lv_at hl 0 rfl) ?_
  refine W.lcmp C.1 C.2.1 dX7_does_75 ?_
  refine lv_if_ge (tgt := 94) C.1 C.2.1 dX7_does_76 (by decide) (fun hz => ?_) (fun hz => ?_)
  · have h_8 : (((m_cal u) (Int32.toNatClampNeg (((17 : Int32) * l1) + (2 : Int32)))) * ((m_cal u) (Int32.toNatClampNeg (((17 : Int32) * l1) + (3 : Int32))))) ≤ ((m_fun u) (Int32.toNatClampNeg q_3)) := (lg_cmp_ge _ _).mp hz
    replace hG := ip h_8 hG
    refine lv_aload_n C.1 C.2.1 dX7_does_94 rfl (lv_at hl 6 rfl) ?_
    refine mg_0_1 C hK hw jX7_does_7 (List.mem_of_getElem? (i := 2) rfl) dX7_does_95 ?_
    refine lv_iload C.1 C.2.1 dX7_does_98 (lv_at hl 3 rfl) ?_
    refine lv_dup2_11 C.1 C.2.1 dX7_does_100 rfl rfl ?_
    obtain ⟨h_9, hG⟩ := og hG
    refine ml_1 C hK hw h_9 dX7_does_101 ?_
    refine lv_lload C.1 C.2.1 dX7_does_102 (lv_at hl 0 rfl) ?_
    refine lv_lsub C.1 C.2.1 dX7_does_104 ?_
    obtain ⟨h_10, hG⟩ := og hG
    refine mt_1 C hK hw h_10 dX7_does_105 (fun H locs hw => ?_)
    refine lv_aload_n C.1 C.2.1 dX7_does_106 rfl (lv_at hl 6 rfl) ?_
    refine mg_0_2 C hK hw jX7_does_7 (List.mem_of_getElem? (i := 3) rfl) dX7_does_107 ?_
    refine lv_iload_n C.1 C.2.1 dX7_does_110 rfl (lv_at hl 4 rfl) ?_
    refine lv_dup2_11 C.1 C.2.1 dX7_does_111 rfl rfl ?_
    obtain ⟨h_11, hG⟩ := og hG
    refine ml_2 C hK hw h_11 dX7_does_112 ?_
    refine lv_iconst (v := 1) C.1 C.2.1 dX7_does_113 (by decide) ?_
    refine lv_iadd C.1 C.2.1 dX7_does_114 ?_
    obtain ⟨h_12, hG⟩ := og hG
    refine mt_2 C hK hw h_12 dX7_does_115 (fun H locs hw => ?_)
    refine lv_iconst (v := 0) C.1 C.2.1 dX7_does_116 (by decide) ?_
    refine lv_istore (lv' := [(10, .int (0 : Int32)), (8, .long (((m_cal u) (Int32.toNatClampNeg (((17 : Int32) * l1) + (2 : Int32)))) * ((m_cal u) (Int32.toNatClampNeg (((17 : Int32) * l1) + (3 : Int32)))))), (6, .long ((m_cal u) (Int32.toNatClampNeg (((17 : Int32) * l1) + (2 : Int32))))), (5, .int (Int64.toInt32 ((m_cal u) (Int32.toNatClampNeg (((17 : Int32) * l1) + (7 : Int32)))))), (4, .int q_3), (3, .int (Int64.toInt32 ((m_cal u) (Int32.toNatClampNeg (((17 : Int32) * l1) + (0 : Int32)))))), (2, .int ((17 : Int32) * l1)), (0, .ref (ad 0)), (1, .int l1)]) C.1 C.2.1 dX7_does_117 hl (by decide) rfl (fun ls hl => ?_)
    exact kl_X7_does_119 C hr hlocks hK 1000 l1 ((17 : Int32) * l1) (Int64.toInt32 ((m_cal u) (Int32.toNatClampNeg (((17 : Int32) * l1) + (0 : Int32))))) q_3 (Int64.toInt32 ((m_cal u) (Int32.toNatClampNeg (((17 : Int32) * l1) + (7 : Int32))))) ((m_cal u) (Int32.toNatClampNeg (((17 : Int32) * l1) + (2 : Int32)))) (((m_cal u) (Int32.toNatClampNeg (((17 : Int32) * l1) + (2 : Int32)))) * ((m_cal u) (Int32.toNatClampNeg (((17 : Int32) * l1) + (3 : Int32))))) (0 : Int32) (ms_nxt (ms_fun u (vp_updL (m_fun u) (Int32.toNatClampNeg q_3) (((m_fun u) (Int32.toNatClampNeg q_3)) - (((m_cal u) (Int32.toNatClampNeg (((17 : Int32) * l1) + (2 : Int32)))) * ((m_cal u) (Int32.toNatClampNeg (((17 : Int32) * l1) + (3 : Int32)))))))) (upd (m_nxt u) (Int32.toNatClampNeg (Int64.toInt32 ((m_cal u) (Int32.toNatClampNeg (((17 : Int32) * l1) + (0 : Int32)))))) (((m_nxt u) (Int32.toNatClampNeg (Int64.toInt32 ((m_cal u) (Int32.toNatClampNeg (((17 : Int32) * l1) + (0 : Int32))))))) + (1 : Int32)))) _ _ _ hG hw (lv_sub hl [7, 8, 6, 5, 4, 3, 2, 1, 0] rfl)
  · have h_8 : ¬ (((m_cal u) (Int32.toNatClampNeg (((17 : Int32) * l1) + (2 : Int32)))) * ((m_cal u) (Int32.toNatClampNeg (((17 : Int32) * l1) + (3 : Int32))))) ≤ ((m_fun u) (Int32.toNatClampNeg q_3)) := fun qz => hz ((lg_cmp_ge _ _).mpr qz)
    replace hG := inn h_8 hG
    refine lv_aload_n C.1 C.2.1 dX7_does_79 rfl (lv_at hl 6 rfl) ?_
    refine lv_iload C.1 C.2.1 dX7_does_80 (lv_at hl 2 rfl) ?_
    refine lv_iconst (v := 5) C.1 C.2.1 dX7_does_82 (by decide) ?_
    refine lv_iconst (v := 0) C.1 C.2.1 dX7_does_83 (by decide) ?_
    obtain ⟨q_13, hc_13, hG⟩ := ob hG
    try dsimp only at hG
    refine mcVv (As := [.int (Int64.toInt32 ((m_cal u) (Int32.toNatClampNeg (((17 : Int32) * l1) + (7 : Int32))))), .int (5 : Int32), .int (0 : Int32)]) (rest := []) C hK hw (k_X7_comes l D ad cI cJ u (Int64.toInt32 ((m_cal u) (Int32.toNatClampNeg (((17 : Int32) * l1) + (7 : Int32))))) (5 : Int32) (0 : Int32) q_13 hc_13) (cwV 3 C.2.2.2.2 gX7_does_X7_comes rfl rfl rfl (by decide +kernel) ⟨Nat.le_of_ble_eq_true rfl, Nat.le_of_ble_eq_true rfl⟩) (va_recv hK hw.1 (ci := 7) (q0 := 0) rfl rfl) rfl hl.1 rfl (Nat.le_of_ble_eq_true rfl) dX7_does_84 (fun H locs hw => ?_)
    refine lv_aload_n C.1 C.2.1 dX7_does_87 rfl (lv_at hl 6 rfl) ?_
    refine lv_iload_n C.1 C.2.1 dX7_does_88 rfl (lv_at hl 7 rfl) ?_
    obtain ⟨q_14, hc_14, hG⟩ := ob hG
    try dsimp only at hG
    refine mcVv (As := [.int l1]) (rest := []) C hK hw (k_X7_takeOut l D ad cI cJ q_13 l1 q_14 hc_14) (cwV 1 C.2.2.2.2 gX7_does_X7_takeOut rfl rfl rfl (by decide +kernel) ⟨Nat.le_of_ble_eq_true rfl, Nat.le_of_ble_eq_true rfl⟩) (va_recv hK hw.1 (ci := 7) (q0 := 0) rfl rfl) rfl hl.1 rfl (Nat.le_of_ble_eq_true rfl) dX7_does_89 (fun H locs hw => ?_)
    refine lv_iconst (v := 0) C.1 C.2.1 dX7_does_92 (by decide) ?_
    exact mret_z C hlocks hK hw hr rfl (ret2 hG) dX7_does_93
theorem jX7_block_7 : ∀ w ∈ wsX70, w ∈ wsX7_block := by decide +kernel
def f_X7_block_40 : Nat → Int32 → Int32 → Int32 → MS → Option (Int32 × MS)
  | 0, _, _, _, _ => none
  | n + 1, l1, l2, l3, u => (if l3 ≤ (0 : Int32) then some (l2, u) else ((f_X7_does l3 u).bind fun q_6 => (if q_6.1 = (0 : Int32) then ((f_X7_dearest q_6.2).bind fun q_8 => (f_X7_block_40 n l1 (l2 + (0 : Int32)) q_8 q_6.2)) else ((f_X7_dearest q_6.2).bind fun q_9 => (f_X7_block_40 n l1 (l2 + (1 : Int32)) q_9 q_6.2)))))
set_option maxHeartbeats 4000000 in
set_option maxRecDepth 100000 in
theorem kl_X7_block_40 {p : Program} {l : Launch} {e : Env} {s : State} {m : MethodId} {args : Array Value} {below : List Frame} {meth : Method} {c : Code} {D : va_G} {ad : Nat → Nat} {cI cJ : ClassId} (C : CallFix p m c cX7_block 4 s args wsX7_block RX7) (hr : meth.sig.returnType = (some .int)) (hlocks : meth.locks = false) (hK : va_K D vwCl (mT cI cJ) s) {r1 : Int32} {u1 : MS} : ∀ (n : Nat) (l1 : Int32) (l2 : Int32) (l3 : Int32) (u : MS) (H : Heap) (locs : List Loc) (ls : Array Slot), f_X7_block_40 n l1 l2 l3 u = some (r1, u1) → MW D ad cI cJ s.heap H locs u → lv_has ls 4 [(0, .ref (ad 0)), (1, .int l1), (2, .int l2), (3, .int l3)] → W p l e ({ frames := 2, cells := 0, slots := 0, locals := 59 } : Room) s m args below meth c H locs 0 0 (MQ below (va_Qi (S := MS) (fun r u2 => r = r1 ∧ u2 = u1) (MB D ad cI cJ) (AM ad)) args s 0 0 (AM ad)) (F0 m 40 ls []) := by
  intro n
  induction n with
  | zero =>
    intro l1 l2 l3 u H locs ls hG
    exact ns hG
  | succ n ih =>
    intro l1 l2 l3 u H locs ls hG hw hl
    rw [f_X7_block_40] at hG
    refine lv_iload_n C.1 C.2.1 dX7_block_40 rfl (lv_at hl 3 rfl) ?_
    refine lv_if_le (tgt := 68) C.1 C.2.1 dX7_block_41 (by decide) (fun (h_5 : l3 ≤ (0 : Int32)) => ?_) (fun (h_5 : ¬ l3 ≤ (0 : Int32)) => ?_)
    · replace hG := ip h_5 hG
      refine lv_iload_n C.1 C.2.1 dX7_block_68 rfl (lv_at hl 2 rfl) ?_
      exact mret_i C hlocks hK hw hr (ret2 hG) dX7_block_69
    · replace hG := inn h_5 hG
      refine lv_iload_n C.1 C.2.1 dX7_block_44 rfl (lv_at hl 2 rfl) ?_
      refine lv_aload_n C.1 C.2.1 dX7_block_45 rfl (lv_at hl 0 rfl) ?_
      refine lv_iload_n C.1 C.2.1 dX7_block_46 rfl (lv_at hl 3 rfl) ?_
      obtain ⟨q_6, hc_6, hG⟩ := ob hG
      try dsimp only at hG
      refine mcVi (As := [.int l3]) (rest := [.int l2]) C hK hw (k_X7_does l D ad cI cJ u l3 q_6.1 q_6.2 hc_6) (cwV 1 C.2.2.2.2 gX7_block_X7_does rfl rfl rfl (by decide +kernel) ⟨Nat.le_of_ble_eq_true rfl, Nat.le_of_ble_eq_true rfl⟩) (va_recv hK hw.1 (ci := 7) (q0 := 0) rfl rfl) rfl hl.1 rfl (Nat.le_of_ble_eq_true rfl) dX7_block_47 (fun H locs hw => ?_)
      refine lv_if_eq (tgt := 57) C.1 C.2.1 dX7_block_50 (by decide) (fun (h_7 : q_6.1 = (0 : Int32)) => ?_) (fun (h_7 : ¬ q_6.1 = (0 : Int32)) => ?_)
      · replace hG := ip h_7 hG
        refine lv_iconst (v := 0) C.1 C.2.1 dX7_block_57 (by decide) ?_
        refine lv_iadd C.1 C.2.1 dX7_block_58 ?_
        refine lv_istore_n (lv' := [(2, .int (l2 + (0 : Int32))), (0, .ref (ad 0)), (1, .int l1), (3, .int l3)]) C.1 C.2.1 dX7_block_59 rfl hl (by decide) rfl (fun ls hl => ?_)
        refine lv_aload_n C.1 C.2.1 dX7_block_60 rfl (lv_at hl 1 rfl) ?_
        obtain ⟨q_8, hc_8, hG⟩ := ob hG
        try dsimp only at hG
        refine mcVi (As := []) (rest := []) C hK hw (k_X7_dearest l D ad cI cJ q_6.2 q_8 hc_8) (cwV 0 C.2.2.2.2 gX7_block_X7_dearest rfl rfl rfl (by decide +kernel) ⟨Nat.le_of_ble_eq_true rfl, Nat.le_of_ble_eq_true rfl⟩) (va_recv hK hw.1 (ci := 7) (q0 := 0) rfl rfl) rfl hl.1 rfl (Nat.le_of_ble_eq_true rfl) dX7_block_61 (fun H locs hw => ?_)
        refine lv_istore_n (lv' := [(3, .int q_8), (2, .int (l2 + (0 : Int32))), (0, .ref (ad 0)), (1, .int l1)]) C.1 C.2.1 dX7_block_64 rfl hl (by decide) rfl (fun ls hl => ?_)
        refine lv_goto (tgt := 40) C.1 C.2.1 dX7_block_65 (by decide) ?_
        exact ih l1 (l2 + (0 : Int32)) q_8 q_6.2 _ _ _ hG hw (lv_sub hl [2, 3, 1, 0] rfl)
      · replace hG := inn h_7 hG
        refine lv_iconst (v := 1) C.1 C.2.1 dX7_block_53 (by decide) ?_
        refine lv_goto (tgt := 58) C.1 C.2.1 dX7_block_54 (by decide) ?_
        refine lv_iadd C.1 C.2.1 dX7_block_58 ?_
        refine lv_istore_n (lv' := [(2, .int (l2 + (1 : Int32))), (0, .ref (ad 0)), (1, .int l1), (3, .int l3)]) C.1 C.2.1 dX7_block_59 rfl hl (by decide) rfl (fun ls hl => ?_)
        refine lv_aload_n C.1 C.2.1 dX7_block_60 rfl (lv_at hl 1 rfl) ?_
        obtain ⟨q_9, hc_9, hG⟩ := ob hG
        try dsimp only at hG
        refine mcVi (As := []) (rest := []) C hK hw (k_X7_dearest l D ad cI cJ q_6.2 q_9 hc_9) (cwV 0 C.2.2.2.2 gX7_block_X7_dearest rfl rfl rfl (by decide +kernel) ⟨Nat.le_of_ble_eq_true rfl, Nat.le_of_ble_eq_true rfl⟩) (va_recv hK hw.1 (ci := 7) (q0 := 0) rfl rfl) rfl hl.1 rfl (Nat.le_of_ble_eq_true rfl) dX7_block_61 (fun H locs hw => ?_)
        refine lv_istore_n (lv' := [(3, .int q_9), (2, .int (l2 + (1 : Int32))), (0, .ref (ad 0)), (1, .int l1)]) C.1 C.2.1 dX7_block_64 rfl hl (by decide) rfl (fun ls hl => ?_)
        refine lv_goto (tgt := 40) C.1 C.2.1 dX7_block_65 (by decide) ?_
        exact ih l1 (l2 + (1 : Int32)) q_9 q_6.2 _ _ _ hG hw (lv_sub hl [2, 3, 1, 0] rfl)
def f_X7_block (l1 : Int32) (u : MS) : Option (Int32 × MS) := ((f_X7_in (Int32.toInt64 l1) (0 : Int64) (10000 : Int64)).bind fun q_1 => (if q_1 = (0 : Int32) then some ((-1 : Int32), u) else ((f_X7_ends (ms_hgt u ((m_hgt u) + (1 : Int32)))).bind fun q_3 => ((f_X7_dearest (ms_rom q_3 l1)).bind fun q_4 => (f_X7_block_40 1000 l1 (0 : Int32) q_4 (ms_rom q_3 l1))))))
set_option maxHeartbeats 4000000 in
set_option maxRecDepth 100000 in
theorem k_X7_block (l : Launch) (D : va_G) (ad : Nat → Nat) (cI cJ : ClassId) (u : MS) (l1 : Int32) (r1 : Int32) (u1 : MS) (hG : f_X7_block l1 u = some (r1, u1)) : Met l yX7_block wsX7_block ({ frames := 2, cells := 0, slots := 0, locals := 59 } : Room) (va_Pc [.ref (ad 0), .int l1] (MB D ad cI cJ u)) (va_Qi (S := MS) (fun r u2 => r = r1 ∧ u2 = u1) (MB D ad cI cJ) (AM ad)) 0 0 (AM ad) := by
  refine Met.ofW (cc := cX7_block) (maxL := 4) (ret := (some .int)) (by decide) rfl ?_
  intro p e s m args below meth c s₁ B hml hv
  obtain ⟨rfl, hP0, hK, hD0⟩ := hv
  have C : CallFix p m c cX7_block 4 s _ wsX7_block RX7 := ⟨B.exec, B.bytes, hml, findClass_of_methodNamed B.named, atoms_spec (ws := wsX7_block) B.pre⟩
  have hr := B.returns
  have hlocks := B.notSynchronized
  have hw : MW D ad cI cJ s.heap s.heap [] u := ⟨hP0, hD0, va_S.rf⟩
  refine en_W (Nat.le_of_ble_eq_true rfl) (fun ls hl => ?_)
  have hl : lv_has ls 4 [(0, .ref (ad 0)), (1, .int l1)] := hl
  unfold f_X7_block at hG
  refine lv_iload_n C.1 C.2.1 dX7_block_0 rfl (lv_at hl 1 rfl) ?_
  refine lv_i2l C.1 C.2.1 dX7_block_1 rfl ?_
  refine lv_lconst (v := 0) C.1 C.2.1 dX7_block_2 (by decide) ?_
  refine lv_ldc2 (v := 10000) C.1 C.2.1 C.2.2.2.1 (C.2.2.2.2 _ (List.mem_of_getElem? (i := 1) rfl)) dX7_block_3 ?_
  obtain ⟨q_1, hc_1, hG⟩ := ob hG
  try dsimp only at hG
  refine mcSi (As := [.long (Int32.toInt64 l1), .long (0 : Int64), .long (10000 : Int64)]) (rest := []) C hK hw (k_X7_in l D ad cI cJ u (Int32.toInt64 l1) (0 : Int64) (10000 : Int64) q_1 hc_1) (va_cwS 3 C.2.2.2.2 gX7_block_X7_in rfl rfl rfl (by decide +kernel) ⟨Nat.le_of_ble_eq_true rfl, Nat.le_of_ble_eq_true rfl⟩) rfl hl.1 rfl (Nat.le_of_ble_eq_true rfl) dX7_block_6 (fun H locs hw => ?_)
  refine lv_if_ne (tgt := 14) C.1 C.2.1 dX7_block_9 (by decide) (fun (h_2 : ¬ q_1 = (0 : Int32)) => ?_) (fun (h_2 : q_1 = (0 : Int32)) => ?_)
  · replace hG := inn h_2 hG
    refine lv_aload_n C.1 C.2.1 dX7_block_14 rfl (lv_at hl 0 rfl) ?_
    refine lv_dup C.1 C.2.1 dX7_block_15 rfl ?_
    refine mg_0_15 C hK hw jX7_block_7 (List.mem_of_getElem? (i := 2) rfl) dX7_block_16 ?_
    refine lv_iconst (v := 1) C.1 C.2.1 dX7_block_19 (by decide) ?_
    refine lv_iadd C.1 C.2.1 dX7_block_20 ?_
    refine mp_0_15 C hK hw jX7_block_7 (List.mem_of_getElem? (i := 2) rfl) dX7_block_21 (fun H locs hw => ?_)
    refine lv_aload_n C.1 C.2.1 dX7_block_24 rfl (lv_at hl 0 rfl) ?_
    obtain ⟨q_3, hc_3, hG⟩ := ob hG
    try dsimp only at hG
    refine mcVv (As := []) (rest := []) C hK hw (k_X7_ends l D ad cI cJ (ms_hgt u ((m_hgt u) + (1 : Int32))) q_3 hc_3) (cwV 0 C.2.2.2.2 gX7_block_X7_ends rfl rfl rfl (by decide +kernel) ⟨Nat.le_of_ble_eq_true rfl, Nat.le_of_ble_eq_true rfl⟩) (va_recv hK hw.1 (ci := 7) (q0 := 0) rfl rfl) rfl hl.1 rfl (Nat.le_of_ble_eq_true rfl) dX7_block_25 (fun H locs hw => ?_)
    refine lv_aload_n C.1 C.2.1 dX7_block_28 rfl (lv_at hl 0 rfl) ?_
    refine lv_iload_n C.1 C.2.1 dX7_block_29 rfl (lv_at hl 1 rfl) ?_
    refine mp_0_19 C hK hw jX7_block_7 (List.mem_of_getElem? (i := 3) rfl) dX7_block_30 (fun H locs hw => ?_)
    refine lv_iconst (v := 0) C.1 C.2.1 dX7_block_33 (by decide) ?_
    refine lv_istore_n (lv' := [(2, .int (0 : Int32)), (0, .ref (ad 0)), (1, .int l1)]) C.1 C.2.1 dX7_block_34 rfl hl (by decide) rfl (fun ls hl => ?_)
    refine lv_aload_n C.1 C.2.1 dX7_block_35 rfl (lv_at hl 1 rfl) ?_
    obtain ⟨q_4, hc_4, hG⟩ := ob hG
    try dsimp only at hG
    refine mcVi (As := []) (rest := []) C hK hw (k_X7_dearest l D ad cI cJ (ms_rom q_3 l1) q_4 hc_4) (cwV 0 C.2.2.2.2 gX7_block_X7_dearest rfl rfl rfl (by decide +kernel) ⟨Nat.le_of_ble_eq_true rfl, Nat.le_of_ble_eq_true rfl⟩) (va_recv hK hw.1 (ci := 7) (q0 := 0) rfl rfl) rfl hl.1 rfl (Nat.le_of_ble_eq_true rfl) dX7_block_36 (fun H locs hw => ?_)
    refine lv_istore_n (lv' := [(3, .int q_4), (2, .int (0 : Int32)), (0, .ref (ad 0)), (1, .int l1)]) C.1 C.2.1 dX7_block_39 rfl hl (by decide) rfl (fun ls hl => ?_)
    exact kl_X7_block_40 C hr hlocks hK 1000 l1 (0 : Int32) q_4 (ms_rom q_3 l1) _ _ _ hG hw (lv_sub hl [2, 3, 1, 0] rfl)
  · replace hG := ip h_2 hG
    refine lv_iconst (v := -1) C.1 C.2.1 dX7_block_12 (by decide) ?_
    exact mret_i C hlocks hK hw hr (ret2 hG) dX7_block_13
theorem jX7_waiting_7 : ∀ w ∈ wsX70, w ∈ wsX7_waiting := by decide +kernel
def f_X7_waiting (l1 : Int32) (l2 : Int32) (u : MS) : Option Int32 := ((f_X7_in (Int32.toInt64 l1) (0 : Int64) (Int32.toInt64 ((m_wts u) - (1 : Int32)))).bind fun q_1 => (if q_1 = (0 : Int32) then some (-1 : Int32) else ((f_X7_in (Int32.toInt64 l2) (0 : Int64) (3 : Int64)).bind fun q_3 => (if q_3 = (0 : Int32) then some (-1 : Int32) else (if l2 = (0 : Int32) then (if inb (((17 : Int32) * (l1 + (1 : Int32))) + (7 : Int32)) 442 = true then some (Int64.toInt32 ((m_cal u) (Int32.toNatClampNeg (((17 : Int32) * (l1 + (1 : Int32))) + (7 : Int32))))) else none) else (if inb (((17 : Int32) * (l1 + (1 : Int32))) + (l2 - (1 : Int32))) 442 = true then some (Int64.toInt32 ((m_cal u) (Int32.toNatClampNeg (((17 : Int32) * (l1 + (1 : Int32))) + (l2 - (1 : Int32)))))) else none))))))
set_option maxHeartbeats 4000000 in
set_option maxRecDepth 100000 in
theorem k_X7_waiting (l : Launch) (D : va_G) (ad : Nat → Nat) (cI cJ : ClassId) (u : MS) (l1 : Int32) (l2 : Int32) (r1 : Int32) (hG : f_X7_waiting l1 l2 u = some r1) : Met l yX7_waiting wsX7_waiting ({ frames := 1, cells := 0, slots := 0, locals := 25 } : Room) (va_Pc [.ref (ad 0), .int l1, .int l2] (MB D ad cI cJ u)) (va_Qi (S := MS) (fun r u2 => r = r1 ∧ u2 = u) (MB D ad cI cJ) (AM ad)) 0 0 (AM ad) := by
  refine Met.ofW (cc := cX7_waiting) (maxL := 3) (ret := (some .int)) (by decide) rfl ?_
  intro p e s m args below meth c s₁ B hml hv
  obtain ⟨rfl, hP0, hK, hD0⟩ := hv
  have C : CallFix p m c cX7_waiting 3 s _ wsX7_waiting RX7 := ⟨B.exec, B.bytes, hml, findClass_of_methodNamed B.named, atoms_spec (ws := wsX7_waiting) B.pre⟩
  have hr := B.returns
  have hlocks := B.notSynchronized
  have hw : MW D ad cI cJ s.heap s.heap [] u := ⟨hP0, hD0, va_S.rf⟩
  refine en_W (Nat.le_of_ble_eq_true rfl) (fun ls hl => ?_)
  have hl : lv_has ls 3 [(0, .ref (ad 0)), (1, .int l1), (2, .int l2)] := hl
  unfold f_X7_waiting at hG
  refine lv_iload_n C.1 C.2.1 dX7_waiting_0 rfl (lv_at hl 1 rfl) ?_
  refine lv_i2l C.1 C.2.1 dX7_waiting_1 rfl ?_
  refine lv_lconst (v := 0) C.1 C.2.1 dX7_waiting_2 (by decide) ?_
  refine lv_aload_n C.1 C.2.1 dX7_waiting_3 rfl (lv_at hl 0 rfl) ?_
  refine mg_0_12 C hK hw jX7_waiting_7 (List.mem_of_getElem? (i := 1) rfl) dX7_waiting_4 ?_
  refine lv_iconst (v := 1) C.1 C.2.1 dX7_waiting_7 (by decide) ?_
  refine lv_isub C.1 C.2.1 dX7_waiting_8 ?_
  refine lv_i2l C.1 C.2.1 dX7_waiting_9 rfl ?_
  obtain ⟨q_1, hc_1, hG⟩ := ob hG
  try dsimp only at hG
  refine mcSi (As := [.long (Int32.toInt64 l1), .long (0 : Int64), .long (Int32.toInt64 ((m_wts u) - (1 : Int32)))]) (rest := []) C hK hw (k_X7_in l D ad cI cJ u (Int32.toInt64 l1) (0 : Int64) (Int32.toInt64 ((m_wts u) - (1 : Int32))) q_1 hc_1) (va_cwS 3 C.2.2.2.2 gX7_waiting_X7_in rfl rfl rfl (by decide +kernel) ⟨Nat.le_of_ble_eq_true rfl, Nat.le_of_ble_eq_true rfl⟩) rfl hl.1 rfl (Nat.le_of_ble_eq_true rfl) dX7_waiting_10 (fun H locs hw => ?_)
  refine lv_if_eq (tgt := 28) C.1 C.2.1 dX7_waiting_13 (by decide) (fun (h_2 : q_1 = (0 : Int32)) => ?_) (fun (h_2 : ¬ q_1 = (0 : Int32)) => ?_)
  · replace hG := ip h_2 hG
    refine lv_iconst (v := -1) C.1 C.2.1 dX7_waiting_28 (by decide) ?_
    exact mret_i C hlocks hK hw hr (ret1 hG) dX7_waiting_29
  · replace hG := inn h_2 hG
    refine lv_iload_n C.1 C.2.1 dX7_waiting_16 rfl (lv_at hl 2 rfl) ?_
    refine lv_i2l C.1 C.2.1 dX7_waiting_17 rfl ?_
    refine lv_lconst (v := 0) C.1 C.2.1 dX7_waiting_18 (by decide) ?_
    refine lv_ldc2 (v := 3) C.1 C.2.1 C.2.2.2.1 (C.2.2.2.2 _ (List.mem_of_getElem? (i := 2) rfl)) dX7_waiting_19 ?_
    obtain ⟨q_3, hc_3, hG⟩ := ob hG
    try dsimp only at hG
    refine mcSi (As := [.long (Int32.toInt64 l2), .long (0 : Int64), .long (3 : Int64)]) (rest := []) C hK hw (k_X7_in l D ad cI cJ u (Int32.toInt64 l2) (0 : Int64) (3 : Int64) q_3 hc_3) (va_cwS 3 C.2.2.2.2 gX7_waiting_X7_in rfl rfl rfl (by decide +kernel) ⟨Nat.le_of_ble_eq_true rfl, Nat.le_of_ble_eq_true rfl⟩) rfl hl.1 rfl (Nat.le_of_ble_eq_true rfl) dX7_waiting_22 (fun H locs hw => ?_)
    refine lv_if_ne (tgt := 30) C.1 C.2.1 dX7_waiting_25 (by decide) (fun (h_4 : ¬ q_3 = (0 : Int32)) => ?_) (fun (h_4 : q_3 = (0 : Int32)) => ?_)
    · replace hG := inn h_4 hG
      refine lv_aload_n C.1 C.2.1 dX7_waiting_30 rfl (lv_at hl 0 rfl) ?_
      refine mg_0_8 C hK hw jX7_waiting_7 (List.mem_of_getElem? (i := 3) rfl) dX7_waiting_31 ?_
      refine lv_bipush (v := 17) C.1 C.2.1 dX7_waiting_34 (by decide) ?_
      refine lv_iload_n C.1 C.2.1 dX7_waiting_36 rfl (lv_at hl 1 rfl) ?_
      refine lv_iconst (v := 1) C.1 C.2.1 dX7_waiting_37 (by decide) ?_
      refine lv_iadd C.1 C.2.1 dX7_waiting_38 ?_
      refine lv_imul C.1 C.2.1 dX7_waiting_39 ?_
      refine lv_iload_n C.1 C.2.1 dX7_waiting_40 rfl (lv_at hl 2 rfl) ?_
      refine lv_if_ne (tgt := 49) C.1 C.2.1 dX7_waiting_41 (by decide) (fun (h_5 : ¬ l2 = (0 : Int32)) => ?_) (fun (h_5 : l2 = (0 : Int32)) => ?_)
      · replace hG := inn h_5 hG
        refine lv_iload_n C.1 C.2.1 dX7_waiting_49 rfl (lv_at hl 2 rfl) ?_
        refine lv_iconst (v := 1) C.1 C.2.1 dX7_waiting_50 (by decide) ?_
        refine lv_isub C.1 C.2.1 dX7_waiting_51 ?_
        refine lv_iadd C.1 C.2.1 dX7_waiting_52 ?_
        obtain ⟨h_6, hG⟩ := og hG
        refine ml_7 C hK hw h_6 dX7_waiting_53 ?_
        refine lv_l2i C.1 C.2.1 dX7_waiting_54 rfl ?_
        exact mret_i C hlocks hK hw hr (ret1 hG) dX7_waiting_55
      · replace hG := ip h_5 hG
        refine lv_bipush (v := 7) C.1 C.2.1 dX7_waiting_44 (by decide) ?_
        refine lv_goto (tgt := 52) C.1 C.2.1 dX7_waiting_46 (by decide) ?_
        refine lv_iadd C.1 C.2.1 dX7_waiting_52 ?_
        obtain ⟨h_7, hG⟩ := og hG
        refine ml_7 C hK hw h_7 dX7_waiting_53 ?_
        refine lv_l2i C.1 C.2.1 dX7_waiting_54 rfl ?_
        exact mret_i C hlocks hK hw hr (ret1 hG) dX7_waiting_55
    · replace hG := ip h_4 hG
      refine lv_iconst (v := -1) C.1 C.2.1 dX7_waiting_28 (by decide) ?_
      exact mret_i C hlocks hK hw hr (ret1 hG) dX7_waiting_29
theorem jX7_event_7 : ∀ w ∈ wsX70, w ∈ wsX7_event := by decide +kernel
def f_X7_event (l1 : Int32) (l2 : Int32) (u : MS) : Option Int32 := (if (60 : Int32) ≤ (m_evs u) then ((f_X7_in (Int32.toInt64 l1) (0 : Int64) (Int32.toInt64 ((60 : Int32) - (1 : Int32)))).bind fun q_2 => (if q_2 = (0 : Int32) then some (-1 : Int32) else ((f_X7_in (Int32.toInt64 l2) (0 : Int64) (2 : Int64)).bind fun q_4 => (if q_4 = (0 : Int32) then some (-1 : Int32) else (if inb (((3 : Int32) * ((((m_evs u) - (1 : Int32)) - l1) - (((m_evs u) - (1 : Int32)) - l1) / (60 : Int32) * (60 : Int32))) + l2) 180 = true then some ((m_evr u) (Int32.toNatClampNeg (((3 : Int32) * ((((m_evs u) - (1 : Int32)) - l1) - (((m_evs u) - (1 : Int32)) - l1) / (60 : Int32) * (60 : Int32))) + l2))) else none))))) else ((f_X7_in (Int32.toInt64 l1) (0 : Int64) (Int32.toInt64 ((m_evs u) - (1 : Int32)))).bind fun q_7 => (if q_7 = (0 : Int32) then some (-1 : Int32) else ((f_X7_in (Int32.toInt64 l2) (0 : Int64) (2 : Int64)).bind fun q_9 => (if q_9 = (0 : Int32) then some (-1 : Int32) else (if inb (((3 : Int32) * ((((m_evs u) - (1 : Int32)) - l1) - (((m_evs u) - (1 : Int32)) - l1) / (60 : Int32) * (60 : Int32))) + l2) 180 = true then some ((m_evr u) (Int32.toNatClampNeg (((3 : Int32) * ((((m_evs u) - (1 : Int32)) - l1) - (((m_evs u) - (1 : Int32)) - l1) / (60 : Int32) * (60 : Int32))) + l2))) else none))))))
set_option maxHeartbeats 4000000 in
set_option maxRecDepth 100000 in
theorem k_X7_event (l : Launch) (D : va_G) (ad : Nat → Nat) (cI cJ : ClassId) (u : MS) (l1 : Int32) (l2 : Int32) (r1 : Int32) (hG : f_X7_event l1 l2 u = some r1) : Met l yX7_event wsX7_event ({ frames := 1, cells := 0, slots := 0, locals := 25 } : Room) (va_Pc [.ref (ad 0), .int l1, .int l2] (MB D ad cI cJ u)) (va_Qi (S := MS) (fun r u2 => r = r1 ∧ u2 = u) (MB D ad cI cJ) (AM ad)) 0 0 (AM ad) := by
  refine Met.ofW (cc := cX7_event) (maxL := 3) (ret := (some .int)) (by decide) rfl ?_
  intro p e s m args below meth c s₁ B hml hv
  obtain ⟨rfl, hP0, hK, hD0⟩ := hv
  have C : CallFix p m c cX7_event 3 s _ wsX7_event RX7 := ⟨B.exec, B.bytes, hml, findClass_of_methodNamed B.named, atoms_spec (ws := wsX7_event) B.pre⟩
  have hr := B.returns
  have hlocks := B.notSynchronized
  have hw : MW D ad cI cJ s.heap s.heap [] u := ⟨hP0, hD0, va_S.rf⟩
  refine en_W (Nat.le_of_ble_eq_true rfl) (fun ls hl => ?_)
  have hl : lv_has ls 3 [(0, .ref (ad 0)), (1, .int l1), (2, .int l2)] := hl
  unfold f_X7_event at hG
  refine lv_iload_n C.1 C.2.1 dX7_event_0 rfl (lv_at hl 1 rfl) ?_
  refine lv_i2l C.1 C.2.1 dX7_event_1 rfl ?_
  refine lv_lconst (v := 0) C.1 C.2.1 dX7_event_2 (by decide) ?_
  refine lv_aload_n C.1 C.2.1 dX7_event_3 rfl (lv_at hl 0 rfl) ?_
  refine mg_0_17 C hK hw jX7_event_7 (List.mem_of_getElem? (i := 1) rfl) dX7_event_4 ?_
  refine lv_bipush (v := 60) C.1 C.2.1 dX7_event_7 (by decide) ?_
  refine lv_icmp_ge (tgt := 19) C.1 C.2.1 dX7_event_9 (by decide) (fun (h_1 : (60 : Int32) ≤ (m_evs u)) => ?_) (fun (h_1 : ¬ (60 : Int32) ≤ (m_evs u)) => ?_)
  · replace hG := ip h_1 hG
    refine lv_bipush (v := 60) C.1 C.2.1 dX7_event_19 (by decide) ?_
    refine lv_iconst (v := 1) C.1 C.2.1 dX7_event_21 (by decide) ?_
    refine lv_isub C.1 C.2.1 dX7_event_22 ?_
    refine lv_i2l C.1 C.2.1 dX7_event_23 rfl ?_
    obtain ⟨q_2, hc_2, hG⟩ := ob hG
    try dsimp only at hG
    refine mcSi (As := [.long (Int32.toInt64 l1), .long (0 : Int64), .long (Int32.toInt64 ((60 : Int32) - (1 : Int32)))]) (rest := []) C hK hw (k_X7_in l D ad cI cJ u (Int32.toInt64 l1) (0 : Int64) (Int32.toInt64 ((60 : Int32) - (1 : Int32))) q_2 hc_2) (va_cwS 3 C.2.2.2.2 gX7_event_X7_in rfl rfl rfl (by decide +kernel) ⟨Nat.le_of_ble_eq_true rfl, Nat.le_of_ble_eq_true rfl⟩) rfl hl.1 rfl (Nat.le_of_ble_eq_true rfl) dX7_event_24 (fun H locs hw => ?_)
    refine lv_if_eq (tgt := 42) C.1 C.2.1 dX7_event_27 (by decide) (fun (h_3 : q_2 = (0 : Int32)) => ?_) (fun (h_3 : ¬ q_2 = (0 : Int32)) => ?_)
    · replace hG := ip h_3 hG
      refine lv_iconst (v := -1) C.1 C.2.1 dX7_event_42 (by decide) ?_
      exact mret_i C hlocks hK hw hr (ret1 hG) dX7_event_43
    · replace hG := inn h_3 hG
      refine lv_iload_n C.1 C.2.1 dX7_event_30 rfl (lv_at hl 2 rfl) ?_
      refine lv_i2l C.1 C.2.1 dX7_event_31 rfl ?_
      refine lv_lconst (v := 0) C.1 C.2.1 dX7_event_32 (by decide) ?_
      refine lv_ldc2 (v := 2) C.1 C.2.1 C.2.2.2.1 (C.2.2.2.2 _ (List.mem_of_getElem? (i := 2) rfl)) dX7_event_33 ?_
      obtain ⟨q_4, hc_4, hG⟩ := ob hG
      try dsimp only at hG
      refine mcSi (As := [.long (Int32.toInt64 l2), .long (0 : Int64), .long (2 : Int64)]) (rest := []) C hK hw (k_X7_in l D ad cI cJ u (Int32.toInt64 l2) (0 : Int64) (2 : Int64) q_4 hc_4) (va_cwS 3 C.2.2.2.2 gX7_event_X7_in rfl rfl rfl (by decide +kernel) ⟨Nat.le_of_ble_eq_true rfl, Nat.le_of_ble_eq_true rfl⟩) rfl hl.1 rfl (Nat.le_of_ble_eq_true rfl) dX7_event_36 (fun H locs hw => ?_)
      refine lv_if_ne (tgt := 44) C.1 C.2.1 dX7_event_39 (by decide) (fun (h_5 : ¬ q_4 = (0 : Int32)) => ?_) (fun (h_5 : q_4 = (0 : Int32)) => ?_)
      · replace hG := inn h_5 hG
        refine lv_aload_n C.1 C.2.1 dX7_event_44 rfl (lv_at hl 0 rfl) ?_
        refine mg_0_18 C hK hw jX7_event_7 (List.mem_of_getElem? (i := 3) rfl) dX7_event_45 ?_
        refine lv_iconst (v := 3) C.1 C.2.1 dX7_event_48 (by decide) ?_
        refine lv_aload_n C.1 C.2.1 dX7_event_49 rfl (lv_at hl 0 rfl) ?_
        refine mg_0_17 C hK hw jX7_event_7 (List.mem_of_getElem? (i := 1) rfl) dX7_event_50 ?_
        refine lv_iconst (v := 1) C.1 C.2.1 dX7_event_53 (by decide) ?_
        refine lv_isub C.1 C.2.1 dX7_event_54 ?_
        refine lv_iload_n C.1 C.2.1 dX7_event_55 rfl (lv_at hl 1 rfl) ?_
        refine lv_isub C.1 C.2.1 dX7_event_56 ?_
        refine lv_bipush (v := 60) C.1 C.2.1 dX7_event_57 (by decide) ?_
        refine lv_irem C.1 C.2.1 dX7_event_59 (by decide) ?_
        refine lv_imul C.1 C.2.1 dX7_event_60 ?_
        refine lv_iload_n C.1 C.2.1 dX7_event_61 rfl (lv_at hl 2 rfl) ?_
        refine lv_iadd C.1 C.2.1 dX7_event_62 ?_
        obtain ⟨h_6, hG⟩ := og hG
        refine ml_9 C hK hw h_6 dX7_event_63 ?_
        exact mret_i C hlocks hK hw hr (ret1 hG) dX7_event_64
      · replace hG := ip h_5 hG
        refine lv_iconst (v := -1) C.1 C.2.1 dX7_event_42 (by decide) ?_
        exact mret_i C hlocks hK hw hr (ret1 hG) dX7_event_43
  · replace hG := inn h_1 hG
    refine lv_aload_n C.1 C.2.1 dX7_event_12 rfl (lv_at hl 0 rfl) ?_
    refine mg_0_17 C hK hw jX7_event_7 (List.mem_of_getElem? (i := 1) rfl) dX7_event_13 ?_
    refine lv_goto (tgt := 21) C.1 C.2.1 dX7_event_16 (by decide) ?_
    refine lv_iconst (v := 1) C.1 C.2.1 dX7_event_21 (by decide) ?_
    refine lv_isub C.1 C.2.1 dX7_event_22 ?_
    refine lv_i2l C.1 C.2.1 dX7_event_23 rfl ?_
    obtain ⟨q_7, hc_7, hG⟩ := ob hG
    try dsimp only at hG
    refine mcSi (As := [.long (Int32.toInt64 l1), .long (0 : Int64), .long (Int32.toInt64 ((m_evs u) - (1 : Int32)))]) (rest := []) C hK hw (k_X7_in l D ad cI cJ u (Int32.toInt64 l1) (0 : Int64) (Int32.toInt64 ((m_evs u) - (1 : Int32))) q_7 hc_7) (va_cwS 3 C.2.2.2.2 gX7_event_X7_in rfl rfl rfl (by decide +kernel) ⟨Nat.le_of_ble_eq_true rfl, Nat.le_of_ble_eq_true rfl⟩) rfl hl.1 rfl (Nat.le_of_ble_eq_true rfl) dX7_event_24 (fun H locs hw => ?_)
    refine lv_if_eq (tgt := 42) C.1 C.2.1 dX7_event_27 (by decide) (fun (h_8 : q_7 = (0 : Int32)) => ?_) (fun (h_8 : ¬ q_7 = (0 : Int32)) => ?_)
    · replace hG := ip h_8 hG
      refine lv_iconst (v := -1) C.1 C.2.1 dX7_event_42 (by decide) ?_
      exact mret_i C hlocks hK hw hr (ret1 hG) dX7_event_43
    · replace hG := inn h_8 hG
      refine lv_iload_n C.1 C.2.1 dX7_event_30 rfl (lv_at hl 2 rfl) ?_
      refine lv_i2l C.1 C.2.1 dX7_event_31 rfl ?_
      refine lv_lconst (v := 0) C.1 C.2.1 dX7_event_32 (by decide) ?_
      refine lv_ldc2 (v := 2) C.1 C.2.1 C.2.2.2.1 (C.2.2.2.2 _ (List.mem_of_getElem? (i := 2) rfl)) dX7_event_33 ?_
      obtain ⟨q_9, hc_9, hG⟩ := ob hG
      try dsimp only at hG
      refine mcSi (As := [.long (Int32.toInt64 l2), .long (0 : Int64), .long (2 : Int64)]) (rest := []) C hK hw (k_X7_in l D ad cI cJ u (Int32.toInt64 l2) (0 : Int64) (2 : Int64) q_9 hc_9) (va_cwS 3 C.2.2.2.2 gX7_event_X7_in rfl rfl rfl (by decide +kernel) ⟨Nat.le_of_ble_eq_true rfl, Nat.le_of_ble_eq_true rfl⟩) rfl hl.1 rfl (Nat.le_of_ble_eq_true rfl) dX7_event_36 (fun H locs hw => ?_)
      refine lv_if_ne (tgt := 44) C.1 C.2.1 dX7_event_39 (by decide) (fun (h_10 : ¬ q_9 = (0 : Int32)) => ?_) (fun (h_10 : q_9 = (0 : Int32)) => ?_)
      · replace hG := inn h_10 hG
        refine lv_aload_n C.1 C.2.1 dX7_event_44 rfl (lv_at hl 0 rfl) ?_
        refine mg_0_18 C hK hw jX7_event_7 (List.mem_of_getElem? (i := 3) rfl) dX7_event_45 ?_
        refine lv_iconst (v := 3) C.1 C.2.1 dX7_event_48 (by decide) ?_
        refine lv_aload_n C.1 C.2.1 dX7_event_49 rfl (lv_at hl 0 rfl) ?_
        refine mg_0_17 C hK hw jX7_event_7 (List.mem_of_getElem? (i := 1) rfl) dX7_event_50 ?_
        refine lv_iconst (v := 1) C.1 C.2.1 dX7_event_53 (by decide) ?_
        refine lv_isub C.1 C.2.1 dX7_event_54 ?_
        refine lv_iload_n C.1 C.2.1 dX7_event_55 rfl (lv_at hl 1 rfl) ?_
        refine lv_isub C.1 C.2.1 dX7_event_56 ?_
        refine lv_bipush (v := 60) C.1 C.2.1 dX7_event_57 (by decide) ?_
        refine lv_irem C.1 C.2.1 dX7_event_59 (by decide) ?_
        refine lv_imul C.1 C.2.1 dX7_event_60 ?_
        refine lv_iload_n C.1 C.2.1 dX7_event_61 rfl (lv_at hl 2 rfl) ?_
        refine lv_iadd C.1 C.2.1 dX7_event_62 ?_
        obtain ⟨h_11, hG⟩ := og hG
        refine ml_9 C hK hw h_11 dX7_event_63 ?_
        exact mret_i C hlocks hK hw hr (ret1 hG) dX7_event_64
      · replace hG := ip h_10 hG
        refine lv_iconst (v := -1) C.1 C.2.1 dX7_event_42 (by decide) ?_
        exact mret_i C hlocks hK hw hr (ret1 hG) dX7_event_43
theorem jX7_paid_7 : ∀ w ∈ wsX70, w ∈ wsX7_paid := by decide +kernel
def f_X7_paid (u : MS) : Option Int64 := some (m_pai u)
set_option maxHeartbeats 4000000 in
set_option maxRecDepth 100000 in
theorem k_X7_paid (l : Launch) (D : va_G) (ad : Nat → Nat) (cI cJ : ClassId) (u : MS) (r1 : Int64) (hG : f_X7_paid u = some r1) : Met l yX7_paid wsX7_paid ({ frames := 0, cells := 0, slots := 0, locals := 0 } : Room) (va_Pc [.ref (ad 0)] (MB D ad cI cJ u)) (va_Ql (S := MS) (fun r u2 => r = r1 ∧ u2 = u) (MB D ad cI cJ) (AM ad)) 0 0 (AM ad) := by
  refine Met.ofW (cc := cX7_paid) (maxL := 1) (ret := (some .long)) (by decide) rfl ?_
  intro p e s m args below meth c s₁ B hml hv
  obtain ⟨rfl, hP0, hK, hD0⟩ := hv
  have C : CallFix p m c cX7_paid 1 s _ wsX7_paid RX7 := ⟨B.exec, B.bytes, hml, findClass_of_methodNamed B.named, atoms_spec (ws := wsX7_paid) B.pre⟩
  have hr := B.returns
  have hlocks := B.notSynchronized
  have hw : MW D ad cI cJ s.heap s.heap [] u := ⟨hP0, hD0, va_S.rf⟩
  refine en_W (Nat.le_of_ble_eq_true rfl) (fun ls hl => ?_)
  have hl : lv_has ls 1 [(0, .ref (ad 0))] := hl
  unfold f_X7_paid at hG
  refine lv_aload_n C.1 C.2.1 dX7_paid_0 rfl (lv_at hl 0 rfl) ?_
  refine mg_0_16 C hK hw jX7_paid_7 (List.mem_of_getElem? (i := 1) rfl) dX7_paid_1 ?_
  exact mret_l C hlocks hK hw hr (ret1 hG) dX7_paid_4
theorem jX7_told__7 : ∀ w ∈ wsX70, w ∈ wsX7_told_ := by decide +kernel
def f_X7_told_ (l1 : Int32) (u : MS) : Option Int32 := (if l1 = (0 : Int32) then some (m_cnt u) else (if l1 = (1 : Int32) then some (m_sgc u) else (if l1 = (2 : Int32) then some (m_wts u) else (if l1 = (3 : Int32) then some (m_tik u) else (if l1 = (4 : Int32) then some (m_evs u) else (if l1 = (5 : Int32) then some (m_hgt u) else some (-1 : Int32)))))))
set_option maxHeartbeats 4000000 in
set_option maxRecDepth 100000 in
theorem k_X7_told_ (l : Launch) (D : va_G) (ad : Nat → Nat) (cI cJ : ClassId) (u : MS) (l1 : Int32) (r1 : Int32) (hG : f_X7_told_ l1 u = some r1) : Met l yX7_told_ wsX7_told_ ({ frames := 0, cells := 0, slots := 0, locals := 0 } : Room) (va_Pc [.ref (ad 0), .int l1] (MB D ad cI cJ u)) (va_Qi (S := MS) (fun r u2 => r = r1 ∧ u2 = u) (MB D ad cI cJ) (AM ad)) 0 0 (AM ad) := by
  refine Met.ofW (cc := cX7_told_) (maxL := 2) (ret := (some .int)) (by decide) rfl ?_
  intro p e s m args below meth c s₁ B hml hv
  obtain ⟨rfl, hP0, hK, hD0⟩ := hv
  have C : CallFix p m c cX7_told_ 2 s _ wsX7_told_ RX7 := ⟨B.exec, B.bytes, hml, findClass_of_methodNamed B.named, atoms_spec (ws := wsX7_told_) B.pre⟩
  have hr := B.returns
  have hlocks := B.notSynchronized
  have hw : MW D ad cI cJ s.heap s.heap [] u := ⟨hP0, hD0, va_S.rf⟩
  refine en_W (Nat.le_of_ble_eq_true rfl) (fun ls hl => ?_)
  have hl : lv_has ls 2 [(0, .ref (ad 0)), (1, .int l1)] := hl
  unfold f_X7_told_ at hG
  refine lv_iload_n C.1 C.2.1 dX7_told__0 rfl (lv_at hl 1 rfl) ?_
  by_cases h_1 : l1 = (0 : Int32)
  · replace hG := ip h_1 hG
    refine lv_tableIn (off := 39) (tgt := 40) C.1 C.2.1 dX7_told__1 (by rw [h_1]; decide) (by rw [h_1]; decide) (by rw [h_1]; rfl) (by decide) ?_
    refine lv_aload_n C.1 C.2.1 dX7_told__40 rfl (lv_at hl 0 rfl) ?_
    refine mg_0_0 C hK hw jX7_told__7 (List.mem_of_getElem? (i := 1) rfl) dX7_told__41 ?_
    exact mret_i C hlocks hK hw hr (ret1 hG) dX7_told__44
  replace hG := inn h_1 hG
  by_cases h_2 : l1 = (1 : Int32)
  · replace hG := ip h_2 hG
    refine lv_tableIn (off := 44) (tgt := 45) C.1 C.2.1 dX7_told__1 (by rw [h_2]; decide) (by rw [h_2]; decide) (by rw [h_2]; rfl) (by decide) ?_
    refine lv_aload_n C.1 C.2.1 dX7_told__45 rfl (lv_at hl 0 rfl) ?_
    refine mg_0_5 C hK hw jX7_told__7 (List.mem_of_getElem? (i := 2) rfl) dX7_told__46 ?_
    exact mret_i C hlocks hK hw hr (ret1 hG) dX7_told__49
  replace hG := inn h_2 hG
  by_cases h_3 : l1 = (2 : Int32)
  · replace hG := ip h_3 hG
    refine lv_tableIn (off := 49) (tgt := 50) C.1 C.2.1 dX7_told__1 (by rw [h_3]; decide) (by rw [h_3]; decide) (by rw [h_3]; rfl) (by decide) ?_
    refine lv_aload_n C.1 C.2.1 dX7_told__50 rfl (lv_at hl 0 rfl) ?_
    refine mg_0_12 C hK hw jX7_told__7 (List.mem_of_getElem? (i := 3) rfl) dX7_told__51 ?_
    exact mret_i C hlocks hK hw hr (ret1 hG) dX7_told__54
  replace hG := inn h_3 hG
  by_cases h_4 : l1 = (3 : Int32)
  · replace hG := ip h_4 hG
    refine lv_tableIn (off := 54) (tgt := 55) C.1 C.2.1 dX7_told__1 (by rw [h_4]; decide) (by rw [h_4]; decide) (by rw [h_4]; rfl) (by decide) ?_
    refine lv_aload_n C.1 C.2.1 dX7_told__55 rfl (lv_at hl 0 rfl) ?_
    refine mg_0_13 C hK hw jX7_told__7 (List.mem_of_getElem? (i := 4) rfl) dX7_told__56 ?_
    exact mret_i C hlocks hK hw hr (ret1 hG) dX7_told__59
  replace hG := inn h_4 hG
  by_cases h_5 : l1 = (4 : Int32)
  · replace hG := ip h_5 hG
    refine lv_tableIn (off := 59) (tgt := 60) C.1 C.2.1 dX7_told__1 (by rw [h_5]; decide) (by rw [h_5]; decide) (by rw [h_5]; rfl) (by decide) ?_
    refine lv_aload_n C.1 C.2.1 dX7_told__60 rfl (lv_at hl 0 rfl) ?_
    refine mg_0_17 C hK hw jX7_told__7 (List.mem_of_getElem? (i := 5) rfl) dX7_told__61 ?_
    exact mret_i C hlocks hK hw hr (ret1 hG) dX7_told__64
  replace hG := inn h_5 hG
  by_cases h_6 : l1 = (5 : Int32)
  · replace hG := ip h_6 hG
    refine lv_tableIn (off := 64) (tgt := 65) C.1 C.2.1 dX7_told__1 (by rw [h_6]; decide) (by rw [h_6]; decide) (by rw [h_6]; rfl) (by decide) ?_
    refine lv_aload_n C.1 C.2.1 dX7_told__65 rfl (lv_at hl 0 rfl) ?_
    refine mg_0_15 C hK hw jX7_told__7 (List.mem_of_getElem? (i := 6) rfl) dX7_told__66 ?_
    exact mret_i C hlocks hK hw hr (ret1 hG) dX7_told__69
  replace hG := inn h_6 hG
  refine lv_tableOut (tgt := 70) C.1 C.2.1 dX7_told__1 (by have z0 := lv_neT (a := 0) h_1 (by decide); have z1 := lv_neT (a := 1) h_2 (by decide); have z2 := lv_neT (a := 2) h_3 (by decide); have z3 := lv_neT (a := 3) h_4 (by decide); have z4 := lv_neT (a := 4) h_5 (by decide); have z5 := lv_neT (a := 5) h_6 (by decide); omega) (by decide) ?_
  refine lv_iconst (v := -1) C.1 C.2.1 dX7_told__70 (by decide) ?_
  exact mret_i C hlocks hK hw hr (ret1 hG) dX7_told__71
