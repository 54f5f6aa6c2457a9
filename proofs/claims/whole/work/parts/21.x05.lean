def f_J6_bitCount_0f7a4 (l0 : Int32) : Option Int32 := some ((((((((l0 - ((Int32.toUInt32 l0 >>> (Int32.toUInt32 (1 : Int32) &&& Int32.toUInt32 31)).toInt32 &&& (1431655765 : Int32))) &&& (858993459 : Int32)) + ((Int32.toUInt32 (l0 - ((Int32.toUInt32 l0 >>> (Int32.toUInt32 (1 : Int32) &&& Int32.toUInt32 31)).toInt32 &&& (1431655765 : Int32))) >>> (Int32.toUInt32 (2 : Int32) &&& Int32.toUInt32 31)).toInt32 &&& (858993459 : Int32))) + (Int32.toUInt32 (((l0 - ((Int32.toUInt32 l0 >>> (Int32.toUInt32 (1 : Int32) &&& Int32.toUInt32 31)).toInt32 &&& (1431655765 : Int32))) &&& (858993459 : Int32)) + ((Int32.toUInt32 (l0 - ((Int32.toUInt32 l0 >>> (Int32.toUInt32 (1 : Int32) &&& Int32.toUInt32 31)).toInt32 &&& (1431655765 : Int32))) >>> (Int32.toUInt32 (2 : Int32) &&& Int32.toUInt32 31)).toInt32 &&& (858993459 : Int32))) >>> (Int32.toUInt32 (4 : Int32) &&& Int32.toUInt32 31)).toInt32) &&& (252645135 : Int32)) + (Int32.toUInt32 (((((l0 - ((Int32.toUInt32 l0 >>> (Int32.toUInt32 (1 : Int32) &&& Int32.toUInt32 31)).toInt32 &&& (1431655765 : Int32))) &&& (858993459 : Int32)) + ((Int32.toUInt32 (l0 - ((Int32.toUInt32 l0 >>> (Int32.toUInt32 (1 : Int32) &&& Int32.toUInt32 31)).toInt32 &&& (1431655765 : Int32))) >>> (Int32.toUInt32 (2 : Int32) &&& Int32.toUInt32 31)).toInt32 &&& (858993459 : Int32))) + (Int32.toUInt32 (((l0 - ((Int32.toUInt32 l0 >>> (Int32.toUInt32 (1 : Int32) &&& Int32.toUInt32 31)).toInt32 &&& (1431655765 : Int32))) &&& (858993459 : Int32)) + ((Int32.toUInt32 (l0 - ((Int32.toUInt32 l0 >>> (Int32.toUInt32 (1 : Int32) &&& Int32.toUInt32 31)).toInt32 &&& (1431655765 : Int32))) >>> (Int32.toUInt32 (2 : Int32) &&& Int32.toUInt32 31)).toInt32 &&& (858993459 : Int32))) >>> (Int32.toUInt32 (4 : Int32) &&& Int32.toUInt32 31)).toInt32) &&& (252645135 : Int32)) >>> (Int32.toUInt32 (8 : Int32) &&& Int32.toUInt32 31)).toInt32) + (Int32.toUInt32 ((((((l0 - ((Int32.toUInt32 l0 >>> (Int32.toUInt32 (1 : Int32) &&& Int32.toUInt32 31)).toInt32 &&& (1431655765 : Int32))) &&& (858993459 : Int32)) + ((Int32.toUInt32 (l0 - ((Int32.toUInt32 l0 >>> (Int32.toUInt32 (1 : Int32) &&& Int32.toUInt32 31)).toInt32 &&& (1431655765 : Int32))) >>> (Int32.toUInt32 (2 : Int32) &&& Int32.toUInt32 31)).toInt32 &&& (858993459 : Int32))) + (Int32.toUInt32 (((l0 - ((Int32.toUInt32 l0 >>> (Int32.toUInt32 (1 : Int32) &&& Int32.toUInt32 31)).toInt32 &&& (1431655765 : Int32))) &&& (858993459 : Int32)) + ((Int32.toUInt32 (l0 - ((Int32.toUInt32 l0 >>> (Int32.toUInt32 (1 : Int32) &&& Int32.toUInt32 31)).toInt32 &&& (1431655765 : Int32))) >>> (Int32.toUInt32 (2 : Int32) &&& Int32.toUInt32 31)).toInt32 &&& (858993459 : Int32))) >>> (Int32.toUInt32 (4 : Int32) &&& Int32.toUInt32 31)).toInt32) &&& (252645135 : Int32)) + (Int32.toUInt32 (((((l0 - ((Int32.toUInt32 l0 >>> (Int32.toUInt32 (1 : Int32) &&& Int32.toUInt32 31)).toInt32 &&& (1431655765 : Int32))) &&& (858993459 : Int32)) + ((Int32.toUInt32 (l0 - ((Int32.toUInt32 l0 >>> (Int32.toUInt32 (1 : Int32) &&& Int32.toUInt32 31)).toInt32 &&& (1431655765 : Int32))) >>> (Int32.toUInt32 (2 : Int32) &&& Int32.toUInt32 31)).toInt32 &&& (858993459 : Int32))) + (Int32.toUInt32 (((l0 - ((Int32.toUInt32 l0 >>> (Int32.toUInt32 (1 : Int32) &&& Int32.toUInt32 31)).toInt32 &&& (1431655765 : Int32))) &&& (858993459 : Int32)) + ((Int32.toUInt32 (l0 - ((Int32.toUInt32 l0 >>> (Int32.toUInt32 (1 : Int32) &&& Int32.toUInt32 31)).toInt32 &&& (1431655765 : Int32))) >>> (Int32.toUInt32 (2 : Int32) &&& Int32.toUInt32 31)).toInt32 &&& (858993459 : Int32))) >>> (Int32.toUInt32 (4 : Int32) &&& Int32.toUInt32 31)).toInt32) &&& (252645135 : Int32)) >>> (Int32.toUInt32 (8 : Int32) &&& Int32.toUInt32 31)).toInt32) >>> (Int32.toUInt32 (16 : Int32) &&& Int32.toUInt32 31)).toInt32) &&& (63 : Int32))
set_option maxHeartbeats 4000000 in
set_option maxRecDepth 100000 in
theorem k_J6_bitCount_0f7a4 (l : Launch) (D : va_G) (ad : Nat → Nat) (cI cJ cR : ClassId) (u : XS) (l0 : Int32) (r1 : Int32) (hG : f_J6_bitCount_0f7a4 l0 = some r1) : Met l yJ6_bitCount_0f7a4 wsJ6_bitCount_0f7a4 ({ frames := 0, cells := 0, slots := 0, locals := 0 } : Room) (va_Pc [.int l0] (XB D ad cI cJ cR u)) (va_Qi (S := XS) (fun r u2 => r = r1 ∧ u2 = u) (XB D ad cI cJ cR) (AX ad)) 0 0 (AX ad) := by
  refine Met.ofW (cc := cJ6_bitCount_0f7a4) (maxL := 1) (ret := (some .int)) (by decide) rfl ?_
  intro p e s m args below meth c s₁ B hml hv
  obtain ⟨rfl, hP0, hK, hD0⟩ := hv
  have C : CallFix p m c cJ6_bitCount_0f7a4 1 s _ wsJ6_bitCount_0f7a4 RJ6 := ⟨B.exec, B.bytes, hml, findClass_of_methodNamed B.named, atoms_spec (ws := wsJ6_bitCount_0f7a4) B.pre⟩
  have hr := B.returns
  have hlocks := B.notSynchronized
  have hw : XW D ad cI cJ cR s.heap s.heap [] u := ⟨hP0, hD0, va_S.rf⟩
  refine en_W (Nat.le_of_ble_eq_true rfl) (fun ls hl => ?_)
  have hl : lv_has ls 1 [(0, .int l0)] := hl
  unfold f_J6_bitCount_0f7a4 at hG
  refine lv_iload_n C.1 C.2.1 dJ6_bitCount_0f7a4_0 rfl (lv_at hl 0 rfl) ?_
  refine lv_iload_n C.1 C.2.1 dJ6_bitCount_0f7a4_1 rfl (lv_at hl 0 rfl) ?_
  refine lv_iconst (v := 1) C.1 C.2.1 dJ6_bitCount_0f7a4_2 (by decide) ?_
  refine lv_iushr C.1 C.2.1 dJ6_bitCount_0f7a4_3 rfl ?_
  refine lv_ldcw (v := 1431655765) C.1 C.2.1 C.2.2.2.1 (C.2.2.2.2 _ (List.mem_of_getElem? (i := 1) rfl)) dJ6_bitCount_0f7a4_4 ?_
  refine lv_iand C.1 C.2.1 dJ6_bitCount_0f7a4_7 ?_
  refine lv_isub C.1 C.2.1 dJ6_bitCount_0f7a4_8 ?_
  refine lv_istore_n (lv' := [(0, .int (l0 - ((Int32.toUInt32 l0 >>> (Int32.toUInt32 (1 : Int32) &&& Int32.toUInt32 31)).toInt32 &&& (1431655765 : Int32))))]) C.1 C.2.1 dJ6_bitCount_0f7a4_9 rfl hl (by decide) rfl (fun ls hl => ?_)
  refine lv_iload_n C.1 C.2.1 dJ6_bitCount_0f7a4_10 rfl (lv_at hl 0 rfl) ?_
  refine lv_ldcw (v := 858993459) C.1 C.2.1 C.2.2.2.1 (C.2.2.2.2 _ (List.mem_of_getElem? (i := 2) rfl)) dJ6_bitCount_0f7a4_11 ?_
  refine lv_iand C.1 C.2.1 dJ6_bitCount_0f7a4_14 ?_
  refine lv_iload_n C.1 C.2.1 dJ6_bitCount_0f7a4_15 rfl (lv_at hl 0 rfl) ?_
  refine lv_iconst (v := 2) C.1 C.2.1 dJ6_bitCount_0f7a4_16 (by decide) ?_
  refine lv_iushr C.1 C.2.1 dJ6_bitCount_0f7a4_17 rfl ?_
  refine lv_ldcw (v := 858993459) C.1 C.2.1 C.2.2.2.1 (C.2.2.2.2 _ (List.mem_of_getElem? (i := 2) rfl)) dJ6_bitCount_0f7a4_18 ?_
  refine lv_iand C.1 C.2.1 dJ6_bitCount_0f7a4_21 ?_
  refine lv_iadd C.1 C.2.1 dJ6_bitCount_0f7a4_22 ?_
  refine lv_istore_n (lv' := [(0, .int (((l0 - ((Int32.toUInt32 l0 >>> (Int32.toUInt32 (1 : Int32) &&& Int32.toUInt32 31)).toInt32 &&& (1431655765 : Int32))) &&& (858993459 : Int32)) + ((Int32.toUInt32 (l0 - ((Int32.toUInt32 l0 >>> (Int32.toUInt32 (1 : Int32) &&& Int32.toUInt32 31)).toInt32 &&& (1431655765 : Int32))) >>> (Int32.toUInt32 (2 : Int32) &&& Int32.toUInt32 31)).toInt32 &&& (858993459 : Int32))))]) C.1 C.2.1 dJ6_bitCount_0f7a4_23 rfl hl (by decide) rfl (fun ls hl => ?_)
  refine lv_iload_n C.1 C.2.1 dJ6_bitCount_0f7a4_24 rfl (lv_at hl 0 rfl) ?_
  refine lv_iload_n C.1 C.2.1 dJ6_bitCount_0f7a4_25 rfl (lv_at hl 0 rfl) ?_
  refine lv_iconst (v := 4) C.1 C.2.1 dJ6_bitCount_0f7a4_26 (by decide) ?_
  refine lv_iushr C.1 C.2.1 dJ6_bitCount_0f7a4_27 rfl ?_
  refine lv_iadd C.1 C.2.1 dJ6_bitCount_0f7a4_28 ?_
  refine lv_ldcw (v := 252645135) C.1 C.2.1 C.2.2.2.1 (C.2.2.2.2 _ (List.mem_of_getElem? (i := 3) rfl)) dJ6_bitCount_0f7a4_29 ?_
  refine lv_iand C.1 C.2.1 dJ6_bitCount_0f7a4_32 ?_
  refine lv_istore_n (lv' := [(0, .int (((((l0 - ((Int32.toUInt32 l0 >>> (Int32.toUInt32 (1 : Int32) &&& Int32.toUInt32 31)).toInt32 &&& (1431655765 : Int32))) &&& (858993459 : Int32)) + ((Int32.toUInt32 (l0 - ((Int32.toUInt32 l0 >>> (Int32.toUInt32 (1 : Int32) &&& Int32.toUInt32 31)).toInt32 &&& (1431655765 : Int32))) >>> (Int32.toUInt32 (2 : Int32) &&& Int32.toUInt32 31)).toInt32 &&& (858993459 : Int32))) + (Int32.toUInt32 (((l0 - ((Int32.toUInt32 l0 >>> (Int32.toUInt32 (1 : Int32) &&& Int32.toUInt32 31)).toInt32 &&& (1431655765 : Int32))) &&& (858993459 : Int32)) + ((Int32.toUInt32 (l0 - ((Int32.toUInt32 l0 >>> (Int32.toUInt32 (1 : Int32) &&& Int32.toUInt32 31)).toInt32 &&& (1431655765 : Int32))) >>> (Int32.toUInt32 (2 : Int32) &&& Int32.toUInt32 31)).toInt32 &&& (858993459 : Int32))) >>> (Int32.toUInt32 (4 : Int32) &&& Int32.toUInt32 31)).toInt32) &&& (252645135 : Int32)))]) C.1 C.2.1 dJ6_bitCount_0f7a4_33 rfl hl (by decide) rfl (fun ls hl => ?_)
  refine lv_iload_n C.1 C.2.1 dJ6_bitCount_0f7a4_34 rfl (lv_at hl 0 rfl) ?_
  refine lv_iload_n C.1 C.2.1 dJ6_bitCount_0f7a4_35 rfl (lv_at hl 0 rfl) ?_
  refine lv_bipush (v := 8) C.1 C.2.1 dJ6_bitCount_0f7a4_36 (by decide) ?_
  refine lv_iushr C.1 C.2.1 dJ6_bitCount_0f7a4_38 rfl ?_
  refine lv_iadd C.1 C.2.1 dJ6_bitCount_0f7a4_39 ?_
  refine lv_istore_n (lv' := [(0, .int ((((((l0 - ((Int32.toUInt32 l0 >>> (Int32.toUInt32 (1 : Int32) &&& Int32.toUInt32 31)).toInt32 &&& (1431655765 : Int32))) &&& (858993459 : Int32)) + ((Int32.toUInt32 (l0 - ((Int32.toUInt32 l0 >>> (Int32.toUInt32 (1 : Int32) &&& Int32.toUInt32 31)).toInt32 &&& (1431655765 : Int32))) >>> (Int32.toUInt32 (2 : Int32) &&& Int32.toUInt32 31)).toInt32 &&& (858993459 : Int32))) + (Int32.toUInt32 (((l0 - ((Int32.toUInt32 l0 >>> (Int32.toUInt32 (1 : Int32) &&& Int32.toUInt32 31)).toInt32 &&& (1431655765 : Int32))) &&& (858993459 : Int32)) + ((Int32.toUInt32 (l0 - ((Int32.toUInt32 l0 >>> (Int32.toUInt32 (1 : Int32) &&& Int32.toUInt32 31)).toInt32 &&& (1431655765 : Int32))) >>> (Int32.toUInt32 (2 : Int32) &&& Int32.toUInt32 31)).toInt32 &&& (858993459 : Int32))) >>> (Int32.toUInt32 (4 : Int32) &&& Int32.toUInt32 31)).toInt32) &&& (252645135 : Int32)) + (Int32.toUInt32 (((((l0 - ((Int32.toUInt32 l0 >>> (Int32.toUInt32 (1 : Int32) &&& Int32.toUInt32 31)).toInt32 &&& (1431655765 : Int32))) &&& (858993459 : Int32)) + ((Int32.toUInt32 (l0 - ((Int32.toUInt32 l0 >>> (Int32.toUInt32 (1 : Int32) &&& Int32.toUInt32 31)).toInt32 &&& (1431655765 : Int32))) >>> (Int32.toUInt32 (2 : Int32) &&& Int32.toUInt32 31)).toInt32 &&& (858993459 : Int32))) + (Int32.toUInt32 (((l0 - ((Int32.toUInt32 l0 >>> (Int32.toUInt32 (1 : Int32) &&& Int32.toUInt32 31)).toInt32 &&& (1431655765 : Int32))) &&& (858993459 : Int32)) + ((Int32.toUInt32 (l0 - ((Int32.toUInt32 l0 >>> (Int32.toUInt32 (1 : Int32) &&& Int32.toUInt32 31)).toInt32 &&& (1431655765 : Int32))) >>> (Int32.toUInt32 (2 : Int32) &&& Int32.toUInt32 31)).toInt32 &&& (858993459 : Int32))) >>> (Int32.toUInt32 (4 : Int32) &&& Int32.toUInt32 31)).toInt32) &&& (252645135 : Int32)) >>> (Int32.toUInt32 (8 : Int32) &&& Int32.toUInt32 31)).toInt32))]) C.1 C.2.1 dJ6_bitCount_0f7a4_40 rfl hl (by decide) rfl (fun ls hl => ?_)
  refine lv_iload_n C.1 C.2.1 dJ6_bitCount_0f7a4_41 rfl (lv_at hl 0 rfl) ?_
  refine lv_iload_n C.1 C.2.1 dJ6_bitCount_0f7a4_42 rfl (lv_at hl 0 rfl) ?_
  refine lv_bipush (v := 16) C.1 C.2.1 dJ6_bitCount_0f7a4_43 (by decide) ?_
  refine lv_iushr C.1 C.2.1 dJ6_bitCount_0f7a4_45 rfl ?_
  refine lv_iadd C.1 C.2.1 dJ6_bitCount_0f7a4_46 ?_
  refine lv_istore_n (lv' := [(0, .int (((((((l0 - ((Int32.toUInt32 l0 >>> (Int32.toUInt32 (1 : Int32) &&& Int32.toUInt32 31)).toInt32 &&& (1431655765 : Int32))) &&& (858993459 : Int32)) + ((Int32.toUInt32 (l0 - ((Int32.toUInt32 l0 >>> (Int32.toUInt32 (1 : Int32) &&& Int32.toUInt32 31)).toInt32 &&& (1431655765 : Int32))) >>> (Int32.toUInt32 (2 : Int32) &&& Int32.toUInt32 31)).toInt32 &&& (858993459 : Int32))) + (Int32.toUInt32 (((l0 - ((Int32.toUInt32 l0 >>> (Int32.toUInt32 (1 : Int32) &&& Int32.toUInt32 31)).toInt32 &&& (1431655765 : Int32))) &&& (858993459 : Int32)) + ((Int32.toUInt32 (l0 - ((Int32.toUInt32 l0 >>> (Int32.toUInt32 (1 : Int32) &&& Int32.toUInt32 31)).toInt32 &&& (1431655765 : Int32))) >>> (Int32.toUInt32 (2 : Int32) &&& Int32.toUInt32 31)).toInt32 &&& (858993459 : Int32))) >>> (Int32.toUInt32 (4 : Int32) &&& Int32.toUInt32 31)).toInt32) &&& (252645135 : Int32)) + (Int32.toUInt32 (((((l0 - ((Int32.toUInt32 l0 >>> (Int32.toUInt32 (1 : Int32) &&& Int32.toUInt32 31)).toInt32 &&& (1431655765 : Int32))) &&& (858993459 : Int32)) + ((Int32.toUInt32 (l0 - ((Int32.toUInt32 l0 >>> (Int32.toUInt32 (1 : Int32) &&& Int32.toUInt32 31)).toInt32 &&& (1431655765 : Int32))) >>> (Int32.toUInt32 (2 : Int32) &&& Int32.toUInt32 31)).toInt32 &&& (858993459 : Int32))) + (Int32.toUInt32 (((l0 - ((Int32.toUInt32 l0 >>> (Int32.toUInt32 (1 : Int32) &&& Int32.toUInt32 31)).toInt32 &&& (1431655765 : Int32))) &&& (858993459 : Int32)) + ((Int32.toUInt32 (l0 - ((Int32.toUInt32 l0 >>> (Int32.toUInt32 (1 : Int32) &&& Int32.toUInt32 31)).toInt32 &&& (1431655765 : Int32))) >>> (Int32.toUInt32 (2 : Int32) &&& Int32.toUInt32 31)).toInt32 &&& (858993459 : Int32))) >>> (Int32.toUInt32 (4 : Int32) &&& Int32.toUInt32 31)).toInt32) &&& (252645135 : Int32)) >>> (Int32.toUInt32 (8 : Int32) &&& Int32.toUInt32 31)).toInt32) + (Int32.toUInt32 ((((((l0 - ((Int32.toUInt32 l0 >>> (Int32.toUInt32 (1 : Int32) &&& Int32.toUInt32 31)).toInt32 &&& (1431655765 : Int32))) &&& (858993459 : Int32)) + ((Int32.toUInt32 (l0 - ((Int32.toUInt32 l0 >>> (Int32.toUInt32 (1 : Int32) &&& Int32.toUInt32 31)).toInt32 &&& (1431655765 : Int32))) >>> (Int32.toUInt32 (2 : Int32) &&& Int32.toUInt32 31)).toInt32 &&& (858993459 : Int32))) + (Int32.toUInt32 (((l0 - ((Int32.toUInt32 l0 >>> (Int32.toUInt32 (1 : Int32) &&& Int32.toUInt32 31)).toInt32 &&& (1431655765 : Int32))) &&& (858993459 : Int32)) + ((Int32.toUInt32 (l0 - ((Int32.toUInt32 l0 >>> (Int32.toUInt32 (1 : Int32) &&& Int32.toUInt32 31)).toInt32 &&& (1431655765 : Int32))) >>> (Int32.toUInt32 (2 : Int32) &&& Int32.toUInt32 31)).toInt32 &&& (858993459 : Int32))) >>> (Int32.toUInt32 (4 : Int32) &&& Int32.toUInt32 31)).toInt32) &&& (252645135 : Int32)) + (Int32.toUInt32 (((((l0 - ((Int32.toUInt32 l0 >>> (Int32.toUInt32 (1 : Int32) &&& Int32.toUInt32 31)).toInt32 &&& (1431655765 : Int32))) &&& (858993459 : Int32)) + ((Int32.toUInt32 (l0 - ((Int32.toUInt32 l0 >>> (Int32.toUInt32 (1 : Int32) &&& Int32.toUInt32 31)).toInt32 &&& (1431655765 : Int32))) >>> (Int32.toUInt32 (2 : Int32) &&& Int32.toUInt32 31)).toInt32 &&& (858993459 : Int32))) + (Int32.toUInt32 (((l0 - ((Int32.toUInt32 l0 >>> (Int32.toUInt32 (1 : Int32) &&& Int32.toUInt32 31)).toInt32 &&& (1431655765 : Int32))) &&& (858993459 : Int32)) + ((Int32.toUInt32 (l0 - ((Int32.toUInt32 l0 >>> (Int32.toUInt32 (1 : Int32) &&& Int32.toUInt32 31)).toInt32 &&& (1431655765 : Int32))) >>> (Int32.toUInt32 (2 : Int32) &&& Int32.toUInt32 31)).toInt32 &&& (858993459 : Int32))) >>> (Int32.toUInt32 (4 : Int32) &&& Int32.toUInt32 31)).toInt32) &&& (252645135 : Int32)) >>> (Int32.toUInt32 (8 : Int32) &&& Int32.toUInt32 31)).toInt32) >>> (Int32.toUInt32 (16 : Int32) &&& Int32.toUInt32 31)).toInt32))]) C.1 C.2.1 dJ6_bitCount_0f7a4_47 rfl hl (by decide) rfl (fun ls hl => ?_)
  refine lv_iload_n C.1 C.2.1 dJ6_bitCount_0f7a4_48 rfl (lv_at hl 0 rfl) ?_
  refine lv_bipush (v := 63) C.1 C.2.1 dJ6_bitCount_0f7a4_49 (by decide) ?_
  refine lv_iand C.1 C.2.1 dJ6_bitCount_0f7a4_51 ?_
  exact xret_i C hlocks hK hw hr (ret1 hG) dJ6_bitCount_0f7a4_52
theorem jX0_has_0 : ∀ w ∈ wsX00, w ∈ wsX0_has := by decide +kernel
def f_X0_has (l1 : Int32) (u : XS) : Option Int32 := (if l1 < (0 : Int32) then some (0 : Int32) else (if (x_cnt u) ≤ l1 then some (0 : Int32) else some (1 : Int32)))
set_option maxHeartbeats 4000000 in
set_option maxRecDepth 100000 in
theorem k_X0_has (l : Launch) (D : va_G) (ad : Nat → Nat) (cI cJ cR : ClassId) (u : XS) (l1 : Int32) (r1 : Int32) (hG : f_X0_has l1 u = some r1) : Met l yX0_has wsX0_has ({ frames := 0, cells := 0, slots := 0, locals := 0 } : Room) (va_Pc [.ref (ad 1), .int l1] (XB D ad cI cJ cR u)) (va_Qi (S := XS) (fun r u2 => r = r1 ∧ u2 = u) (XB D ad cI cJ cR) (AX ad)) 0 0 (AX ad) := by
  refine Met.ofW (cc := cX0_has) (maxL := 2) (ret := (some .boolean)) (by decide) rfl ?_
  intro p e s m args below meth c s₁ B hml hv
  obtain ⟨rfl, hP0, hK, hD0⟩ := hv
  have C : CallFix p m c cX0_has 2 s _ wsX0_has RX0 := ⟨B.exec, B.bytes, hml, findClass_of_methodNamed B.named, atoms_spec (ws := wsX0_has) B.pre⟩
  have hr := B.returns
  have hlocks := B.notSynchronized
  have hw : XW D ad cI cJ cR s.heap s.heap [] u := ⟨hP0, hD0, va_S.rf⟩
  refine en_W (Nat.le_of_ble_eq_true rfl) (fun ls hl => ?_)
  have hl : lv_has ls 2 [(0, .ref (ad 1)), (1, .int l1)] := hl
  unfold f_X0_has at hG
  refine lv_iload_n C.1 C.2.1 dX0_has_0 rfl (lv_at hl 1 rfl) ?_
  refine lv_if_lt (tgt := 16) C.1 C.2.1 dX0_has_1 (by decide) (fun (h_1 : l1 < (0 : Int32)) => ?_) (fun (h_1 : ¬ l1 < (0 : Int32)) => ?_)
  · replace hG := ip h_1 hG
    refine lv_iconst (v := 0) C.1 C.2.1 dX0_has_16 (by decide) ?_
    exact xret_z C hlocks hK hw hr rfl (ret1 hG) dX0_has_17
  · replace hG := inn h_1 hG
    refine lv_iload_n C.1 C.2.1 dX0_has_4 rfl (lv_at hl 1 rfl) ?_
    refine lv_aload_n C.1 C.2.1 dX0_has_5 rfl (lv_at hl 0 rfl) ?_
    refine xg_1_4 C hK hw jX0_has_0 (List.mem_of_getElem? (i := 1) rfl) dX0_has_6 ?_
    refine lv_icmp_ge (tgt := 16) C.1 C.2.1 dX0_has_9 (by decide) (fun (h_2 : (x_cnt u) ≤ l1) => ?_) (fun (h_2 : ¬ (x_cnt u) ≤ l1) => ?_)
    · replace hG := ip h_2 hG
      refine lv_iconst (v := 0) C.1 C.2.1 dX0_has_16 (by decide) ?_
      exact xret_z C hlocks hK hw hr rfl (ret1 hG) dX0_has_17
    · replace hG := inn h_2 hG
      refine lv_iconst (v := 1) C.1 C.2.1 dX0_has_12 (by decide) ?_
      refine lv_goto (tgt := 17) C.1 C.2.1 dX0_has_13 (by decide) ?_
      exact xret_z C hlocks hK hw hr rfl (ret1 hG) dX0_has_17
theorem jX0_setLock_0 : ∀ w ∈ wsX00, w ∈ wsX0_setLock := by decide +kernel
def f_X0_setLock (l1 : Int32) (l2 : Int32) (l3 : Int32) (u : XS) : Option XS := (if inb l1 12 = true then (if inb l1 12 = true then some (xs_thr (xs_kys u (upd (x_kys u) (Int32.toNatClampNeg l1) l2)) (upd (x_thr u) (Int32.toNatClampNeg l1) l3)) else none) else none)
set_option maxHeartbeats 4000000 in
set_option maxRecDepth 100000 in
theorem k_X0_setLock (l : Launch) (D : va_G) (ad : Nat → Nat) (cI cJ cR : ClassId) (u : XS) (l1 : Int32) (l2 : Int32) (l3 : Int32) (u1 : XS) (hG : f_X0_setLock l1 l2 l3 u = some u1) : Met l yX0_setLock wsX0_setLock ({ frames := 0, cells := 0, slots := 0, locals := 0 } : Room) (va_Pc [.ref (ad 1), .int l1, .int l2, .int l3] (XB D ad cI cJ cR u)) (va_Qv (S := XS) (fun u2 => u2 = u1) (XB D ad cI cJ cR) (AX ad)) 0 0 (AX ad) := by
  refine Met.ofW (cc := cX0_setLock) (maxL := 4) (ret := none) (by decide) rfl ?_
  intro p e s m args below meth c s₁ B hml hv
  obtain ⟨rfl, hP0, hK, hD0⟩ := hv
  have C : CallFix p m c cX0_setLock 4 s _ wsX0_setLock RX0 := ⟨B.exec, B.bytes, hml, findClass_of_methodNamed B.named, atoms_spec (ws := wsX0_setLock) B.pre⟩
  have hr := B.returns
  have hlocks := B.notSynchronized
  have hw : XW D ad cI cJ cR s.heap s.heap [] u := ⟨hP0, hD0, va_S.rf⟩
  refine en_W (Nat.le_of_ble_eq_true rfl) (fun ls hl => ?_)
  have hl : lv_has ls 4 [(0, .ref (ad 1)), (1, .int l1), (2, .int l2), (3, .int l3)] := hl
  unfold f_X0_setLock at hG
  refine lv_aload_n C.1 C.2.1 dX0_setLock_0 rfl (lv_at hl 0 rfl) ?_
  refine xg_1_2 C hK hw jX0_setLock_0 (List.mem_of_getElem? (i := 1) rfl) dX0_setLock_1 ?_
  refine lv_iload_n C.1 C.2.1 dX0_setLock_4 rfl (lv_at hl 1 rfl) ?_
  refine lv_iload_n C.1 C.2.1 dX0_setLock_5 rfl (lv_at hl 2 rfl) ?_
  obtain ⟨h_1, hG⟩ := og hG
  refine xt_4 C hK hw h_1 dX0_setLock_6 (fun H locs hw => ?_)
  refine lv_aload_n C.1 C.2.1 dX0_setLock_7 rfl (lv_at hl 0 rfl) ?_
  refine xg_1_3 C hK hw jX0_setLock_0 (List.mem_of_getElem? (i := 2) rfl) dX0_setLock_8 ?_
  refine lv_iload_n C.1 C.2.1 dX0_setLock_11 rfl (lv_at hl 1 rfl) ?_
  refine lv_iload_n C.1 C.2.1 dX0_setLock_12 rfl (lv_at hl 3 rfl) ?_
  obtain ⟨h_2, hG⟩ := og hG
  refine xt_5 C hK hw h_2 dX0_setLock_13 (fun H locs hw => ?_)
  exact xret_v C hlocks hK hw hr (retv hG) dX0_setLock_14
theorem jX0_open_0 : ∀ w ∈ wsX00, w ∈ wsX0_open := by decide +kernel
def f_X0_open (l1 : Int64) (l3 : Int32) (l4 : Int32) (u : XS) : Option (Int32 × XS) := (if inb (x_cnt u) 12 = true then ((f_X0_setLock (x_cnt u) l3 l4 (xs_fun (xs_cnt u ((x_cnt u) + (1 : Int32))) (vp_updL (x_fun u) (Int32.toNatClampNeg (x_cnt u)) l1))).bind fun q_2 => some ((x_cnt u), q_2)) else none)
set_option maxHeartbeats 4000000 in
set_option maxRecDepth 100000 in
theorem k_X0_open (l : Launch) (D : va_G) (ad : Nat → Nat) (cI cJ cR : ClassId) (u : XS) (l1 : Int64) (l3 : Int32) (l4 : Int32) (r1 : Int32) (u1 : XS) (hG : f_X0_open l1 l3 l4 u = some (r1, u1)) : Met l yX0_open wsX0_open ({ frames := 1, cells := 0, slots := 0, locals := 23 } : Room) (va_Pc [.ref (ad 1), .long l1, .int l3, .int l4] (XB D ad cI cJ cR u)) (va_Qi (S := XS) (fun r u2 => r = r1 ∧ u2 = u1) (XB D ad cI cJ cR) (AX ad)) 0 0 (AX ad) := by
  refine Met.ofW (cc := cX0_open) (maxL := 6) (ret := (some .int)) (by decide) rfl ?_
  intro p e s m args below meth c s₁ B hml hv
  obtain ⟨rfl, hP0, hK, hD0⟩ := hv
  have C : CallFix p m c cX0_open 6 s _ wsX0_open RX0 := ⟨B.exec, B.bytes, hml, findClass_of_methodNamed B.named, atoms_spec (ws := wsX0_open) B.pre⟩
  have hr := B.returns
  have hlocks := B.notSynchronized
  have hw : XW D ad cI cJ cR s.heap s.heap [] u := ⟨hP0, hD0, va_S.rf⟩
  refine en_W (Nat.le_of_ble_eq_true rfl) (fun ls hl => ?_)
  have hl : lv_has ls 6 [(0, .ref (ad 1)), (1, .long l1), (3, .int l3), (4, .int l4)] := hl
  unfold f_X0_open at hG
  refine lv_aload_n C.1 C.2.1 dX0_open_0 rfl (lv_at hl 0 rfl) ?_
  refine xg_1_4 C hK hw jX0_open_0 (List.mem_of_getElem? (i := 1) rfl) dX0_open_1 ?_
  refine lv_istore (lv' := [(5, .int (x_cnt u)), (0, .ref (ad 1)), (1, .long l1), (3, .int l3), (4, .int l4)]) C.1 C.2.1 dX0_open_4 hl (by decide) rfl (fun ls hl => ?_)
  refine lv_aload_n C.1 C.2.1 dX0_open_6 rfl (lv_at hl 1 rfl) ?_
  refine lv_dup C.1 C.2.1 dX0_open_7 rfl ?_
  refine xg_1_4 C hK hw jX0_open_0 (List.mem_of_getElem? (i := 1) rfl) dX0_open_8 ?_
  refine lv_iconst (v := 1) C.1 C.2.1 dX0_open_11 (by decide) ?_
  refine lv_iadd C.1 C.2.1 dX0_open_12 ?_
  refine xp_1_4 C hK hw jX0_open_0 (List.mem_of_getElem? (i := 1) rfl) dX0_open_13 (fun H locs hw => ?_)
  refine lv_aload_n C.1 C.2.1 dX0_open_16 rfl (lv_at hl 1 rfl) ?_
  refine xg_1_0 C hK hw jX0_open_0 (List.mem_of_getElem? (i := 2) rfl) dX0_open_17 ?_
  refine lv_iload C.1 C.2.1 dX0_open_20 (lv_at hl 0 rfl) ?_
  refine lv_lload_n C.1 C.2.1 dX0_open_22 rfl (lv_at hl 2 rfl) ?_
  obtain ⟨h_1, hG⟩ := og hG
  refine xt_2 C hK hw h_1 dX0_open_23 (fun H locs hw => ?_)
  refine lv_aload_n C.1 C.2.1 dX0_open_24 rfl (lv_at hl 1 rfl) ?_
  refine lv_iload C.1 C.2.1 dX0_open_25 (lv_at hl 0 rfl) ?_
  refine lv_iload_n C.1 C.2.1 dX0_open_27 rfl (lv_at hl 3 rfl) ?_
  refine lv_iload C.1 C.2.1 dX0_open_28 (lv_at hl 4 rfl) ?_
  obtain ⟨q_2, hc_2, hG⟩ := ob hG
  try dsimp only at hG
  refine xcVv (As := [.int (x_cnt u), .int l3, .int l4]) (rest := []) C hK hw (k_X0_setLock l D ad cI cJ cR (xs_fun (xs_cnt u ((x_cnt u) + (1 : Int32))) (vp_updL (x_fun u) (Int32.toNatClampNeg (x_cnt u)) l1)) (x_cnt u) l3 l4 q_2 hc_2) (cwV 3 C.2.2.2.2 gX0_open_X0_setLock rfl rfl rfl (by decide +kernel) ⟨Nat.le_of_ble_eq_true rfl, Nat.le_of_ble_eq_true rfl⟩) (va_recv hK hw.1 (ci := 0) (q0 := 1) rfl rfl) rfl hl.1 rfl (Nat.le_of_ble_eq_true rfl) dX0_open_30 (fun H locs hw => ?_)
  refine lv_iload C.1 C.2.1 dX0_open_33 (lv_at hl 0 rfl) ?_
  exact xret_i C hlocks hK hw hr (ret2 hG) dX0_open_35
theorem jX0_isMet_0 : ∀ w ∈ wsX00, w ∈ wsX0_isMet := by decide +kernel
def f_X0_isMet (l1 : Int32) (l2 : Int32) (u : XS) : Option Int32 := (if inb l1 12 = true then ((f_J6_bitCount_0f7a4 (((x_kys u) (Int32.toNatClampNeg l1)) &&& l2)).bind fun q_2 => (if inb l1 12 = true then (if q_2 < ((x_thr u) (Int32.toNatClampNeg l1)) then some (0 : Int32) else some (1 : Int32)) else none)) else none)
set_option maxHeartbeats 4000000 in
set_option maxRecDepth 100000 in
theorem k_X0_isMet (l : Launch) (D : va_G) (ad : Nat → Nat) (cI cJ cR : ClassId) (u : XS) (l1 : Int32) (l2 : Int32) (r1 : Int32) (hG : f_X0_isMet l1 l2 u = some r1) : Met l yX0_isMet wsX0_isMet ({ frames := 1, cells := 0, slots := 0, locals := 20 } : Room) (va_Pc [.ref (ad 1), .int l1, .int l2] (XB D ad cI cJ cR u)) (va_Qi (S := XS) (fun r u2 => r = r1 ∧ u2 = u) (XB D ad cI cJ cR) (AX ad)) 0 0 (AX ad) := by
  refine Met.ofW (cc := cX0_isMet) (maxL := 3) (ret := (some .boolean)) (by decide) rfl ?_
  intro p e s m args below meth c s₁ B hml hv
  obtain ⟨rfl, hP0, hK, hD0⟩ := hv
  have C : CallFix p m c cX0_isMet 3 s _ wsX0_isMet RX0 := ⟨B.exec, B.bytes, hml, findClass_of_methodNamed B.named, atoms_spec (ws := wsX0_isMet) B.pre⟩
  have hr := B.returns
  have hlocks := B.notSynchronized
  have hw : XW D ad cI cJ cR s.heap s.heap [] u := ⟨hP0, hD0, va_S.rf⟩
  refine en_W (Nat.le_of_ble_eq_true rfl) (fun ls hl => ?_)
  have hl : lv_has ls 3 [(0, .ref (ad 1)), (1, .int l1), (2, .int l2)] := hl
  unfold f_X0_isMet at hG
  refine lv_aload_n C.1 C.2.1 dX0_isMet_0 rfl (lv_at hl 0 rfl) ?_
  refine xg_1_2 C hK hw jX0_isMet_0 (List.mem_of_getElem? (i := 1) rfl) dX0_isMet_1 ?_
  refine lv_iload_n C.1 C.2.1 dX0_isMet_4 rfl (lv_at hl 1 rfl) ?_
  obtain ⟨h_1, hG⟩ := og hG
  refine xl_4 C hK hw h_1 dX0_isMet_5 ?_
  refine lv_iload_n C.1 C.2.1 dX0_isMet_6 rfl (lv_at hl 2 rfl) ?_
  refine lv_iand C.1 C.2.1 dX0_isMet_7 ?_
  obtain ⟨q_2, hc_2, hG⟩ := ob hG
  try dsimp only at hG
  refine xcSi (As := [.int (((x_kys u) (Int32.toNatClampNeg l1)) &&& l2)]) (rest := []) C hK hw (k_J6_bitCount_0f7a4 l D ad cI cJ cR u (((x_kys u) (Int32.toNatClampNeg l1)) &&& l2) q_2 hc_2) (va_cwS 1 C.2.2.2.2 gX0_isMet_J6_bitCount_0f7a4 rfl rfl rfl (by decide +kernel) ⟨Nat.le_of_ble_eq_true rfl, Nat.le_of_ble_eq_true rfl⟩) rfl hl.1 rfl (Nat.le_of_ble_eq_true rfl) dX0_isMet_8 (fun H locs hw => ?_)
  refine lv_aload_n C.1 C.2.1 dX0_isMet_11 rfl (lv_at hl 0 rfl) ?_
  refine xg_1_3 C hK hw jX0_isMet_0 (List.mem_of_getElem? (i := 2) rfl) dX0_isMet_12 ?_
  refine lv_iload_n C.1 C.2.1 dX0_isMet_15 rfl (lv_at hl 1 rfl) ?_
  obtain ⟨h_3, hG⟩ := og hG
  refine xl_5 C hK hw h_3 dX0_isMet_16 ?_
  refine lv_icmp_lt (tgt := 24) C.1 C.2.1 dX0_isMet_17 (by decide) (fun (h_4 : q_2 < ((x_thr u) (Int32.toNatClampNeg l1))) => ?_) (fun (h_4 : ¬ q_2 < ((x_thr u) (Int32.toNatClampNeg l1))) => ?_)
  · replace hG := ip h_4 hG
    refine lv_iconst (v := 0) C.1 C.2.1 dX0_isMet_24 (by decide) ?_
    exact xret_z C hlocks hK hw hr rfl (ret1 hG) dX0_isMet_25
  · replace hG := inn h_4 hG
    refine lv_iconst (v := 1) C.1 C.2.1 dX0_isMet_20 (by decide) ?_
    refine lv_goto (tgt := 25) C.1 C.2.1 dX0_isMet_21 (by decide) ?_
    exact xret_z C hlocks hK hw hr rfl (ret1 hG) dX0_isMet_25
theorem jX0_move_0 : ∀ w ∈ wsX00, w ∈ wsX0_move := by decide +kernel
def f_X0_move (l1 : Int32) (l2 : Int32) (l3 : Int64) (u : XS) : Option XS := (if inb l1 12 = true then (if inb l1 12 = true then (if inb l2 12 = true then (if inb l2 12 = true then some (xs_fun u (vp_updL (vp_updL (x_fun u) (Int32.toNatClampNeg l1) (((x_fun u) (Int32.toNatClampNeg l1)) - l3)) (Int32.toNatClampNeg l2) (((vp_updL (x_fun u) (Int32.toNatClampNeg l1) (((x_fun u) (Int32.toNatClampNeg l1)) - l3)) (Int32.toNatClampNeg l2)) + l3))) else none) else none) else none) else none)
set_option maxHeartbeats 4000000 in
set_option maxRecDepth 100000 in
theorem k_X0_move (l : Launch) (D : va_G) (ad : Nat → Nat) (cI cJ cR : ClassId) (u : XS) (l1 : Int32) (l2 : Int32) (l3 : Int64) (u1 : XS) (hG : f_X0_move l1 l2 l3 u = some u1) : Met l yX0_move wsX0_move ({ frames := 0, cells := 0, slots := 0, locals := 0 } : Room) (va_Pc [.ref (ad 1), .int l1, .int l2, .long l3] (XB D ad cI cJ cR u)) (va_Qv (S := XS) (fun u2 => u2 = u1) (XB D ad cI cJ cR) (AX ad)) 0 0 (AX ad) := by
  refine Met.ofW (cc := cX0_move) (maxL := 5) (ret := none) (by decide) rfl ?_
  intro p e s m args below meth c s₁ B hml hv
  obtain ⟨rfl, hP0, hK, hD0⟩ := hv
  have C : CallFix p m c cX0_move 5 s _ wsX0_move RX0 := ⟨B.exec, B.bytes, hml, findClass_of_methodNamed B.named, atoms_spec (ws := wsX0_move) B.pre⟩
  have hr := B.returns
  have hlocks := B.notSynchronized
  have hw : XW D ad cI cJ cR s.heap s.heap [] u := ⟨hP0, hD0, va_S.rf⟩
  refine en_W (Nat.le_of_ble_eq_true rfl) (fun ls hl => ?_)
  have hl : lv_has ls 5 [(0, .ref (ad 1)), (1, .int l1), (2, .int l2), (3, .long l3)] := hl
  unfold f_X0_move at hG
  refine lv_aload_n C.1 C.2.1 dX0_move_0 rfl (lv_at hl 0 rfl) ?_
  refine xg_1_0 C hK hw jX0_move_0 (List.mem_of_getElem? (i := 1) rfl) dX0_move_1 ?_
  refine lv_iload_n C.1 C.2.1 dX0_move_4 rfl (lv_at hl 1 rfl) ?_
  refine lv_dup2_11 C.1 C.2.1 dX0_move_5 rfl rfl ?_
  obtain ⟨h_1, hG⟩ := og hG
  refine xl_2 C hK hw h_1 dX0_move_6 ?_
  refine lv_lload_n C.1 C.2.1 dX0_move_7 rfl (lv_at hl 3 rfl) ?_
  refine lv_lsub C.1 C.2.1 dX0_move_8 ?_
  obtain ⟨h_2, hG⟩ := og hG
  refine xt_2 C hK hw h_2 dX0_move_9 (fun H locs hw => ?_)
  refine lv_aload_n C.1 C.2.1 dX0_move_10 rfl (lv_at hl 0 rfl) ?_
  refine xg_1_0 C hK hw jX0_move_0 (List.mem_of_getElem? (i := 1) rfl) dX0_move_11 ?_
  refine lv_iload_n C.1 C.2.1 dX0_move_14 rfl (lv_at hl 2 rfl) ?_
  refine lv_dup2_11 C.1 C.2.1 dX0_move_15 rfl rfl ?_
  obtain ⟨h_3, hG⟩ := og hG
  refine xl_2 C hK hw h_3 dX0_move_16 ?_
  refine lv_lload_n C.1 C.2.1 dX0_move_17 rfl (lv_at hl 3 rfl) ?_
  refine lv_ladd C.1 C.2.1 dX0_move_18 ?_
  obtain ⟨h_4, hG⟩ := og hG
  refine xt_2 C hK hw h_4 dX0_move_19 (fun H locs hw => ?_)
  exact xret_v C hlocks hK hw hr (retv hG) dX0_move_20
theorem jX1_begin_1 : ∀ w ∈ wsX10, w ∈ wsX1_begin := by decide +kernel
def f_X1_begin (l0 : Nat) (l1 : Int32) (l2 : Int32) (l3 : Int32) (l4 : Int32) (u : XS) : Option XS := (if l0 < 25 then some (xs_cf u (up2 (up2 (up2 (up2 (up2 (up2 (up2 (up2 (x_cf u) 3 l0 l1) 4 l0 l2) 5 l0 l3) 6 l0 l4) 7 l0 (1000000 : Int32)) 8 l0 (0 : Int32)) 9 l0 (-1 : Int32)) 2 l0 (0 : Int32))) else none)
set_option maxHeartbeats 4000000 in
set_option maxRecDepth 100000 in
theorem k_X1_begin (l : Launch) (D : va_G) (ad : Nat → Nat) (cI cJ cR : ClassId) (u : XS) (l0 : Nat) (l1 : Int32) (l2 : Int32) (l3 : Int32) (l4 : Int32) (u1 : XS) (hG : f_X1_begin l0 l1 l2 l3 l4 u = some u1) : Met l yX1_begin wsX1_begin ({ frames := 0, cells := 0, slots := 0, locals := 0 } : Room) (va_Pc [.ref (ad (17 + l0)), .int l1, .int l2, .int l3, .int l4] (XB D ad cI cJ cR u)) (va_Qv (S := XS) (fun u2 => u2 = u1) (XB D ad cI cJ cR) (AX ad)) 0 0 (AX ad) := by
  refine Met.ofW (cc := cX1_begin) (maxL := 5) (ret := none) (by decide) rfl ?_
  intro p e s m args below meth c s₁ B hml hv
  obtain ⟨rfl, hP0, hK, hD0⟩ := hv
  have C : CallFix p m c cX1_begin 5 s _ wsX1_begin RX1 := ⟨B.exec, B.bytes, hml, findClass_of_methodNamed B.named, atoms_spec (ws := wsX1_begin) B.pre⟩
  have hr := B.returns
  have hlocks := B.notSynchronized
  have hw : XW D ad cI cJ cR s.heap s.heap [] u := ⟨hP0, hD0, va_S.rf⟩
  refine en_W (Nat.le_of_ble_eq_true rfl) (fun ls hl => ?_)
  have hl : lv_has ls 5 [(0, .ref (ad (17 + l0))), (1, .int l1), (2, .int l2), (3, .int l3), (4, .int l4)] := hl
  unfold f_X1_begin at hG
  obtain ⟨hq_l0, hG⟩ := ot hG
  refine lv_aload_n C.1 C.2.1 dX1_begin_0 rfl (lv_at hl 0 rfl) ?_
  refine lv_iload_n C.1 C.2.1 dX1_begin_1 rfl (lv_at hl 1 rfl) ?_
  refine xpc_3 (q := l0) C hK hw hq_l0 jX1_begin_1 (List.mem_of_getElem? (i := 1) rfl) dX1_begin_2 (fun H locs hw => ?_)
  refine lv_aload_n C.1 C.2.1 dX1_begin_5 rfl (lv_at hl 0 rfl) ?_
  refine lv_iload_n C.1 C.2.1 dX1_begin_6 rfl (lv_at hl 2 rfl) ?_
  refine xpc_4 (q := l0) C hK hw hq_l0 jX1_begin_1 (List.mem_of_getElem? (i := 2) rfl) dX1_begin_7 (fun H locs hw => ?_)
  refine lv_aload_n C.1 C.2.1 dX1_begin_10 rfl (lv_at hl 0 rfl) ?_
  refine lv_iload_n C.1 C.2.1 dX1_begin_11 rfl (lv_at hl 3 rfl) ?_
  refine xpc_5 (q := l0) C hK hw hq_l0 jX1_begin_1 (List.mem_of_getElem? (i := 3) rfl) dX1_begin_12 (fun H locs hw => ?_)
  refine lv_aload_n C.1 C.2.1 dX1_begin_15 rfl (lv_at hl 0 rfl) ?_
  refine lv_iload C.1 C.2.1 dX1_begin_16 (lv_at hl 4 rfl) ?_
  refine xpc_6 (q := l0) C hK hw hq_l0 jX1_begin_1 (List.mem_of_getElem? (i := 4) rfl) dX1_begin_18 (fun H locs hw => ?_)
  refine lv_aload_n C.1 C.2.1 dX1_begin_21 rfl (lv_at hl 0 rfl) ?_
  refine lv_ldc (v := 1000000) C.1 C.2.1 C.2.2.2.1 (C.2.2.2.2 _ (List.mem_of_getElem? (i := 5) rfl)) dX1_begin_22 ?_
  refine xpc_7 (q := l0) C hK hw hq_l0 jX1_begin_1 (List.mem_of_getElem? (i := 6) rfl) dX1_begin_24 (fun H locs hw => ?_)
  refine lv_aload_n C.1 C.2.1 dX1_begin_27 rfl (lv_at hl 0 rfl) ?_
  refine lv_iconst (v := 0) C.1 C.2.1 dX1_begin_28 (by decide) ?_
  refine xpc_8 (q := l0) C hK hw hq_l0 jX1_begin_1 (List.mem_of_getElem? (i := 7) rfl) dX1_begin_29 (fun H locs hw => ?_)
  refine lv_aload_n C.1 C.2.1 dX1_begin_32 rfl (lv_at hl 0 rfl) ?_
  refine lv_iconst (v := -1) C.1 C.2.1 dX1_begin_33 (by decide) ?_
  refine xpc_9 (q := l0) C hK hw hq_l0 jX1_begin_1 (List.mem_of_getElem? (i := 8) rfl) dX1_begin_34 (fun H locs hw => ?_)
  refine lv_aload_n C.1 C.2.1 dX1_begin_37 rfl (lv_at hl 0 rfl) ?_
  refine lv_iconst (v := 0) C.1 C.2.1 dX1_begin_38 (by decide) ?_
  refine xpc_2 (q := l0) C hK hw hq_l0 jX1_begin_1 (List.mem_of_getElem? (i := 9) rfl) dX1_begin_39 (fun H locs hw => ?_)
  exact xret_v C hlocks hK hw hr (retv hG) dX1_begin_42
theorem jX1_append_1 : ∀ w ∈ wsX10, w ∈ wsX1_append := by decide +kernel
def f_X1_append (l0 : Nat) (l1 : Int32) (l2 : Int64) (u : XS) : Option (Int32 × XS) := (if l0 < 25 then (if inb ((x_cf u) 2 l0) 4 = true then (if inb ((x_cf u) 2 l0) 4 = true then some (((up2 (x_cf u) 2 l0 (((x_cf u) 2 l0) + (1 : Int32))) 2 l0), (xs_cf (xs_am (xs_rc u (va_up (x_rc u) l0 (upd ((x_rc u) l0) (Int32.toNatClampNeg ((x_cf u) 2 l0)) l1))) (va_up (x_am u) l0 (vp_updL ((x_am u) l0) (Int32.toNatClampNeg ((x_cf u) 2 l0)) l2))) (up2 (x_cf u) 2 l0 (((x_cf u) 2 l0) + (1 : Int32))))) else none) else none) else none)
set_option maxHeartbeats 4000000 in
set_option maxRecDepth 100000 in
theorem k_X1_append (l : Launch) (D : va_G) (ad : Nat → Nat) (cI cJ cR : ClassId) (u : XS) (l0 : Nat) (l1 : Int32) (l2 : Int64) (r1 : Int32) (u1 : XS) (hG : f_X1_append l0 l1 l2 u = some (r1, u1)) : Met l yX1_append wsX1_append ({ frames := 0, cells := 0, slots := 0, locals := 0 } : Room) (va_Pc [.ref (ad (17 + l0)), .int l1, .long l2] (XB D ad cI cJ cR u)) (va_Qi (S := XS) (fun r u2 => r = r1 ∧ u2 = u1) (XB D ad cI cJ cR) (AX ad)) 0 0 (AX ad) := by
  refine Met.ofW (cc := cX1_append) (maxL := 4) (ret := (some .int)) (by decide) rfl ?_
  intro p e s m args below meth c s₁ B hml hv
  obtain ⟨rfl, hP0, hK, hD0⟩ := hv
  have C : CallFix p m c cX1_append 4 s _ wsX1_append RX1 := ⟨B.exec, B.bytes, hml, findClass_of_methodNamed B.named, atoms_spec (ws := wsX1_append) B.pre⟩
  have hr := B.returns
  have hlocks := B.notSynchronized
  have hw : XW D ad cI cJ cR s.heap s.heap [] u := ⟨hP0, hD0, va_S.rf⟩
  refine en_W (Nat.le_of_ble_eq_true rfl) (fun ls hl => ?_)
  have hl : lv_has ls 4 [(0, .ref (ad (17 + l0))), (1, .int l1), (2, .long l2)] := hl
  unfold f_X1_append at hG
  obtain ⟨hq_l0, hG⟩ := ot hG
  refine lv_aload_n C.1 C.2.1 dX1_append_0 rfl (lv_at hl 0 rfl) ?_
  refine xgc_0 (q := l0) C hK hw hq_l0 jX1_append_1 (List.mem_of_getElem? (i := 1) rfl) dX1_append_1 ?_
  refine lv_aload_n C.1 C.2.1 dX1_append_4 rfl (lv_at hl 0 rfl) ?_
  refine xgc_2 (q := l0) C hK hw hq_l0 jX1_append_1 (List.mem_of_getElem? (i := 2) rfl) dX1_append_5 ?_
  refine lv_iload_n C.1 C.2.1 dX1_append_8 rfl (lv_at hl 1 rfl) ?_
  obtain ⟨h_1, hG⟩ := og hG
  refine xt_rc (q := l0) C hK hw hq_l0 h_1 dX1_append_9 (fun H locs hw => ?_)
  refine lv_aload_n C.1 C.2.1 dX1_append_10 rfl (lv_at hl 0 rfl) ?_
  refine xgc_1 (q := l0) C hK hw hq_l0 jX1_append_1 (List.mem_of_getElem? (i := 3) rfl) dX1_append_11 ?_
  refine lv_aload_n C.1 C.2.1 dX1_append_14 rfl (lv_at hl 0 rfl) ?_
  refine xgc_2 (q := l0) C hK hw hq_l0 jX1_append_1 (List.mem_of_getElem? (i := 2) rfl) dX1_append_15 ?_
  refine lv_lload_n C.1 C.2.1 dX1_append_18 rfl (lv_at hl 2 rfl) ?_
  obtain ⟨h_2, hG⟩ := og hG
  refine xt_am (q := l0) C hK hw hq_l0 h_2 dX1_append_19 (fun H locs hw => ?_)
  refine lv_aload_n C.1 C.2.1 dX1_append_20 rfl (lv_at hl 0 rfl) ?_
  refine lv_dup C.1 C.2.1 dX1_append_21 rfl ?_
  refine xgc_2 (q := l0) C hK hw hq_l0 jX1_append_1 (List.mem_of_getElem? (i := 2) rfl) dX1_append_22 ?_
  refine lv_iconst (v := 1) C.1 C.2.1 dX1_append_25 (by decide) ?_
  refine lv_iadd C.1 C.2.1 dX1_append_26 ?_
  refine xpc_2 (q := l0) C hK hw hq_l0 jX1_append_1 (List.mem_of_getElem? (i := 2) rfl) dX1_append_27 (fun H locs hw => ?_)
  refine lv_aload_n C.1 C.2.1 dX1_append_30 rfl (lv_at hl 0 rfl) ?_
  refine xgc_2 (q := l0) C hK hw hq_l0 jX1_append_1 (List.mem_of_getElem? (i := 2) rfl) dX1_append_31 ?_
  exact xret_i C hlocks hK hw hr (ret2 hG) dX1_append_34
theorem jX1_becomeLike_1 : ∀ w ∈ wsX10, w ∈ wsX1_becomeLike := by decide +kernel
def f_X1_becomeLike_46 : Nat → Nat → Nat → Int32 → XS → Option XS
  | 0, _, _, _, _ => none
  | n + 1, l0, l1, l2, u => (if ((x_cf u) 2 l1) ≤ l2 then some u else (if inb l2 4 = true then (if inb l2 4 = true then ((f_X1_append l0 ((x_rc u) l1 (Int32.toNatClampNeg l2)) ((x_am u) l1 (Int32.toNatClampNeg l2)) u).bind fun q_5 => (f_X1_becomeLike_46 n l0 l1 (l2 + (1 : Int32)) q_5.2)) else none) else none))
set_option maxHeartbeats 4000000 in
set_option maxRecDepth 100000 in
theorem kl_X1_becomeLike_46 {p : Program} {l : Launch} {e : Env} {s : State} {m : MethodId} {args : Array Value} {below : List Frame} {meth : Method} {c : Code} {D : va_G} {ad : Nat → Nat} {cI cJ cR : ClassId} (C : CallFix p m c cX1_becomeLike 3 s args wsX1_becomeLike RX1) (hr : meth.sig.returnType = none) (hlocks : meth.locks = false) (hK : va_K D vwCl (xT cI cJ cR) s) {u1 : XS} : ∀ (n : Nat) (l0 : Nat) (l1 : Nat) (l2 : Int32) (u : XS) (H : Heap) (locs : List Loc) (ls : Array Slot), f_X1_becomeLike_46 n l0 l1 l2 u = some u1 → XW D ad cI cJ cR s.heap H locs u → lv_has ls 3 [(0, .ref (ad (17 + l0))), (1, .ref (ad (17 + l1))), (2, .int l2)] → l0 < 25 → l1 < 25 → W p l e ({ frames := 1, cells := 0, slots := 0, locals := 24 } : Room) s m args below meth c H locs 0 0 (MQ below (va_Qv (S := XS) (fun u2 => u2 = u1) (XB D ad cI cJ cR) (AX ad)) args s 0 0 (AX ad)) (F0 m 46 ls []) := by
  intro n
  induction n with
  | zero =>
    intro l0 l1 l2 u H locs ls hG
    exact ns hG
  | succ n ih =>
    intro l0 l1 l2 u H locs ls hG hw hl hq_l0 hq_l1
    rw [f_X1_becomeLike_46] at hG
    refine lv_iload_n C.1 C.2.1 dX1_becomeLike_46 rfl (lv_at hl 2 rfl) ?_
    refine lv_aload_n C.1 C.2.1 dX1_becomeLike_47 rfl (lv_at hl 1 rfl) ?_
    refine xgc_2 (q := l1) C hK hw hq_l1 jX1_becomeLike_1 (List.mem_of_getElem? (i := 8) rfl) dX1_becomeLike_48 ?_
    refine lv_icmp_ge (tgt := 77) C.1 C.2.1 dX1_becomeLike_51 (by decide) (fun (h_2 : ((x_cf u) 2 l1) ≤ l2) => ?_) (fun (h_2 : ¬ ((x_cf u) 2 l1) ≤ l2) => ?_)
    · replace hG := ip h_2 hG
      exact xret_v C hlocks hK hw hr (retv hG) dX1_becomeLike_77
    · replace hG := inn h_2 hG
      refine lv_aload_n C.1 C.2.1 dX1_becomeLike_54 rfl (lv_at hl 0 rfl) ?_
      refine lv_aload_n C.1 C.2.1 dX1_becomeLike_55 rfl (lv_at hl 1 rfl) ?_
      refine xgc_0 (q := l1) C hK hw hq_l1 jX1_becomeLike_1 (List.mem_of_getElem? (i := 9) rfl) dX1_becomeLike_56 ?_
      refine lv_iload_n C.1 C.2.1 dX1_becomeLike_59 rfl (lv_at hl 2 rfl) ?_
      obtain ⟨h_3, hG⟩ := og hG
      refine xl_rc (q := l1) C hK hw hq_l1 h_3 dX1_becomeLike_60 ?_
      refine lv_aload_n C.1 C.2.1 dX1_becomeLike_61 rfl (lv_at hl 1 rfl) ?_
      refine xgc_1 (q := l1) C hK hw hq_l1 jX1_becomeLike_1 (List.mem_of_getElem? (i := 10) rfl) dX1_becomeLike_62 ?_
      refine lv_iload_n C.1 C.2.1 dX1_becomeLike_65 rfl (lv_at hl 2 rfl) ?_
      obtain ⟨h_4, hG⟩ := og hG
      refine xl_am (q := l1) C hK hw hq_l1 h_4 dX1_becomeLike_66 ?_
      obtain ⟨q_5, hc_5, hG⟩ := ob hG
      try dsimp only at hG
      refine xcVi (As := [.int ((x_rc u) l1 (Int32.toNatClampNeg l2)), .long ((x_am u) l1 (Int32.toNatClampNeg l2))]) (rest := []) C hK hw (k_X1_append l D ad cI cJ cR u l0 ((x_rc u) l1 (Int32.toNatClampNeg l2)) ((x_am u) l1 (Int32.toNatClampNeg l2)) q_5.1 q_5.2 hc_5) (cwV 2 C.2.2.2.2 gX1_becomeLike_X1_append rfl rfl rfl (by decide +kernel) ⟨Nat.le_of_ble_eq_true rfl, Nat.le_of_ble_eq_true rfl⟩) (va_recv hK hw.1 (ci := 1) (q0 := 17 + l0) rfl (wX_c hq_l0)) rfl hl.1 rfl (Nat.le_of_ble_eq_true rfl) dX1_becomeLike_67 (fun H locs hw => ?_)
      refine lv_pop C.1 C.2.1 dX1_becomeLike_70 rfl ?_
      refine lv_iinc (v := (l2 + (1 : Int32))) (lv' := [(2, .int (l2 + (1 : Int32))), (0, .ref (ad (17 + l0))), (1, .ref (ad (17 + l1)))]) C.1 C.2.1 dX1_becomeLike_71 hl (k := 2) rfl rfl (by decide) rfl (fun ls hl => ?_)
      refine lv_goto (tgt := 46) C.1 C.2.1 dX1_becomeLike_74 (by decide) ?_
      exact ih l0 l1 (l2 + (1 : Int32)) q_5.2 _ _ _ hG hw (lv_sub hl [1, 2, 0] rfl) hq_l0 hq_l1
def f_X1_becomeLike (l0 : Nat) (l1 : Nat) (u : XS) : Option XS := (if l0 < 25 then (if l1 < 25 then ((f_X1_begin l0 ((x_cf u) 3 l1) ((x_cf u) 4 l1) ((x_cf u) 5 l1) ((x_cf u) 6 l1) u).bind fun q_1 => (f_X1_becomeLike_46 1000 l0 l1 (0 : Int32) (xs_cf q_1 (up2 (up2 (up2 (x_cf q_1) 7 l0 ((x_cf q_1) 7 l1)) 8 l0 ((up2 (x_cf q_1) 7 l0 ((x_cf q_1) 7 l1)) 8 l1)) 9 l0 ((up2 (up2 (x_cf q_1) 7 l0 ((x_cf q_1) 7 l1)) 8 l0 ((up2 (x_cf q_1) 7 l0 ((x_cf q_1) 7 l1)) 8 l1)) 9 l1))))) else none) else none)
set_option maxHeartbeats 4000000 in
set_option maxRecDepth 100000 in
theorem k_X1_becomeLike (l : Launch) (D : va_G) (ad : Nat → Nat) (cI cJ cR : ClassId) (u : XS) (l0 : Nat) (l1 : Nat) (u1 : XS) (hG : f_X1_becomeLike l0 l1 u = some u1) : Met l yX1_becomeLike wsX1_becomeLike ({ frames := 1, cells := 0, slots := 0, locals := 24 } : Room) (va_Pc [.ref (ad (17 + l0)), .ref (ad (17 + l1))] (XB D ad cI cJ cR u)) (va_Qv (S := XS) (fun u2 => u2 = u1) (XB D ad cI cJ cR) (AX ad)) 0 0 (AX ad) := by
  refine Met.ofW (cc := cX1_becomeLike) (maxL := 3) (ret := none) (by decide) rfl ?_
  intro p e s m args below meth c s₁ B hml hv
  obtain ⟨rfl, hP0, hK, hD0⟩ := hv
  have C : CallFix p m c cX1_becomeLike 3 s _ wsX1_becomeLike RX1 := ⟨B.exec, B.bytes, hml, findClass_of_methodNamed B.named, atoms_spec (ws := wsX1_becomeLike) B.pre⟩
  have hr := B.returns
  have hlocks := B.notSynchronized
  have hw : XW D ad cI cJ cR s.heap s.heap [] u := ⟨hP0, hD0, va_S.rf⟩
  refine en_W (Nat.le_of_ble_eq_true rfl) (fun ls hl => ?_)
  have hl : lv_has ls 3 [(0, .ref (ad (17 + l0))), (1, .ref (ad (17 + l1)))] := hl
  unfold f_X1_becomeLike at hG
  obtain ⟨hq_l0, hG⟩ := ot hG
  obtain ⟨hq_l1, hG⟩ := ot hG
  refine lv_aload_n C.1 C.2.1 dX1_becomeLike_0 rfl (lv_at hl 0 rfl) ?_
  refine lv_aload_n C.1 C.2.1 dX1_becomeLike_1 rfl (lv_at hl 1 rfl) ?_
  refine xgc_3 (q := l1) C hK hw hq_l1 jX1_becomeLike_1 (List.mem_of_getElem? (i := 1) rfl) dX1_becomeLike_2 ?_
  refine lv_aload_n C.1 C.2.1 dX1_becomeLike_5 rfl (lv_at hl 1 rfl) ?_
  refine xgc_4 (q := l1) C hK hw hq_l1 jX1_becomeLike_1 (List.mem_of_getElem? (i := 2) rfl) dX1_becomeLike_6 ?_
  refine lv_aload_n C.1 C.2.1 dX1_becomeLike_9 rfl (lv_at hl 1 rfl) ?_
  refine xgc_5 (q := l1) C hK hw hq_l1 jX1_becomeLike_1 (List.mem_of_getElem? (i := 3) rfl) dX1_becomeLike_10 ?_
  refine lv_aload_n C.1 C.2.1 dX1_becomeLike_13 rfl (lv_at hl 1 rfl) ?_
  refine xgc_6 (q := l1) C hK hw hq_l1 jX1_becomeLike_1 (List.mem_of_getElem? (i := 4) rfl) dX1_becomeLike_14 ?_
  obtain ⟨q_1, hc_1, hG⟩ := ob hG
  try dsimp only at hG
  refine xcVv (As := [.int ((x_cf u) 3 l1), .int ((x_cf u) 4 l1), .int ((x_cf u) 5 l1), .int ((x_cf u) 6 l1)]) (rest := []) C hK hw (k_X1_begin l D ad cI cJ cR u l0 ((x_cf u) 3 l1) ((x_cf u) 4 l1) ((x_cf u) 5 l1) ((x_cf u) 6 l1) q_1 hc_1) (cwV 4 C.2.2.2.2 gX1_becomeLike_X1_begin rfl rfl rfl (by decide +kernel) ⟨Nat.le_of_ble_eq_true rfl, Nat.le_of_ble_eq_true rfl⟩) (va_recv hK hw.1 (ci := 1) (q0 := 17 + l0) rfl (wX_c hq_l0)) rfl hl.1 rfl (Nat.le_of_ble_eq_true rfl) dX1_becomeLike_17 (fun H locs hw => ?_)
  refine lv_aload_n C.1 C.2.1 dX1_becomeLike_20 rfl (lv_at hl 0 rfl) ?_
  refine lv_aload_n C.1 C.2.1 dX1_becomeLike_21 rfl (lv_at hl 1 rfl) ?_
  refine xgc_7 (q := l1) C hK hw hq_l1 jX1_becomeLike_1 (List.mem_of_getElem? (i := 5) rfl) dX1_becomeLike_22 ?_
  refine xpc_7 (q := l0) C hK hw hq_l0 jX1_becomeLike_1 (List.mem_of_getElem? (i := 5) rfl) dX1_becomeLike_25 (fun H locs hw => ?_)
  refine lv_aload_n C.1 C.2.1 dX1_becomeLike_28 rfl (lv_at hl 0 rfl) ?_
  refine lv_aload_n C.1 C.2.1 dX1_becomeLike_29 rfl (lv_at hl 1 rfl) ?_
  refine xgc_8 (q := l1) C hK hw hq_l1 jX1_becomeLike_1 (List.mem_of_getElem? (i := 6) rfl) dX1_becomeLike_30 ?_
  refine xpc_8 (q := l0) C hK hw hq_l0 jX1_becomeLike_1 (List.mem_of_getElem? (i := 6) rfl) dX1_becomeLike_33 (fun H locs hw => ?_)
  refine lv_aload_n C.1 C.2.1 dX1_becomeLike_36 rfl (lv_at hl 0 rfl) ?_
  refine lv_aload_n C.1 C.2.1 dX1_becomeLike_37 rfl (lv_at hl 1 rfl) ?_
  refine xgc_9 (q := l1) C hK hw hq_l1 jX1_becomeLike_1 (List.mem_of_getElem? (i := 7) rfl) dX1_becomeLike_38 ?_
  refine xpc_9 (q := l0) C hK hw hq_l0 jX1_becomeLike_1 (List.mem_of_getElem? (i := 7) rfl) dX1_becomeLike_41 (fun H locs hw => ?_)
  refine lv_iconst (v := 0) C.1 C.2.1 dX1_becomeLike_44 (by decide) ?_
  refine lv_istore_n (lv' := [(2, .int (0 : Int32)), (0, .ref (ad (17 + l0))), (1, .ref (ad (17 + l1)))]) C.1 C.2.1 dX1_becomeLike_45 rfl hl (by decide) rfl (fun ls hl => ?_)
  exact kl_X1_becomeLike_46 C hr hlocks hK 1000 l0 l1 (0 : Int32) (xs_cf q_1 (up2 (up2 (up2 (x_cf q_1) 7 l0 ((x_cf q_1) 7 l1)) 8 l0 ((up2 (x_cf q_1) 7 l0 ((x_cf q_1) 7 l1)) 8 l1)) 9 l0 ((up2 (up2 (x_cf q_1) 7 l0 ((x_cf q_1) 7 l1)) 8 l0 ((up2 (x_cf q_1) 7 l0 ((x_cf q_1) 7 l1)) 8 l1)) 9 l1))) _ _ _ hG hw (lv_sub hl [1, 2, 0] rfl) hq_l0 hq_l1
theorem jX1_payer_1 : ∀ w ∈ wsX10, w ∈ wsX1_payer := by decide +kernel
def f_X1_payer (l0 : Nat) (u : XS) : Option Int32 := (if l0 < 25 then (if ((x_cf u) 9 l0) = (-1 : Int32) then some ((x_cf u) 3 l0) else some ((x_cf u) 9 l0)) else none)
set_option maxHeartbeats 4000000 in
set_option maxRecDepth 100000 in
theorem k_X1_payer (l : Launch) (D : va_G) (ad : Nat → Nat) (cI cJ cR : ClassId) (u : XS) (l0 : Nat) (r1 : Int32) (hG : f_X1_payer l0 u = some r1) : Met l yX1_payer wsX1_payer ({ frames := 0, cells := 0, slots := 0, locals := 0 } : Room) (va_Pc [.ref (ad (17 + l0))] (XB D ad cI cJ cR u)) (va_Qi (S := XS) (fun r u2 => r = r1 ∧ u2 = u) (XB D ad cI cJ cR) (AX ad)) 0 0 (AX ad) := by
  refine Met.ofW (cc := cX1_payer) (maxL := 1) (ret := (some .int)) (by decide) rfl ?_
  intro p e s m args below meth c s₁ B hml hv
  obtain ⟨rfl, hP0, hK, hD0⟩ := hv
  have C : CallFix p m c cX1_payer 1 s _ wsX1_payer RX1 := ⟨B.exec, B.bytes, hml, findClass_of_methodNamed B.named, atoms_spec (ws := wsX1_payer) B.pre⟩
  have hr := B.returns
  have hlocks := B.notSynchronized
  have hw : XW D ad cI cJ cR s.heap s.heap [] u := ⟨hP0, hD0, va_S.rf⟩
  refine en_W (Nat.le_of_ble_eq_true rfl) (fun ls hl => ?_)
  have hl : lv_has ls 1 [(0, .ref (ad (17 + l0)))] := hl
  unfold f_X1_payer at hG
  obtain ⟨hq_l0, hG⟩ := ot hG
  refine lv_aload_n C.1 C.2.1 dX1_payer_0 rfl (lv_at hl 0 rfl) ?_
  refine xgc_9 (q := l0) C hK hw hq_l0 jX1_payer_1 (List.mem_of_getElem? (i := 1) rfl) dX1_payer_1 ?_
  refine lv_iconst (v := -1) C.1 C.2.1 dX1_payer_4 (by decide) ?_
  refine lv_icmp_ne (tgt := 15) C.1 C.2.1 dX1_payer_5 (by decide) (fun (h_1 : ¬ ((x_cf u) 9 l0) = (-1 : Int32)) => ?_) (fun (h_1 : ((x_cf u) 9 l0) = (-1 : Int32)) => ?_)
  · replace hG := inn h_1 hG
    refine lv_aload_n C.1 C.2.1 dX1_payer_15 rfl (lv_at hl 0 rfl) ?_
    refine xgc_9 (q := l0) C hK hw hq_l0 jX1_payer_1 (List.mem_of_getElem? (i := 1) rfl) dX1_payer_16 ?_
    exact xret_i C hlocks hK hw hr (ret1 hG) dX1_payer_19
  · replace hG := ip h_1 hG
    refine lv_aload_n C.1 C.2.1 dX1_payer_8 rfl (lv_at hl 0 rfl) ?_
    refine xgc_3 (q := l0) C hK hw hq_l0 jX1_payer_1 (List.mem_of_getElem? (i := 2) rfl) dX1_payer_9 ?_
    refine lv_goto (tgt := 19) C.1 C.2.1 dX1_payer_12 (by decide) ?_
    exact xret_i C hlocks hK hw hr (ret1 hG) dX1_payer_19
theorem jX1_stake_1 : ∀ w ∈ wsX10, w ∈ wsX1_stake := by decide +kernel
def f_X1_stake (l0 : Nat) (u : XS) : Option Int64 := (if l0 < 25 then some ((Int32.toInt64 ((x_cf u) 5 l0)) * (Int32.toInt64 ((x_cf u) 6 l0))) else none)
set_option maxHeartbeats 4000000 in
set_option maxRecDepth 100000 in
theorem k_X1_stake (l : Launch) (D : va_G) (ad : Nat → Nat) (cI cJ cR : ClassId) (u : XS) (l0 : Nat) (r1 : Int64) (hG : f_X1_stake l0 u = some r1) : Met l yX1_stake wsX1_stake ({ frames := 0, cells := 0, slots := 0, locals := 0 } : Room) (va_Pc [.ref (ad (17 + l0))] (XB D ad cI cJ cR u)) (va_Ql (S := XS) (fun r u2 => r = r1 ∧ u2 = u) (XB D ad cI cJ cR) (AX ad)) 0 0 (AX ad) := by
  refine Met.ofW (cc := cX1_stake) (maxL := 1) (ret := (some .long)) (by decide) rfl ?_
  intro p e s m args below meth c s₁ B hml hv
  obtain ⟨rfl, hP0, hK, hD0⟩ := hv
  have C : CallFix p m c cX1_stake 1 s _ wsX1_stake RX1 := ⟨B.exec, B.bytes, hml, findClass_of_methodNamed B.named, atoms_spec (ws := wsX1_stake) B.pre⟩
  have hr := B.returns
  have hlocks := B.notSynchronized
  have hw : XW D ad cI cJ cR s.heap s.heap [] u := ⟨hP0, hD0, va_S.rf⟩
  refine en_W (Nat.le_of_ble_eq_true rfl) (fun ls hl => ?_)
  have hl : lv_has ls 1 [(0, .ref (ad (17 + l0)))] := hl
  unfold f_X1_stake at hG
  obtain ⟨hq_l0, hG⟩ := ot hG
  refine lv_aload_n C.1 C.2.1 dX1_stake_0 rfl (lv_at hl 0 rfl) ?_
  refine xgc_5 (q := l0) C hK hw hq_l0 jX1_stake_1 (List.mem_of_getElem? (i := 1) rfl) dX1_stake_1 ?_
  refine lv_i2l C.1 C.2.1 dX1_stake_4 rfl ?_
  refine lv_aload_n C.1 C.2.1 dX1_stake_5 rfl (lv_at hl 0 rfl) ?_
  refine xgc_6 (q := l0) C hK hw hq_l0 jX1_stake_1 (List.mem_of_getElem? (i := 2) rfl) dX1_stake_6 ?_
  refine lv_i2l C.1 C.2.1 dX1_stake_9 rfl ?_
  refine lv_lmul C.1 C.2.1 dX1_stake_10 ?_
  exact xret_l C hlocks hK hw hr (ret1 hG) dX1_stake_11
theorem jX1_computeDigest_1 : ∀ w ∈ wsX10, w ∈ wsX1_computeDigest := by decide +kernel
def f_X1_computeDigest_90 : Nat → Nat → Int64 → Int32 → XS → Option Int64
  | 0, _, _, _, _ => none
  | n + 1, l0, l1, l3, u => (if ((x_cf u) 2 l0) ≤ l3 then some l1 else (if inb l3 4 = true then (if inb l3 4 = true then (f_X1_computeDigest_90 n l0 (((31 : Int64) * (((31 : Int64) * l1) + (Int32.toInt64 ((x_rc u) l0 (Int32.toNatClampNeg l3))))) + ((x_am u) l0 (Int32.toNatClampNeg l3))) (l3 + (1 : Int32)) u) else none) else none))
set_option maxHeartbeats 4000000 in
set_option maxRecDepth 100000 in
theorem kl_X1_computeDigest_90 {p : Program} {l : Launch} {e : Env} {s : State} {m : MethodId} {args : Array Value} {below : List Frame} {meth : Method} {c : Code} {D : va_G} {ad : Nat → Nat} {cI cJ cR : ClassId} (C : CallFix p m c cX1_computeDigest 4 s args wsX1_computeDigest RX1) (hr : meth.sig.returnType = (some .long)) (hlocks : meth.locks = false) (hK : va_K D vwCl (xT cI cJ cR) s) {r1 : Int64} : ∀ (n : Nat) (l0 : Nat) (l1 : Int64) (l3 : Int32) (u : XS) (H : Heap) (locs : List Loc) (ls : Array Slot), f_X1_computeDigest_90 n l0 l1 l3 u = some r1 → XW D ad cI cJ cR s.heap H locs u → lv_has ls 4 [(0, .ref (ad (17 + l0))), (1, .long l1), (3, .int l3)] → l0 < 25 → W p l e ({ frames := 0, cells := 0, slots := 0, locals := 0 } : Room) s m args below meth c H locs 0 0 (MQ below (va_Ql (S := XS) (fun r u2 => r = r1 ∧ u2 = u) (XB D ad cI cJ cR) (AX ad)) args s 0 0 (AX ad)) (F0 m 90 ls []) := by
  intro n
  induction n with
  | zero =>
    intro l0 l1 l3 u H locs ls hG
    exact ns hG
  | succ n ih =>
    intro l0 l1 l3 u H locs ls hG hw hl hq_l0
    rw [f_X1_computeDigest_90] at hG
    refine lv_iload_n C.1 C.2.1 dX1_computeDigest_90 rfl (lv_at hl 2 rfl) ?_
    refine lv_aload_n C.1 C.2.1 dX1_computeDigest_91 rfl (lv_at hl 0 rfl) ?_
    refine xgc_2 (q := l0) C hK hw hq_l0 jX1_computeDigest_1 (List.mem_of_getElem? (i := 10) rfl) dX1_computeDigest_92 ?_
    refine lv_icmp_ge (tgt := 131) C.1 C.2.1 dX1_computeDigest_95 (by decide) (fun (h_1 : ((x_cf u) 2 l0) ≤ l3) => ?_) (fun (h_1 : ¬ ((x_cf u) 2 l0) ≤ l3) => ?_)
    · replace hG := ip h_1 hG
      refine lv_lload_n C.1 C.2.1 dX1_computeDigest_131 rfl (lv_at hl 1 rfl) ?_
      exact xret_l C hlocks hK hw hr (ret1 hG) dX1_computeDigest_132
    · replace hG := inn h_1 hG
      refine lv_ldc2 (v := 31) C.1 C.2.1 C.2.2.2.1 (C.2.2.2.2 _ (List.mem_of_getElem? (i := 2) rfl)) dX1_computeDigest_98 ?_
      refine lv_lload_n C.1 C.2.1 dX1_computeDigest_101 rfl (lv_at hl 1 rfl) ?_
      refine lv_lmul C.1 C.2.1 dX1_computeDigest_102 ?_
      refine lv_aload_n C.1 C.2.1 dX1_computeDigest_103 rfl (lv_at hl 0 rfl) ?_
      refine xgc_0 (q := l0) C hK hw hq_l0 jX1_computeDigest_1 (List.mem_of_getElem? (i := 11) rfl) dX1_computeDigest_104 ?_
      refine lv_iload_n C.1 C.2.1 dX1_computeDigest_107 rfl (lv_at hl 2 rfl) ?_
      obtain ⟨h_2, hG⟩ := og hG
      refine xl_rc (q := l0) C hK hw hq_l0 h_2 dX1_computeDigest_108 ?_
      refine lv_i2l C.1 C.2.1 dX1_computeDigest_109 rfl ?_
      refine lv_ladd C.1 C.2.1 dX1_computeDigest_110 ?_
      refine lv_lstore_n (lv' := [(1, .long (((31 : Int64) * l1) + (Int32.toInt64 ((x_rc u) l0 (Int32.toNatClampNeg l3))))), (0, .ref (ad (17 + l0))), (3, .int l3)]) C.1 C.2.1 dX1_computeDigest_111 rfl hl (by decide) rfl (fun ls hl => ?_)
      refine lv_ldc2 (v := 31) C.1 C.2.1 C.2.2.2.1 (C.2.2.2.2 _ (List.mem_of_getElem? (i := 2) rfl)) dX1_computeDigest_112 ?_
      refine lv_lload_n C.1 C.2.1 dX1_computeDigest_115 rfl (lv_at hl 0 rfl) ?_
      refine lv_lmul C.1 C.2.1 dX1_computeDigest_116 ?_
      refine lv_aload_n C.1 C.2.1 dX1_computeDigest_117 rfl (lv_at hl 1 rfl) ?_
      refine xgc_1 (q := l0) C hK hw hq_l0 jX1_computeDigest_1 (List.mem_of_getElem? (i := 12) rfl) dX1_computeDigest_118 ?_
      refine lv_iload_n C.1 C.2.1 dX1_computeDigest_121 rfl (lv_at hl 2 rfl) ?_
      obtain ⟨h_3, hG⟩ := og hG
      refine xl_am (q := l0) C hK hw hq_l0 h_3 dX1_computeDigest_122 ?_
      refine lv_ladd C.1 C.2.1 dX1_computeDigest_123 ?_
      refine lv_lstore_n (lv' := [(1, .long (((31 : Int64) * (((31 : Int64) * l1) + (Int32.toInt64 ((x_rc u) l0 (Int32.toNatClampNeg l3))))) + ((x_am u) l0 (Int32.toNatClampNeg l3)))), (0, .ref (ad (17 + l0))), (3, .int l3)]) C.1 C.2.1 dX1_computeDigest_124 rfl hl (by decide) rfl (fun ls hl => ?_)
      refine lv_iinc (v := (l3 + (1 : Int32))) (lv' := [(3, .int (l3 + (1 : Int32))), (1, .long (((31 : Int64) * (((31 : Int64) * l1) + (Int32.toInt64 ((x_rc u) l0 (Int32.toNatClampNeg l3))))) + ((x_am u) l0 (Int32.toNatClampNeg l3)))), (0, .ref (ad (17 + l0)))]) C.1 C.2.1 dX1_computeDigest_125 hl (k := 2) rfl rfl (by decide) rfl (fun ls hl => ?_)
      refine lv_goto (tgt := 90) C.1 C.2.1 dX1_computeDigest_128 (by decide) ?_
      exact ih l0 (((31 : Int64) * (((31 : Int64) * l1) + (Int32.toInt64 ((x_rc u) l0 (Int32.toNatClampNeg l3))))) + ((x_am u) l0 (Int32.toNatClampNeg l3))) (l3 + (1 : Int32)) u _ _ _ hG hw (lv_sub hl [2, 1, 0] rfl) hq_l0
def f_X1_computeDigest (l0 : Nat) (u : XS) : Option Int64 := (if l0 < 25 then (f_X1_computeDigest_90 1000 l0 (((31 : Int64) * (((31 : Int64) * (((31 : Int64) * (((31 : Int64) * (((31 : Int64) * (((31 : Int64) * (((31 : Int64) * (17 : Int64)) + (Int32.toInt64 ((x_cf u) 3 l0)))) + (Int32.toInt64 ((x_cf u) 4 l0)))) + (Int32.toInt64 ((x_cf u) 5 l0)))) + (Int32.toInt64 ((x_cf u) 6 l0)))) + (Int32.toInt64 ((x_cf u) 7 l0)))) + (Int32.toInt64 ((x_cf u) 8 l0)))) + (Int32.toInt64 ((x_cf u) 9 l0))) (0 : Int32) u) else none)
set_option maxHeartbeats 4000000 in
set_option maxRecDepth 100000 in
theorem k_X1_computeDigest (l : Launch) (D : va_G) (ad : Nat → Nat) (cI cJ cR : ClassId) (u : XS) (l0 : Nat) (r1 : Int64) (hG : f_X1_computeDigest l0 u = some r1) : Met l yX1_computeDigest wsX1_computeDigest ({ frames := 0, cells := 0, slots := 0, locals := 0 } : Room) (va_Pc [.ref (ad (17 + l0))] (XB D ad cI cJ cR u)) (va_Ql (S := XS) (fun r u2 => r = r1 ∧ u2 = u) (XB D ad cI cJ cR) (AX ad)) 0 0 (AX ad) := by
  refine Met.ofW (cc := cX1_computeDigest) (maxL := 4) (ret := (some .long)) (by decide) rfl ?_
  intro p e s m args below meth c s₁ B hml hv
  obtain ⟨rfl, hP0, hK, hD0⟩ := hv
  have C : CallFix p m c cX1_computeDigest 4 s _ wsX1_computeDigest RX1 := ⟨B.exec, B.bytes, hml, findClass_of_methodNamed B.named, atoms_spec (ws := wsX1_computeDigest) B.pre⟩
  have hr := B.returns
  have hlocks := B.notSynchronized
  have hw : XW D ad cI cJ cR s.heap s.heap [] u := ⟨hP0, hD0, va_S.rf⟩
  refine en_W (Nat.le_of_ble_eq_true rfl) (fun ls hl => ?_)
  have hl : lv_has ls 4 [(0, .ref (ad (17 + l0)))] := hl
  unfold f_X1_computeDigest at hG
  obtain ⟨hq_l0, hG⟩ := ot hG
  refine lv_ldc2 (v := 17) C.1 C.2.1 C.2.2.2.1 (C.2.2.2.2 _ (List.mem_of_getElem? (i := 1) rfl)) dX1_computeDigest_0 ?_
  refine lv_lstore_n (lv' := [(1, .long (17 : Int64)), (0, .ref (ad (17 + l0)))]) C.1 C.2.1 dX1_computeDigest_3 rfl hl (by decide) rfl (fun ls hl => ?_)
  refine lv_ldc2 (v := 31) C.1 C.2.1 C.2.2.2.1 (C.2.2.2.2 _ (List.mem_of_getElem? (i := 2) rfl)) dX1_computeDigest_4 ?_
  refine lv_lload_n C.1 C.2.1 dX1_computeDigest_7 rfl (lv_at hl 0 rfl) ?_
  refine lv_lmul C.1 C.2.1 dX1_computeDigest_8 ?_
  refine lv_aload_n C.1 C.2.1 dX1_computeDigest_9 rfl (lv_at hl 1 rfl) ?_
  refine xgc_3 (q := l0) C hK hw hq_l0 jX1_computeDigest_1 (List.mem_of_getElem? (i := 3) rfl) dX1_computeDigest_10 ?_
  refine lv_i2l C.1 C.2.1 dX1_computeDigest_13 rfl ?_
  refine lv_ladd C.1 C.2.1 dX1_computeDigest_14 ?_
  refine lv_lstore_n (lv' := [(1, .long (((31 : Int64) * (17 : Int64)) + (Int32.toInt64 ((x_cf u) 3 l0)))), (0, .ref (ad (17 + l0)))]) C.1 C.2.1 dX1_computeDigest_15 rfl hl (by decide) rfl (fun ls hl => ?_)
  refine lv_ldc2 (v := 31) C.1 C.2.1 C.2.2.2.1 (C.2.2.2.2 _ (List.mem_of_getElem? (i := 2) rfl)) dX1_computeDigest_16 ?_
  refine lv_lload_n C.1 C.2.1 dX1_computeDigest_19 rfl (lv_at hl 0 rfl) ?_
  refine lv_lmul C.1 C.2.1 dX1_computeDigest_20 ?_
  refine lv_aload_n C.1 C.2.1 dX1_computeDigest_21 rfl (lv_at hl 1 rfl) ?_
  refine xgc_4 (q := l0) C hK hw hq_l0 jX1_computeDigest_1 (List.mem_of_getElem? (i := 4) rfl) dX1_computeDigest_22 ?_
  refine lv_i2l C.1 C.2.1 dX1_computeDigest_25 rfl ?_
  refine lv_ladd C.1 C.2.1 dX1_computeDigest_26 ?_
  refine lv_lstore_n (lv' := [(1, .long (((31 : Int64) * (((31 : Int64) * (17 : Int64)) + (Int32.toInt64 ((x_cf u) 3 l0)))) + (Int32.toInt64 ((x_cf u) 4 l0)))), (0, .ref (ad (17 + l0)))]) C.1 C.2.1 dX1_computeDigest_27 rfl hl (by decide) rfl (fun ls hl => ?_)
  refine lv_ldc2 (v := 31) C.1 C.2.1 C.2.2.2.1 (C.2.2.2.2 _ (List.mem_of_getElem? (i := 2) rfl)) dX1_computeDigest_28 ?_
  refine lv_lload_n C.1 C.2.1 dX1_computeDigest_31 rfl (lv_at hl 0 rfl) ?_
  refine lv_lmul C.1 C.2.1 dX1_computeDigest_32 ?_
  refine lv_aload_n C.1 C.2.1 dX1_computeDigest_33 rfl (lv_at hl 1 rfl) ?_
  refine xgc_5 (q := l0) C hK hw hq_l0 jX1_computeDigest_1 (List.mem_of_getElem? (i := 5) rfl) dX1_computeDigest_34 ?_
  refine lv_i2l C.1 C.2.1 dX1_computeDigest_37 rfl ?_
  refine lv_ladd C.1 C.2.1 dX1_computeDigest_38 ?_
  refine lv_lstore_n (lv' := [(1, .long (((31 : Int64) * (((31 : Int64) * (((31 : Int64) * (17 : Int64)) + (Int32.toInt64 ((x_cf u) 3 l0)))) + (Int32.toInt64 ((x_cf u) 4 l0)))) + (Int32.toInt64 ((x_cf u) 5 l0)))), (0, .ref (ad (17 + l0)))]) C.1 C.2.1 dX1_computeDigest_39 rfl hl (by decide) rfl (fun ls hl => ?_)
  refine lv_ldc2 (v := 31) C.1 C.2.1 C.2.2.2.1 (C.2.2.2.2 _ (List.mem_of_getElem? (i := 2) rfl)) dX1_computeDigest_40 ?_
  refine lv_lload_n C.1 C.2.1 dX1_computeDigest_43 rfl (lv_at hl 0 rfl) ?_
  refine lv_lmul C.1 C.2.1 dX1_computeDigest_44 ?_
  refine lv_aload_n C.1 C.2.1 dX1_computeDigest_45 rfl (lv_at hl 1 rfl) ?_
  refine xgc_6 (q := l0) C hK hw hq_l0 jX1_computeDigest_1 (List.mem_of_getElem? (i := 6) rfl) dX1_computeDigest_46 ?_
  refine lv_i2l C.1 C.2.1 dX1_computeDigest_49 rfl ?_
  refine lv_ladd C.1 C.2.1 dX1_computeDigest_50 ?_
  refine lv_lstore_n (lv' := [(1, .long (((31 : Int64) * (((31 : Int64) * (((31 : Int64) * (((31 : Int64) * (17 : Int64)) + (Int32.toInt64 ((x_cf u) 3 l0)))) + (Int32.toInt64 ((x_cf u) 4 l0)))) + (Int32.toInt64 ((x_cf u) 5 l0)))) + (Int32.toInt64 ((x_cf u) 6 l0)))), (0, .ref (ad (17 + l0)))]) C.1 C.2.1 dX1_computeDigest_51 rfl hl (by decide) rfl (fun ls hl => ?_)
  refine lv_ldc2 (v := 31) C.1 C.2.1 C.2.2.2.1 (C.2.2.2.2 _ (List.mem_of_getElem? (i := 2) rfl)) dX1_computeDigest_52 ?_
  refine lv_lload_n C.1 C.2.1 dX1_computeDigest_55 rfl (lv_at hl 0 rfl) ?_
  refine lv_lmul C.1 C.2.1 dX1_computeDigest_56 ?_
  refine lv_aload_n C.1 C.2.1 dX1_computeDigest_57 rfl (lv_at hl 1 rfl) ?_
  refine xgc_7 (q := l0) C hK hw hq_l0 jX1_computeDigest_1 (List.mem_of_getElem? (i := 7) rfl) dX1_computeDigest_58 ?_
  refine lv_i2l C.1 C.2.1 dX1_computeDigest_61 rfl ?_
  refine lv_ladd C.1 C.2.1 dX1_computeDigest_62 ?_
  refine lv_lstore_n (lv' := [(1, .long (((31 : Int64) * (((31 : Int64) * (((31 : Int64) * (((31 : Int64) * (((31 : Int64) * (17 : Int64)) + (Int32.toInt64 ((x_cf u) 3 l0)))) + (Int32.toInt64 ((x_cf u) 4 l0)))) + (Int32.toInt64 ((x_cf u) 5 l0)))) + (Int32.toInt64 ((x_cf u) 6 l0)))) + (Int32.toInt64 ((x_cf u) 7 l0)))), (0, .ref (ad (17 + l0)))]) C.1 C.2.1 dX1_computeDigest_63 rfl hl (by decide) rfl (fun ls hl => ?_)
  refine lv_ldc2 (v := 31) C.1 C.2.1 C.2.2.2.1 (C.2.2.2.2 _ (List.mem_of_getElem? (i := 2) rfl)) dX1_computeDigest_64 ?_
  refine lv_lload_n C.1 C.2.1 dX1_computeDigest_67 rfl (lv_at hl 0 rfl) ?_
  refine lv_lmul C.1 C.2.1 dX1_computeDigest_68 ?_
  refine lv_aload_n C.1 C.2.1 dX1_computeDigest_69 rfl (lv_at hl 1 rfl) ?_
  refine xgc_8 (q := l0) C hK hw hq_l0 jX1_computeDigest_1 (List.mem_of_getElem? (i := 8) rfl) dX1_computeDigest_70 ?_
  refine lv_i2l C.1 C.2.1 dX1_computeDigest_73 rfl ?_
  refine lv_ladd C.1 C.2.1 dX1_computeDigest_74 ?_
  refine lv_lstore_n (lv' := [(1, .long (((31 : Int64) * (((31 : Int64) * (((31 : Int64) * (((31 : Int64) * (((31 : Int64) * (((31 : Int64) * (17 : Int64)) + (Int32.toInt64 ((x_cf u) 3 l0)))) + (Int32.toInt64 ((x_cf u) 4 l0)))) + (Int32.toInt64 ((x_cf u) 5 l0)))) + (Int32.toInt64 ((x_cf u) 6 l0)))) + (Int32.toInt64 ((x_cf u) 7 l0)))) + (Int32.toInt64 ((x_cf u) 8 l0)))), (0, .ref (ad (17 + l0)))]) C.1 C.2.1 dX1_computeDigest_75 rfl hl (by decide) rfl (fun ls hl => ?_)
  refine lv_ldc2 (v := 31) C.1 C.2.1 C.2.2.2.1 (C.2.2.2.2 _ (List.mem_of_getElem? (i := 2) rfl)) dX1_computeDigest_76 ?_
  refine lv_lload_n C.1 C.2.1 dX1_computeDigest_79 rfl (lv_at hl 0 rfl) ?_
  refine lv_lmul C.1 C.2.1 dX1_computeDigest_80 ?_
  refine lv_aload_n C.1 C.2.1 dX1_computeDigest_81 rfl (lv_at hl 1 rfl) ?_
  refine xgc_9 (q := l0) C hK hw hq_l0 jX1_computeDigest_1 (List.mem_of_getElem? (i := 9) rfl) dX1_computeDigest_82 ?_
  refine lv_i2l C.1 C.2.1 dX1_computeDigest_85 rfl ?_
  refine lv_ladd C.1 C.2.1 dX1_computeDigest_86 ?_
  refine lv_lstore_n (lv' := [(1, .long (((31 : Int64) * (((31 : Int64) * (((31 : Int64) * (((31 : Int64) * (((31 : Int64) * (((31 : Int64) * (((31 : Int64) * (17 : Int64)) + (Int32.toInt64 ((x_cf u) 3 l0)))) + (Int32.toInt64 ((x_cf u) 4 l0)))) + (Int32.toInt64 ((x_cf u) 5 l0)))) + (Int32.toInt64 ((x_cf u) 6 l0)))) + (Int32.toInt64 ((x_cf u) 7 l0)))) + (Int32.toInt64 ((x_cf u) 8 l0)))) + (Int32.toInt64 ((x_cf u) 9 l0)))), (0, .ref (ad (17 + l0)))]) C.1 C.2.1 dX1_computeDigest_87 rfl hl (by decide) rfl (fun ls hl => ?_)
  refine lv_iconst (v := 0) C.1 C.2.1 dX1_computeDigest_88 (by decide) ?_
  refine lv_istore_n (lv' := [(3, .int (0 : Int32)), (1, .long (((31 : Int64) * (((31 : Int64) * (((31 : Int64) * (((31 : Int64) * (((31 : Int64) * (((31 : Int64) * (((31 : Int64) * (17 : Int64)) + (Int32.toInt64 ((x_cf u) 3 l0)))) + (Int32.toInt64 ((x_cf u) 4 l0)))) + (Int32.toInt64 ((x_cf u) 5 l0)))) + (Int32.toInt64 ((x_cf u) 6 l0)))) + (Int32.toInt64 ((x_cf u) 7 l0)))) + (Int32.toInt64 ((x_cf u) 8 l0)))) + (Int32.toInt64 ((x_cf u) 9 l0)))), (0, .ref (ad (17 + l0)))]) C.1 C.2.1 dX1_computeDigest_89 rfl hl (by decide) rfl (fun ls hl => ?_)
  exact kl_X1_computeDigest_90 C hr hlocks hK 1000 l0 (((31 : Int64) * (((31 : Int64) * (((31 : Int64) * (((31 : Int64) * (((31 : Int64) * (((31 : Int64) * (((31 : Int64) * (17 : Int64)) + (Int32.toInt64 ((x_cf u) 3 l0)))) + (Int32.toInt64 ((x_cf u) 4 l0)))) + (Int32.toInt64 ((x_cf u) 5 l0)))) + (Int32.toInt64 ((x_cf u) 6 l0)))) + (Int32.toInt64 ((x_cf u) 7 l0)))) + (Int32.toInt64 ((x_cf u) 8 l0)))) + (Int32.toInt64 ((x_cf u) 9 l0))) (0 : Int32) u _ _ _ hG hw (lv_sub hl [2, 1, 0] rfl) hq_l0
theorem jX2_begin_2 : ∀ w ∈ wsX20, w ∈ wsX2_begin := by decide +kernel
def f_X2_begin (l1 : Int32) (l2 : Int32) (l3 : Int32) (l4 : Int32) (u : XS) : Option XS := ((f_X1_begin 0 l1 l2 l3 l4 u).bind fun q_1 => some (xs_the (xs_add q_1 (0 : Int32)) (1 : Int32)))
set_option maxHeartbeats 4000000 in
set_option maxRecDepth 100000 in
theorem k_X2_begin (l : Launch) (D : va_G) (ad : Nat → Nat) (cI cJ cR : ClassId) (u : XS) (l1 : Int32) (l2 : Int32) (l3 : Int32) (l4 : Int32) (u1 : XS) (hG : f_X2_begin l1 l2 l3 l4 u = some u1) : Met l yX2_begin wsX2_begin ({ frames := 1, cells := 0, slots := 0, locals := 24 } : Room) (va_Pc [.ref (ad 9), .int l1, .int l2, .int l3, .int l4] (XB D ad cI cJ cR u)) (va_Qv (S := XS) (fun u2 => u2 = u1) (XB D ad cI cJ cR) (AX ad)) 0 0 (AX ad) := by
  refine Met.ofW (cc := cX2_begin) (maxL := 5) (ret := none) (by decide) rfl ?_
  intro p e s m args below meth c s₁ B hml hv
  obtain ⟨rfl, hP0, hK, hD0⟩ := hv
  have C : CallFix p m c cX2_begin 5 s _ wsX2_begin RX2 := ⟨B.exec, B.bytes, hml, findClass_of_methodNamed B.named, atoms_spec (ws := wsX2_begin) B.pre⟩
  have hr := B.returns
  have hlocks := B.notSynchronized
  have hw : XW D ad cI cJ cR s.heap s.heap [] u := ⟨hP0, hD0, va_S.rf⟩
  refine en_W (Nat.le_of_ble_eq_true rfl) (fun ls hl => ?_)
  have hl : lv_has ls 5 [(0, .ref (ad 9)), (1, .int l1), (2, .int l2), (3, .int l3), (4, .int l4)] := hl
  unfold f_X2_begin at hG
  refine lv_aload_n C.1 C.2.1 dX2_begin_0 rfl (lv_at hl 0 rfl) ?_
  refine xg_9_0 C hK hw jX2_begin_2 (List.mem_of_getElem? (i := 1) rfl) dX2_begin_1 ?_
  refine lv_iload_n C.1 C.2.1 dX2_begin_4 rfl (lv_at hl 1 rfl) ?_
  refine lv_iload_n C.1 C.2.1 dX2_begin_5 rfl (lv_at hl 2 rfl) ?_
  refine lv_iload_n C.1 C.2.1 dX2_begin_6 rfl (lv_at hl 3 rfl) ?_
  refine lv_iload C.1 C.2.1 dX2_begin_7 (lv_at hl 4 rfl) ?_
  obtain ⟨q_1, hc_1, hG⟩ := ob hG
  try dsimp only at hG
  refine xcVv (As := [.int l1, .int l2, .int l3, .int l4]) (rest := []) C hK hw (k_X1_begin l D ad cI cJ cR u 0 l1 l2 l3 l4 q_1 hc_1) (cwV 4 C.2.2.2.2 gX2_begin_X1_begin rfl rfl rfl (by decide +kernel) ⟨Nat.le_of_ble_eq_true rfl, Nat.le_of_ble_eq_true rfl⟩) (va_recv hK hw.1 (ci := 1) (q0 := 17 + 0) rfl (wX_c (by decide))) rfl hl.1 rfl (Nat.le_of_ble_eq_true rfl) dX2_begin_9 (fun H locs hw => ?_)
  refine lv_aload_n C.1 C.2.1 dX2_begin_12 rfl (lv_at hl 0 rfl) ?_
  refine lv_iconst (v := 0) C.1 C.2.1 dX2_begin_13 (by decide) ?_
  refine xp_9_2 C hK hw jX2_begin_2 (List.mem_of_getElem? (i := 2) rfl) dX2_begin_14 (fun H locs hw => ?_)
  refine lv_aload_n C.1 C.2.1 dX2_begin_17 rfl (lv_at hl 0 rfl) ?_
  refine lv_iconst (v := 1) C.1 C.2.1 dX2_begin_18 (by decide) ?_
  refine xp_9_3 C hK hw jX2_begin_2 (List.mem_of_getElem? (i := 3) rfl) rfl rfl dX2_begin_19 (fun H locs hw => ?_)
  exact xret_v C hlocks hK hw hr (retv hG) dX2_begin_22
theorem jX2_append_2 : ∀ w ∈ wsX20, w ∈ wsX2_append := by decide +kernel
def f_X2_append (l1 : Int32) (u : XS) : Option (Int32 × XS) := (if inb (x_add u) 12 = true then some (((x_add u) + (1 : Int32)), (xs_add (xs_dsg u (upd (x_dsg u) (Int32.toNatClampNeg (x_add u)) l1)) ((x_add u) + (1 : Int32)))) else none)
set_option maxHeartbeats 4000000 in
set_option maxRecDepth 100000 in
theorem k_X2_append (l : Launch) (D : va_G) (ad : Nat → Nat) (cI cJ cR : ClassId) (u : XS) (l1 : Int32) (r1 : Int32) (u1 : XS) (hG : f_X2_append l1 u = some (r1, u1)) : Met l yX2_append wsX2_append ({ frames := 0, cells := 0, slots := 0, locals := 0 } : Room) (va_Pc [.ref (ad 9), .int l1] (XB D ad cI cJ cR u)) (va_Qi (S := XS) (fun r u2 => r = r1 ∧ u2 = u1) (XB D ad cI cJ cR) (AX ad)) 0 0 (AX ad) := by
  refine Met.ofW (cc := cX2_append) (maxL := 2) (ret := (some .int)) (by decide) rfl ?_
  intro p e s m args below meth c s₁ B hml hv
  obtain ⟨rfl, hP0, hK, hD0⟩ := hv
  have C : CallFix p m c cX2_append 2 s _ wsX2_append RX2 := ⟨B.exec, B.bytes, hml, findClass_of_methodNamed B.named, atoms_spec (ws := wsX2_append) B.pre⟩
  have hr := B.returns
  have hlocks := B.notSynchronized
  have hw : XW D ad cI cJ cR s.heap s.heap [] u := ⟨hP0, hD0, va_S.rf⟩
  refine en_W (Nat.le_of_ble_eq_true rfl) (fun ls hl => ?_)
  have hl : lv_has ls 2 [(0, .ref (ad 9)), (1, .int l1)] := hl
  unfold f_X2_append at hG
  refine lv_aload_n C.1 C.2.1 dX2_append_0 rfl (lv_at hl 0 rfl) ?_
  refine xg_9_1 C hK hw jX2_append_2 (List.mem_of_getElem? (i := 1) rfl) dX2_append_1 ?_
  refine lv_aload_n C.1 C.2.1 dX2_append_4 rfl (lv_at hl 0 rfl) ?_
  refine xg_9_2 C hK hw jX2_append_2 (List.mem_of_getElem? (i := 2) rfl) dX2_append_5 ?_
  refine lv_iload_n C.1 C.2.1 dX2_append_8 rfl (lv_at hl 1 rfl) ?_
  obtain ⟨h_1, hG⟩ := og hG
  refine xt_10 C hK hw h_1 dX2_append_9 (fun H locs hw => ?_)
  refine lv_aload_n C.1 C.2.1 dX2_append_10 rfl (lv_at hl 0 rfl) ?_
  refine lv_dup C.1 C.2.1 dX2_append_11 rfl ?_
  refine xg_9_2 C hK hw jX2_append_2 (List.mem_of_getElem? (i := 2) rfl) dX2_append_12 ?_
  refine lv_iconst (v := 1) C.1 C.2.1 dX2_append_15 (by decide) ?_
  refine lv_iadd C.1 C.2.1 dX2_append_16 ?_
  refine xp_9_2 C hK hw jX2_append_2 (List.mem_of_getElem? (i := 2) rfl) dX2_append_17 (fun H locs hw => ?_)
  refine lv_aload_n C.1 C.2.1 dX2_append_20 rfl (lv_at hl 0 rfl) ?_
  refine xg_9_2 C hK hw jX2_append_2 (List.mem_of_getElem? (i := 2) rfl) dX2_append_21 ?_
  exact xret_i C hlocks hK hw hr (ret2 hG) dX2_append_24
theorem jX3_note_3 : ∀ w ∈ wsX30, w ∈ wsX3_note := by decide +kernel
def f_X3_note (l1 : Int32) (l2 : Int32) (l3 : Int32) (u : XS) : Option XS := (if (60 : Int32) ≤ ((x_nws u) + (1 : Int32)) then (if inb (0 : Int32) 60 = true then (if inb (0 : Int32) 60 = true then (if inb (0 : Int32) 60 = true then some (xs_ina (xs_kep (xs_eun (xs_ewh (xs_etk (xs_nws u (0 : Int32)) (upd (x_etk u) (Int32.toNatClampNeg (0 : Int32)) l1)) (upd (x_ewh u) (Int32.toNatClampNeg (0 : Int32)) l2)) (upd (x_eun u) (Int32.toNatClampNeg (0 : Int32)) l3)) (if (60 : Int32) < ((x_kep u) + (1 : Int32)) then (60 : Int32) else ((x_kep u) + (1 : Int32)))) ((x_ina u) + (1 : Int32))) else none) else none) else none) else (if inb ((x_nws u) + (1 : Int32)) 60 = true then (if inb ((x_nws u) + (1 : Int32)) 60 = true then (if inb ((x_nws u) + (1 : Int32)) 60 = true then some (xs_ina (xs_kep (xs_eun (xs_ewh (xs_etk (xs_nws u ((x_nws u) + (1 : Int32))) (upd (x_etk u) (Int32.toNatClampNeg ((x_nws u) + (1 : Int32))) l1)) (upd (x_ewh u) (Int32.toNatClampNeg ((x_nws u) + (1 : Int32))) l2)) (upd (x_eun u) (Int32.toNatClampNeg ((x_nws u) + (1 : Int32))) l3)) (if (60 : Int32) < ((x_kep u) + (1 : Int32)) then (60 : Int32) else ((x_kep u) + (1 : Int32)))) ((x_ina u) + (1 : Int32))) else none) else none) else none))
set_option maxHeartbeats 4000000 in
set_option maxRecDepth 100000 in
theorem k_X3_note (l : Launch) (D : va_G) (ad : Nat → Nat) (cI cJ cR : ClassId) (u : XS) (l1 : Int32) (l2 : Int32) (l3 : Int32) (u1 : XS) (hG : f_X3_note l1 l2 l3 u = some u1) : Met l yX3_note wsX3_note ({ frames := 1, cells := 0, slots := 0, locals := 21 } : Room) (va_Pc [.ref (ad 13), .int l1, .int l2, .int l3] (XB D ad cI cJ cR u)) (va_Qv (S := XS) (fun u2 => u2 = u1) (XB D ad cI cJ cR) (AX ad)) 0 0 (AX ad) := by
  refine Met.ofW (cc := cX3_note) (maxL := 4) (ret := none) (by decide) rfl ?_
  intro p e s m args below meth c s₁ B hml hv
  obtain ⟨rfl, hP0, hK, hD0⟩ := hv
  have C : CallFix p m c cX3_note 4 s _ wsX3_note RX3 := ⟨B.exec, B.bytes, hml, findClass_of_methodNamed B.named, atoms_spec (ws := wsX3_note) B.pre⟩
  have hr := B.returns
  have hlocks := B.notSynchronized
  have hw : XW D ad cI cJ cR s.heap s.heap [] u := ⟨hP0, hD0, va_S.rf⟩
  refine en_W (Nat.le_of_ble_eq_true rfl) (fun ls hl => ?_)
  have hl : lv_has ls 4 [(0, .ref (ad 13)), (1, .int l1), (2, .int l2), (3, .int l3)] := hl
  unfold f_X3_note at hG
  refine lv_aload_n C.1 C.2.1 dX3_note_0 rfl (lv_at hl 0 rfl) ?_
  refine lv_aload_n C.1 C.2.1 dX3_note_1 rfl (lv_at hl 0 rfl) ?_
  refine xg_13_4 C hK hw jX3_note_3 (List.mem_of_getElem? (i := 1) rfl) dX3_note_2 ?_
  refine lv_iconst (v := 1) C.1 C.2.1 dX3_note_5 (by decide) ?_
  refine lv_iadd C.1 C.2.1 dX3_note_6 ?_
  refine lv_bipush (v := 60) C.1 C.2.1 dX3_note_7 (by decide) ?_
  refine lv_icmp_ge (tgt := 21) C.1 C.2.1 dX3_note_9 (by decide) (fun (h_1 : (60 : Int32) ≤ ((x_nws u) + (1 : Int32))) => ?_) (fun (h_1 : ¬ (60 : Int32) ≤ ((x_nws u) + (1 : Int32))) => ?_)
  · replace hG := ip h_1 hG
    refine lv_iconst (v := 0) C.1 C.2.1 dX3_note_21 (by decide) ?_
    refine xp_13_4 C hK hw jX3_note_3 (List.mem_of_getElem? (i := 1) rfl) dX3_note_22 (fun H locs hw => ?_)
    refine lv_aload_n C.1 C.2.1 dX3_note_25 rfl (lv_at hl 0 rfl) ?_
    refine xg_13_0 C hK hw jX3_note_3 (List.mem_of_getElem? (i := 2) rfl) dX3_note_26 ?_
    refine lv_aload_n C.1 C.2.1 dX3_note_29 rfl (lv_at hl 0 rfl) ?_
    refine xg_13_4 C hK hw jX3_note_3 (List.mem_of_getElem? (i := 1) rfl) dX3_note_30 ?_
    refine lv_iload_n C.1 C.2.1 dX3_note_33 rfl (lv_at hl 1 rfl) ?_
    obtain ⟨h_2, hG⟩ := og hG
    refine xt_14 C hK hw h_2 dX3_note_34 (fun H locs hw => ?_)
    refine lv_aload_n C.1 C.2.1 dX3_note_35 rfl (lv_at hl 0 rfl) ?_
    refine xg_13_1 C hK hw jX3_note_3 (List.mem_of_getElem? (i := 3) rfl) dX3_note_36 ?_
    refine lv_aload_n C.1 C.2.1 dX3_note_39 rfl (lv_at hl 0 rfl) ?_
    refine xg_13_4 C hK hw jX3_note_3 (List.mem_of_getElem? (i := 1) rfl) dX3_note_40 ?_
    refine lv_iload_n C.1 C.2.1 dX3_note_43 rfl (lv_at hl 2 rfl) ?_
    obtain ⟨h_3, hG⟩ := og hG
    refine xt_15 C hK hw h_3 dX3_note_44 (fun H locs hw => ?_)
    refine lv_aload_n C.1 C.2.1 dX3_note_45 rfl (lv_at hl 0 rfl) ?_
    refine xg_13_2 C hK hw jX3_note_3 (List.mem_of_getElem? (i := 4) rfl) dX3_note_46 ?_
    refine lv_aload_n C.1 C.2.1 dX3_note_49 rfl (lv_at hl 0 rfl) ?_
    refine xg_13_4 C hK hw jX3_note_3 (List.mem_of_getElem? (i := 1) rfl) dX3_note_50 ?_
    refine lv_iload_n C.1 C.2.1 dX3_note_53 rfl (lv_at hl 3 rfl) ?_
    obtain ⟨h_4, hG⟩ := og hG
    refine xt_16 C hK hw h_4 dX3_note_54 (fun H locs hw => ?_)
    refine lv_aload_n C.1 C.2.1 dX3_note_55 rfl (lv_at hl 0 rfl) ?_
    refine lv_aload_n C.1 C.2.1 dX3_note_56 rfl (lv_at hl 0 rfl) ?_
    refine xg_13_3 C hK hw jX3_note_3 (List.mem_of_getElem? (i := 5) rfl) dX3_note_57 ?_
    refine lv_iconst (v := 1) C.1 C.2.1 dX3_note_60 (by decide) ?_
    refine lv_iadd C.1 C.2.1 dX3_note_61 ?_
    refine lv_bipush (v := 60) C.1 C.2.1 dX3_note_62 (by decide) ?_
    refine va_mmin C.1 C.2.1 (C.2.2.1.trans hl.1.symm) C.2.2.2.1 (C.2.2.2.2 _ (List.mem_of_getElem? (i := 6) rfl)) (C.2.2.2.2 _ (List.mem_of_getElem? (i := 7) rfl)) (C.2.2.2.2 _ (List.mem_of_getElem? (i := 8) rfl)) (C.2.2.2.2 _ (List.mem_of_getElem? (i := 9) rfl)) (Nat.le_of_ble_eq_true rfl) (Nat.le_of_ble_eq_true rfl) (Nat.le_of_ble_eq_true rfl) (Nat.le_of_ble_eq_true rfl) dX3_note_64 ?_
    refine xp_13_3 C hK hw jX3_note_3 (List.mem_of_getElem? (i := 5) rfl) dX3_note_67 (fun H locs hw => ?_)
    refine lv_aload_n C.1 C.2.1 dX3_note_70 rfl (lv_at hl 0 rfl) ?_
    refine lv_dup C.1 C.2.1 dX3_note_71 rfl ?_
    refine xg_13_5 C hK hw jX3_note_3 (List.mem_of_getElem? (i := 10) rfl) dX3_note_72 ?_
    refine lv_iconst (v := 1) C.1 C.2.1 dX3_note_75 (by decide) ?_
    refine lv_iadd C.1 C.2.1 dX3_note_76 ?_
    refine xp_13_5 C hK hw jX3_note_3 (List.mem_of_getElem? (i := 10) rfl) dX3_note_77 (fun H locs hw => ?_)
    exact xret_v C hlocks hK hw hr (retv hG) dX3_note_80
  · replace hG := inn h_1 hG
    refine lv_aload_n C.1 C.2.1 dX3_note_12 rfl (lv_at hl 0 rfl) ?_
    refine xg_13_4 C hK hw jX3_note_3 (List.mem_of_getElem? (i := 1) rfl) dX3_note_13 ?_
    refine lv_iconst (v := 1) C.1 C.2.1 dX3_note_16 (by decide) ?_
    refine lv_iadd C.1 C.2.1 dX3_note_17 ?_
    refine lv_goto (tgt := 22) C.1 C.2.1 dX3_note_18 (by decide) ?_
    refine xp_13_4 C hK hw jX3_note_3 (List.mem_of_getElem? (i := 1) rfl) dX3_note_22 (fun H locs hw => ?_)
    refine lv_aload_n C.1 C.2.1 dX3_note_25 rfl (lv_at hl 0 rfl) ?_
    refine xg_13_0 C hK hw jX3_note_3 (List.mem_of_getElem? (i := 2) rfl) dX3_note_26 ?_
    refine lv_aload_n C.1 C.2.1 dX3_note_29 rfl (lv_at hl 0 rfl) ?_
    refine xg_13_4 C hK hw jX3_note_3 (List.mem_of_getElem? (i := 1) rfl) dX3_note_30 ?_
    refine lv_iload_n C.1 C.2.1 dX3_note_33 rfl (lv_at hl 1 rfl) ?_
    obtain ⟨h_5, hG⟩ := og hG
    refine xt_14 C hK hw h_5 dX3_note_34 (fun H locs hw => ?_)
    refine lv_aload_n C.1 C.2.1 dX3_note_35 rfl (lv_at hl 0 rfl) ?_
    refine xg_13_1 C hK hw jX3_note_3 (List.mem_of_getElem? (i := 3) rfl) dX3_note_36 ?_
    refine lv_aload_n C.1 C.2.1 dX3_note_39 rfl (lv_at hl 0 rfl) ?_
    refine xg_13_4 C hK hw jX3_note_3 (List.mem_of_getElem? (i := 1) rfl) dX3_note_40 ?_
    refine lv_iload_n C.1 C.2.1 dX3_note_43 rfl (lv_at hl 2 rfl) ?_
    obtain ⟨h_6, hG⟩ := og hG
    refine xt_15 C hK hw h_6 dX3_note_44 (fun H locs hw => ?_)
    refine lv_aload_n C.1 C.2.1 dX3_note_45 rfl (lv_at hl 0 rfl) ?_
    refine xg_13_2 C hK hw jX3_note_3 (List.mem_of_getElem? (i := 4) rfl) dX3_note_46 ?_
    refine lv_aload_n C.1 C.2.1 dX3_note_49 rfl (lv_at hl 0 rfl) ?_
    refine xg_13_4 C hK hw jX3_note_3 (List.mem_of_getElem? (i := 1) rfl) dX3_note_50 ?_
    refine lv_iload_n C.1 C.2.1 dX3_note_53 rfl (lv_at hl 3 rfl) ?_
    obtain ⟨h_7, hG⟩ := og hG
    refine xt_16 C hK hw h_7 dX3_note_54 (fun H locs hw => ?_)
    refine lv_aload_n C.1 C.2.1 dX3_note_55 rfl (lv_at hl 0 rfl) ?_
    refine lv_aload_n C.1 C.2.1 dX3_note_56 rfl (lv_at hl 0 rfl) ?_
    refine xg_13_3 C hK hw jX3_note_3 (List.mem_of_getElem? (i := 5) rfl) dX3_note_57 ?_
    refine lv_iconst (v := 1) C.1 C.2.1 dX3_note_60 (by decide) ?_
    refine lv_iadd C.1 C.2.1 dX3_note_61 ?_
    refine lv_bipush (v := 60) C.1 C.2.1 dX3_note_62 (by decide) ?_
    refine va_mmin C.1 C.2.1 (C.2.2.1.trans hl.1.symm) C.2.2.2.1 (C.2.2.2.2 _ (List.mem_of_getElem? (i := 6) rfl)) (C.2.2.2.2 _ (List.mem_of_getElem? (i := 7) rfl)) (C.2.2.2.2 _ (List.mem_of_getElem? (i := 8) rfl)) (C.2.2.2.2 _ (List.mem_of_getElem? (i := 9) rfl)) (Nat.le_of_ble_eq_true rfl) (Nat.le_of_ble_eq_true rfl) (Nat.le_of_ble_eq_true rfl) (Nat.le_of_ble_eq_true rfl) dX3_note_64 ?_
    refine xp_13_3 C hK hw jX3_note_3 (List.mem_of_getElem? (i := 5) rfl) dX3_note_67 (fun H locs hw => ?_)
    refine lv_aload_n C.1 C.2.1 dX3_note_70 rfl (lv_at hl 0 rfl) ?_
    refine lv_dup C.1 C.2.1 dX3_note_71 rfl ?_
    refine xg_13_5 C hK hw jX3_note_3 (List.mem_of_getElem? (i := 10) rfl) dX3_note_72 ?_
    refine lv_iconst (v := 1) C.1 C.2.1 dX3_note_75 (by decide) ?_
    refine lv_iadd C.1 C.2.1 dX3_note_76 ?_
    refine xp_13_5 C hK hw jX3_note_3 (List.mem_of_getElem? (i := 10) rfl) dX3_note_77 (fun H locs hw => ?_)
    exact xret_v C hlocks hK hw hr (retv hG) dX3_note_80
theorem jX3_placeOf_3 : ∀ w ∈ wsX30, w ∈ wsX3_placeOf := by decide +kernel
def f_X3_placeOf (l1 : Int32) (u : XS) : Option Int32 := (if ((x_nws u) - l1) < (0 : Int32) then some (((x_nws u) - l1) + (60 : Int32)) else some ((x_nws u) - l1))
set_option maxHeartbeats 4000000 in
set_option maxRecDepth 100000 in
theorem k_X3_placeOf (l : Launch) (D : va_G) (ad : Nat → Nat) (cI cJ cR : ClassId) (u : XS) (l1 : Int32) (r1 : Int32) (hG : f_X3_placeOf l1 u = some r1) : Met l yX3_placeOf wsX3_placeOf ({ frames := 0, cells := 0, slots := 0, locals := 0 } : Room) (va_Pc [.ref (ad 13), .int l1] (XB D ad cI cJ cR u)) (va_Qi (S := XS) (fun r u2 => r = r1 ∧ u2 = u) (XB D ad cI cJ cR) (AX ad)) 0 0 (AX ad) := by
  refine Met.ofW (cc := cX3_placeOf) (maxL := 3) (ret := (some .int)) (by decide) rfl ?_
  intro p e s m args below meth c s₁ B hml hv
  obtain ⟨rfl, hP0, hK, hD0⟩ := hv
  have C : CallFix p m c cX3_placeOf 3 s _ wsX3_placeOf RX3 := ⟨B.exec, B.bytes, hml, findClass_of_methodNamed B.named, atoms_spec (ws := wsX3_placeOf) B.pre⟩
  have hr := B.returns
  have hlocks := B.notSynchronized
  have hw : XW D ad cI cJ cR s.heap s.heap [] u := ⟨hP0, hD0, va_S.rf⟩
  refine en_W (Nat.le_of_ble_eq_true rfl) (fun ls hl => ?_)
  have hl : lv_has ls 3 [(0, .ref (ad 13)), (1, .int l1)] := hl
  unfold f_X3_placeOf at hG
  refine lv_aload_n C.1 C.2.1 dX3_placeOf_0 rfl (lv_at hl 0 rfl) ?_
  refine xg_13_4 C hK hw jX3_placeOf_3 (List.mem_of_getElem? (i := 1) rfl) dX3_placeOf_1 ?_
  refine lv_iload_n C.1 C.2.1 dX3_placeOf_4 rfl (lv_at hl 1 rfl) ?_
  refine lv_isub C.1 C.2.1 dX3_placeOf_5 ?_
  refine lv_istore_n (lv' := [(2, .int ((x_nws u) - l1)), (0, .ref (ad 13)), (1, .int l1)]) C.1 C.2.1 dX3_placeOf_6 rfl hl (by decide) rfl (fun ls hl => ?_)
  refine lv_iload_n C.1 C.2.1 dX3_placeOf_7 rfl (lv_at hl 0 rfl) ?_
  refine lv_if_lt (tgt := 15) C.1 C.2.1 dX3_placeOf_8 (by decide) (fun (h_1 : ((x_nws u) - l1) < (0 : Int32)) => ?_) (fun (h_1 : ¬ ((x_nws u) - l1) < (0 : Int32)) => ?_)
  · replace hG := ip h_1 hG
    refine lv_iload_n C.1 C.2.1 dX3_placeOf_15 rfl (lv_at hl 0 rfl) ?_
    refine lv_bipush (v := 60) C.1 C.2.1 dX3_placeOf_16 (by decide) ?_
    refine lv_iadd C.1 C.2.1 dX3_placeOf_18 ?_
    exact xret_i C hlocks hK hw hr (ret1 hG) dX3_placeOf_19
  · replace hG := inn h_1 hG
    refine lv_iload_n C.1 C.2.1 dX3_placeOf_11 rfl (lv_at hl 0 rfl) ?_
    refine lv_goto (tgt := 19) C.1 C.2.1 dX3_placeOf_12 (by decide) ?_
    exact xret_i C hlocks hK hw hr (ret1 hG) dX3_placeOf_19
theorem jX4_has_4 : ∀ w ∈ wsX40, w ∈ wsX4_has := by decide +kernel
def f_X4_has (l1 : Int32) (u : XS) : Option Int32 := (if l1 < (0 : Int32) then some (0 : Int32) else (if (x_sgc u) ≤ l1 then some (0 : Int32) else some (1 : Int32)))
set_option maxHeartbeats 4000000 in
set_option maxRecDepth 100000 in
theorem k_X4_has (l : Launch) (D : va_G) (ad : Nat → Nat) (cI cJ cR : ClassId) (u : XS) (l1 : Int32) (r1 : Int32) (hG : f_X4_has l1 u = some r1) : Met l yX4_has wsX4_has ({ frames := 0, cells := 0, slots := 0, locals := 0 } : Room) (va_Pc [.ref (ad 6), .int l1] (XB D ad cI cJ cR u)) (va_Qi (S := XS) (fun r u2 => r = r1 ∧ u2 = u) (XB D ad cI cJ cR) (AX ad)) 0 0 (AX ad) := by
  refine Met.ofW (cc := cX4_has) (maxL := 2) (ret := (some .boolean)) (by decide) rfl ?_
  intro p e s m args below meth c s₁ B hml hv
  obtain ⟨rfl, hP0, hK, hD0⟩ := hv
  have C : CallFix p m c cX4_has 2 s _ wsX4_has RX4 := ⟨B.exec, B.bytes, hml, findClass_of_methodNamed B.named, atoms_spec (ws := wsX4_has) B.pre⟩
  have hr := B.returns
  have hlocks := B.notSynchronized
  have hw : XW D ad cI cJ cR s.heap s.heap [] u := ⟨hP0, hD0, va_S.rf⟩
  refine en_W (Nat.le_of_ble_eq_true rfl) (fun ls hl => ?_)
  have hl : lv_has ls 2 [(0, .ref (ad 6)), (1, .int l1)] := hl
  unfold f_X4_has at hG
  refine lv_iload_n C.1 C.2.1 dX4_has_0 rfl (lv_at hl 1 rfl) ?_
  refine lv_if_lt (tgt := 16) C.1 C.2.1 dX4_has_1 (by decide) (fun (h_1 : l1 < (0 : Int32)) => ?_) (fun (h_1 : ¬ l1 < (0 : Int32)) => ?_)
  · replace hG := ip h_1 hG
    refine lv_iconst (v := 0) C.1 C.2.1 dX4_has_16 (by decide) ?_
    exact xret_z C hlocks hK hw hr rfl (ret1 hG) dX4_has_17
  · replace hG := inn h_1 hG
    refine lv_iload_n C.1 C.2.1 dX4_has_4 rfl (lv_at hl 1 rfl) ?_
    refine lv_aload_n C.1 C.2.1 dX4_has_5 rfl (lv_at hl 0 rfl) ?_
    refine xg_6_2 C hK hw jX4_has_4 (List.mem_of_getElem? (i := 1) rfl) dX4_has_6 ?_
    refine lv_icmp_ge (tgt := 16) C.1 C.2.1 dX4_has_9 (by decide) (fun (h_2 : (x_sgc u) ≤ l1) => ?_) (fun (h_2 : ¬ (x_sgc u) ≤ l1) => ?_)
    · replace hG := ip h_2 hG
      refine lv_iconst (v := 0) C.1 C.2.1 dX4_has_16 (by decide) ?_
      exact xret_z C hlocks hK hw hr rfl (ret1 hG) dX4_has_17
    · replace hG := inn h_2 hG
      refine lv_iconst (v := 1) C.1 C.2.1 dX4_has_12 (by decide) ?_
      refine lv_goto (tgt := 17) C.1 C.2.1 dX4_has_13 (by decide) ?_
      exact xret_z C hlocks hK hw hr rfl (ret1 hG) dX4_has_17
theorem jX4_keep_4 : ∀ w ∈ wsX40, w ∈ wsX4_keep := by decide +kernel
def f_X4_keep (l1 : Int32) (l2 : Int64) (u : XS) : Option (Int32 × XS) := (if inb (x_sgc u) 200 = true then (if inb (x_sgc u) 200 = true then some ((x_sgc u), (xs_sdg (xs_sky (xs_sgc u ((x_sgc u) + (1 : Int32))) (upd (x_sky u) (Int32.toNatClampNeg (x_sgc u)) l1)) (vp_updL (x_sdg u) (Int32.toNatClampNeg (x_sgc u)) l2))) else none) else none)
set_option maxHeartbeats 4000000 in
set_option maxRecDepth 100000 in
theorem k_X4_keep (l : Launch) (D : va_G) (ad : Nat → Nat) (cI cJ cR : ClassId) (u : XS) (l1 : Int32) (l2 : Int64) (r1 : Int32) (u1 : XS) (hG : f_X4_keep l1 l2 u = some (r1, u1)) : Met l yX4_keep wsX4_keep ({ frames := 0, cells := 0, slots := 0, locals := 0 } : Room) (va_Pc [.ref (ad 6), .int l1, .long l2] (XB D ad cI cJ cR u)) (va_Qi (S := XS) (fun r u2 => r = r1 ∧ u2 = u1) (XB D ad cI cJ cR) (AX ad)) 0 0 (AX ad) := by
  refine Met.ofW (cc := cX4_keep) (maxL := 5) (ret := (some .int)) (by decide) rfl ?_
  intro p e s m args below meth c s₁ B hml hv
  obtain ⟨rfl, hP0, hK, hD0⟩ := hv
  have C : CallFix p m c cX4_keep 5 s _ wsX4_keep RX4 := ⟨B.exec, B.bytes, hml, findClass_of_methodNamed B.named, atoms_spec (ws := wsX4_keep) B.pre⟩
  have hr := B.returns
  have hlocks := B.notSynchronized
  have hw : XW D ad cI cJ cR s.heap s.heap [] u := ⟨hP0, hD0, va_S.rf⟩
  refine en_W (Nat.le_of_ble_eq_true rfl) (fun ls hl => ?_)
  have hl : lv_has ls 5 [(0, .ref (ad 6)), (1, .int l1), (2, .long l2)] := hl
  unfold f_X4_keep at hG
  refine lv_aload_n C.1 C.2.1 dX4_keep_0 rfl (lv_at hl 0 rfl) ?_
  refine xg_6_2 C hK hw jX4_keep_4 (List.mem_of_getElem? (i := 1) rfl) dX4_keep_1 ?_
  refine lv_istore (lv' := [(4, .int (x_sgc u)), (0, .ref (ad 6)), (1, .int l1), (2, .long l2)]) C.1 C.2.1 dX4_keep_4 hl (by decide) rfl (fun ls hl => ?_)
  refine lv_aload_n C.1 C.2.1 dX4_keep_6 rfl (lv_at hl 1 rfl) ?_
  refine lv_dup C.1 C.2.1 dX4_keep_7 rfl ?_
  refine xg_6_2 C hK hw jX4_keep_4 (List.mem_of_getElem? (i := 1) rfl) dX4_keep_8 ?_
  refine lv_iconst (v := 1) C.1 C.2.1 dX4_keep_11 (by decide) ?_
  refine lv_iadd C.1 C.2.1 dX4_keep_12 ?_
  refine xp_6_2 C hK hw jX4_keep_4 (List.mem_of_getElem? (i := 1) rfl) dX4_keep_13 (fun H locs hw => ?_)
  refine lv_aload_n C.1 C.2.1 dX4_keep_16 rfl (lv_at hl 1 rfl) ?_
  refine xg_6_0 C hK hw jX4_keep_4 (List.mem_of_getElem? (i := 2) rfl) dX4_keep_17 ?_
  refine lv_iload C.1 C.2.1 dX4_keep_20 (lv_at hl 0 rfl) ?_
  refine lv_iload_n C.1 C.2.1 dX4_keep_22 rfl (lv_at hl 2 rfl) ?_
  obtain ⟨h_1, hG⟩ := og hG
  refine xt_7 C hK hw h_1 dX4_keep_23 (fun H locs hw => ?_)
  refine lv_aload_n C.1 C.2.1 dX4_keep_24 rfl (lv_at hl 1 rfl) ?_
  refine xg_6_1 C hK hw jX4_keep_4 (List.mem_of_getElem? (i := 3) rfl) dX4_keep_25 ?_
  refine lv_iload C.1 C.2.1 dX4_keep_28 (lv_at hl 0 rfl) ?_
  refine lv_lload_n C.1 C.2.1 dX4_keep_30 rfl (lv_at hl 3 rfl) ?_
  obtain ⟨h_2, hG⟩ := og hG
  refine xt_8 C hK hw h_2 dX4_keep_31 (fun H locs hw => ?_)
  refine lv_iload C.1 C.2.1 dX4_keep_32 (lv_at hl 0 rfl) ?_
  exact xret_i C hlocks hK hw hr (ret2 hG) dX4_keep_34
theorem jX5_isFull_5 : ∀ w ∈ wsX50, w ∈ wsX5_isFull := by decide +kernel
def f_X5_isFull (u : XS) : Option Int32 := (if (x_rwc u) < (24 : Int32) then some (0 : Int32) else some (1 : Int32))
set_option maxHeartbeats 4000000 in
set_option maxRecDepth 100000 in
theorem k_X5_isFull (l : Launch) (D : va_G) (ad : Nat → Nat) (cI cJ cR : ClassId) (u : XS) (r1 : Int32) (hG : f_X5_isFull u = some r1) : Met l yX5_isFull wsX5_isFull ({ frames := 0, cells := 0, slots := 0, locals := 0 } : Room) (va_Pc [.ref (ad 11)] (XB D ad cI cJ cR u)) (va_Qi (S := XS) (fun r u2 => r = r1 ∧ u2 = u) (XB D ad cI cJ cR) (AX ad)) 0 0 (AX ad) := by
  refine Met.ofW (cc := cX5_isFull) (maxL := 1) (ret := (some .boolean)) (by decide) rfl ?_
  intro p e s m args below meth c s₁ B hml hv
  obtain ⟨rfl, hP0, hK, hD0⟩ := hv
  have C : CallFix p m c cX5_isFull 1 s _ wsX5_isFull RX5 := ⟨B.exec, B.bytes, hml, findClass_of_methodNamed B.named, atoms_spec (ws := wsX5_isFull) B.pre⟩
  have hr := B.returns
  have hlocks := B.notSynchronized
  have hw : XW D ad cI cJ cR s.heap s.heap [] u := ⟨hP0, hD0, va_S.rf⟩
  refine en_W (Nat.le_of_ble_eq_true rfl) (fun ls hl => ?_)
  have hl : lv_has ls 1 [(0, .ref (ad 11))] := hl
  unfold f_X5_isFull at hG
  refine lv_aload_n C.1 C.2.1 dX5_isFull_0 rfl (lv_at hl 0 rfl) ?_
  refine xg_11_1 C hK hw jX5_isFull_5 (List.mem_of_getElem? (i := 1) rfl) dX5_isFull_1 ?_
  refine lv_bipush (v := 24) C.1 C.2.1 dX5_isFull_4 (by decide) ?_
  refine lv_icmp_lt (tgt := 13) C.1 C.2.1 dX5_isFull_6 (by decide) (fun (h_1 : (x_rwc u) < (24 : Int32)) => ?_) (fun (h_1 : ¬ (x_rwc u) < (24 : Int32)) => ?_)
  · replace hG := ip h_1 hG
    refine lv_iconst (v := 0) C.1 C.2.1 dX5_isFull_13 (by decide) ?_
    exact xret_z C hlocks hK hw hr rfl (ret1 hG) dX5_isFull_14
  · replace hG := inn h_1 hG
    refine lv_iconst (v := 1) C.1 C.2.1 dX5_isFull_9 (by decide) ?_
    refine lv_goto (tgt := 14) C.1 C.2.1 dX5_isFull_10 (by decide) ?_
    exact xret_z C hlocks hK hw hr rfl (ret1 hG) dX5_isFull_14
theorem jX5_indexOf_1 : ∀ w ∈ wsX10, w ∈ wsX5_indexOf := by decide +kernel
theorem jX5_indexOf_5 : ∀ w ∈ wsX50, w ∈ wsX5_indexOf := by decide +kernel
def f_X5_indexOf_2 : Nat → Int32 → Int32 → Int32 → XS → Option Int32
  | 0, _, _, _, _ => none
  | n + 1, l1, l2, l3, u => (if (x_rwc u) ≤ l3 then some (-1 : Int32) else (if inb l3 24 = true then (if ((x_row u) (Int32.toNatClampNeg l3)) < 25 then (if ((x_cf u) 3 ((x_row u) (Int32.toNatClampNeg l3))) = l1 then (if inb l3 24 = true then (if ((x_row u) (Int32.toNatClampNeg l3)) < 25 then (if ((x_cf u) 4 ((x_row u) (Int32.toNatClampNeg l3))) = l2 then some l3 else (f_X5_indexOf_2 n l1 l2 (l3 + (1 : Int32)) u)) else none) else none) else (f_X5_indexOf_2 n l1 l2 (l3 + (1 : Int32)) u)) else none) else none))
set_option maxHeartbeats 4000000 in
set_option maxRecDepth 100000 in
theorem kl_X5_indexOf_2 {p : Program} {l : Launch} {e : Env} {s : State} {m : MethodId} {args : Array Value} {below : List Frame} {meth : Method} {c : Code} {D : va_G} {ad : Nat → Nat} {cI cJ cR : ClassId} (C : CallFix p m c cX5_indexOf 4 s args wsX5_indexOf RX5) (hr : meth.sig.returnType = (some .int)) (hlocks : meth.locks = false) (hK : va_K D vwCl (xT cI cJ cR) s) {r1 : Int32} : ∀ (n : Nat) (l1 : Int32) (l2 : Int32) (l3 : Int32) (u : XS) (H : Heap) (locs : List Loc) (ls : Array Slot), f_X5_indexOf_2 n l1 l2 l3 u = some r1 → XW D ad cI cJ cR s.heap H locs u → lv_has ls 4 [(0, .ref (ad 11)), (1, .int l1), (2, .int l2), (3, .int l3)] → W p l e ({ frames := 0, cells := 0, slots := 0, locals := 0 } : Room) s m args below meth c H locs 0 0 (MQ below (va_Qi (S := XS) (fun r u2 => r = r1 ∧ u2 = u) (XB D ad cI cJ cR) (AX ad)) args s 0 0 (AX ad)) (F0 m 2 ls []) := by
  intro n
  induction n with
  | zero =>
    intro l1 l2 l3 u H locs ls hG
    exact ns hG
  | succ n ih =>
    intro l1 l2 l3 u H locs ls hG hw hl
    rw [f_X5_indexOf_2] at hG
    refine lv_iload_n C.1 C.2.1 dX5_indexOf_2 rfl (lv_at hl 3 rfl) ?_
    refine lv_aload_n C.1 C.2.1 dX5_indexOf_3 rfl (lv_at hl 0 rfl) ?_
    refine xg_11_1 C hK hw jX5_indexOf_5 (List.mem_of_getElem? (i := 1) rfl) dX5_indexOf_4 ?_
    refine lv_icmp_ge (tgt := 44) C.1 C.2.1 dX5_indexOf_7 (by decide) (fun (h_1 : (x_rwc u) ≤ l3) => ?_) (fun (h_1 : ¬ (x_rwc u) ≤ l3) => ?_)
    · replace hG := ip h_1 hG
      refine lv_iconst (v := -1) C.1 C.2.1 dX5_indexOf_44 (by decide) ?_
      exact xret_i C hlocks hK hw hr (ret1 hG) dX5_indexOf_45
    · replace hG := inn h_1 hG
      refine lv_aload_n C.1 C.2.1 dX5_indexOf_10 rfl (lv_at hl 0 rfl) ?_
      refine xg_11_0 C hK hw jX5_indexOf_5 (List.mem_of_getElem? (i := 2) rfl) dX5_indexOf_11 ?_
      refine lv_iload_n C.1 C.2.1 dX5_indexOf_14 rfl (lv_at hl 3 rfl) ?_
      obtain ⟨h_2, hG⟩ := og hG
      refine xl_row C hK hw h_2 dX5_indexOf_15 ?_
      obtain ⟨h_3, hG⟩ := ot hG
      refine xgc_3 (q := ((x_row u) (Int32.toNatClampNeg l3))) C hK hw h_3 jX5_indexOf_1 (List.mem_of_getElem? (i := 3) rfl) dX5_indexOf_16 ?_
      refine lv_iload_n C.1 C.2.1 dX5_indexOf_19 rfl (lv_at hl 1 rfl) ?_
      refine lv_icmp_ne (tgt := 38) C.1 C.2.1 dX5_indexOf_20 (by decide) (fun (h_4 : ¬ ((x_cf u) 3 ((x_row u) (Int32.toNatClampNeg l3))) = l1) => ?_) (fun (h_4 : ((x_cf u) 3 ((x_row u) (Int32.toNatClampNeg l3))) = l1) => ?_)
      · replace hG := inn h_4 hG
        refine lv_iinc (v := (l3 + (1 : Int32))) (lv' := [(3, .int (l3 + (1 : Int32))), (0, .ref (ad 11)), (1, .int l1), (2, .int l2)]) C.1 C.2.1 dX5_indexOf_38 hl (k := 3) rfl rfl (by decide) rfl (fun ls hl => ?_)
        refine lv_goto (tgt := 2) C.1 C.2.1 dX5_indexOf_41 (by decide) ?_
        exact ih l1 l2 (l3 + (1 : Int32)) u _ _ _ hG hw (lv_sub hl [1, 2, 3, 0] rfl)
      · replace hG := ip h_4 hG
        refine lv_aload_n C.1 C.2.1 dX5_indexOf_23 rfl (lv_at hl 0 rfl) ?_
        refine xg_11_0 C hK hw jX5_indexOf_5 (List.mem_of_getElem? (i := 2) rfl) dX5_indexOf_24 ?_
        refine lv_iload_n C.1 C.2.1 dX5_indexOf_27 rfl (lv_at hl 3 rfl) ?_
        obtain ⟨h_5, hG⟩ := og hG
        refine xl_row C hK hw h_5 dX5_indexOf_28 ?_
        obtain ⟨h_6, hG⟩ := ot hG
        refine xgc_4 (q := ((x_row u) (Int32.toNatClampNeg l3))) C hK hw h_6 jX5_indexOf_1 (List.mem_of_getElem? (i := 4) rfl) dX5_indexOf_29 ?_
        refine lv_iload_n C.1 C.2.1 dX5_indexOf_32 rfl (lv_at hl 2 rfl) ?_
        refine lv_icmp_ne (tgt := 38) C.1 C.2.1 dX5_indexOf_33 (by decide) (fun (h_7 : ¬ ((x_cf u) 4 ((x_row u) (Int32.toNatClampNeg l3))) = l2) => ?_) (fun (h_7 : ((x_cf u) 4 ((x_row u) (Int32.toNatClampNeg l3))) = l2) => ?_)
        · replace hG := inn h_7 hG
          refine lv_iinc (v := (l3 + (1 : Int32))) (lv' := [(3, .int (l3 + (1 : Int32))), (0, .ref (ad 11)), (1, .int l1), (2, .int l2)]) C.1 C.2.1 dX5_indexOf_38 hl (k := 3) rfl rfl (by decide) rfl (fun ls hl => ?_)
          refine lv_goto (tgt := 2) C.1 C.2.1 dX5_indexOf_41 (by decide) ?_
          exact ih l1 l2 (l3 + (1 : Int32)) u _ _ _ hG hw (lv_sub hl [1, 2, 3, 0] rfl)
        · replace hG := ip h_7 hG
          refine lv_iload_n C.1 C.2.1 dX5_indexOf_36 rfl (lv_at hl 3 rfl) ?_
          exact xret_i C hlocks hK hw hr (ret1 hG) dX5_indexOf_37
def f_X5_indexOf (l1 : Int32) (l2 : Int32) (u : XS) : Option Int32 := (f_X5_indexOf_2 1000 l1 l2 (0 : Int32) u)
set_option maxHeartbeats 4000000 in
set_option maxRecDepth 100000 in
theorem k_X5_indexOf (l : Launch) (D : va_G) (ad : Nat → Nat) (cI cJ cR : ClassId) (u : XS) (l1 : Int32) (l2 : Int32) (r1 : Int32) (hG : f_X5_indexOf l1 l2 u = some r1) : Met l yX5_indexOf wsX5_indexOf ({ frames := 0, cells := 0, slots := 0, locals := 0 } : Room) (va_Pc [.ref (ad 11), .int l1, .int l2] (XB D ad cI cJ cR u)) (va_Qi (S := XS) (fun r u2 => r = r1 ∧ u2 = u) (XB D ad cI cJ cR) (AX ad)) 0 0 (AX ad) := by
  refine Met.ofW (cc := cX5_indexOf) (maxL := 4) (ret := (some .int)) (by decide) rfl ?_
  intro p e s m args below meth c s₁ B hml hv
  obtain ⟨rfl, hP0, hK, hD0⟩ := hv
  have C : CallFix p m c cX5_indexOf 4 s _ wsX5_indexOf RX5 := ⟨B.exec, B.bytes, hml, findClass_of_methodNamed B.named, atoms_spec (ws := wsX5_indexOf) B.pre⟩
  have hr := B.returns
  have hlocks := B.notSynchronized
  have hw : XW D ad cI cJ cR s.heap s.heap [] u := ⟨hP0, hD0, va_S.rf⟩
  refine en_W (Nat.le_of_ble_eq_true rfl) (fun ls hl => ?_)
  have hl : lv_has ls 4 [(0, .ref (ad 11)), (1, .int l1), (2, .int l2)] := hl
  unfold f_X5_indexOf at hG
  refine lv_iconst (v := 0) C.1 C.2.1 dX5_indexOf_0 (by decide) ?_
  refine lv_istore_n (lv' := [(3, .int (0 : Int32)), (0, .ref (ad 11)), (1, .int l1), (2, .int l2)]) C.1 C.2.1 dX5_indexOf_1 rfl hl (by decide) rfl (fun ls hl => ?_)
  exact kl_X5_indexOf_2 C hr hlocks hK 1000 l1 l2 (0 : Int32) u _ _ _ hG hw (lv_sub hl [1, 2, 3, 0] rfl)
theorem jX5_cheapest_1 : ∀ w ∈ wsX10, w ∈ wsX5_cheapest := by decide +kernel
theorem jX5_cheapest_5 : ∀ w ∈ wsX50, w ∈ wsX5_cheapest := by decide +kernel
def f_X5_cheapest_4 : Nat → Int32 → Int32 → XS → Option Int32
  | 0, _, _, _ => none
  | n + 1, l1, l2, u => (if (x_rwc u) ≤ l2 then some l1 else (if inb l2 24 = true then (if ((x_row u) (Int32.toNatClampNeg l2)) < 25 then (if inb l1 24 = true then (if ((x_row u) (Int32.toNatClampNeg l1)) < 25 then (if ((x_cf u) 5 ((x_row u) (Int32.toNatClampNeg l1))) < ((x_cf u) 5 ((x_row u) (Int32.toNatClampNeg l2))) then (f_X5_cheapest_4 n l1 (l2 + (1 : Int32)) u) else (f_X5_cheapest_4 n l2 (l2 + (1 : Int32)) u)) else none) else none) else none) else none))
set_option maxHeartbeats 4000000 in
set_option maxRecDepth 100000 in
theorem kl_X5_cheapest_4 {p : Program} {l : Launch} {e : Env} {s : State} {m : MethodId} {args : Array Value} {below : List Frame} {meth : Method} {c : Code} {D : va_G} {ad : Nat → Nat} {cI cJ cR : ClassId} (C : CallFix p m c cX5_cheapest 3 s args wsX5_cheapest RX5) (hr : meth.sig.returnType = (some .int)) (hlocks : meth.locks = false) (hK : va_K D vwCl (xT cI cJ cR) s) {r1 : Int32} : ∀ (n : Nat) (l1 : Int32) (l2 : Int32) (u : XS) (H : Heap) (locs : List Loc) (ls : Array Slot), f_X5_cheapest_4 n l1 l2 u = some r1 → XW D ad cI cJ cR s.heap H locs u → lv_has ls 3 [(0, .ref (ad 11)), (1, .int l1), (2, .int l2)] → W p l e ({ frames := 0, cells := 0, slots := 0, locals := 0 } : Room) s m args below meth c H locs 0 0 (MQ below (va_Qi (S := XS) (fun r u2 => r = r1 ∧ u2 = u) (XB D ad cI cJ cR) (AX ad)) args s 0 0 (AX ad)) (F0 m 4 ls []) := by
  intro n
  induction n with
  | zero =>
    intro l1 l2 u H locs ls hG
    exact ns hG
  | succ n ih =>
    intro l1 l2 u H locs ls hG hw hl
    rw [f_X5_cheapest_4] at hG
    refine lv_iload_n C.1 C.2.1 dX5_cheapest_4 rfl (lv_at hl 2 rfl) ?_
    refine lv_aload_n C.1 C.2.1 dX5_cheapest_5 rfl (lv_at hl 0 rfl) ?_
    refine xg_11_1 C hK hw jX5_cheapest_5 (List.mem_of_getElem? (i := 1) rfl) dX5_cheapest_6 ?_
    refine lv_icmp_ge (tgt := 41) C.1 C.2.1 dX5_cheapest_9 (by decide) (fun (h_1 : (x_rwc u) ≤ l2) => ?_) (fun (h_1 : ¬ (x_rwc u) ≤ l2) => ?_)
    · replace hG := ip h_1 hG
      refine lv_iload_n C.1 C.2.1 dX5_cheapest_41 rfl (lv_at hl 1 rfl) ?_
      exact xret_i C hlocks hK hw hr (ret1 hG) dX5_cheapest_42
    · replace hG := inn h_1 hG
      refine lv_aload_n C.1 C.2.1 dX5_cheapest_12 rfl (lv_at hl 0 rfl) ?_
      refine xg_11_0 C hK hw jX5_cheapest_5 (List.mem_of_getElem? (i := 2) rfl) dX5_cheapest_13 ?_
      refine lv_iload_n C.1 C.2.1 dX5_cheapest_16 rfl (lv_at hl 2 rfl) ?_
      obtain ⟨h_2, hG⟩ := og hG
      refine xl_row C hK hw h_2 dX5_cheapest_17 ?_
      obtain ⟨h_3, hG⟩ := ot hG
      refine xgc_5 (q := ((x_row u) (Int32.toNatClampNeg l2))) C hK hw h_3 jX5_cheapest_1 (List.mem_of_getElem? (i := 3) rfl) dX5_cheapest_18 ?_
      refine lv_aload_n C.1 C.2.1 dX5_cheapest_21 rfl (lv_at hl 0 rfl) ?_
      refine xg_11_0 C hK hw jX5_cheapest_5 (List.mem_of_getElem? (i := 2) rfl) dX5_cheapest_22 ?_
      refine lv_iload_n C.1 C.2.1 dX5_cheapest_25 rfl (lv_at hl 1 rfl) ?_
      obtain ⟨h_4, hG⟩ := og hG
      refine xl_row C hK hw h_4 dX5_cheapest_26 ?_
      obtain ⟨h_5, hG⟩ := ot hG
      refine xgc_5 (q := ((x_row u) (Int32.toNatClampNeg l1))) C hK hw h_5 jX5_cheapest_1 (List.mem_of_getElem? (i := 3) rfl) dX5_cheapest_27 ?_
      refine lv_icmp_gt (tgt := 35) C.1 C.2.1 dX5_cheapest_30 (by decide) (fun (h_6 : ((x_cf u) 5 ((x_row u) (Int32.toNatClampNeg l1))) < ((x_cf u) 5 ((x_row u) (Int32.toNatClampNeg l2)))) => ?_) (fun (h_6 : ¬ ((x_cf u) 5 ((x_row u) (Int32.toNatClampNeg l1))) < ((x_cf u) 5 ((x_row u) (Int32.toNatClampNeg l2)))) => ?_)
      · replace hG := ip h_6 hG
        refine lv_iinc (v := (l2 + (1 : Int32))) (lv' := [(2, .int (l2 + (1 : Int32))), (0, .ref (ad 11)), (1, .int l1)]) C.1 C.2.1 dX5_cheapest_35 hl (k := 2) rfl rfl (by decide) rfl (fun ls hl => ?_)
        refine lv_goto (tgt := 4) C.1 C.2.1 dX5_cheapest_38 (by decide) ?_
        exact ih l1 (l2 + (1 : Int32)) u _ _ _ hG hw (lv_sub hl [1, 2, 0] rfl)
      · replace hG := inn h_6 hG
        refine lv_iload_n C.1 C.2.1 dX5_cheapest_33 rfl (lv_at hl 2 rfl) ?_
        refine lv_istore_n (lv' := [(1, .int l2), (0, .ref (ad 11)), (2, .int l2)]) C.1 C.2.1 dX5_cheapest_34 rfl hl (by decide) rfl (fun ls hl => ?_)
        refine lv_iinc (v := (l2 + (1 : Int32))) (lv' := [(2, .int (l2 + (1 : Int32))), (1, .int l2), (0, .ref (ad 11))]) C.1 C.2.1 dX5_cheapest_35 hl (k := 2) rfl rfl (by decide) rfl (fun ls hl => ?_)
        refine lv_goto (tgt := 4) C.1 C.2.1 dX5_cheapest_38 (by decide) ?_
        exact ih l2 (l2 + (1 : Int32)) u _ _ _ hG hw (lv_sub hl [2, 1, 0] rfl)
def f_X5_cheapest (u : XS) : Option Int32 := (f_X5_cheapest_4 1000 (0 : Int32) (1 : Int32) u)
set_option maxHeartbeats 4000000 in
set_option maxRecDepth 100000 in
theorem k_X5_cheapest (l : Launch) (D : va_G) (ad : Nat → Nat) (cI cJ cR : ClassId) (u : XS) (r1 : Int32) (hG : f_X5_cheapest u = some r1) : Met l yX5_cheapest wsX5_cheapest ({ frames := 0, cells := 0, slots := 0, locals := 0 } : Room) (va_Pc [.ref (ad 11)] (XB D ad cI cJ cR u)) (va_Qi (S := XS) (fun r u2 => r = r1 ∧ u2 = u) (XB D ad cI cJ cR) (AX ad)) 0 0 (AX ad) := by
  refine Met.ofW (cc := cX5_cheapest) (maxL := 3) (ret := (some .int)) (by decide) rfl ?_
  intro p e s m args below meth c s₁ B hml hv
  obtain ⟨rfl, hP0, hK, hD0⟩ := hv
  have C : CallFix p m c cX5_cheapest 3 s _ wsX5_cheapest RX5 := ⟨B.exec, B.bytes, hml, findClass_of_methodNamed B.named, atoms_spec (ws := wsX5_cheapest) B.pre⟩
  have hr := B.returns
  have hlocks := B.notSynchronized
  have hw : XW D ad cI cJ cR s.heap s.heap [] u := ⟨hP0, hD0, va_S.rf⟩
  refine en_W (Nat.le_of_ble_eq_true rfl) (fun ls hl => ?_)
  have hl : lv_has ls 3 [(0, .ref (ad 11))] := hl
  unfold f_X5_cheapest at hG
  refine lv_iconst (v := 0) C.1 C.2.1 dX5_cheapest_0 (by decide) ?_
  refine lv_istore_n (lv' := [(1, .int (0 : Int32)), (0, .ref (ad 11))]) C.1 C.2.1 dX5_cheapest_1 rfl hl (by decide) rfl (fun ls hl => ?_)
  refine lv_iconst (v := 1) C.1 C.2.1 dX5_cheapest_2 (by decide) ?_
  refine lv_istore_n (lv' := [(2, .int (1 : Int32)), (1, .int (0 : Int32)), (0, .ref (ad 11))]) C.1 C.2.1 dX5_cheapest_3 rfl hl (by decide) rfl (fun ls hl => ?_)
  exact kl_X5_cheapest_4 C hr hlocks hK 1000 (0 : Int32) (1 : Int32) u _ _ _ hG hw (lv_sub hl [2, 1, 0] rfl)
theorem jX5_append_1 : ∀ w ∈ wsX10, w ∈ wsX5_append := by decide +kernel
theorem jX5_append_5 : ∀ w ∈ wsX50, w ∈ wsX5_append := by decide +kernel
def f_X5_append (l1 : Nat) (u : XS) : Option (Int32 × XS) := (if l1 < 25 then (if inb (x_rwc u) 24 = true then (if ((x_row u) (Int32.toNatClampNeg (x_rwc u))) < 25 then ((f_X1_becomeLike ((x_row u) (Int32.toNatClampNeg (x_rwc u))) l1 u).bind fun q_3 => some (((up2 (x_cf q_3) 10 ((x_row u) (Int32.toNatClampNeg (x_rwc u))) (x_tik q_3)) 10 ((x_row u) (Int32.toNatClampNeg (x_rwc u)))), (xs_tik (xs_rwc (xs_cf q_3 (up2 (x_cf q_3) 10 ((x_row u) (Int32.toNatClampNeg (x_rwc u))) (x_tik q_3))) ((x_rwc q_3) + (1 : Int32))) ((x_tik q_3) + (1 : Int32))))) else none) else none) else none)
set_option maxHeartbeats 4000000 in
set_option maxRecDepth 100000 in
theorem k_X5_append (l : Launch) (D : va_G) (ad : Nat → Nat) (cI cJ cR : ClassId) (u : XS) (l1 : Nat) (r1 : Int32) (u1 : XS) (hG : f_X5_append l1 u = some (r1, u1)) : Met l yX5_append wsX5_append ({ frames := 2, cells := 0, slots := 0, locals := 46 } : Room) (va_Pc [.ref (ad 11), .ref (ad (17 + l1))] (XB D ad cI cJ cR u)) (va_Qi (S := XS) (fun r u2 => r = r1 ∧ u2 = u1) (XB D ad cI cJ cR) (AX ad)) 0 0 (AX ad) := by
  refine Met.ofW (cc := cX5_append) (maxL := 3) (ret := (some .int)) (by decide) rfl ?_
  intro p e s m args below meth c s₁ B hml hv
  obtain ⟨rfl, hP0, hK, hD0⟩ := hv
  have C : CallFix p m c cX5_append 3 s _ wsX5_append RX5 := ⟨B.exec, B.bytes, hml, findClass_of_methodNamed B.named, atoms_spec (ws := wsX5_append) B.pre⟩
  have hr := B.returns
  have hlocks := B.notSynchronized
  have hw : XW D ad cI cJ cR s.heap s.heap [] u := ⟨hP0, hD0, va_S.rf⟩
  refine en_W (Nat.le_of_ble_eq_true rfl) (fun ls hl => ?_)
  have hl : lv_has ls 3 [(0, .ref (ad 11)), (1, .ref (ad (17 + l1)))] := hl
  unfold f_X5_append at hG
  obtain ⟨hq_l1, hG⟩ := ot hG
  refine lv_aload_n C.1 C.2.1 dX5_append_0 rfl (lv_at hl 0 rfl) ?_
  refine xg_11_0 C hK hw jX5_append_5 (List.mem_of_getElem? (i := 1) rfl) dX5_append_1 ?_
  refine lv_aload_n C.1 C.2.1 dX5_append_4 rfl (lv_at hl 0 rfl) ?_
  refine xg_11_1 C hK hw jX5_append_5 (List.mem_of_getElem? (i := 2) rfl) dX5_append_5 ?_
  obtain ⟨h_1, hG⟩ := og hG
  refine xl_row C hK hw h_1 dX5_append_8 ?_
  obtain ⟨h_2, hG⟩ := ot hG
  refine lv_astore_n (lv' := [(2, .ref (ad (17 + ((x_row u) (Int32.toNatClampNeg (x_rwc u)))))), (0, .ref (ad 11)), (1, .ref (ad (17 + l1)))]) C.1 C.2.1 dX5_append_9 rfl hl (by decide) rfl (fun ls hl => ?_)
  refine lv_aload_n C.1 C.2.1 dX5_append_10 rfl (lv_at hl 0 rfl) ?_
  refine lv_aload_n C.1 C.2.1 dX5_append_11 rfl (lv_at hl 2 rfl) ?_
  obtain ⟨q_3, hc_3, hG⟩ := ob hG
  try dsimp only at hG
  refine xcVv (As := [.ref (ad (17 + l1))]) (rest := []) C hK hw (k_X1_becomeLike l D ad cI cJ cR u ((x_row u) (Int32.toNatClampNeg (x_rwc u))) l1 q_3 hc_3) (cwV 1 C.2.2.2.2 gX5_append_X1_becomeLike rfl rfl rfl (by decide +kernel) ⟨Nat.le_of_ble_eq_true rfl, Nat.le_of_ble_eq_true rfl⟩) (va_recv hK hw.1 (ci := 1) (q0 := 17 + ((x_row u) (Int32.toNatClampNeg (x_rwc u)))) rfl (wX_c h_2)) rfl hl.1 rfl (Nat.le_of_ble_eq_true rfl) dX5_append_12 (fun H locs hw => ?_)
  refine lv_aload_n C.1 C.2.1 dX5_append_15 rfl (lv_at hl 0 rfl) ?_
  refine lv_aload_n C.1 C.2.1 dX5_append_16 rfl (lv_at hl 1 rfl) ?_
  refine xg_11_2 C hK hw jX5_append_5 (List.mem_of_getElem? (i := 3) rfl) dX5_append_17 ?_
  refine xpc_10 (q := ((x_row u) (Int32.toNatClampNeg (x_rwc u)))) C hK hw h_2 jX5_append_1 (List.mem_of_getElem? (i := 4) rfl) dX5_append_20 (fun H locs hw => ?_)
  refine lv_aload_n C.1 C.2.1 dX5_append_23 rfl (lv_at hl 1 rfl) ?_
  refine lv_dup C.1 C.2.1 dX5_append_24 rfl ?_
  refine xg_11_1 C hK hw jX5_append_5 (List.mem_of_getElem? (i := 2) rfl) dX5_append_25 ?_
  refine lv_iconst (v := 1) C.1 C.2.1 dX5_append_28 (by decide) ?_
  refine lv_iadd C.1 C.2.1 dX5_append_29 ?_
  refine xp_11_1 C hK hw jX5_append_5 (List.mem_of_getElem? (i := 2) rfl) dX5_append_30 (fun H locs hw => ?_)
  refine lv_aload_n C.1 C.2.1 dX5_append_33 rfl (lv_at hl 1 rfl) ?_
  refine lv_dup C.1 C.2.1 dX5_append_34 rfl ?_
  refine xg_11_2 C hK hw jX5_append_5 (List.mem_of_getElem? (i := 3) rfl) dX5_append_35 ?_
  refine lv_iconst (v := 1) C.1 C.2.1 dX5_append_38 (by decide) ?_
  refine lv_iadd C.1 C.2.1 dX5_append_39 ?_
  refine xp_11_2 C hK hw jX5_append_5 (List.mem_of_getElem? (i := 3) rfl) dX5_append_40 (fun H locs hw => ?_)
  refine lv_aload_n C.1 C.2.1 dX5_append_43 rfl (lv_at hl 0 rfl) ?_
  refine xgc_10 (q := ((x_row u) (Int32.toNatClampNeg (x_rwc u)))) C hK hw h_2 jX5_append_1 (List.mem_of_getElem? (i := 4) rfl) dX5_append_44 ?_
  exact xret_i C hlocks hK hw hr (ret2 hG) dX5_append_47
theorem jX5_take_5 : ∀ w ∈ wsX50, w ∈ wsX5_take := by decide +kernel
def f_X5_take_11 : Nat → Int32 → Nat → Int32 → XS → Option (Nat × XS)
  | 0, _, _, _, _ => none
  | n + 1, l1, l2, l3, u => (if (x_rwc u) ≤ l3 then (if inb ((x_rwc u) - (1 : Int32)) 24 = true then some (l2, (xs_row (xs_rwc u ((x_rwc u) - (1 : Int32))) (va_up (x_row u) (Int32.toNatClampNeg ((x_rwc u) - (1 : Int32))) l2))) else none) else (if inb l3 24 = true then (if ((x_row u) (Int32.toNatClampNeg l3)) < 25 then (if inb (l3 - (1 : Int32)) 24 = true then (f_X5_take_11 n l1 l2 (l3 + (1 : Int32)) (xs_row u (va_up (x_row u) (Int32.toNatClampNeg (l3 - (1 : Int32))) ((x_row u) (Int32.toNatClampNeg l3))))) else none) else none) else none))
set_option maxHeartbeats 4000000 in
set_option maxRecDepth 100000 in
theorem kl_X5_take_11 {p : Program} {l : Launch} {e : Env} {s : State} {m : MethodId} {args : Array Value} {below : List Frame} {meth : Method} {c : Code} {D : va_G} {ad : Nat → Nat} {cI cJ cR : ClassId} (C : CallFix p m c cX5_take 4 s args wsX5_take RX5) (hr : meth.sig.returnType = (some (.object "SignedCalls$Call"))) (hlocks : meth.locks = false) (hK : va_K D vwCl (xT cI cJ cR) s) {r1 : Nat} {u1 : XS} : ∀ (n : Nat) (l1 : Int32) (l2 : Nat) (l3 : Int32) (u : XS) (H : Heap) (locs : List Loc) (ls : Array Slot), f_X5_take_11 n l1 l2 l3 u = some (r1, u1) → XW D ad cI cJ cR s.heap H locs u → lv_has ls 4 [(0, .ref (ad 11)), (1, .int l1), (2, .ref (ad (17 + l2))), (3, .int l3)] → l2 < 25 → W p l e ({ frames := 0, cells := 0, slots := 0, locals := 0 } : Room) s m args below meth c H locs 0 0 (MQ below (va_Qr (S := XS) (fun u2 => u2 = u1) (fun (u2 : XS) (a : Nat) (t : State) => a = ad (17 + r1) ∧ XB D ad cI cJ cR u2 t) (AX ad)) args s 0 0 (AX ad)) (F0 m 11 ls []) := by
  intro n
  induction n with
  | zero =>
    intro l1 l2 l3 u H locs ls hG
    exact ns hG
  | succ n ih =>
    intro l1 l2 l3 u H locs ls hG hw hl hq_l2
    rw [f_X5_take_11] at hG
    refine lv_iload_n C.1 C.2.1 dX5_take_11 rfl (lv_at hl 3 rfl) ?_
    refine lv_aload_n C.1 C.2.1 dX5_take_12 rfl (lv_at hl 0 rfl) ?_
    refine xg_11_1 C hK hw jX5_take_5 (List.mem_of_getElem? (i := 2) rfl) dX5_take_13 ?_
    refine lv_icmp_ge (tgt := 39) C.1 C.2.1 dX5_take_16 (by decide) (fun (h_3 : (x_rwc u) ≤ l3) => ?_) (fun (h_3 : ¬ (x_rwc u) ≤ l3) => ?_)
    · replace hG := ip h_3 hG
      refine lv_aload_n C.1 C.2.1 dX5_take_39 rfl (lv_at hl 0 rfl) ?_
      refine lv_dup C.1 C.2.1 dX5_take_40 rfl ?_
      refine xg_11_1 C hK hw jX5_take_5 (List.mem_of_getElem? (i := 2) rfl) dX5_take_41 ?_
      refine lv_iconst (v := 1) C.1 C.2.1 dX5_take_44 (by decide) ?_
      refine lv_isub C.1 C.2.1 dX5_take_45 ?_
      refine xp_11_1 C hK hw jX5_take_5 (List.mem_of_getElem? (i := 2) rfl) dX5_take_46 (fun H locs hw => ?_)
      refine lv_aload_n C.1 C.2.1 dX5_take_49 rfl (lv_at hl 0 rfl) ?_
      refine xg_11_0 C hK hw jX5_take_5 (List.mem_of_getElem? (i := 1) rfl) dX5_take_50 ?_
      refine lv_aload_n C.1 C.2.1 dX5_take_53 rfl (lv_at hl 0 rfl) ?_
      refine xg_11_1 C hK hw jX5_take_5 (List.mem_of_getElem? (i := 2) rfl) dX5_take_54 ?_
      refine lv_aload_n C.1 C.2.1 dX5_take_57 rfl (lv_at hl 2 rfl) ?_
      obtain ⟨h_4, hG⟩ := og hG
      refine xt_row (q := l2) C hK hw hq_l2 h_4 dX5_take_58 (fun H locs hw => ?_)
      refine lv_aload_n C.1 C.2.1 dX5_take_59 rfl (lv_at hl 2 rfl) ?_
      exact xret_q C hlocks hK hw hr (ret2 hG) dX5_take_60
    · replace hG := inn h_3 hG
      refine lv_aload_n C.1 C.2.1 dX5_take_19 rfl (lv_at hl 0 rfl) ?_
      refine xg_11_0 C hK hw jX5_take_5 (List.mem_of_getElem? (i := 1) rfl) dX5_take_20 ?_
      refine lv_iload_n C.1 C.2.1 dX5_take_23 rfl (lv_at hl 3 rfl) ?_
      refine lv_iconst (v := 1) C.1 C.2.1 dX5_take_24 (by decide) ?_
      refine lv_isub C.1 C.2.1 dX5_take_25 ?_
      refine lv_aload_n C.1 C.2.1 dX5_take_26 rfl (lv_at hl 0 rfl) ?_
      refine xg_11_0 C hK hw jX5_take_5 (List.mem_of_getElem? (i := 1) rfl) dX5_take_27 ?_
      refine lv_iload_n C.1 C.2.1 dX5_take_30 rfl (lv_at hl 3 rfl) ?_
      obtain ⟨h_5, hG⟩ := og hG
      refine xl_row C hK hw h_5 dX5_take_31 ?_
      obtain ⟨h_6, hG⟩ := ot hG
      obtain ⟨h_7, hG⟩ := og hG
      refine xt_row (q := ((x_row u) (Int32.toNatClampNeg l3))) C hK hw h_6 h_7 dX5_take_32 (fun H locs hw => ?_)
      refine lv_iinc (v := (l3 + (1 : Int32))) (lv' := [(3, .int (l3 + (1 : Int32))), (0, .ref (ad 11)), (1, .int l1), (2, .ref (ad (17 + l2)))]) C.1 C.2.1 dX5_take_33 hl (k := 3) rfl rfl (by decide) rfl (fun ls hl => ?_)
      refine lv_goto (tgt := 11) C.1 C.2.1 dX5_take_36 (by decide) ?_
      exact ih l1 l2 (l3 + (1 : Int32)) (xs_row u (va_up (x_row u) (Int32.toNatClampNeg (l3 - (1 : Int32))) ((x_row u) (Int32.toNatClampNeg l3)))) _ _ _ hG hw (lv_sub hl [1, 2, 3, 0] rfl) hq_l2
def f_X5_take (l1 : Int32) (u : XS) : Option (Nat × XS) := (if inb l1 24 = true then (if ((x_row u) (Int32.toNatClampNeg l1)) < 25 then (f_X5_take_11 1000 l1 ((x_row u) (Int32.toNatClampNeg l1)) (l1 + (1 : Int32)) u) else none) else none)
set_option maxHeartbeats 4000000 in
set_option maxRecDepth 100000 in
theorem k_X5_take (l : Launch) (D : va_G) (ad : Nat → Nat) (cI cJ cR : ClassId) (u : XS) (l1 : Int32) (r1 : Nat) (u1 : XS) (hG : f_X5_take l1 u = some (r1, u1)) : Met l yX5_take wsX5_take ({ frames := 0, cells := 0, slots := 0, locals := 0 } : Room) (va_Pc [.ref (ad 11), .int l1] (XB D ad cI cJ cR u)) (va_Qr (S := XS) (fun u2 => u2 = u1) (fun (u2 : XS) (a : Nat) (t : State) => a = ad (17 + r1) ∧ XB D ad cI cJ cR u2 t) (AX ad)) 0 0 (AX ad) := by
  refine Met.ofW (cc := cX5_take) (maxL := 4) (ret := (some (.object "SignedCalls$Call"))) (by decide) rfl ?_
  intro p e s m args below meth c s₁ B hml hv
  obtain ⟨rfl, hP0, hK, hD0⟩ := hv
  have C : CallFix p m c cX5_take 4 s _ wsX5_take RX5 := ⟨B.exec, B.bytes, hml, findClass_of_methodNamed B.named, atoms_spec (ws := wsX5_take) B.pre⟩
  have hr := B.returns
  have hlocks := B.notSynchronized
  have hw : XW D ad cI cJ cR s.heap s.heap [] u := ⟨hP0, hD0, va_S.rf⟩
  refine en_W (Nat.le_of_ble_eq_true rfl) (fun ls hl => ?_)
  have hl : lv_has ls 4 [(0, .ref (ad 11)), (1, .int l1)] := hl
  unfold f_X5_take at hG
  refine lv_aload_n C.1 C.2.1 dX5_take_0 rfl (lv_at hl 0 rfl) ?_
  refine xg_11_0 C hK hw jX5_take_5 (List.mem_of_getElem? (i := 1) rfl) dX5_take_1 ?_
  refine lv_iload_n C.1 C.2.1 dX5_take_4 rfl (lv_at hl 1 rfl) ?_
  obtain ⟨h_1, hG⟩ := og hG
  refine xl_row C hK hw h_1 dX5_take_5 ?_
  obtain ⟨h_2, hG⟩ := ot hG
  refine lv_astore_n (lv' := [(2, .ref (ad (17 + ((x_row u) (Int32.toNatClampNeg l1))))), (0, .ref (ad 11)), (1, .int l1)]) C.1 C.2.1 dX5_take_6 rfl hl (by decide) rfl (fun ls hl => ?_)
  refine lv_iload_n C.1 C.2.1 dX5_take_7 rfl (lv_at hl 2 rfl) ?_
  refine lv_iconst (v := 1) C.1 C.2.1 dX5_take_8 (by decide) ?_
  refine lv_iadd C.1 C.2.1 dX5_take_9 ?_
  refine lv_istore_n (lv' := [(3, .int (l1 + (1 : Int32))), (2, .ref (ad (17 + ((x_row u) (Int32.toNatClampNeg l1))))), (0, .ref (ad 11)), (1, .int l1)]) C.1 C.2.1 dX5_take_10 rfl hl (by decide) rfl (fun ls hl => ?_)
  exact kl_X5_take_11 C hr hlocks hK 1000 l1 ((x_row u) (Int32.toNatClampNeg l1)) (l1 + (1 : Int32)) u _ _ _ hG hw (lv_sub hl [2, 3, 1, 0] rfl) h_2
