/-! ===== the row's constructor: 24 calls ===== -/
abbrev cel3 (cI cJ : ClassId) (q r a : Nat) : va_W := [(q, .inr (1, [.ref r, .ref a, .int 0, .int 0, .int 0, .int 0, .int 0, .int 0, .int 0, .int 0, .int 0, .int 0])), (r, .inl (cI, 4, .inl (fun _ => 0))), (a, .inl (cJ, 4, .inr (.inl (fun _ => 0))))]
def pool5 (cI cJ : ClassId) (u : Nat → Nat) (n : Nat) : va_W := (List.range n).flatMap (fun j => cel3 cI cJ (u (1 + 3 * j)) (u (2 + 3 * j)) (u (3 + 3 * j)))
theorem pool5_succ (cI cJ : ClassId) (u : Nat → Nat) (n : Nat) : pool5 cI cJ u (n + 1) = pool5 cI cJ u n ++ cel3 cI cJ (u (1 + 3 * n)) (u (2 + 3 * n)) (u (3 + 3 * n)) := by
  unfold pool5
  rw [List.range_succ, List.flatMap_append]
  simp
theorem pool5_len (cI cJ : ClassId) (u : Nat → Nat) (n : Nat) : (pool5 cI cJ u n).length = 3 * n := by
  induction n with
  | zero => rfl
  | succ n ih =>
    rw [pool5_succ, List.length_append, ih]
    rfl
theorem pool5_congr (cI cJ : ClassId) {u v : Nat → Nat} : ∀ (n : Nat), (∀ k, k ≤ 3 * n → u k = v k) → pool5 cI cJ u n = pool5 cI cJ v n := by
  intro n
  induction n with
  | zero => intro _; rfl
  | succ n ih =>
    intro h
    rw [pool5_succ, pool5_succ, ih (fun k hk => h k (by omega)), h (1 + 3 * n) (by omega), h (2 + 3 * n) (by omega), h (3 + 3 * n) (by omega)]
def up3 (u : Nat → Nat) (i q r a : Nat) : Nat → Nat := fun k => if k = 1 + 3 * i then q else if k = 2 + 3 * i then r else if k = 3 + 3 * i then a else u k
abbrev rw5 (cI cJ cR : ClassId) (h0 : Nat) (u : Nat → Nat) (i : Nat) : va_W := [(h0, .inr (5, [.ref (u 0), .int 0, .int 0])), (u 0, .inl (cR, 24, .inr (.inr (.inr (.inr (fun j => if j < i then some (u (1 + 3 * j)) else none))))))] ++ pool5 cI cJ u i
theorem rw5_step (cI cJ cR : ClassId) (h0 : Nat) (u : Nat → Nat) (i q r a : Nat) : ([(h0, .inr (5, [.ref (u 0), .int 0, .int 0])), (u 0, .inl (cR, 24, .inr (.inr (.inr (.inr (va_up (fun j => if j < i then some (u (1 + 3 * j)) else none) i (some q)))))))] ++ pool5 cI cJ u i : va_W) ++ cel3 cI cJ q r a = rw5 cI cJ cR h0 (up3 u i q r a) (i + 1) := by
  have e0 : up3 u i q r a 0 = u 0 := by
    unfold up3
    rw [if_neg (by omega), if_neg (by omega), if_neg (by omega)]
  have e1 : up3 u i q r a (1 + 3 * i) = q := by
    unfold up3
    rw [if_pos rfl]
  have e2 : up3 u i q r a (2 + 3 * i) = r := by
    unfold up3
    rw [if_neg (by omega), if_pos rfl]
  have e3 : up3 u i q r a (3 + 3 * i) = a := by
    unfold up3
    rw [if_neg (by omega), if_neg (by omega), if_pos rfl]
  have e4 : ∀ k, k ≤ 3 * i → up3 u i q r a k = u k := fun k hk => by
    unfold up3
    rw [if_neg (by omega), if_neg (by omega), if_neg (by omega)]
  have ef : va_up (fun j => if j < i then some (u (1 + 3 * j)) else none) i (some q) = fun j => if j < i + 1 then some (up3 u i q r a (1 + 3 * j)) else none := by
    funext j
    by_cases hj : j = i
    · subst hj
      rw [va_up_self, if_pos (by omega), e1]
    · rw [va_up_ne _ _ hj]
      by_cases hq : j < i
      · rw [if_pos hq, if_pos (by omega), e4 _ (by omega)]
      · rw [if_neg hq, if_neg (by omega)]
  rw [ef]
  show _ = ([(h0, _), (_, _)] ++ pool5 cI cJ (up3 u i q r a) (i + 1) : va_W)
  rw [pool5_succ, e1, e2, e3, e0, pool5_congr cI cJ i e4, List.append_assoc]
theorem jX5_init_5 : ∀ w ∈ wsX50, w ∈ wsX5_init := by decide +kernel
theorem jX5_init_1 : ∀ w ∈ wsX10, w ∈ wsX5_init := by decide +kernel
set_option maxHeartbeats 4000000 in
set_option maxRecDepth 100000 in
theorem row_loop {p : Program} {l : Launch} {e : Env} {s : State} {m : MethodId} {args : Array Value} {below : List Frame} {meth : Method} {c : Code} {D : va_G} {cI cJ cR : ClassId} {A : Nat → Prop} {h0 : Nat} {Qx : State → Prop} (C : CallFix p m c cX5_init 2 s args wsX5_init RX5) (hK : va_K D vwCl (xT cI cJ cR) s) (hN : NWs s) (hA : ∀ q : Nat, s.heap.size ≤ q → A q) (hend : ∀ (u : Nat → Nat) (H : Heap) (locs : List Loc) (ls : Array Slot), va_P D vwCl (rw5 cI cJ cR h0 u 24) H → va_D A (rw5 cI cJ cR h0 u 24) → va_S A s.heap H locs → W p l e ({ frames := 2, cells := 73, slots := 504, locals := 32 } : Room) s m args below meth c H locs 73 504 Qx (F0 m 40 ls [])) : ∀ (n i : Nat) (x : Int32) (u : Nat → Nat) (H : Heap) (locs : List Loc) (ls : Array Slot), x = nI i → i + n = 24 → va_P D vwCl (rw5 cI cJ cR h0 u i) H → va_D A (rw5 cI cJ cR h0 u i) → va_S A s.heap H locs → lv_has ls 2 [(0, .ref h0), (1, .int x)] → W p l e ({ frames := 2, cells := 73, slots := 504, locals := 32 } : Room) s m args below meth c H locs (1 + 3 * i) (24 + 20 * i) Qx (F0 m 15 ls []) := by
  intro n
  induction n with
  | zero =>
    intro i x u H locs ls ex hi hP hD hS hl
    subst ex
    have h24 : i = 24 := by omega
    subst h24
    refine lv_iload_n C.1 C.2.1 dX5_init_15 rfl (lv_at hl 1 rfl) ?_
    refine lv_bipush (v := 24) C.1 C.2.1 dX5_init_16 (by decide) ?_
    refine lv_icmp_ge (tgt := 40) C.1 C.2.1 dX5_init_18 (by decide) (fun _ => ?_) (fun hz => absurd (show (24 : Int32) ≤ nI 24 by decide) hz)
    exact hend u H locs ls hP hD hS
  | succ n ih =>
    intro i x u H locs ls ex hi hP hD hS hl
    subst ex
    refine lv_iload_n C.1 C.2.1 dX5_init_15 rfl (lv_at hl 1 rfl) ?_
    refine lv_bipush (v := 24) C.1 C.2.1 dX5_init_16 (by decide) ?_
    refine lv_icmp_ge (tgt := 40) C.1 C.2.1 dX5_init_18 (by decide) (fun hz => absurd hz (show ¬ (24 : Int32) ≤ nI i from nI_ge (b := 24) (by omega) (by decide))) (fun _ => ?_)
    refine lv_aload_n C.1 C.2.1 dX5_init_21 rfl (lv_at hl 0 rfl) ?_
    refine va_get (D := D) (ci := 5) (v := .ref (u 0)) (C := RX5) (T := TX5) (N := 3) C.1 C.2.1 C.2.2.2.2 jX5_init_5 C.2.2.2.1 hK hP 0 rfl rfl 0 (by decide) (C.2.2.2.2 _ (List.mem_of_getElem? (i := 5) rfl)) (fun _ h9 => h9) rfl dX5_init_22 ?_
    refine lv_iload_n C.1 C.2.1 dX5_init_25 rfl (lv_at hl 1 rfl) ?_
    refine va_new (ci := 1) (fs := [.null, .null, .int 0, .int 0, .int 0, .int 0, .int 0, .int 0, .int 0, .int 0, .int 0, .int 0]) (C := RX1) (T := TX1) (N := 12) C.1 C.2.1 C.2.2.2.2 jX5_init_1 tyX1 tyX1_ok C.2.2.2.1 (C.2.2.2.2 _ (List.mem_of_getElem? (i := 4) rfl)) (C.2.2.2.2 _ (List.mem_of_getElem? (i := 6) rfl)) (C.2.2.2.2 _ (List.mem_of_getElem? (i := 7) rfl)) hK hP hD hS hA rfl (fun j hj => by rcases (show j = 0 ∨ j = 1 ∨ j = 2 ∨ j = 3 ∨ j = 4 ∨ j = 5 ∨ j = 6 ∨ j = 7 ∨ j = 8 ∨ j = 9 ∨ j = 10 ∨ j = 11 by omega) with rfl | rfl | rfl | rfl | rfl | rfl | rfl | rfl | rfl | rfl | rfl | rfl <;> rfl) (show 1 + 3 * i + 1 ≤ 73 by omega) (show 24 + 20 * i + 12 ≤ 504 by omega) dX5_init_26 (fun q H hP hD hS => ?_)
    refine lv_dup C.1 C.2.1 dX5_init_29 rfl ?_
    refine ci_run (wc := [(q, .inr (1, [.null, .null, .int 0, .int 0, .int 0, .int 0, .int 0, .int 0, .int 0, .int 0, .int 0, .int 0]))]) hK hP hD hS hA (va_runIN (As := []) (rest := [.ref q, .int (nI i), .ref (u 0)]) C (c_X1_init l D cI cJ cR q H.size) ⟨va_cnB 0 C.2.2.2.2 gX5_init_X1_init_n17 rfl rfl rfl hN.2.2.2.2.2.1 (C.2.2.2.2 _ (List.mem_of_getElem? (i := 7) rfl)) (by decide +kernel) ⟨(Nat.le_of_ble_eq_true rfl), (Nat.le_of_ble_eq_true rfl)⟩, rfl, C.2.2.2.2 _ (List.mem_of_getElem? (i := 8) rfl)⟩ (ci_pre hK hN hP hD) rfl rfl hl.1 rfl (lv_room (Nat.le_of_ble_eq_true rfl)) dX5_init_30 ⟨show 1 + 3 * i + 1 + 2 ≤ 73 by omega, show 24 + 20 * i + 12 + 8 ≤ 504 by omega⟩) (fun v H locs hP hD hS => ?_)
    have hP : va_P D vwCl (rw5 cI cJ cR h0 u i ++ cel3 cI cJ q (v 0) (v 1)) H := hP
    have hD : va_D A (rw5 cI cJ cR h0 u i ++ cel3 cI cJ q (v 0) (v 1)) := hD
    have hlen : (rw5 cI cJ cR h0 u i).length = 2 + 3 * i := by
      show ([_, _] ++ pool5 cI cJ u i).length = _
      rw [List.length_append, pool5_len]
      rfl
    refine va_astq (r := (RX1, TX1, 12)) (v := q) C.1 C.2.1 hK hP hD hS 1 2 (2 + 3 * i) 1 (vs := [.ref (v 0), .ref (v 1), .int 0, .int 0, .int 0, .int 0, .int 0, .int 0, .int 0, .int 0, .int 0, .int 0]) rfl rfl (by
      rw [List.getElem?_append_right (by omega), hlen, Nat.sub_self]
      rfl) rfl (vp_in_nI (show i < 24 by omega) (by decide)) dX5_init_33 (fun H locs hP hD hS => ?_)
    rw [cl_n (show i < 2 ^ 31 by omega)] at hP hD
    have hP : va_P D vwCl (rw5 cI cJ cR h0 (up3 u i q (v 0) (v 1)) (i + 1)) H := by
      rw [← rw5_step]
      exact hP
    have hD : va_D A (rw5 cI cJ cR h0 (up3 u i q (v 0) (v 1)) (i + 1)) := by
      rw [← rw5_step]
      exact hD
    refine lv_iinc (v := (nI i + (1 : Int32))) (lv' := [(1, .int (nI i + (1 : Int32))), (0, .ref h0)]) C.1 C.2.1 dX5_init_34 hl (k := 1) rfl rfl (by decide) rfl (fun ls hl => ?_)
    refine lv_goto (tgt := 15) C.1 C.2.1 dX5_init_37 (by decide) ?_
    refine W.widen (k := 1 + 3 * (i + 1)) (n := 24 + 20 * (i + 1)) (by omega) (by omega) ?_
    exact ih (i + 1) _ _ _ _ _ (nI_1 i) (by omega) hP hD hS (lv_sub hl [1, 0] rfl)
set_option maxHeartbeats 4000000 in
set_option maxRecDepth 100000 in
theorem c_X5_init (l : Launch) (D : va_G) (cI cJ cR : ClassId) (h0 sz : Nat) : Met l yX5_init wsX5_init ({ frames := 2, cells := 73, slots := 504, locals := 32 } : Room) (va_Pc [.ref h0] (IPre D cI cJ cR [(h0, .inr (5, [.null, .int 0, .int 0]))] sz)) (va_Qv (S := Nat → Nat) (fun _ => True) (IPost D cI cJ cR (va_A [(h0, .inr (5, [.null, .int 0, .int 0]))] sz) (fun u => rw5 cI cJ cR h0 u 24)) (va_A [(h0, .inr (5, [.null, .int 0, .int 0]))] sz)) 73 504 (va_A [(h0, .inr (5, [.null, .int 0, .int 0]))] sz) := by
  refine Met.ofW (cc := cX5_init) (maxL := 2) (ret := none) (by decide) rfl ?_
  intro p e s m args below meth c s₁ B hml hv
  obtain ⟨rfl, hsz, hP, hK, hD0, hN⟩ := hv
  have C : CallFix p m c cX5_init 2 s _ wsX5_init RX5 := ⟨B.exec, B.bytes, hml, findClass_of_methodNamed B.named, atoms_spec (ws := wsX5_init) B.pre⟩
  have hr := B.returns
  have hlocks := B.notSynchronized
  have hin2 : meth.name = "<init>" := (name_of_methodNamed B.named B.method).1
  subst hsz
  have hD := hD0.self (sz := s.heap.size)
  generalize hAe : va_A [(h0, .inr (5, [.null, .int 0, .int 0]))] s.heap.size = A at hD ⊢
  have hA : ∀ q : Nat, s.heap.size ≤ q → A q := fun q h => by rw [← hAe]; exact Or.inr h
  have hS : va_S A s.heap s.heap [] := va_S.rf
  refine en_W (Nat.le_of_ble_eq_true rfl) (fun ls hl => ?_)
  have hl : lv_has ls 2 [(0, .ref h0)] := hl
  refine lv_aload_n C.1 C.2.1 dX5_init_0 rfl (lv_at hl 0 rfl) ?_
  refine W.objInit C.1 C.2.1 C.2.2.2.1 (C.2.2.2.2 _ (List.mem_of_getElem? (i := 1) rfl)) (C.2.2.2.2 _ (List.mem_of_getElem? (i := 2) rfl)) (C.2.2.2.2 _ (List.mem_of_getElem? (i := 3) rfl)) rfl (by rw [C.2.2.1]; exact hl.1) rfl dX5_init_1 (Nat.le_of_ble_eq_true rfl) (Nat.le_of_ble_eq_true rfl) ?_
  refine W.eq (g2 := F0 m 4 ls []) rfl ?_
  refine lv_aload_n C.1 C.2.1 dX5_init_4 rfl (lv_at hl 0 rfl) ?_
  refine lv_bipush (v := 24) C.1 C.2.1 dX5_init_5 (by decide) ?_
  refine va_newq (N' := 24) C.1 C.2.1 C.2.2.2.1 (C.2.2.2.2 _ (List.mem_of_getElem? (i := 4) rfl)) hN.2.2.2.2.2.2 hK hP hD hS hA (by decide) (by decide) (by decide) (Nat.le_of_ble_eq_true rfl) (Nat.le_of_ble_eq_true rfl) dX5_init_7 (fun qa cA H hK2 hP hD hS => ?_)
  have hca := caR hK2
  subst hca
  refine va_putF (D := D) (ci := 5) (v := .ref qa) (ty := .array (.object "SignedCalls$Call")) (C := RX5) (T := TX5) (N := 3) C.1 C.2.1 C.2.2.2.2 jX5_init_5 tyX5 tyX5_ok nmX5 C.2.2.2.1 hK hP hD hS 0 rfl rfl 0 (by decide) (C.2.2.2.2 _ (List.mem_of_getElem? (i := 5) rfl)) (fun _ h9 => h9) rfl hin2 rfl (by decide +kernel) rfl rfl (Nat.le_of_ble_eq_true rfl) dX5_init_10 (fun H locs hP hD hS => ?_)
  have ef : (fun j : Nat => if j < 0 then some ((fun _ => qa : Nat → Nat) (1 + 3 * j)) else none) = fun _ => none := by
    funext j
    rw [if_neg (by omega)]
  have ew : rw5 cI cJ cA h0 (fun _ => qa) 0 = [(h0, .inr (5, [.ref qa, .int 0, .int 0])), (qa, .inl (cA, 24, .inr (.inr (.inr (.inr (fun _ => none))))))] := by
    show ([(h0, _), (qa, .inl (cA, 24, .inr (.inr (.inr (.inr (fun j : Nat => if j < 0 then some ((fun _ => qa : Nat → Nat) (1 + 3 * j)) else none))))))] ++ [] : va_W) = _
    rw [ef]
    rfl
  have hP : va_P D vwCl (rw5 cI cJ cA h0 (fun _ => qa) 0) H := by
    rw [ew]
    exact hP
  have hD : va_D A (rw5 cI cJ cA h0 (fun _ => qa) 0) := by
    rw [ew]
    exact hD
  refine lv_iconst (v := 0) C.1 C.2.1 dX5_init_13 (by decide) ?_
  refine lv_istore_n (lv' := [(1, .int 0), (0, .ref h0)]) C.1 C.2.1 dX5_init_14 rfl hl (by decide) rfl (fun ls hl => ?_)
  refine row_loop C hK hN hA (fun u H locs ls hP hD hS => ?_) 24 0 0 (fun _ => qa) _ _ _ rfl (by omega) hP hD hS (lv_sub hl [1, 0] rfl)
  exact W.vret C.1 C.2.1 hr (fun t ht hW => ⟨⟨u, rfl, trivial, by rw [ht]; exact hP, va_K.moved hW.alike hK, hD⟩, hS.F ht⟩) hS.2.2 dX5_init_40
