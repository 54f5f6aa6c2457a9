/-! ===== constructors: what is new ===== -/
def NWs (U : State) : Prop := va_Nw (.methodLinkNest RX6 9 yX0_init "SignedCalls") U ∧ va_Nw (.methodLinkNest RX6 18 yX4_init "SignedCalls") U ∧ va_Nw (.methodLinkNest RX6 25 yX2_init "SignedCalls") U ∧ va_Nw (.methodLinkNest RX6 39 yX3_init "SignedCalls") U ∧ va_Nw (.methodLinkNest RX2 11 yX1_init "SignedCalls") U ∧ va_Nw (.methodLinkNest RX5 17 yX1_init "SignedCalls") U ∧ va_AO "SignedCalls$Call" U
theorem NWs.warm {s U : State} (hW : s.WarmedH U.vm) (h : NWs s) : NWs U := ⟨va_Nw.warmM hW h.1, va_Nw.warmM hW h.2.1, va_Nw.warmM hW h.2.2.1, va_Nw.warmM hW h.2.2.2.1, va_Nw.warmM hW h.2.2.2.2.1, va_Nw.warmM hW h.2.2.2.2.2.1, va_AO.moved hW.alike h.2.2.2.2.2.2⟩
theorem NWs.same {s U : State} (hv : s.vm = U.vm) (h : NWs s) : NWs U := ⟨va_Nw.same rfl hv h.1, va_Nw.same rfl hv h.2.1, va_Nw.same rfl hv h.2.2.1, va_Nw.same rfl hv h.2.2.2.1, va_Nw.same rfl hv h.2.2.2.2.1, va_Nw.same rfl hv h.2.2.2.2.2.1, va_AO.moved (by rw [hv]; exact Vm.Alike.refl _) h.2.2.2.2.2.2⟩
abbrev IPre (D : va_G) (cI cJ cR : ClassId) (wc : va_W) (sz : Nat) (U : State) : Prop := U.heap.size = sz ∧ va_P D vwCl wc U.heap ∧ va_K D vwCl (xT cI cJ cR) U ∧ va_D (fun _ => True) wc ∧ NWs U
abbrev IPost (D : va_G) (cI cJ cR : ClassId) (A : Nat → Prop) (w1 : (Nat → Nat) → va_W) (u : Nat → Nat) (t : State) : Prop := va_P D vwCl (w1 u) t.heap ∧ va_K D vwCl (xT cI cJ cR) t ∧ va_D A (w1 u)
theorem IPre_blind {D : va_G} {cI cJ cR : ClassId} {wc : va_W} {sz : Nat} {vs : List Value} : FrameBlind (va_Pc vs (IPre D cI cJ cR wc sz)) := fun a U g mk q => ⟨q.1, q.2.1, q.2.2.1, va_K.moved (u := U) (U := U.calling g mk a) (Vm.Alike.refl U.vm) q.2.2.2.1, q.2.2.2.2.1, NWs.same (s := U) rfl q.2.2.2.2.2⟩
theorem va_P_mem {D : va_G} {cl : List vw_C} {ws : va_W} {H : Heap} : va_P D cl ws H ↔ ∀ q ∈ ws, va_at D cl q H := by
  constructor
  · intro h q hq
    obtain ⟨k, hk⟩ := List.getElem?_of_mem hq
    exact h k q hk
  · intro h k q hk
    exact h q (List.mem_of_getElem? hk)
theorem va_D_l {A : Nat → Prop} {w1 w2 : va_W} (h : va_D A (w1 ++ w2)) : va_D A w1 := by
  refine ⟨fun i j p q hi hj e => ?_, fun k q hk => ?_⟩
  · have li := (List.getElem?_eq_some_iff.mp hi).1
    have lj := (List.getElem?_eq_some_iff.mp hj).1
    exact h.1 i j p q (by rw [List.getElem?_append_left li]; exact hi) (by rw [List.getElem?_append_left lj]; exact hj) e
  · have lk := (List.getElem?_eq_some_iff.mp hk).1
    exact h.2 k q (by rw [List.getElem?_append_left lk]; exact hk)
theorem va_D_r {A : Nat → Prop} {w1 w2 : va_W} (h : va_D A (w1 ++ w2)) : va_D A w2 := by
  refine ⟨fun i j p q hi hj e => ?_, fun k q hk => ?_⟩
  · have := h.1 (w1.length + i) (w1.length + j) p q (by rw [List.getElem?_append_right (by omega), Nat.add_sub_cancel_left]; exact hi) (by rw [List.getElem?_append_right (by omega), Nat.add_sub_cancel_left]; exact hj) e
    omega
  · exact h.2 (w1.length + k) q (by rw [List.getElem?_append_right (by omega), Nat.add_sub_cancel_left]; exact hk)
theorem va_D_x {A : Nat → Prop} {w1 w2 : va_W} (h : va_D A (w1 ++ w2)) {p q : Nat × va_E} (hp : p ∈ w1) (hq : q ∈ w2) : p.1 ≠ q.1 := by
  obtain ⟨i, hi⟩ := List.getElem?_of_mem hp
  obtain ⟨j, hj⟩ := List.getElem?_of_mem hq
  have li := (List.getElem?_eq_some_iff.mp hi).1
  intro e
  have := h.1 i (w1.length + j) p q (by rw [List.getElem?_append_left li]; exact hi) (by rw [List.getElem?_append_right (by omega), Nat.add_sub_cancel_left]; exact hj) e
  omega
/-- the rest beside what a callee leaves -/
theorem jn {A : Nat → Prop} {D : va_G} {cl : List vw_C} {wr wc w1 : va_W} {H H1 : Heap} (hP : va_P D cl (wr ++ wc) H) (hD : va_D A (wr ++ wc)) (hk : ∀ q : Nat, q < H.size → ¬ va_A wc H.size q → H1[q]? = H[q]?) (hF : ∀ q, va_A wc H.size q → A q) (hP1 : va_P D cl w1 H1) (hD1 : va_D (va_A wc H.size) w1) : va_P D cl (wr ++ w1) H1 ∧ va_D A (wr ++ w1) := by
  have ap : ∀ q ∈ wr, q.1 < H.size ∧ ¬ va_A wc H.size q.1 := by
    intro q hq
    have hl := (va_P_mem.mp hP q (List.mem_append_left _ hq)).lt
    refine ⟨hl, ?_⟩
    rintro (⟨k2, e, h⟩ | h)
    · exact va_D_x hD hq (List.mem_of_getElem? h) rfl
    · omega
  refine ⟨va_P.app (va_P_mem.mpr fun q hq => ?_) hP1, va_D.app (va_D_l hD) (hD1.weaken (fun k q _ h => hF q.1 h)) (fun i j x y hx hy hxy => ?_)⟩
  · obtain ⟨g1, g2⟩ := ap q hq
    exact (va_P_mem.mp hP q (List.mem_append_left _ hq)).kept (hk q.1 g1 g2)
  · exact (ap x (List.mem_of_getElem? hx)).2 (by rw [hxy]; exact hD1.2 j y hy)
theorem fr_c {A : Nat → Prop} {wr wc : va_W} {H0 H : Heap} {locs : List Loc} (hD : va_D A (wr ++ wc)) (hS : va_S A H0 H locs) (hA : ∀ q, H0.size ≤ q → A q) : ∀ q, va_A wc H.size q → A q := by
  rintro q (⟨k, e, h⟩ | h)
  · exact (va_D_r hD).2 k _ h
  · exact hA q (Nat.le_trans hS.1 h)
section INI
variable {p : Program} {l : Launch} {e : Env} {R : Room} {s : State} {m : MethodId} {args : Array Value} {below : List Frame} {meth : Method} {c : Code} {H : Heap} {locs : List Loc} {cells slots : Nat} {Q : State → Prop}
variable {cc : ByteArray} {nL : Nat} {Ts : List Cond} {own : String} {pc index : Nat} {ls : Array Slot} {rest st0 : List Value} {D : va_G} {cI cJ cR : ClassId} {H0 : Heap} {A : Nat → Prop} {ws wr wc : va_W}
theorem caI {cA : ClassId} (h : va_K D vwCl (xT cI cJ cR ++ [(cA, .int)]) s) : cA = cI := by
  have h1 : s.vm.findClass ("[" ++ FieldType.int.toString) = some cI := (h.2 0 _ rfl).2
  have h2 : s.vm.findClass ("[" ++ FieldType.int.toString) = some cA := (h.2 3 _ rfl).2
  exact Option.some.inj (h2.symm.trans h1)
theorem caJ {cA : ClassId} (h : va_K D vwCl (xT cI cJ cR ++ [(cA, .long)]) s) : cA = cJ := by
  have h1 : s.vm.findClass ("[" ++ FieldType.long.toString) = some cJ := (h.2 1 _ rfl).2
  have h2 : s.vm.findClass ("[" ++ FieldType.long.toString) = some cA := (h.2 3 _ rfl).2
  exact Option.some.inj (h2.symm.trans h1)
theorem caR {cA : ClassId} (h : va_K D vwCl (xT cI cJ cR ++ [(cA, .object "SignedCalls$Call")]) s) : cA = cR := by
  obtain ⟨k1, c1, -, -, -, h1⟩ := (h.2 2 _ rfl).2
  obtain ⟨k2, c2, -, -, -, h2⟩ := (h.2 3 _ rfl).2
  exact Option.some.inj (h2.symm.trans h1)
theorem nw_I (C : CallFix p m c cc nL s args Ts own) (hK : va_K D vwCl (xT cI cJ cR) s) (harr : Cond.arrayClass .int ∈ Ts) (hP : va_P D vwCl ws H) (hD : va_D A ws) (hS : va_S A H0 H locs) (hA : ∀ q, H0.size ≤ q → A q) {n : Int32} {N : Nat} (hn : ¬ n < 0) (hN : n.toNatClampNeg = N) (hb : N * componentBytes .int ≤ 536870912) (hcells : cells + 1 ≤ R.cells) (hslots : slots + N ≤ R.slots) (hdg : decode cc pc = .ok (.newarray .int, 2)) (kk : ∀ (q : Nat) (H1 : Heap), va_P D vwCl (ws ++ [(q, .inl (cI, N, .inl (fun _ => 0)))]) H1 → va_D A (ws ++ [(q, .inl (cI, N, .inl (fun _ => 0)))]) → va_S A H0 H1 locs → W p l e R s m args below meth c H1 locs (cells + 1) (slots + N) Q (F0 m (pc + 2) ls (.ref q :: rest))) : W p l e R s m args below meth c H locs cells slots Q (F0 m pc ls (.int n :: rest)) := by
  refine va_newa (atype := .int) (ty := .int) (a0 := (N, .inl (fun _ => 0))) C.1 C.2.1 (C.2.2.2.2 _ harr) rfl hK hP hD hS hA (fun _ => rfl) hn hN hb hcells hslots hdg (fun q cA H1 hK2 hP2 hD2 hS2 => ?_)
  have := caI hK2
  subst this
  exact kk q H1 hP2 hD2 hS2
theorem nw_J (C : CallFix p m c cc nL s args Ts own) (hK : va_K D vwCl (xT cI cJ cR) s) (harr : Cond.arrayClass .long ∈ Ts) (hP : va_P D vwCl ws H) (hD : va_D A ws) (hS : va_S A H0 H locs) (hA : ∀ q, H0.size ≤ q → A q) {n : Int32} {N : Nat} (hn : ¬ n < 0) (hN : n.toNatClampNeg = N) (hb : N * componentBytes .long ≤ 536870912) (hcells : cells + 1 ≤ R.cells) (hslots : slots + N ≤ R.slots) (hdg : decode cc pc = .ok (.newarray .long, 2)) (kk : ∀ (q : Nat) (H1 : Heap), va_P D vwCl (ws ++ [(q, .inl (cJ, N, .inr (.inl (fun _ => 0))))]) H1 → va_D A (ws ++ [(q, .inl (cJ, N, .inr (.inl (fun _ => 0))))]) → va_S A H0 H1 locs → W p l e R s m args below meth c H1 locs (cells + 1) (slots + N) Q (F0 m (pc + 2) ls (.ref q :: rest))) : W p l e R s m args below meth c H locs cells slots Q (F0 m pc ls (.int n :: rest)) := by
  refine va_newa (atype := .long) (ty := .long) (a0 := (N, .inr (.inl (fun _ => 0)))) C.1 C.2.1 (C.2.2.2.2 _ harr) rfl hK hP hD hS hA (fun _ => rfl) hn hN hb hcells hslots hdg (fun q cA H1 hK2 hP2 hD2 hS2 => ?_)
  have := caJ hK2
  subst this
  exact kk q H1 hP2 hD2 hS2
theorem ci_run (hK : va_K D vwCl (xT cI cJ cR) s) (hP : va_P D vwCl (wr ++ wc) H) (hD : va_D A (wr ++ wc)) (hS : va_S A H0 H locs) (hA : ∀ q, H0.size ≤ q → A q) {w1 : (Nat → Nat) → va_W} {mc ms : Nat} {a : Array Value} (hr : va_Run p l e R s m args below meth c H locs cells slots mc ms (F0 m pc ls st0) rest (va_Qv (S := Nat → Nat) (fun _ => True) (IPost D cI cJ cR (va_A wc H.size) w1) (va_A wc H.size) a) (va_A wc H.size)) (kk : ∀ (u : Nat → Nat) (H1 : Heap) (locs1 : List Loc), va_P D vwCl (wr ++ w1 u) H1 → va_D A (wr ++ w1 u) → va_S A H0 H1 locs1 → W p l e R s m args below meth c H1 locs1 (cells + mc) (slots + ms) Q (F0 m (pc + 3) ls rest)) : W p l e R s m args below meth c H locs cells slots Q (F0 m pc ls st0) := by
  have hF := fr_c hD hS hA
  refine va_callv hr hS (fun q _ h => hF q h) hF (fun u t H1 locs1 ht hvm _ hB hz hk hS1 => ?_)
  subst ht
  obtain ⟨j1, j2⟩ := jn hP hD hk hF hB.1 hB.2.2
  exact kk u _ locs1 j1 j2 hS1
theorem ci_pre (hK : va_K D vwCl (xT cI cJ cR) s) (hN : NWs s) (hP : va_P D vwCl (wr ++ wc) H) (hD : va_D A (wr ++ wc)) {b : Nat} : PreS s H (va_Pc [.ref b] (IPre D cI cJ cR wc H.size)) [.ref b] :=
  ⟨IPre_blind, fun U hU hW => ⟨rfl, by rw [hU], by rw [hU]; exact va_P_mem.mpr fun q hq => va_P_mem.mp hP q (List.mem_append_right _ hq), va_K.moved hW.alike hK, (va_D_r hD).weaken (fun _ _ _ _ => trivial), hN.warm hW⟩⟩
end INI
