theorem ap_XM {A : Nat → Prop} {aX aM : Nat → Nat} {cI cJ cR : ClassId} {u : XS} {v : MS} (h : va_D A (wX aX cI cJ cR u ++ wM aM cI cJ v)) : ∀ q, AX aX q → ¬ AM aM q := by
  rintro q ⟨i, hi, rfl⟩ ⟨j, hj, e⟩
  obtain ⟨x, hx⟩ : ∃ x, (wX aX cI cJ cR u)[i]? = some x := ⟨_, List.getElem?_eq_getElem (by rw [wX_len]; exact hi)⟩
  obtain ⟨y, hy⟩ : ∃ y, (wM aM cI cJ v)[j]? = some y := ⟨_, List.getElem?_eq_getElem hj⟩
  exact va_D_x h (List.mem_of_getElem? hx) (List.mem_of_getElem? hy) (by rw [(wX_ad hx).2, (wM_ad hy).2]; exact e)
theorem lw_known {s : State} {b : Nat} (hts0 : ∀ w ∈ lw_tbl, w.before #[Value.ref b] s = true) : ∃ (D : va_G) (cI cJ cR : ClassId), va_K D vwCl (xT cI cJ cR) s := by
  obtain ⟨c0, i0, k0⟩ := u_known (C := RX0) (T := TX0) (N := 5) (n := 5) hts0 inX0 (hts0 (.instantiable RX0 5) (by decide +kernel))
  obtain ⟨c1, i1, k1⟩ := u_known (C := RX1) (T := TX1) (N := 12) (n := 12) hts0 inX1 (hts0 (.instantiable RX1 12) (by decide +kernel))
  obtain ⟨c2, i2, k2⟩ := u_known (C := RX2) (T := TX2) (N := 4) (n := 4) hts0 inX2 (hts0 (.instantiable RX2 4) (by decide +kernel))
  obtain ⟨c3, i3, k3⟩ := u_known (C := RX3) (T := TX3) (N := 6) (n := 6) hts0 inX3 (hts0 (.instantiable RX3 6) (by decide +kernel))
  obtain ⟨c4, i4, k4⟩ := u_known (C := RX4) (T := TX4) (N := 3) (n := 3) hts0 inX4 (hts0 (.instantiable RX4 3) (by decide +kernel))
  obtain ⟨c5, i5, k5⟩ := u_known (C := RX5) (T := TX5) (N := 3) (n := 3) hts0 inX5 (hts0 (.instantiable RX5 3) (by decide +kernel))
  obtain ⟨c6, i6, k6⟩ := u_known (C := RX6) (T := TX6) (N := 8) (n := 8) hts0 inX6 (hts0 (.instantiable RX6 8) (by decide +kernel))
  obtain ⟨c7, i7, k7⟩ := u_known (C := RX7) (T := TX7) (N := 21) (n := 21) hts0 inX7 (hts0 (.instantiable RX7 21) (by decide +kernel))
  obtain ⟨cI, kI, pI, a1, a2, a3⟩ := Cond.arrayClass_spec (hts0 (.arrayClass .int) (by decide +kernel))
  obtain ⟨cJ, kJ, pJ, b1, b2, b3⟩ := Cond.arrayClass_spec (hts0 (.arrayClass .long) (by decide +kernel))
  obtain ⟨pR, cR, kR, d1, -, d2, d3, d4⟩ := Cond.arrayOver_spec (hts0 (.arrayOver (.object "SignedCalls$Call")) (by decide +kernel))
  refine ⟨(fun k => ([c0, c1, c2, c3, c4, c5, c6, c7] : List ClassId).getD k c0, fun k => ([i0, i1, i2, i3, i4, i5, i6, i7] : List (Nat → Nat)).getD k i0), cI, cJ, cR, ?_, ?_⟩
  · intro k q hq
    match k, hq with
    | 0, hq => cases hq; exact k0
    | 1, hq => cases hq; exact k1
    | 2, hq => cases hq; exact k2
    | 3, hq => cases hq; exact k3
    | 4, hq => cases hq; exact k4
    | 5, hq => cases hq; exact k5
    | 6, hq => cases hq; exact k6
    | 7, hq => cases hq; exact k7
    | k + 8, hq => simp [vwCl] at hq
  · intro k q hq
    match k, hq with
    | 0, hq => cases hq; exact ⟨fun n z => ⟨fun k h => (by cases h), kI, a2, pI, a3⟩, a1⟩
    | 1, hq => cases hq; exact ⟨fun n z => ⟨fun k h => (by cases h), kJ, b2, pJ, b3⟩, b1⟩
    | 2, hq => cases hq; exact ⟨fun n z => ⟨fun k h => (by cases h), kR, d2, pR, d3⟩, kR, pR, d2, d3, d1, d4⟩
    | k + 3, hq => simp at hq
theorem lw_nws {s : State} {b : Nat} (hts0 : ∀ w ∈ lw_tbl, w.before #[Value.ref b] s = true) : NWs s :=
  ⟨va_Nw.of rfl (hts0 (.methodLinkNest RX6 9 yX0_init "SignedCalls") (by decide +kernel)), va_Nw.of rfl (hts0 (.methodLinkNest RX6 18 yX4_init "SignedCalls") (by decide +kernel)), va_Nw.of rfl (hts0 (.methodLinkNest RX6 25 yX2_init "SignedCalls") (by decide +kernel)), va_Nw.of rfl (hts0 (.methodLinkNest RX6 39 yX3_init "SignedCalls") (by decide +kernel)), va_Nw.of rfl (hts0 (.methodLinkNest RX2 11 yX1_init "SignedCalls") (by decide +kernel)), va_Nw.of rfl (hts0 (.methodLinkNest RX5 17 yX1_init "SignedCalls") (by decide +kernel)), va_AO.of (hts0 (.arrayOver (.object "SignedCalls$Call")) (by decide +kernel))⟩
abbrev fs6 : List Value := [.null, .null, .null, .null, .null, .int 0, .int 0, .long 0]
abbrev fs7 : List Value := [.int 0, .null, .null, .null, .null, .int 0, .null, .null, .null, .int 0, .null, .int 0, .int 0, .int 0, .int 0, .int 0, .long 0, .int 0, .null, .int 0, .null]
theorem fs6_ok : ∀ j, j < 8 → defaultValue (tyX6 j) = vp_V fs6 j := by decide +kernel
theorem fs7_ok : ∀ j, j < 21 → defaultValue (tyX7 j) = vp_V fs7 j := by decide +kernel
set_option maxHeartbeats 4000000 in
theorem whole_start {p : Program} {e : Env} {s : State} {m : MethodId} {below : List Frame} {meth : Method} {c : Code} (l : Launch) {b L : Nat} {xs : Nat → Int32} (hL : L ≤ 2560) (C0 : lw_At p s m meth c b L xs) : W p l e room_1 s m #[Value.ref b] below meth c s.heap [] 0 0 (lw_Z below #[Value.ref b] s) (entryFrame m ([Value.ref b] : List Value).toArray 4) := by
  obtain ⟨hx, hb, hr, hml, hown, hts0, hX, hbl, hlocks, hgv⟩ := id C0
  have hts : ∀ w ∈ wsL_law, w.before #[Value.ref b] s = true := fun w h => hts0 w (wsL_law_in w h)
  have C : CallFix p m c cL_law 4 s #[Value.ref b] wsL_law RL := ⟨hx, hb, hml, hown, hts⟩
  have hA : ∀ q : Nat, s.heap.size ≤ q → AL s q := fun _ h => h
  obtain ⟨D, cI, cJ, cR, hK⟩ := lw_known hts0
  have hN : NWs s := lw_nws hts0
  have hS : va_S (AL s) s.heap s.heap [] := va_S.rf
  have hP : va_P D vwCl [] s.heap := fun k q h => by simp at h
  have hD : va_D (AL s) [] := ⟨fun i j p q h => by simp at h, fun k q h => by simp at h⟩
  refine en_W (vs := [.ref b]) (n := 4) (Nat.le_of_ble_eq_true rfl) (fun ls hl => ?_)
  have hl : lv_has ls 4 [(0, .ref b)] := hl
  refine va_new (ci := 6) (fs := fs6) (C := RX6) (T := TX6) (N := 8) C.1 C.2.1 hts inlX6 tyX6 tyX6_ok C.2.2.2.1 (hts0 (.classLink RL 7 RX6) (by decide +kernel)) (hts0 (.instantiable RX6 8) (by decide +kernel)) (hts0 (.initialized RX6) (by decide +kernel)) hK hP hD hS hA rfl fs6_ok (Nat.le_of_ble_eq_true rfl) (Nat.le_of_ble_eq_true rfl) dL_law_0 (fun q0 H hP hD hS => ?_)
  have hP : va_P D vwCl ([] ++ [(q0, .inr (6, fs6))]) H := hP
  have hD : va_D (AL s) ([] ++ [(q0, .inr (6, fs6))]) := hD
  refine lv_dup C.1 C.2.1 dL_law_3 rfl ?_
  have hF := fr_c hD hS hA
  refine va_callv (va_runI (As := []) (rest := [.ref q0]) C (c_X6_init l D cI cJ cR q0 H.size) (cwI 0 hts gL_law_X6_init rfl rfl rfl (hts0 (.initialized RX6) (by decide +kernel)) (hts0 (.methodLink RL 9 yX6_init) (by decide +kernel)) (hts0 (.instanceMethod yX6_init) (by decide +kernel)) rfl (by decide +kernel) ⟨Nat.le_of_ble_eq_true rfl, Nat.le_of_ble_eq_true rfl⟩) (ci_pre hK hN hP hD) rfl rfl hl.1 rfl (lv_room (Nat.le_of_ble_eq_true rfl)) dL_law_4 ⟨Nat.le_of_ble_eq_true rfl, Nat.le_of_ble_eq_true rfl⟩) hS (fun q _ h => hF q h) hF (fun u t H1 locs ht hvm _ hB hz hk hS => ?_)
  subst ht
  obtain ⟨va, vb⟩ := u
  obtain ⟨j1, j2⟩ := jn hP hD hk hF hB.1 hB.2.2
  have j1 : va_P D vwCl (w6 cI cJ cR q0 va vb) t.heap := j1
  have j2 : va_D (AL s) (w6 cI cJ cR q0 va vb) := j2
  have hPX := conv_P j1
  obtain ⟨hDX, hAX⟩ := conv_D j2
  clear hB j1 j2 hz hk hF hP hD
  have h00 : adF q0 va vb 0 = q0 := rfl
  generalize adF q0 va vb = aX at hPX hDX hAX h00
  generalize t.heap = H1 at hPX hS ⊢
  refine lv_astore_n (lv' := [(1, .ref q0), (0, .ref b)]) C.1 C.2.1 dL_law_7 rfl hl (by decide) rfl (fun ls hl => ?_)
  have hDL : va_D (AL s) (wX aX cI cJ cR x0) := hDX.weaken (fun k q _ h => hAX q.1 h)
  refine va_new (ci := 7) (fs := fs7) (C := RX7) (T := TX7) (N := 21) C.1 C.2.1 hts inlX7 tyX7 tyX7_ok C.2.2.2.1 (hts0 (.classLink RL 10 RX7) (by decide +kernel)) (hts0 (.instantiable RX7 21) (by decide +kernel)) (hts0 (.initialized RX7) (by decide +kernel)) hK hPX hDL hS hA rfl fs7_ok (Nat.le_of_ble_eq_true rfl) (Nat.le_of_ble_eq_true rfl) dL_law_8 (fun q1 H2 hP hD hS => ?_)
  refine lv_dup C.1 C.2.1 dL_law_11 rfl ?_
  have hF := fr_c hD hS hA
  refine va_callv (va_runI (As := []) (rest := [.ref q1]) C (c_X7_init l D cI cJ cR q1 H2.size) (cwI 0 hts gL_law_X7_init rfl rfl rfl (hts0 (.initialized RX7) (by decide +kernel)) (hts0 (.methodLink RL 12 yX7_init) (by decide +kernel)) (hts0 (.instanceMethod yX7_init) (by decide +kernel)) rfl (by decide +kernel) ⟨Nat.le_of_ble_eq_true rfl, Nat.le_of_ble_eq_true rfl⟩) (ci_pre hK hN hP hD) rfl rfl hl.1 rfl (lv_room (Nat.le_of_ble_eq_true rfl)) dL_law_12 ⟨Nat.le_of_ble_eq_true rfl, Nat.le_of_ble_eq_true rfl⟩) hS (fun q _ h => hF q h) hF (fun v t H3 locs ht hvm _ hB hz hk hS => ?_)
  subst ht
  obtain ⟨j1, j2⟩ := jn hP hD hk hF hB.1 hB.2.2
  have h10 : adM q1 v 0 = q1 := rfl
  have j1 : va_P D vwCl (wX aX cI cJ cR x0 ++ wM (adM q1 v) cI cJ (mk x0 cal0 evr0 0 cal0)) t.heap := j1
  have j2 : va_D (AL s) (wX aX cI cJ cR x0 ++ wM (adM q1 v) cI cJ (mk x0 cal0 evr0 0 cal0)) := j2
  clear hB hz hk hF hP hD
  generalize adM q1 v = aM at j1 j2 h10
  generalize t.heap = H4 at j1 hS ⊢
  obtain ⟨hDM, hAM⟩ := convM_D (va_D_r j2)
  have hFx : LFix D aX aM cI cJ cR s b L xs := ⟨hK, hX, hbl, hAX, hAM, ap_XM j2⟩
  have hw : LW D aX aM cI cJ cR s H4 locs x0 (mk x0 cal0 evr0 0 cal0) := ⟨va_P_mem.mpr fun q hq => va_P_mem.mp j1 q (List.mem_append_left _ hq), hDX, va_P_mem.mpr fun q hq => va_P_mem.mp j1 q (List.mem_append_right _ hq), hDM, hS⟩
  clear j1 j2
  refine lv_astore_n (lv' := [(2, .ref q1), (1, .ref q0), (0, .ref b)]) C.1 C.2.1 dL_law_15 rfl hl (by decide) rfl (fun ls hl => ?_)
  refine lv_iconst (v := 0) C.1 C.2.1 dL_law_16 (by decide) ?_
  refine lv_istore_n (lv' := [(3, .int 0), (2, .ref q1), (1, .ref q0), (0, .ref b)]) C.1 C.2.1 dL_law_17 rfl hl (by decide) rfl (fun ls hl => ?_)
  refine W.widen (k := 103) (n := 2308) (by omega) (by omega) ?_
  exact law_loop hL C hr hlocks hFx (L + 1) 0 (by omega) (by omega) 0 (show (0 : Int32) = nI 0 from nI_0.symm) x0 cal0 evr0 0 cal0 inv0 H4 locs hw ls (by rw [h00, h10]; exact lv_sub hl [3, 2, 1, 0] rfl)
set_option maxHeartbeats 4000000 in
theorem lw_walk (l : Launch) (b : Addr) (xs : List Int32) : MetFree l x (headSpec (Jvm.Cond.code x code maxLocals ret :: tables_1) room_1) (lw_P b xs) (fun _ _ _ _ _ => True) lw_Q := by
  refine MetFree.of_bodyS (code := code) (maxLocals := maxLocals) (ret := ret) (by decide) ?_ ?_
  · intro args s m h hn
    obtain ⟨meth, c, h1, h2, h3, h4, h5, h6, -, -⟩ := Cond.code_spec hn (atoms_spec (ws := Jvm.Cond.code x code maxLocals ret :: tables_1) h _ List.mem_cons_self)
    exact ⟨meth, c, h1, h2, h3, h4, h5, h6⟩
  · intro p e s m args below meth c s₁ B hml0 hP _
    obtain ⟨rfl, hx, hbd, hgv⟩ := hP
    obtain ⟨scr, harrAt, hlist, hof, hsmall⟩ := hx
    obtain ⟨hcb, hkn, -, -⟩ := State.arrayAt?_spec harrAt
    have hown : s.vm.findClass R_law = some m.cls := findClass_of_methodNamed B.named
    have hts0 : ∀ c ∈ (Jvm.Cond.code x code maxLocals ret :: tables_1), c.before #[Value.ref b] s = true := atoms_spec (ws := Jvm.Cond.code x code maxLocals ret :: tables_1) B.pre
    have hts : ∀ w ∈ lw_tbl, w.before #[Value.ref b] s = true := k2_hts_sels lw_privs (fun w hw => hts0 w (List.mem_cons_of_mem _ hw)) lw_privs_ok
    have hml : c.maxLocals = 4 := B.maxLocals_eq (hts0 _ List.mem_cons_self)
    have X₀ : Stand p l e room_1 s m #[Value.ref b] below meth c s₁ [] 0 0 := Stand.of_body B
    have hh0 : s₁.heap = s.heap := by rw [B.state]; rfl
    have hsz : scr.slots.size = xs.length := by rw [← Array.length_toList, hlist, List.length_map]
    have hval : ∀ j : Nat, j < xs.length → scr.slots[j]? = some (.int (xs.getD j 0)) := fun j hj => by
      rw [← Array.getElem?_toList, hlist]
      simp [hj]
    have hbl : b < s.heap.size := (Array.getElem?_eq_some_iff.mp hcb).1
    have hX : va_X b xs.length (fun j => xs.getD j 0) s s.heap := ⟨scr, hcb, hof, hkn, hsz, hval⟩
    have K : W p l e room_1 s m #[Value.ref b] below meth c s₁.heap [] 0 0 (lw_Z below #[Value.ref b] s) (entryFrame m ([Value.ref b] : List Value).toArray 4) := by
      rw [hh0]
      exact whole_start l hbd ⟨B.exec, B.bytes, B.returns, hml, hown, hts, hX, hbl, B.notSynchronized, hgv⟩
    obtain ⟨t, a1, o, b1, b2, b3⟩ := K s₁ rfl X₀
    exact ⟨t, o, a1, b1, b2, b3⟩
theorem lw_pre_spec {args : Array Value} {s : State} (h : (Jvm.Cond.and given_1 narrow_1).before args s = true) (hr : rest_1_c.before args s = true) : ∃ (b : Addr) (xs : List Int32), lw_P b xs args s := by
  have hs := flat_of_before _ h
  have hq := flat_of_before _ hr
  have hc : (Cond.count 1).before args s = true := hs _ (by decide +kernel)
  have harr : (Cond.arrayOf (.arg 0) .int).before args s = true := hs _ (by decide +kernel)
  have hle : (Cond.le (.length (.arg 0)) (.int 2560)).before args s = true := hs _ (by decide +kernel)
  have hlen : (Cond.isInt (.length (.arg 0))).before args s = true := hq _ (by decide +kernel)
  have hall : (Cond.all (.arg 0) (.isInt (.elem (.arg 0) (.index 0)))).before args s = true := hq _ (by decide +kernel)
  obtain ⟨b, xs, hb, hx⟩ := State.ints_of_pre rfl harr hlen hall
  have hsm : xs.length < 2 ^ 31 := hx.choose_spec.2.2.2
  have hev : (Term.length (.arg 0)).eval args s none [] s = some (.int xs.length.toInt32) := hx.length_eval hb
  have hv := Cond.le_ints hev (show (Term.int 2560).eval args s none [] s = some (.int 2560) from rfl)
  have hd : xs.length.toInt32 ≤ 2560 := by
    simpa [Cond.before, Cond.holds, hv] using hle
  have hN : xs.length ≤ 2560 := (Int32.ofNat_le_ofNat hsm (by decide)).mp (show Int32.ofNat xs.length ≤ Int32.ofNat 2560 from hd)
  exact ⟨b, xs, Cond.one_arg hc (show args[0]? = some (.ref b) from hb), hx, hN, h⟩
theorem lw_comes (l : Launch) : Comes l x (Jvm.Cond.code x code maxLocals ret :: tables_1) room_1 (fun tb e args s => Calls_1 tb e args s ∧ rest_1 tb e args s ∧ Pre_1 tb e args s)
    (fun _ _ args s o t => lw_Q args s o t) := by
  intro p e ha hc hk s m args below hf hfit hheap happ hpre
  obtain ⟨b, xs, hP⟩ := lw_pre_spec hpre.2.2 hpre.2.1
  obtain ⟨k, o, h1, h2, h3, hQ⟩ := lw_walk l b xs p e ha hc hk s m args below hf ((Spec.applies_iff_loose hf).mp happ).1 hP trivial
  exact ⟨k, o, h1, h2, h3, hQ⟩
theorem lw_frame {s t : State} {o : Outcome} {args : Array Value} (h : Framed s o t [] 600000 7302250) :
    Framed s o t (fieldLocs frame_1_writes args s ++ arrayLocs frame_1_arrays args s ++ staticLocs frame_1_statics s) 600000 7302250 := h
theorem lw_limb (L : Cond) (hL : ∀ (args : Array Value) (s t : State), L.after args s (.returned (some (.int 1))) t = true) :
    ArmFor flags0 classFile x code maxLocals ret World_1 tables_1 room_1 Calls_1 rest_1 Pre_1
      (fun tb e a s o t => postC L tb e a s o t ∧ Framed s o t (fieldLocs frame_1_writes a s ++ arrayLocs frame_1_arrays a s ++ staticLocs frame_1_statics s) 600000 7302250) := by
  intro l _ _ _ p e ha hc hk s m args below hf hfit hheap happ hpre
  obtain ⟨k, o, h1, h2, h3, rfl, hF⟩ := lw_comes l p e ha hc hk s m args below hf hfit hheap happ hpre
  exact ⟨k, _, h1, h2, h3, hL args s _, lw_frame hF⟩
theorem i_vc : Claimed_1_1 ∧ Claimed_1_2 := ⟨lw_limb limb_1_1 (fun args s t => by simp [limb_1_1, Cond.after, Cond.holds, Cond.value]), lw_limb limb_1_2 (fun args s t => Cond.after_iff.mpr (by
  first | (rw [show limb_1_2 = Cond.eq .result (.int 1) from rfl, Cond.eq_ints (x := 1) (y := 1) rfl rfl]; simp; done) | (simp [limb_1_2, Cond.value, Term.eval]; done)))⟩
