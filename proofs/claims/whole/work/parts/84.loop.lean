/-! THE CLAIM OUT OF ONE WALK OF THE LAW'S BODY. Your part is whole_start (and what it stands on); all else here is the same for every law, but numbers. -/
def R_law : String := "SignedCallsLaw"
def lw_P (b : Addr) (xs : List Int32) (args : Array Value) (s : State) : Prop := args = #[.ref b] ∧ s.IntsAt b xs ∧ xs.length ≤ 2560 ∧ (Jvm.Cond.and given_1 narrow_1).before args s = true
def lw_Q (_ : Array Value) (s : State) (o : Outcome) (t : State) : Prop := o = .returned (some (.int 1)) ∧ Framed s o t [] 600000 7302250
def lw_Z (below : List Frame) (a : Array Value) (s : State) : State → Prop := fun t => ∃ o, t.status = .running ∧ Ended t below o ∧ lw_Q a s o t
/-- the law's own end, with 1 on the stack, nothing written that was there before, its room as the claim has it -/
theorem lw_ret {p : Program} {l : Launch} {e : Env} {s : State} {m : MethodId} {below : List Frame} {meth : Method} {c : Code} {b : Nat} (hx : p.tables.exec = Jvm.exec) (hb : c.code = code) (hr : meth.sig.returnType = ret) (hlocks : meth.locks = false) {pc : Nat} {H : Heap} {ls : Array Slot} (hdg : decode code pc = .ok (.ireturn, 1)) : W p l e room_1 s m #[Value.ref b] below meth c H [] 600000 7302250 (lw_Z below #[Value.ref b] s) (F0 m pc ls [.int 1]) := by
  intro T hT X
  obtain ⟨fs, hret, hrun, hended, hW, hframe⟩ := X.leave (v := some (.int 1)) (hlocks := hlocks) (fun h => by rw [hr] at h; cases h)
  have hmeth' : T.vm.method? m = some meth := X.method'
  refine ⟨T.setFrames fs, ?_, .returned (some (.int 1)), hrun, hended, rfl, ⟨_, rfl⟩, hW, hframe⟩
  jvm_step X.here [X.here.top, hx, hb, hdg, hmeth', hr, ret, narrow_b1]
  (try refine ⟨rfl, ?_⟩); (try refine ⟨rfl, ?_⟩)
  first | (intro acts; rw [hret _ acts rfl rfl rfl]) | rw [hret _ _ rfl rfl rfl]
  exact Steps.refl _
/-- what holds at the law's entry: the machine, the code, the tables' words (any of lw_tbl by 'hts w (by decide +kernel)'), the script of L ints xs at the cell b, what the Statement gives of the start (any of its parts by flat_of_before) -/
def lw_At (p : Program) (s : State) (m : MethodId) (meth : Method) (c : Code) (b L : Nat) (xs : Nat → Int32) : Prop :=
  p.tables.exec = Jvm.exec ∧ c.code = code ∧ meth.sig.returnType = ret ∧ c.maxLocals = 4 ∧ s.vm.findClass R_law = some m.cls ∧ (∀ w ∈ lw_tbl, w.before #[Value.ref b] s = true) ∧ va_X b L xs s s.heap ∧ b < s.heap.size ∧ meth.locks = false ∧ (Jvm.Cond.and given_1 narrow_1).before #[Value.ref b] s = true
theorem lp_gt {a L : Nat} (ha : a ≤ 2560) (hL : L ≤ 2560) (h : ¬ (Int32.ofNat L - 5 < nI a)) : a + 5 ≤ L := by
  have e : (Int32.ofNat L - 5).toInt = (L : Int) - 5 := by
    have := pk_sub_toInt (a := L) (b := 5) (by omega) (by decide)
    exact this
  rw [Int32.lt_iff_toInt_lt, nI_toInt (by omega), e] at h
  omega
set_option maxHeartbeats 4000000 in
theorem law_loop {p : Program} {l : Launch} {e : Env} {s : State} {m : MethodId} {below : List Frame} {meth : Method} {c : Code} {D : va_G} {aX aM : Nat → Nat} {cI cJ cR : ClassId} {b L : Nat} {xs : Nat → Int32} (hL : L ≤ 2560) (C : CallFix p m c cL_law 4 s #[Value.ref b] wsL_law RL) (hr : meth.sig.returnType = ret) (hlocks : meth.locks = false) (hF : LFix D aX aM cI cJ cR s b L xs) : ∀ (k n : Nat), 5 * n ≤ L → L + 1 ≤ n + k → ∀ (x : Int32), x = nI (5 * n) → ∀ (u : XS) (cal : Nat → Int64) (evr : Nat → Int32) (rom : Int32) (bef : Nat → Int64), Inv n u cal evr → ∀ (H : Heap) (locs : List Loc), LW D aX aM cI cJ cR s H locs u (mk u cal evr rom bef) → ∀ (ls : Array Slot), lv_has ls 4 [(0, .ref b), (1, .ref (aX 0)), (2, .ref (aM 0)), (3, .int x)] → W p l e room_1 s m #[Value.ref b] below meth c H locs 103 2308 (lw_Z below #[Value.ref b] s) (F0 m 18 ls []) := by
  intro k
  induction k with
  | zero =>
    intro n h1 h2
    exact absurd h2 (by omega)
  | succ k ih =>
    intro n hn hk x ex u cal evr rom bef hI H locs hw ls hl
    have hc : 103 + 0 ≤ room_1.cells ∧ 2308 + 0 ≤ room_1.slots := ⟨by decide, by decide⟩
    refine lv_iload_n C.1 C.2.1 dL_law_18 rfl (lv_at hl 3 rfl) ?_
    refine lv_aload_n C.1 C.2.1 dL_law_19 rfl (lv_at hl 0 rfl) ?_
    refine va_slen (A := AL s) C.1 C.2.1 hF.2.1 hF.2.2.1 (Nat.not_le.mpr hF.2.2.1) hw.2.2.2.2 dL_law_20 ?_
    refine lv_iconst (v := 5) C.1 C.2.1 dL_law_21 (by decide) ?_
    refine lv_isub C.1 C.2.1 dL_law_22 ?_
    refine lv_icmp_gt (tgt := 740) C.1 C.2.1 dL_law_23 (by decide) (fun _ => ?_) (fun hz => ?_)
    · refine lv_iconst (v := 1) C.1 C.2.1 dL_law_740 (by decide) ?_
      refine va_forget (fun q hq => hw.2.2.2.2.2.2 q hq) ?_
      refine W.widen (k := 600000) (n := 7302250) (by omega) (by omega) ?_
      exact lw_ret C.1 C.2.1 hr hlocks dL_law_741
    · have h5 : 5 * n + 5 ≤ L := lp_gt (by omega) hL (by rw [← ex]; exact hz)
      have g : ∀ j : Nat, j < 5 → vp_in (nI (5 * n + j)) L := fun j hj => vp_in_nI (by omega) (by omega)
      have h0 : vp_in x L := by rw [ex]; exact g 0 (by omega)
      have h1 : vp_in (x + 1) L := by rw [ex, show (1 : Int32) = nI 1 from rfl, nI_add]; exact g 1 (by omega)
      have h2 : vp_in (x + 2) L := by rw [ex, show (2 : Int32) = nI 2 from rfl, nI_add]; exact g 2 (by omega)
      have h3 : vp_in (x + 3) L := by rw [ex, show (3 : Int32) = nI 3 from rfl, nI_add]; exact g 3 (by omega)
      have h4 : vp_in (x + 4) L := by rw [ex, show (4 : Int32) = nI 4 from rfl, nI_add]; exact g 4 (by omega)
      have hnx : x + 5 = nI (5 * (n + 1)) := by rw [ex, show (5 : Int32) = nI 5 from rfl, nI_add]; rfl
      have nxt : ∀ (u1 : XS) (cal1 : Nat → Int64) (evr1 : Nat → Int32) (rom1 : Int32) (bef1 : Nat → Int64) (H1 : Heap) (locs1 : List Loc), Inv (n + 1) u1 cal1 evr1 → LW D aX aM cI cJ cR s H1 locs1 u1 (mk u1 cal1 evr1 rom1 bef1) → W p l e room_1 s m #[Value.ref b] below meth c H1 locs1 103 2308 (lw_Z below #[Value.ref b] s) (F0 m 734 ls []) := by
        intro u1 cal1 evr1 rom1 bef1 H1 locs1 hI1 hw1
        refine lv_iinc (v := x + 5) (lv' := [(3, .int (x + 5)), (0, .ref b), (1, .ref (aX 0)), (2, .ref (aM 0))]) C.1 C.2.1 dL_law_734 hl (k := 3) rfl rfl (by decide) rfl (fun ls hl => ?_)
        refine lv_goto (tgt := 18) C.1 C.2.1 dL_law_737 (by decide) ?_
        exact ih (n + 1) (by omega) (by omega) (x + 5) hnx u1 cal1 evr1 rom1 bef1 hI1 H1 locs1 hw1 ls (lv_sub hl [1, 2, 3, 0] rfl)
      refine lv_aload_n C.1 C.2.1 dL_law_26 rfl (lv_at hl 0 rfl) ?_
      refine lv_iload_n C.1 C.2.1 dL_law_27 rfl (lv_at hl 3 rfl) ?_
      refine va_sld (A := AL s) C.1 C.2.1 hF.2.1 hF.2.2.1 (Nat.not_le.mpr hF.2.2.1) hw.2.2.2.2 h0 dL_law_28 ?_
      refine lv_bipush (v := 31) C.1 C.2.1 dL_law_29 (by decide) ?_
      refine lv_iand C.1 C.2.1 dL_law_31 ?_
      refine lv_topi (fun y _ => ?_)
      have hn5 : n ≤ 512 := by omega
      by_cases y0 : y = 0
      · refine lv_tableIn (off := 92) (tgt := 124) C.1 C.2.1 dL_law_32 (by rw [y0]; decide) (by rw [y0]; decide) (by rw [y0]; rfl) (by decide) ?_
        exact cs_0 C hF hc hn5 hI hw h1 h2 h3 h4 hl nxt
      by_cases y1 : y = 1
      · refine lv_tableIn (off := 165) (tgt := 197) C.1 C.2.1 dL_law_32 (by rw [y1]; decide) (by rw [y1]; decide) (by rw [y1]; rfl) (by decide) ?_
        exact cs_1 C hF hc hn5 hI hw h1 h2 h3 h4 hl nxt
      by_cases y2 : y = 2
      · refine lv_tableIn (off := 208) (tgt := 240) C.1 C.2.1 dL_law_32 (by rw [y2]; decide) (by rw [y2]; decide) (by rw [y2]; rfl) (by decide) ?_
        exact cs_2 C hF hc hn5 hI hw h1 h2 h3 h4 hl nxt
      by_cases y3 : y = 3
      · refine lv_tableIn (off := 232) (tgt := 264) C.1 C.2.1 dL_law_32 (by rw [y3]; decide) (by rw [y3]; decide) (by rw [y3]; rfl) (by decide) ?_
        exact cs_3 C hF hc hn5 hI hw h1 h2 h3 h4 hl nxt
      by_cases y4 : y = 4
      · refine lv_tableIn (off := 255) (tgt := 287) C.1 C.2.1 dL_law_32 (by rw [y4]; decide) (by rw [y4]; decide) (by rw [y4]; rfl) (by decide) ?_
        exact cs_4 C hF hc hn5 hI hw h1 h2 h3 h4 hl nxt
      by_cases y5 : y = 5
      · refine lv_tableIn (off := 318) (tgt := 350) C.1 C.2.1 dL_law_32 (by rw [y5]; decide) (by rw [y5]; decide) (by rw [y5]; rfl) (by decide) ?_
        exact cs_5 C hF hc hn5 hI hw h1 h2 h3 h4 hl nxt
      by_cases y6 : y = 6
      · refine lv_tableIn (off := 371) (tgt := 403) C.1 C.2.1 dL_law_32 (by rw [y6]; decide) (by rw [y6]; decide) (by rw [y6]; rfl) (by decide) ?_
        exact cs_6 C hF hc hn5 hI hw h1 h2 h3 h4 hl nxt
      by_cases y7 : y = 7
      · refine lv_tableIn (off := 394) (tgt := 426) C.1 C.2.1 dL_law_32 (by rw [y7]; decide) (by rw [y7]; decide) (by rw [y7]; rfl) (by decide) ?_
        exact cs_7 C hF hc hn5 hI hw h1 h2 h3 h4 hl nxt
      by_cases y8 : y = 8
      · refine lv_tableIn (off := 417) (tgt := 449) C.1 C.2.1 dL_law_32 (by rw [y8]; decide) (by rw [y8]; decide) (by rw [y8]; rfl) (by decide) ?_
        exact cs_8 C hF hc hn5 hI hw h1 h2 h3 h4 hl nxt
      by_cases y9 : y = 9
      · refine lv_tableIn (off := 440) (tgt := 472) C.1 C.2.1 dL_law_32 (by rw [y9]; decide) (by rw [y9]; decide) (by rw [y9]; rfl) (by decide) ?_
        exact cs_9 C hF hc hn5 hI hw h1 h2 h3 h4 hl nxt
      by_cases y10 : y = 10
      · refine lv_tableIn (off := 503) (tgt := 535) C.1 C.2.1 dL_law_32 (by rw [y10]; decide) (by rw [y10]; decide) (by rw [y10]; rfl) (by decide) ?_
        exact cs_10 C hF hc hn5 hI hw h1 h2 h3 h4 hl nxt
      by_cases y11 : y = 11
      · refine lv_tableIn (off := 526) (tgt := 558) C.1 C.2.1 dL_law_32 (by rw [y11]; decide) (by rw [y11]; decide) (by rw [y11]; rfl) (by decide) ?_
        exact cs_11 C hF hc hn5 hI hw h1 h2 h3 h4 hl nxt
      by_cases y12 : y = 12
      · refine lv_tableIn (off := 540) (tgt := 572) C.1 C.2.1 dL_law_32 (by rw [y12]; decide) (by rw [y12]; decide) (by rw [y12]; rfl) (by decide) ?_
        exact cs_12 C hF hc hn5 hI hw h1 h2 h3 h4 hl nxt
      by_cases y13 : y = 13
      · refine lv_tableIn (off := 553) (tgt := 585) C.1 C.2.1 dL_law_32 (by rw [y13]; decide) (by rw [y13]; decide) (by rw [y13]; rfl) (by decide) ?_
        exact cs_13 C hF hc hn5 hI hw h1 h2 h3 h4 hl nxt
      by_cases y14 : y = 14
      · refine lv_tableIn (off := 576) (tgt := 608) C.1 C.2.1 dL_law_32 (by rw [y14]; decide) (by rw [y14]; decide) (by rw [y14]; rfl) (by decide) ?_
        exact cs_14 C hF hc hn5 hI hw h1 h2 h3 h4 hl nxt
      by_cases y15 : y = 15
      · refine lv_tableIn (off := 599) (tgt := 631) C.1 C.2.1 dL_law_32 (by rw [y15]; decide) (by rw [y15]; decide) (by rw [y15]; rfl) (by decide) ?_
        exact cs_15 C hF hc hn5 hI hw h1 h2 h3 h4 hl nxt
      by_cases y16 : y = 16
      · refine lv_tableIn (off := 632) (tgt := 664) C.1 C.2.1 dL_law_32 (by rw [y16]; decide) (by rw [y16]; decide) (by rw [y16]; rfl) (by decide) ?_
        exact cs_16 C hF hc hn5 hI hw h1 h2 h3 h4 hl nxt
      by_cases y17 : y = 17
      · refine lv_tableIn (off := 665) (tgt := 697) C.1 C.2.1 dL_law_32 (by rw [y17]; decide) (by rw [y17]; decide) (by rw [y17]; rfl) (by decide) ?_
        exact cs_17 C hF hc hn5 hI hw h1 h2 h3 h4 hl nxt
      by_cases y18 : y = 18
      · refine lv_tableIn (off := 679) (tgt := 711) C.1 C.2.1 dL_law_32 (by rw [y18]; decide) (by rw [y18]; decide) (by rw [y18]; rfl) (by decide) ?_
        exact cs_18 C hF hc hn5 hI hw h1 h2 h3 h4 hl nxt
      have yo : y.toInt < 0 ∨ 18 < y.toInt := by
        clear hn hk h5 hn5 ih
        have z0 := lv_neT (a := 0) y0 (by decide); have z1 := lv_neT (a := 1) y1 (by decide); have z2 := lv_neT (a := 2) y2 (by decide); have z3 := lv_neT (a := 3) y3 (by decide); have z4 := lv_neT (a := 4) y4 (by decide); have z5 := lv_neT (a := 5) y5 (by decide); have z6 := lv_neT (a := 6) y6 (by decide); have z7 := lv_neT (a := 7) y7 (by decide); have z8 := lv_neT (a := 8) y8 (by decide); have z9 := lv_neT (a := 9) y9 (by decide); have z10 := lv_neT (a := 10) y10 (by decide); have z11 := lv_neT (a := 11) y11 (by decide); have z12 := lv_neT (a := 12) y12 (by decide); have z13 := lv_neT (a := 13) y13 (by decide); have z14 := lv_neT (a := 14) y14 (by decide); have z15 := lv_neT (a := 15) y15 (by decide); have z16 := lv_neT (a := 16) y16 (by decide); have z17 := lv_neT (a := 17) y17 (by decide); have z18 := lv_neT (a := 18) y18 (by decide)
        clear y0 y1 y2 y3 y4 y5 y6 y7 y8 y9 y10 y11 y12 y13 y14 y15 y16 y17 y18
        omega
      refine lv_tableOut (tgt := 734) C.1 C.2.1 dL_law_32 yo (by decide) ?_
      exact nxt u cal evr rom bef H locs hI.up hw
