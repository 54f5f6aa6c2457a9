/-! ===== the draft ===== -/
theorem ib0 : inb (0 : Int32) 442 = true := by decide
theorem tn0 : Int32.toNatClampNeg (0 : Int32) = 0 := by decide
theorem ib1 : inb (1 : Int32) 442 = true := by decide
theorem tn1 : Int32.toNatClampNeg (1 : Int32) = 1 := by decide
theorem ib2 : inb (2 : Int32) 442 = true := by decide
theorem tn2 : Int32.toNatClampNeg (2 : Int32) = 2 := by decide
theorem ib3 : inb (3 : Int32) 442 = true := by decide
theorem tn3 : Int32.toNatClampNeg (3 : Int32) = 3 := by decide
theorem ib4 : inb (4 : Int32) 442 = true := by decide
theorem tn4 : Int32.toNatClampNeg (4 : Int32) = 4 := by decide
theorem ib5 : inb (5 : Int32) 442 = true := by decide
theorem tn5 : Int32.toNatClampNeg (5 : Int32) = 5 := by decide
theorem ib6 : inb (6 : Int32) 442 = true := by decide
theorem tn6 : Int32.toNatClampNeg (6 : Int32) = 6 := by decide
theorem ib7 : inb (7 : Int32) 442 = true := by decide
theorem tn7 : Int32.toNatClampNeg (7 : Int32) = 7 := by decide
theorem ib8 : inb (8 : Int32) 442 = true := by decide
theorem tn8 : Int32.toNatClampNeg (8 : Int32) = 8 := by decide
theorem ib9 : inb (9 : Int32) 442 = true := by decide
theorem tn9 : Int32.toNatClampNeg (9 : Int32) = 9 := by decide
theorem ib10 : inb (10 : Int32) 442 = true := by decide
theorem tn10 : Int32.toNatClampNeg (10 : Int32) = 10 := by decide
theorem up2_ne {α : Type} {f : Nat → Nat → α} {k c : Nat} {v : α} {k' c' : Nat} (h : c' ≠ c) : up2 f k c v k' c' = f k' c' := by
  unfold up2
  rw [if_neg (fun q => h q.2)]
theorem up2_nk {α : Type} {f : Nat → Nat → α} {k c : Nat} {v : α} {k' c' : Nat} (h : k' ≠ k) : up2 f k c v k' c' = f k' c' := by
  unfold up2
  rw [if_neg (fun q => h q.1)]
theorem up2_s {α : Type} {f : Nat → Nat → α} {k c : Nat} {v : α} : up2 f k c v k c = v := by
  unfold up2
  rw [if_pos ⟨rfl, rfl⟩]
theorem CR.congr {cf rc cf' rc' : Nat → Nat → Int32} {am am' : Nat → Nat → Int64} {c : Nat} {f f' : Nat → Int64} (h : CR cf rc am c f) (hcf : ∀ k, k < 10 → cf' k c = cf k c) (hrc : rc' c = rc c) (ham : am' c = am c) (hf : ∀ j, j < 17 → f' j = f j) : CR cf' rc' am' c f' := by
  obtain ⟨⟨a0, a1, a2, a3, a4, a5, a6⟩, ⟨a, ha, hb, hc, hd⟩, ⟨o, ho, ho2⟩, hs, ⟨p, hp, hp2⟩⟩ := h
  refine ⟨⟨?_, ?_, ?_, ?_, ?_, ?_, ?_⟩, ⟨a, ha, ?_, ?_, ?_⟩, ⟨o, ho, ?_⟩, ?_, ⟨p, hp, ?_⟩⟩
  · rw [hf 0 (by omega), hcf 3 (by omega), a0]
  · rw [hf 1 (by omega), hcf 4 (by omega), a1]
  · rw [hf 2 (by omega), hcf 5 (by omega), a2]
  · rw [hf 3 (by omega), hcf 6 (by omega), a3]
  · rw [hf 4 (by omega), hcf 7 (by omega), a4]
  · rw [hf 5 (by omega), hcf 8 (by omega), a5]
  · rw [hf 6 (by omega), hcf 9 (by omega), a6]
  · rw [hcf 2 (by omega), hb]
  · rw [hf 8 (by omega), hc]
  · intro k hk
    obtain ⟨j, hj, h1, h2, h3⟩ := hd k hk
    exact ⟨j, hj, by rw [hrc]; exact h1, by rw [hf _ (by omega)]; exact h2, by rw [hf _ (by omega), ham]; exact h3⟩
  · rw [hcf 3 (by omega), ho2]
  · rw [hcf 9 (by omega)]; exact hs
  · rw [hcf 5 (by omega), hp2]
theorem QW.dr {k : Nat} {rwc : Int32} {row : Nat → Nat} {cf rc cf' rc' : Nat → Nat → Int32} {am am' : Nat → Nat → Int64} {cal cal' : Nat → Int64} (h : QW k rwc row cf rc am cal) (hcf : ∀ f c, 1 ≤ c → cf' f c = cf f c) (hrc : ∀ c, 1 ≤ c → rc' c = rc c) (ham : ∀ c, 1 ≤ c → am' c = am c) (hcal : ∀ j, 17 ≤ j → cal' j = cal j) (h0 : CR cf' rc' am' 0 cal') : QW k rwc row cf' rc' am' cal' := by
  obtain ⟨h1, h2, h3, h4, h5, h6, h7⟩ := h
  refine ⟨h1, h2, h3, h4, h0, fun i hi => ⟨?_, ?_⟩, fun i j hi hj e1 e2 => ?_⟩
  · have hr := (h3 i (by omega)).1
    exact (h6 i hi).1.congr (fun k _ => hcf k _ hr) (hrc _ hr) (ham _ hr) (fun j _ => hcal _ (by omega))
  · rw [hcal _ (by omega), hcf _ _ (h3 i (by omega)).1]
    exact (h6 i hi).2
  · rw [hcf _ _ (h3 i (by omega)).1, hcf _ _ (h3 j (by omega)).1] at e1 e2
    exact h7 i j hi hj e1 e2
section OPS
variable {n : Nat} {u : XS} {cal : Nat → Int64} {evr : Nat → Int32} {rom : Int32} {bef : Nat → Int64}
theorem i32_of {a : Int32} {m : Nat} (h0 : 0 ≤ a.toInt) (h1 : a.toInt ≤ m) (hm : m < 2 ^ 31) : ∃ p, p ≤ m ∧ a = nI p := by
  refine ⟨a.toInt.toNat, by omega, ?_⟩
  rw [← Int32.toInt_inj, nI_toInt (by omega)]
  omega
theorem op_draft (h : Inv n u cal evr) (a b c d : Int32) : OpI (n + 1) (f_X6_draft a b c d u) (f_X7_draft a b c d (mk u cal evr rom bef)) := by
  obtain ⟨k, e, t, hn, hA, hS, ⟨q, hq, hc, hdd⟩, hW, hE, hN⟩ := id h
  unfold f_X6_draft f_X7_draft
  obtain ⟨g, g1, g2, g3⟩ := acc_eq (rom := rom) (bef := bef) h a
  simp only [g1, g2, Option.bind_some, in_eq, Int32.toInt_toInt64]
  have e0 : (0 : Int32).toInt = 0 := by decide
  have e1 : (999 : Int32).toInt = 999 := by decide
  have e2 : (1000000 : Int32).toInt = 1000000 := by decide
  have e3 : (10 : Int32).toInt = 10 := by decide
  have e4 : (1000 : Int32).toInt = 1000 := by decide
  have k1 : (999 : Int64).toInt = 999 := by decide
  have k2 : (1000000 : Int64).toInt = 1000000 := by decide
  have k3 : (10 : Int64).toInt = 10 := by decide
  have k4 : (1000 : Int64).toInt = 1000 := by decide
  simp only [Int32.lt_iff_toInt_lt, Int32.le_iff_toInt_le, e0, e1, e2, e3, e4, k1, k2, k3, k4, z64]
  by_cases hg : g = 0
  · simp only [if_pos hg]
    exact op_same h _
  simp only [if_neg hg]
  by_cases b0 : b.toInt < 0
  · simp only [if_pos b0, if_neg (show ¬ ((0 : Int) ≤ b.toInt ∧ b.toInt ≤ 999) by omega), ↓reduceIte]
    exact op_same h _
  by_cases b1 : b.toInt ≤ 999
  rotate_left
  · simp only [if_neg b0, if_neg b1, if_neg (show ¬ ((0 : Int) ≤ b.toInt ∧ b.toInt ≤ 999) by omega), ↓reduceIte]
    exact op_same h _
  simp only [if_neg b0, if_pos b1, if_pos (show ((0 : Int) ≤ b.toInt ∧ b.toInt ≤ 999) by omega), if_neg one0]
  by_cases c0 : c.toInt < 0
  · simp only [if_pos c0, if_neg (show ¬ ((0 : Int) ≤ c.toInt ∧ c.toInt ≤ 1000000) by omega), ↓reduceIte]
    exact op_same h _
  by_cases c1 : 1000000 < c.toInt
  · simp only [if_neg c0, if_pos c1, if_neg (show ¬ ((0 : Int) ≤ c.toInt ∧ c.toInt ≤ 1000000) by omega), ↓reduceIte]
    exact op_same h _
  simp only [if_neg c0, if_neg c1, if_pos (show ((0 : Int) ≤ c.toInt ∧ c.toInt ≤ 1000000) by omega), if_neg one0]
  by_cases d0 : d.toInt < 10
  · simp only [if_pos d0, if_neg (show ¬ ((10 : Int) ≤ d.toInt ∧ d.toInt ≤ 1000) by omega), ↓reduceIte]
    exact op_same h _
  by_cases d1 : d.toInt ≤ 1000
  rotate_left
  · simp only [if_neg d0, if_neg d1, if_neg (show ¬ ((10 : Int) ≤ d.toInt ∧ d.toInt ≤ 1000) by omega), ↓reduceIte]
    exact op_same h _
  simp only [if_neg d0, if_pos d1, if_pos (show ((10 : Int) ≤ d.toInt ∧ d.toInt ≤ 1000) by omega), if_neg one0]
  unfold f_X2_begin f_X1_begin
  simp only [if_pos (show (0 : Nat) < 25 by decide), Option.bind_some, ib0, ib1, ib2, ib3, ib4, ib5, ib6, ib8, tn0, tn1, tn2, tn3, tn4, tn5, tn6, tn8, ↓reduceIte, mk_cal]
  obtain ⟨j, hj, ej⟩ := g3 hg
  obtain ⟨p, hp, ep⟩ := i32_of (a := c) (m := 1000000) (by omega) (by omega) (by decide)
  refine ⟨_, _, _, evr, rom, bef, rfl, rfl, k, e, t, ⟨hn.1, by omega⟩, hA, hS, ⟨0, by omega, rfl, fun i hi => absurd hi (by omega)⟩, ?_, hE, hN⟩
  refine hW.dr (fun f c hc => ?_) (fun _ _ => rfl) (fun _ _ => rfl) (fun j hj => ?_) ?_
  · have hc0 : c ≠ 0 := by omega
    show up2 _ _ _ _ _ _ = _
    rw [up2_ne hc0, up2_ne hc0, up2_ne hc0, up2_ne hc0, up2_ne hc0, up2_ne hc0, up2_ne hc0, up2_ne hc0]
  · show vp_updL _ _ _ _ = _
    rw [pk_uLn (by omega), pk_uLn (by omega), pk_uLn (by omega), pk_uLn (by omega), pk_uLn (by omega), pk_uLn (by omega), pk_uLn (by omega), pk_uLn (by omega)]
  · exact ⟨⟨rfl, rfl, rfl, rfl, by show (1000000 : Int64) = (1000000 : Int32).toInt64; decide, by show (0 : Int64) = (0 : Int32).toInt64; decide, by show (-1 : Int64) = (-1 : Int32).toInt64; decide⟩, ⟨0, by omega, rfl, rfl, fun k hk => absurd hk (by omega)⟩, ⟨j, hj, ej⟩, Or.inl rfl, ⟨p, hp, ep⟩⟩
theorem CR.s7 {cf rc : Nat → Nat → Int32} {am : Nat → Nat → Int64} {cal : Nat → Int64} (h : CR cf rc am 0 cal) (x : Int32) : CR (up2 cf 7 0 x) rc am 0 (vp_updL cal 4 x.toInt64) := by
  obtain ⟨⟨a0, a1, a2, a3, a4, a5, a6⟩, ⟨a, ha, hb, hc, hd⟩, ho, hs, hp⟩ := h
  refine ⟨⟨a0, a1, a2, a3, rfl, a5, a6⟩, ⟨a, ha, hb, hc, fun k hk => ?_⟩, ho, hs, hp⟩
  obtain ⟨j, hj, h1, h2, h3⟩ := hd k hk
  exact ⟨j, hj, h1, (pk_uLn (by omega)).trans h2, (pk_uLn (by omega)).trans h3⟩
theorem CR.s8 {cf rc : Nat → Nat → Int32} {am : Nat → Nat → Int64} {cal : Nat → Int64} (h : CR cf rc am 0 cal) (x : Int32) : CR (up2 cf 8 0 x) rc am 0 (vp_updL cal 5 x.toInt64) := by
  obtain ⟨⟨a0, a1, a2, a3, a4, a5, a6⟩, ⟨a, ha, hb, hc, hd⟩, ho, hs, hp⟩ := h
  refine ⟨⟨a0, a1, a2, a3, a4, rfl, a6⟩, ⟨a, ha, hb, hc, fun k hk => ?_⟩, ho, hs, hp⟩
  obtain ⟨j, hj, h1, h2, h3⟩ := hd k hk
  exact ⟨j, hj, h1, (pk_uLn (by omega)).trans h2, (pk_uLn (by omega)).trans h3⟩
theorem CR.s9 {cf rc : Nat → Nat → Int32} {am : Nat → Nat → Int64} {cal : Nat → Int64} (h : CR cf rc am 0 cal) (x : Int32) (hx : x = -1 ∨ ∃ s, s < 12 ∧ x = nI s) : CR (up2 cf 9 0 x) rc am 0 (vp_updL cal 6 x.toInt64) := by
  obtain ⟨⟨a0, a1, a2, a3, a4, a5, a6⟩, ⟨a, ha, hb, hc, hd⟩, ho, hs, hp⟩ := h
  refine ⟨⟨a0, a1, a2, a3, a4, a5, rfl⟩, ⟨a, ha, hb, hc, fun k hk => ?_⟩, ho, hx, hp⟩
  obtain ⟨j, hj, h1, h2, h3⟩ := hd k hk
  exact ⟨j, hj, h1, (pk_uLn (by omega)).trans h2, (pk_uLn (by omega)).trans h3⟩
theorem inv_dr (h : Inv n u cal evr) {f : Nat} {x : Int32} {c' : Nat → Int64} (hc : ∀ j, 17 ≤ j → c' j = cal j) (h0 : ∀ {rc am}, CR (x_cf u) rc am 0 cal → CR (up2 (x_cf u) f 0 x) rc am 0 c') : Inv (n + 1) (xs_cf u (up2 (x_cf u) f 0 x)) c' evr := by
  obtain ⟨k, e, t, hn, hA, hS, hD, hW, hE, hN⟩ := id h
  exact ⟨k, e, t, ⟨hn.1, by omega⟩, hA, hS, hD, hW.dr (fun f c hc => up2_ne (by omega)) (fun _ _ => rfl) (fun _ _ => rfl) hc (h0 hW.2.2.2.2.1), hE, hN⟩
theorem op_until (h : Inv n u cal evr) (a : Int32) : OpI (n + 1) (f_X6_until a u) (f_X7_until a (mk u cal evr rom bef)) := by
  unfold f_X6_until f_X7_until f_X7_told
  rw [hei_eq, in_eq, z64, Int32.toInt_toInt64, show (1000000 : Int64).toInt = 1000000 from by decide]
  simp only [Option.bind_some, mk_dra, mk_cal]
  by_cases h1 : (0 : Int) ≤ a.toInt ∧ a.toInt ≤ 1000000
  · simp only [if_pos h1, if_neg one0]
    by_cases h2 : x_the u = 0
    · simp only [if_pos h2]
      exact op_same h _
    · simp only [if_neg h2, ib4, tn4, ↓reduceIte]
      exact ⟨_, _, _, evr, rom, bef, rfl, rfl, inv_dr h (fun j hj => pk_uLn (by omega)) (fun hC => hC.s7 a)⟩
  · simp only [if_neg h1, ↓reduceIte]
    exact op_same h _
theorem op_from (h : Inv n u cal evr) (a : Int32) : OpI (n + 1) (f_X6_from a u) (f_X7_from a (mk u cal evr rom bef)) := by
  unfold f_X6_from f_X7_from f_X7_told
  rw [hei_eq, in_eq, z64, Int32.toInt_toInt64, show (1000000 : Int64).toInt = 1000000 from by decide]
  simp only [Option.bind_some, mk_dra, mk_cal]
  by_cases h1 : (0 : Int) ≤ a.toInt ∧ a.toInt ≤ 1000000
  · simp only [if_pos h1, if_neg one0]
    by_cases h2 : x_the u = 0
    · simp only [if_pos h2]
      exact op_same h _
    · simp only [if_neg h2, ib5, tn5, ↓reduceIte]
      exact ⟨_, _, _, evr, rom, bef, rfl, rfl, inv_dr h (fun j hj => pk_uLn (by omega)) (fun hC => hC.s8 a)⟩
  · simp only [if_neg h1, ↓reduceIte]
    exact op_same h _
theorem op_sponsor (h : Inv n u cal evr) (a : Int32) : OpI (n + 1) (f_X6_sponsor a u) (f_X7_sponsor a (mk u cal evr rom bef)) := by
  unfold f_X6_sponsor f_X7_sponsor f_X7_told
  obtain ⟨g, g1, g2, g3⟩ := acc_eq (rom := rom) (bef := bef) h a
  simp only [g1, g2, Option.bind_some, mk_dra, mk_cal, if_neg one0, ib6, tn6, ↓reduceIte]
  by_cases h0 : a = -1
  · simp only [if_pos h0]
    by_cases h2 : x_the u = 0
    · simp only [if_pos h2]
      exact op_same h _
    · simp only [if_neg h2]
      exact ⟨_, _, _, evr, rom, bef, rfl, rfl, inv_dr h (fun j hj => pk_uLn (by omega)) (fun hC => hC.s9 a (Or.inl h0))⟩
  · simp only [if_neg h0]
    by_cases hg : g = 0
    · simp only [if_pos hg]
      exact op_same h _
    · simp only [if_neg hg]
      by_cases h2 : x_the u = 0
      · simp only [if_pos h2]
        exact op_same h _
      · simp only [if_neg h2]
        exact ⟨_, _, _, evr, rom, bef, rfl, rfl, inv_dr h (fun j hj => pk_uLn (by omega)) (fun hC => hC.s9 a (Or.inr (g3 hg)))⟩
theorem ix2 (c a : Nat) (C : Int32) (hC : C = nI c) : C + ((2 : Int32) * nI a) = nI (c + 2 * a) := by
  subst hC
  rw [show (2 : Int32) = nI 2 from rfl, pk_mul, nI_add]
theorem op_act (h : Inv n u cal evr) (a : Int32) (b : Int64) : OpI (n + 1) (f_X6_act a b u) (f_X7_act a b (mk u cal evr rom bef)) := by
  obtain ⟨k, e, t, hn, hA, hS, hD, hW, hE, hN⟩ := id h
  obtain ⟨⟨a0, a1, a2, a3, a4, a5, a6⟩, ⟨m, ha, hb, hc, hd⟩, ho, hs, hp⟩ := hW.2.2.2.2.1
  unfold f_X6_act f_X7_act
  obtain ⟨g, g1, g2, g3⟩ := acc_eq (rom := rom) (bef := bef) h a
  rw [amt_eq, in_eq, z64, e12_toInt]
  simp only [g1, g2, Option.bind_some, mk_dra, mk_cal, ib8, tn8, hc, lN_i, hb, ↓reduceIte]
  by_cases hg : g = 0
  · simp only [if_pos hg]
    exact op_same h _
  simp only [if_neg hg]
  by_cases hv : (0 : Int) ≤ b.toInt ∧ b.toInt ≤ 1000000000000
  rotate_left
  · simp only [if_neg hv, ↓reduceIte]
    exact op_same h _
  simp only [if_pos hv, if_neg one0]
  by_cases h2 : x_the u = 0
  · simp only [if_pos h2]
    exact op_same h _
  simp only [if_neg h2]
  by_cases h4 : m = 4
  · subst h4
    rw [if_neg (show ¬ nI 4 < (4 : Int32) from by decide), if_pos (show nI 4 = (4 : Int32) from by decide)]
    exact op_same h _
  have hlt : m < 4 := by omega
  have hin : inb (nI m) 4 = true := inb_n hlt (by decide)
  have hcl : Int32.toNatClampNeg (nI m) = m := cl_n (by omega)
  obtain ⟨j, hj, ej⟩ := g3 hg
  rw [if_pos (show nI m < (4 : Int32) from nI_lt (b := 4) hlt (by decide)), if_neg (show ¬ nI m = (4 : Int32) from fun z => h4 ((nI_eq (b := 4) (by omega) (by decide)).mp z))]
  unfold f_X1_append
  rw [ix2 9 m 9 rfl, ix2 10 m 10 rfl]
  simp only [if_pos (show (0 : Nat) < 25 by decide), hb, hin, if_pos (inb_n (show 9 + 2 * m < 442 by omega) (by decide)), if_pos (inb_n (show 10 + 2 * m < 442 by omega) (by decide)), cl_n (show 9 + 2 * m < 2 ^ 31 by omega), cl_n (show 10 + 2 * m < 2 ^ 31 by omega), hcl, Option.bind_some, ↓reduceIte, up2_s]
  refine ⟨_, _, _, evr, rom, bef, rfl, rfl, k, e, t, ⟨hn.1, by omega⟩, hA, hS, hD, ?_, hE, hN⟩
  refine hW.dr (fun f c hc => up2_ne (by omega)) (fun c hc => va_up_ne _ _ (by omega)) (fun c hc => va_up_ne _ _ (by omega)) (fun i hi => ?_) ?_
  · rw [pk_uLn (by omega), pk_uLn (by omega), pk_uLn (by omega)]
  · have f1 : (nI m + 1).toInt64 = lN (m + 1) := by rw [nI_1]; exact nI_l (by omega)
    refine ⟨⟨?_, ?_, ?_, ?_, ?_, ?_, ?_⟩, ⟨m + 1, by omega, nI_1 m, ?_, fun i hi => ?_⟩, ho, hs, hp⟩
    · rw [pk_uLn (by omega), pk_uLn (by omega), pk_uLn (by omega)]; exact a0
    · rw [pk_uLn (by omega), pk_uLn (by omega), pk_uLn (by omega)]; exact a1
    · rw [pk_uLn (by omega), pk_uLn (by omega), pk_uLn (by omega)]; exact a2
    · rw [pk_uLn (by omega), pk_uLn (by omega), pk_uLn (by omega)]; exact a3
    · rw [pk_uLn (by omega), pk_uLn (by omega), pk_uLn (by omega)]; exact a4
    · rw [pk_uLn (by omega), pk_uLn (by omega), pk_uLn (by omega)]; exact a5
    · rw [pk_uLn (by omega), pk_uLn (by omega), pk_uLn (by omega)]; exact a6
    · rw [pk_uLs, f1]
    · by_cases he : i = m
      · subst he
        refine ⟨j, hj, ?_, ?_, ?_⟩
        · show (va_up (x_rc u) 0 (upd (x_rc u 0) i a) 0) i = _
          rw [va_up_self, pk_us, ej]
        · rw [pk_uLn (by omega), pk_uLn (by omega), pk_uLs, ej]
          exact nI_l (by omega)
        · rw [pk_uLn (by omega), pk_uLs]
          show _ = (va_up (x_am u) 0 (vp_updL (x_am u 0) i b) 0) i
          rw [va_up_self, pk_uLs]
      · obtain ⟨j', hj', h1, h2, h3⟩ := hd i (by omega)
        refine ⟨j', hj', ?_, ?_, ?_⟩
        · show (va_up (x_rc u) 0 (upd (x_rc u 0) m a) 0) i = _
          rw [va_up_self, pk_un he, h1]
        · rw [pk_uLn (by omega), pk_uLn (by omega), pk_uLn (by omega), h2]
        · rw [pk_uLn (by omega), pk_uLn (by omega), pk_uLn (by omega), h3]
          show _ = (va_up (x_am u) 0 (vp_updL (x_am u 0) m b) 0) i
          rw [va_up_self, pk_uLn he]
theorem op_add (h : Inv n u cal evr) (a : Int32) : OpI (n + 1) (f_X6_add a u) (f_X7_add a (mk u cal evr rom bef)) := by
  obtain ⟨k, e, t, hn, hA, ⟨q, hq, hc⟩, ⟨m, hm, hmc, hmd⟩, hW, hE, hN⟩ := id h
  unfold f_X6_add f_X7_add f_X4_has
  rw [xhas_eq (k := q) (by omega) (a := a) hc, in_eq, z64, Int32.toInt_toInt64, Int32.toInt_toInt64]
  simp only [Option.bind_some, mk_sgc, mk_dra, mk_mny, mk_min]
  by_cases hv : (0 : Int) ≤ a.toInt ∧ a.toInt ≤ (x_sgc u - 1).toInt
  rotate_left
  · simp only [if_neg hv, ↓reduceIte]
    exact op_same h _
  obtain ⟨j, hj, ej⟩ := (has_eq (k := q) (by omega) hc).mp hv
  simp only [if_pos hv, if_neg one0]
  by_cases h2 : x_the u = 0
  · simp only [if_pos h2]
    exact op_same h _
  simp only [if_neg h2, hmc]
  by_cases h4 : m = 12
  · subst h4
    rw [if_neg (show ¬ nI 12 < (12 : Int32) from by decide), if_pos (show nI 12 = (12 : Int32) from by decide)]
    exact op_same h _
  have hlt : m < 12 := by omega
  have hin : inb (nI m) 12 = true := inb_n hlt (by decide)
  have hcl : Int32.toNatClampNeg (nI m) = m := cl_n (by omega)
  rw [if_pos (show nI m < (12 : Int32) from nI_lt (b := 12) hlt (by decide)), if_neg (show ¬ nI m = (12 : Int32) from fun z => h4 ((nI_eq (b := 12) (by omega) (by decide)).mp z))]
  unfold f_X2_append
  simp only [hmc, hin, hcl, Option.bind_some, ↓reduceIte]
  refine ⟨_, _, cal, evr, rom, bef, rfl, rfl, k, e, t, ⟨hn.1, by omega⟩, hA, ⟨q, hq, hc⟩, ⟨m + 1, by omega, nI_1 m, fun i hi => ?_⟩, hW, hE, hN⟩
  show ∃ j, j < 200 ∧ upd (x_dsg u) m a i = nI j
  by_cases he : i = m
  · subst he
    rw [pk_us]
    exact ⟨j, by omega, ej⟩
  · rw [pk_un he]
    exact hmd i (by omega)
end OPS
