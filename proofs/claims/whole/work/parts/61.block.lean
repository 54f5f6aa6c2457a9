/-! ===== blocks ===== -/
def HX (u : XS) : XS := xs_hgt u (x_hgt u + (1 : Int32))
section BL
variable {n : Nat} {u : XS} {cal : Nat → Int64} {evr : Nat → Int32} {rom : Int32} {bef : Nat → Int64} {k p e T : Nat}
theorem HX_cnt (u : XS) : x_cnt (HX u) = x_cnt u := by dsimp only [HX, xs_hgt, x_hgt, x_cnt]
theorem HX_fun (u : XS) : x_fun (HX u) = x_fun u := by dsimp only [HX, xs_hgt, x_hgt, x_fun]
theorem HX_nxt (u : XS) : x_nxt (HX u) = x_nxt u := by dsimp only [HX, xs_hgt, x_hgt, x_nxt]
theorem HX_kys (u : XS) : x_kys (HX u) = x_kys u := by dsimp only [HX, xs_hgt, x_hgt, x_kys]
theorem HX_thr (u : XS) : x_thr (HX u) = x_thr u := by dsimp only [HX, xs_hgt, x_hgt, x_thr]
theorem HX_sgc (u : XS) : x_sgc (HX u) = x_sgc u := by dsimp only [HX, xs_hgt, x_hgt, x_sgc]
theorem HX_sky (u : XS) : x_sky (HX u) = x_sky u := by dsimp only [HX, xs_hgt, x_hgt, x_sky]
theorem HX_sdg (u : XS) : x_sdg (HX u) = x_sdg u := by dsimp only [HX, xs_hgt, x_hgt, x_sdg]
theorem HX_row (u : XS) : x_row (HX u) = x_row u := by dsimp only [HX, xs_hgt, x_hgt, x_row]
theorem HX_the (u : XS) : x_the (HX u) = x_the u := by dsimp only [HX, xs_hgt, x_hgt, x_the]
theorem HX_dsg (u : XS) : x_dsg (HX u) = x_dsg u := by dsimp only [HX, xs_hgt, x_hgt, x_dsg]
theorem HX_add (u : XS) : x_add (HX u) = x_add u := by dsimp only [HX, xs_hgt, x_hgt, x_add]
theorem HX_rwc (u : XS) : x_rwc (HX u) = x_rwc u := by dsimp only [HX, xs_hgt, x_hgt, x_rwc]
theorem HX_tik (u : XS) : x_tik (HX u) = x_tik u := by dsimp only [HX, xs_hgt, x_hgt, x_tik]
theorem HX_stp (u : XS) : x_stp (HX u) = x_stp u := by dsimp only [HX, xs_hgt, x_hgt, x_stp]
theorem HX_pai (u : XS) : x_pai (HX u) = x_pai u := by dsimp only [HX, xs_hgt, x_hgt, x_pai]
theorem HX_ina (u : XS) : x_ina (HX u) = x_ina u := by dsimp only [HX, xs_hgt, x_hgt, x_ina]
theorem HX_kep (u : XS) : x_kep (HX u) = x_kep u := by dsimp only [HX, xs_hgt, x_hgt, x_kep]
theorem HX_nws (u : XS) : x_nws (HX u) = x_nws u := by dsimp only [HX, xs_hgt, x_hgt, x_nws]
theorem HX_etk (u : XS) : x_etk (HX u) = x_etk u := by dsimp only [HX, xs_hgt, x_hgt, x_etk]
theorem HX_ewh (u : XS) : x_ewh (HX u) = x_ewh u := by dsimp only [HX, xs_hgt, x_hgt, x_ewh]
theorem HX_eun (u : XS) : x_eun (HX u) = x_eun u := by dsimp only [HX, xs_hgt, x_hgt, x_eun]
theorem HX_cf (u : XS) : x_cf (HX u) = x_cf u := by dsimp only [HX, xs_hgt, x_hgt, x_cf]
theorem HX_rc (u : XS) : x_rc (HX u) = x_rc u := by dsimp only [HX, xs_hgt, x_hgt, x_rc]
theorem HX_am (u : XS) : x_am (HX u) = x_am u := by dsimp only [HX, xs_hgt, x_hgt, x_am]
theorem mk_HX : ms_hgt (mk u cal evr rom bef) (x_hgt u + (1 : Int32)) = mk (HX u) cal evr rom bef := by dsimp only [HX, mk, ms_hgt, xs_hgt, x_cnt, x_fun, x_nxt, x_kys, x_thr, x_sgc, x_sky, x_sdg, x_row, x_the, x_dsg, x_add, x_rwc, x_tik, x_stp, x_hgt, x_pai, x_ina, x_kep, x_nws, x_etk, x_ewh, x_eun, x_cf, x_rc, x_am]
theorem HX_P (h : PP k e T u cal evr) : PP k e T (HX u) cal evr := by
  have e1 := HX_cnt u
  have e2 := HX_kys u
  have e3 := HX_sgc u
  have e4 := HX_dsg u
  have e5 := HX_add u
  have e6 := HX_rwc u
  have e7 := HX_row u
  have e8 := HX_cf u
  have e9 := HX_rc u
  have e10 := HX_am u
  have e11 := HX_ina u
  have e12 := HX_kep u
  have e13 := HX_nws u
  have e14 := HX_etk u
  have e15 := HX_ewh u
  have e16 := HX_eun u
  have e17 := HX_tik u
  have e18 := HX_stp u
  generalize HX u = S at *
  unfold PP
  rw [e1, e2, e3, e4, e5, e6, e7, e11, e12, e13, e14, e15, e16, e17, e18]
  generalize x_cf S = A at *
  generalize x_rc S = B at *
  generalize x_am S = C at *
  subst e8 e9 e10
  exact h
theorem does_row (h : PP k e T u cal evr) (hp : p < k) : ∃ (why d U : Int32) (s2 s3 : XS) (cal' : Nat → Int64) (evr' : Nat → Int32) (bef' : Nat → Int64), x_row u p < 25 ∧ f_X5_take (nI p) u = some (x_row u p, TX p k u) ∧ f_X6_perform (x_row u p) (TX p k u) = some (why, s2) ∧ f_X3_note (x_cf s2 10 (x_row u p)) why (x_cf s2 11 (x_row u p)) s2 = some s3 ∧ x_cf s3 11 (x_row u p) = U ∧ f_X7_does (nI (p + 1)) (mk u cal evr rom bef) = some (d, mk s3 cal' evr' (rom - U) bef') ∧ ((why = 0 ∧ d = 1) ∨ (¬ why = 0 ∧ d = 0)) ∧ PP (k - 1) (e + 1) T s3 cal' evr' := by
  obtain ⟨hT, hA, hS, hD, hW, hE, hN⟩ := id h
  have hk := hW.1
  have hc := (hW.2.2.1 p (by omega)).2
  obtain ⟨b0, b1, b2, b3, b4, b5, b6, b7⟩ := row0 hW hp
  obtain ⟨⟨-, ⟨a, ha, ea, fa, hd⟩, ⟨o, ho, eo⟩, hsp, -⟩, -⟩ := hW.2.2.2.2.2.1 p hp
  obtain ⟨why, d, U, s2, s3, cal', evr', bef', r1, r2, r3, r4, r5, r6, r7, r8⟩ := does_core (rom := rom) (bef := bef) h hp hk rfl rfl rfl rfl rfl rfl hc ha ea eo ho hsp b0 b2 b3 b6 b7 fa hd
  exact ⟨why, d, U, s2, s3, cal', evr', bef', hc, take_X hW hp, r1, by rw [r2, r3]; exact r5, r4, r6, r7, r8⟩
theorem add0 (x : Int32) : x + (0 : Int32) = x := by simp
theorem blk_eq (l1 : Int32) : ∀ (m n N turn e : Nat) (done rom L : Int32) (u : XS) (cal : Nat → Int64) (evr : Nat → Int32) (bef : Nat → Int64), L = nI turn → turn + m ≤ 24 → 24 < turn + n → m < N → PP m e T u cal evr → ∃ (r : Int32) (u' : XS) (cal' : Nat → Int64) (evr' : Nat → Int32) (rom' : Int32) (bef' : Nat → Int64) (k' e' : Nat), f_X6_block_34 n l1 rom done L u = some (r, u') ∧ ((f_X7_dearest (mk u cal evr rom bef)).bind fun w => f_X7_block_40 N l1 done w (mk u cal evr rom bef)) = some (r, mk u' cal' evr' rom' bef') ∧ PP k' e' T u' cal' evr' := by
  intro m
  induction m with
  | zero =>
    intro n N turn e done rom L u cal evr bef eL h1 h2 h3 h
    subst eL
    obtain ⟨n, rfl⟩ : ∃ n', n = n' + 1 := ⟨n - 1, by omega⟩
    obtain ⟨N, rfl⟩ : ∃ n', N = n' + 1 := ⟨N - 1, by omega⟩
    obtain ⟨-, -, -, -, hW, -, -⟩ := id h
    obtain ⟨ro, hb, d1, d2⟩ := dst_eq (evr := evr) (rom := rom) (bef := bef) hW
    have hro : ro = none := by
      cases ro with
      | none => rfl
      | some b => exact absurd (hb b rfl) (by omega)
    subst hro
    refine ⟨done, u, cal, evr, rom, bef, 0, e, ?_, ?_, h⟩
    · rw [f_X6_block_34, d1]
      by_cases h24 : (24 : Int32) ≤ nI turn
      · rw [if_pos h24]
      · rw [if_neg h24]
        simp only [Option.bind_some, xv, ↓reduceIte]
    · rw [d2]
      simp only [Option.bind_some, mv]
      rw [f_X7_block_40, if_pos (show (0 : Int32) ≤ 0 by decide)]
  | succ m ih =>
    intro n N turn e done rom L u cal evr bef eL h1 h2 h3 h
    subst eL
    obtain ⟨n, rfl⟩ : ∃ n', n = n' + 1 := ⟨n - 1, by omega⟩
    obtain ⟨N, rfl⟩ : ∃ n', N = n' + 1 := ⟨N - 1, by omega⟩
    obtain ⟨-, -, -, -, hW, -, -⟩ := id h
    obtain ⟨ro, hb, d1, d2⟩ := dst_eq (evr := evr) (rom := rom) (bef := bef) hW
    rw [f_X6_block_34, if_neg (show ¬ (24 : Int32) ≤ nI turn from nI_ge (b := 24) (by omega) (by decide)), d1, d2]
    cases ro with
    | none =>
      refine ⟨done, u, cal, evr, rom, bef, m + 1, e, ?_, ?_, h⟩
      · simp only [Option.bind_some, xv, ↓reduceIte]
      · simp only [Option.bind_some, mv]
        rw [f_X7_block_40, if_pos (show (0 : Int32) ≤ 0 by decide)]
    | some b =>
      have hbk := hb b rfl
      obtain ⟨why, d, U, s2, s3, cal', evr', bef', hc, r1, r2, r3, r4, r5, r6, r7⟩ := does_row (rom := rom) (bef := bef) h hbk
      have n1 : ¬ nI b = (-1 : Int32) := fun q => by
        have q2 : (nI b).toInt = (-1 : Int32).toInt := congrArg Int32.toInt q
        rw [nI_toInt (by have := hW.1; omega), show (-1 : Int32).toInt = -1 from by decide] at q2
        omega
      have hM : f_X7_block_40 (N + 1) l1 done (nI (b + 1)) (mk u cal evr rom bef) = ((f_X7_does (nI (b + 1)) (mk u cal evr rom bef)).bind fun q_6 => (if q_6.1 = (0 : Int32) then ((f_X7_dearest q_6.2).bind fun q_8 => (f_X7_block_40 N l1 (done + (0 : Int32)) q_8 q_6.2)) else ((f_X7_dearest q_6.2).bind fun q_9 => (f_X7_block_40 N l1 (done + (1 : Int32)) q_9 q_6.2)))) := by
        rw [f_X7_block_40, if_neg (nI_nle (by omega) (by have := hW.1; omega))]
      simp only [Option.bind_some, xv, mv]
      rw [if_neg n1, hM, r5, r1]
      simp only [Option.bind_some]
      rw [if_pos hc, r2]
      simp only [Option.bind_some]
      rw [r3]
      simp only [Option.bind_some]
      rw [r4]
      rcases r6 with ⟨rfl, rfl⟩ | ⟨hw, rfl⟩
      · rw [if_pos rfl, if_neg one0]
        exact ih n N (turn + 1) (e + 1) (done + 1) (rom - U) _ s3 cal' evr' bef' (nI_1 turn) (by omega) (by omega) (by omega) r7
      · rw [if_neg hw, if_pos rfl, add0]
        exact ih n N (turn + 1) (e + 1) done (rom - U) _ s3 cal' evr' bef' (nI_1 turn) (by omega) (by omega) (by omega) r7
theorem op_block (h : Inv n u cal evr) (hn5 : n ≤ 512) (a : Int32) : OpI (n + 1) (f_X6_block a u) (f_X7_block a (mk u cal evr rom bef)) := by
  obtain ⟨k, e, t, hn, hA, hS, hD, hW, hE, hN⟩ := id h
  have hk := hW.1
  unfold f_X6_block f_X7_block
  rw [in_eq, z64, Int32.toInt_toInt64, show (10000 : Int64).toInt = 10000 from by decide]
  have e0 : (0 : Int32).toInt = 0 := by decide
  have e1 : (10000 : Int32).toInt = 10000 := by decide
  simp only [Int32.lt_iff_toInt_lt (x := a), Int32.le_iff_toInt_le (x := a), e0, e1, Option.bind_some]
  by_cases h0 : a.toInt < 0
  · simp only [if_pos h0, if_neg (show ¬ ((0 : Int) ≤ a.toInt ∧ a.toInt ≤ 10000) by omega), ↓reduceIte]
    exact op_same h _
  by_cases h1 : a.toInt ≤ 10000
  rotate_left
  · simp only [if_neg h0, if_neg h1, if_neg (show ¬ ((0 : Int) ≤ a.toInt ∧ a.toInt ≤ 10000) by omega), ↓reduceIte]
    exact op_same h _
  rw [if_neg h0, if_pos h1, if_pos (show ((0 : Int) ≤ a.toInt ∧ a.toInt ≤ 10000) by omega), if_neg one0]
  have hP : PP k e t (HX u) cal evr := HX_P ⟨⟨hn.1, by omega⟩, hA, hS, hD, hW, hE, hN⟩
  have hX : f_X6_endThoseOver (xs_hgt u ((x_hgt u) + (1 : Int32))) = f_X6_endThoseOver_10 1000 0 (nI k) (HX u) := by
    have hr : x_rwc (HX u) = nI k := (HX_rwc u).trans hW.2.1
    show f_X6_endThoseOver (HX u) = _
    unfold f_X6_endThoseOver
    rw [hr]
  have hM : f_X7_ends (ms_hgt (mk u cal evr rom bef) ((m_hgt (mk u cal evr rom bef)) + (1 : Int32))) = f_X7_ends_2 1000 1 (mk (HX u) cal evr rom bef) := by
    have := mk_HX (u := u) (cal := cal) (evr := evr) (rom := rom) (bef := bef)
    show f_X7_ends_2 1000 1 (ms_hgt (mk u cal evr rom bef) (x_hgt u + (1 : Int32))) = _
    rw [this]
  obtain ⟨u1, cal1, evr1, k1, e1', x1, m1, p1⟩ := ends_eq (T := t) (rom := rom) (bef := bef) k 1000 1000 0 k e (HX u) cal evr 0 (nI k) 1 rfl rfl rfl (by omega) (by omega) (by omega) hP
  rw [hX, hM, x1, m1]
  simp only [Option.bind_some]
  rw [mk_sr]
  have hk1 : k1 ≤ 24 := p1.2.2.2.2.1.1
  obtain ⟨r, u2, cal2, evr2, rom2, bef2, k2, e2, x2, m2, p2⟩ := blk_eq (T := t) a k1 1000 1000 0 e1' 0 a 0 u1 cal1 evr1 bef rfl (by omega) (by omega) (by omega) p1
  refine ⟨r, u2, cal2, evr2, rom2, bef2, x2, m2, k2, e2, t, ⟨p2.1.1, by omega⟩, p2.2⟩
end BL
