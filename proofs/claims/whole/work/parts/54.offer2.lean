/-! ===== offers, whole ===== -/
section OG
variable {n : Nat} {u : XS} {cal : Nat → Int64} {evr : Nat → Int32} {rom : Int32} {bef : Nat → Int64} {k p e t : Nat}
theorem AY_cnt {cf rc : Nat → Nat → Int32} {am : Nat → Nat → Int64} {a b : Int32} : x_cnt (xs_tik (xs_rwc (UX u cf rc am) a) b) = x_cnt u := by dsimp only [UX, xs_tik, xs_rwc, xs_am, xs_rc, xs_cf, x_cnt]
theorem EX_cnt (p k : Nat) (w : Int32) (e : Nat) (u : XS) : x_cnt (EX p k w e u) = x_cnt u := by rw [EX, NX_cnt, TX_cnt]
theorem AY_fun {cf rc : Nat → Nat → Int32} {am : Nat → Nat → Int64} {a b : Int32} : x_fun (xs_tik (xs_rwc (UX u cf rc am) a) b) = x_fun u := by dsimp only [UX, xs_tik, xs_rwc, xs_am, xs_rc, xs_cf, x_fun]
theorem EX_fun (p k : Nat) (w : Int32) (e : Nat) (u : XS) : x_fun (EX p k w e u) = x_fun u := by rw [EX, NX_fun, TX_fun]
theorem AY_nxt {cf rc : Nat → Nat → Int32} {am : Nat → Nat → Int64} {a b : Int32} : x_nxt (xs_tik (xs_rwc (UX u cf rc am) a) b) = x_nxt u := by dsimp only [UX, xs_tik, xs_rwc, xs_am, xs_rc, xs_cf, x_nxt]
theorem EX_nxt (p k : Nat) (w : Int32) (e : Nat) (u : XS) : x_nxt (EX p k w e u) = x_nxt u := by rw [EX, NX_nxt, TX_nxt]
theorem AY_kys {cf rc : Nat → Nat → Int32} {am : Nat → Nat → Int64} {a b : Int32} : x_kys (xs_tik (xs_rwc (UX u cf rc am) a) b) = x_kys u := by dsimp only [UX, xs_tik, xs_rwc, xs_am, xs_rc, xs_cf, x_kys]
theorem EX_kys (p k : Nat) (w : Int32) (e : Nat) (u : XS) : x_kys (EX p k w e u) = x_kys u := by rw [EX, NX_kys, TX_kys]
theorem AY_thr {cf rc : Nat → Nat → Int32} {am : Nat → Nat → Int64} {a b : Int32} : x_thr (xs_tik (xs_rwc (UX u cf rc am) a) b) = x_thr u := by dsimp only [UX, xs_tik, xs_rwc, xs_am, xs_rc, xs_cf, x_thr]
theorem EX_thr (p k : Nat) (w : Int32) (e : Nat) (u : XS) : x_thr (EX p k w e u) = x_thr u := by rw [EX, NX_thr, TX_thr]
theorem AY_sgc {cf rc : Nat → Nat → Int32} {am : Nat → Nat → Int64} {a b : Int32} : x_sgc (xs_tik (xs_rwc (UX u cf rc am) a) b) = x_sgc u := by dsimp only [UX, xs_tik, xs_rwc, xs_am, xs_rc, xs_cf, x_sgc]
theorem EX_sgc (p k : Nat) (w : Int32) (e : Nat) (u : XS) : x_sgc (EX p k w e u) = x_sgc u := by rw [EX, NX_sgc, TX_sgc]
theorem AY_sky {cf rc : Nat → Nat → Int32} {am : Nat → Nat → Int64} {a b : Int32} : x_sky (xs_tik (xs_rwc (UX u cf rc am) a) b) = x_sky u := by dsimp only [UX, xs_tik, xs_rwc, xs_am, xs_rc, xs_cf, x_sky]
theorem EX_sky (p k : Nat) (w : Int32) (e : Nat) (u : XS) : x_sky (EX p k w e u) = x_sky u := by rw [EX, NX_sky, TX_sky]
theorem AY_sdg {cf rc : Nat → Nat → Int32} {am : Nat → Nat → Int64} {a b : Int32} : x_sdg (xs_tik (xs_rwc (UX u cf rc am) a) b) = x_sdg u := by dsimp only [UX, xs_tik, xs_rwc, xs_am, xs_rc, xs_cf, x_sdg]
theorem EX_sdg (p k : Nat) (w : Int32) (e : Nat) (u : XS) : x_sdg (EX p k w e u) = x_sdg u := by rw [EX, NX_sdg, TX_sdg]
theorem AY_row {cf rc : Nat → Nat → Int32} {am : Nat → Nat → Int64} {a b : Int32} : x_row (xs_tik (xs_rwc (UX u cf rc am) a) b) = x_row u := by dsimp only [UX, xs_tik, xs_rwc, xs_am, xs_rc, xs_cf, x_row]
theorem AY_the {cf rc : Nat → Nat → Int32} {am : Nat → Nat → Int64} {a b : Int32} : x_the (xs_tik (xs_rwc (UX u cf rc am) a) b) = x_the u := by dsimp only [UX, xs_tik, xs_rwc, xs_am, xs_rc, xs_cf, x_the]
theorem EX_the (p k : Nat) (w : Int32) (e : Nat) (u : XS) : x_the (EX p k w e u) = x_the u := by rw [EX, NX_the, TX_the]
theorem AY_dsg {cf rc : Nat → Nat → Int32} {am : Nat → Nat → Int64} {a b : Int32} : x_dsg (xs_tik (xs_rwc (UX u cf rc am) a) b) = x_dsg u := by dsimp only [UX, xs_tik, xs_rwc, xs_am, xs_rc, xs_cf, x_dsg]
theorem EX_dsg (p k : Nat) (w : Int32) (e : Nat) (u : XS) : x_dsg (EX p k w e u) = x_dsg u := by rw [EX, NX_dsg, TX_dsg]
theorem AY_add {cf rc : Nat → Nat → Int32} {am : Nat → Nat → Int64} {a b : Int32} : x_add (xs_tik (xs_rwc (UX u cf rc am) a) b) = x_add u := by dsimp only [UX, xs_tik, xs_rwc, xs_am, xs_rc, xs_cf, x_add]
theorem EX_add (p k : Nat) (w : Int32) (e : Nat) (u : XS) : x_add (EX p k w e u) = x_add u := by rw [EX, NX_add, TX_add]
theorem AY_rwc {cf rc : Nat → Nat → Int32} {am : Nat → Nat → Int64} {a b : Int32} : x_rwc (xs_tik (xs_rwc (UX u cf rc am) a) b) = a := by dsimp only [UX, xs_tik, xs_rwc, xs_am, xs_rc, xs_cf, x_rwc]
theorem AY_tik {cf rc : Nat → Nat → Int32} {am : Nat → Nat → Int64} {a b : Int32} : x_tik (xs_tik (xs_rwc (UX u cf rc am) a) b) = b := by dsimp only [UX, xs_tik, xs_rwc, xs_am, xs_rc, xs_cf, x_tik]
theorem EX_tik (p k : Nat) (w : Int32) (e : Nat) (u : XS) : x_tik (EX p k w e u) = x_tik u := by rw [EX, NX_tik, TX_tik]
theorem AY_stp {cf rc : Nat → Nat → Int32} {am : Nat → Nat → Int64} {a b : Int32} : x_stp (xs_tik (xs_rwc (UX u cf rc am) a) b) = x_stp u := by dsimp only [UX, xs_tik, xs_rwc, xs_am, xs_rc, xs_cf, x_stp]
theorem EX_stp (p k : Nat) (w : Int32) (e : Nat) (u : XS) : x_stp (EX p k w e u) = x_stp u := by rw [EX, NX_stp, TX_stp]
theorem AY_hgt {cf rc : Nat → Nat → Int32} {am : Nat → Nat → Int64} {a b : Int32} : x_hgt (xs_tik (xs_rwc (UX u cf rc am) a) b) = x_hgt u := by dsimp only [UX, xs_tik, xs_rwc, xs_am, xs_rc, xs_cf, x_hgt]
theorem EX_hgt (p k : Nat) (w : Int32) (e : Nat) (u : XS) : x_hgt (EX p k w e u) = x_hgt u := by rw [EX, NX_hgt, TX_hgt]
theorem AY_pai {cf rc : Nat → Nat → Int32} {am : Nat → Nat → Int64} {a b : Int32} : x_pai (xs_tik (xs_rwc (UX u cf rc am) a) b) = x_pai u := by dsimp only [UX, xs_tik, xs_rwc, xs_am, xs_rc, xs_cf, x_pai]
theorem EX_pai (p k : Nat) (w : Int32) (e : Nat) (u : XS) : x_pai (EX p k w e u) = x_pai u := by rw [EX, NX_pai, TX_pai]
theorem AY_ina {cf rc : Nat → Nat → Int32} {am : Nat → Nat → Int64} {a b : Int32} : x_ina (xs_tik (xs_rwc (UX u cf rc am) a) b) = x_ina u := by dsimp only [UX, xs_tik, xs_rwc, xs_am, xs_rc, xs_cf, x_ina]
theorem AY_kep {cf rc : Nat → Nat → Int32} {am : Nat → Nat → Int64} {a b : Int32} : x_kep (xs_tik (xs_rwc (UX u cf rc am) a) b) = x_kep u := by dsimp only [UX, xs_tik, xs_rwc, xs_am, xs_rc, xs_cf, x_kep]
theorem AY_nws {cf rc : Nat → Nat → Int32} {am : Nat → Nat → Int64} {a b : Int32} : x_nws (xs_tik (xs_rwc (UX u cf rc am) a) b) = x_nws u := by dsimp only [UX, xs_tik, xs_rwc, xs_am, xs_rc, xs_cf, x_nws]
theorem AY_etk {cf rc : Nat → Nat → Int32} {am : Nat → Nat → Int64} {a b : Int32} : x_etk (xs_tik (xs_rwc (UX u cf rc am) a) b) = x_etk u := by dsimp only [UX, xs_tik, xs_rwc, xs_am, xs_rc, xs_cf, x_etk]
theorem AY_ewh {cf rc : Nat → Nat → Int32} {am : Nat → Nat → Int64} {a b : Int32} : x_ewh (xs_tik (xs_rwc (UX u cf rc am) a) b) = x_ewh u := by dsimp only [UX, xs_tik, xs_rwc, xs_am, xs_rc, xs_cf, x_ewh]
theorem AY_eun {cf rc : Nat → Nat → Int32} {am : Nat → Nat → Int64} {a b : Int32} : x_eun (xs_tik (xs_rwc (UX u cf rc am) a) b) = x_eun u := by dsimp only [UX, xs_tik, xs_rwc, xs_am, xs_rc, xs_cf, x_eun]
theorem AY_cf {cf rc : Nat → Nat → Int32} {am : Nat → Nat → Int64} {a b : Int32} : x_cf (xs_tik (xs_rwc (UX u cf rc am) a) b) = cf := by dsimp only [UX, xs_tik, xs_rwc, xs_am, xs_rc, xs_cf, x_cf]
theorem EX_cf (p k : Nat) (w : Int32) (e : Nat) (u : XS) : x_cf (EX p k w e u) = x_cf u := by rw [EX, NX_cf, TX_cf]
theorem AY_rc {cf rc : Nat → Nat → Int32} {am : Nat → Nat → Int64} {a b : Int32} : x_rc (xs_tik (xs_rwc (UX u cf rc am) a) b) = rc := by dsimp only [UX, xs_tik, xs_rwc, xs_am, xs_rc, xs_cf, x_rc]
theorem EX_rc (p k : Nat) (w : Int32) (e : Nat) (u : XS) : x_rc (EX p k w e u) = x_rc u := by rw [EX, NX_rc, TX_rc]
theorem AY_am {cf rc : Nat → Nat → Int32} {am : Nat → Nat → Int64} {a b : Int32} : x_am (xs_tik (xs_rwc (UX u cf rc am) a) b) = am := by dsimp only [UX, xs_tik, xs_rwc, xs_am, xs_rc, xs_cf, x_am]
theorem EX_am (p k : Nat) (w : Int32) (e : Nat) (u : XS) : x_am (EX p k w e u) = x_am u := by rw [EX, NX_am, TX_am]
theorem EX_row (p k : Nat) (w : Int32) (e : Nat) (u : XS) : x_row (EX p k w e u) = rsT (x_row u) p k := by rw [EX, NX_row, TX_row]
theorem EX_rwc (p k : Nat) (w : Int32) (e : Nat) (u : XS) : x_rwc (EX p k w e u) = nI (k - 1) := by rw [EX, NX_rwc, TX_rwc]
theorem off_fin (hte : e + k = t) (htn : t ≤ n) (hk : k < 24) (hA : IA (x_cnt u) (x_kys u)) (hS : IS (x_sgc u)) (hD : ID (x_dsg u) (x_add u)) (hW : QW k (x_rwc u) (x_row u) (x_cf u) (x_rc u) (x_am u) cal) (hno : ∀ i, i < k → ¬ mch u (x_cf u 3 0) (x_cf u 4 0) i) (hE : QE e (x_ina u) (x_kep u) (x_nws u) (x_etk u) (x_ewh u) (x_eun u) evr) (hN : IN t (x_tik u) (x_stp u)) (l1 l2 : Int32) : ∃ w' cal', f_X5_append 0 u = some (nI t, w') ∧ f_X7_offer_100 1000 l1 l2 0 (ms_wts (mk u cal evr rom bef) (nI (k + 1))) = some (nI t, mk w' cal' evr rom bef) ∧ Inv (n + 1) w' cal' evr := by
  obtain ⟨cf, rc, am, a1, a2, a3⟩ := app_eq (evr := evr) (rom := rom) (bef := bef) hW hk hno hN.1 l1 l2
  refine ⟨_, _, a1, a2, k + 1, e, t + 1, ⟨by omega, by omega⟩, ?_, ?_, ?_, ?_, ?_, ?_⟩
  · rw [AY_cnt, AY_kys]; exact hA
  · rw [AY_sgc]; exact hS
  · rw [AY_dsg, AY_add]; exact hD
  · rw [AY_rwc, AY_row, AY_cf, AY_rc, AY_am]; exact a3
  · rw [AY_ina, AY_kep, AY_nws, AY_etk, AY_ewh, AY_eun]; exact hE
  · rw [AY_tik, AY_stp]; exact ⟨rfl, hN.2⟩
theorem off_end (hn : n ≤ 512) (hte : e + k = t) (htn : t ≤ n) (hA : IA (x_cnt u) (x_kys u)) (hS : IS (x_sgc u)) (hD : ID (x_dsg u) (x_add u)) (hW : QW k (x_rwc u) (x_row u) (x_cf u) (x_rc u) (x_am u) cal) (hp : p < k) (hno : ∀ i, i < k → i ≠ p → ¬ mch u (x_cf u 3 0) (x_cf u 4 0) i) (hE : QE e (x_ina u) (x_kep u) (x_nws u) (x_etk u) (x_ewh u) (x_eun u) evr) (hN : IN t (x_tik u) (x_stp u)) (w l1 l2 : Int32) : OpI (n + 1) ((f_X6_end (nI p) w u).bind fun q_12 => ((f_X5_append 0 q_12).bind fun q_13 => some (q_13.1, q_13.2))) ((f_X7_comes (x_cf u 10 (x_row u p)) w 0 (mk u cal evr rom bef)).bind fun q_12 => ((f_X7_takeOut (nI (p + 1)) q_12).bind fun q_13 => (f_X7_offer_100 1000 l1 l2 (0 : Int32) (ms_wts q_13 ((m_wts q_13) + (1 : Int32)))))) := by
  have he : e < 2 ^ 30 := by omega
  obtain ⟨m1, m2⟩ := end_M (rom := rom) (bef := bef) he hW hE hp w
  rw [end_X he hW hE hp w, m1]
  simp only [Option.bind_some]
  rw [m2]
  simp only [Option.bind_some]
  have hk := hW.1
  have hno2 : ∀ i, i < k - 1 → ¬ mch (EX p k w e u) (x_cf (EX p k w e u) 3 0) (x_cf (EX p k w e u) 4 0) i := by
    intro i hi
    unfold mch
    rw [EX_cf, EX_row, rsT_sg]
    obtain ⟨s1, s2⟩ := sgT_k hp hi
    exact hno _ s1 (by omega)
  obtain ⟨w', cal', a1, a2, a3⟩ := off_fin (n := n) (u := EX p k w e u) (cal := CT cal p k) (evr := NE (x_cf u 10 (x_row u p)) w 0 e evr) (rom := rom) (bef := bef) (k := k - 1) (e := e + 1) (t := t) (by omega) htn (by omega) (by rw [EX_cnt, EX_kys]; exact hA) (by rw [EX_sgc]; exact hS) (by rw [EX_dsg, EX_add]; exact hD) (end_W hW hp w) hno2 (end_E hE w) (by rw [EX_tik, EX_stp]; exact hN) l1 l2
  rw [a1, mk_wts, EX_rwc, nI_1, a2]
  exact ⟨_, _, _, _, _, _, rfl, rfl, a3⟩
theorem op_offer (h : Inv n u cal evr) (hn5 : n ≤ 512) : OpI (n + 1) (f_X6_offer u) (f_X7_offer (mk u cal evr rom bef)) := by
  obtain ⟨k, e, t, hn, hA, hS, hD, hW, hE, hN⟩ := id h
  have hk := hW.1
  unfold f_X6_offer f_X7_offer
  rw [mk_dra]
  by_cases ht : x_the u = 0
  · rw [if_pos ht, if_pos ht]
    exact op_same h _
  rw [if_neg ht, if_neg ht]
  have hcases : ∃ idx same : Int32, f_X5_indexOf (x_cf u 3 0) (x_cf u 4 0) u = some idx ∧ f_X7_sameCall (mk u cal evr rom bef) = some same ∧ ((idx = -1 ∧ same = 0 ∧ ∀ j, j < k → ¬ mch u (x_cf u 3 0) (x_cf u 4 0) j) ∨ ∃ p, p < k ∧ mch u (x_cf u 3 0) (x_cf u 4 0) p ∧ idx = nI p ∧ same = nI (p + 1)) := by
    rcases same_eq (evr := evr) (rom := rom) (bef := bef) hW with ⟨q1, q2, q3⟩ | ⟨p, hp, hm, q1, q2⟩
    · exact ⟨_, _, q1, q2, Or.inl ⟨rfl, rfl, q3⟩⟩
    · exact ⟨_, _, q1, q2, Or.inr ⟨p, hp, hm, rfl, rfl⟩⟩
  obtain ⟨idx, same, i1, i2, hc⟩ := hcases
  obtain ⟨j, hj, r1, r2⟩ := ref_eq (rom := rom) (bef := bef) h hW ht (idx := idx) (same := same) (by
    rcases hc with ⟨a, b, -⟩ | ⟨p, hp, -, a, b⟩
    · exact Or.inl ⟨a, b⟩
    · exact Or.inr ⟨p, hp, a, b⟩)
  rw [i1, i2]
  simp only [Option.bind_some]
  rw [r1, r2]
  simp only [Option.bind_some]
  by_cases hj0 : j = 0
  rotate_left
  · rw [if_neg (nI_ne0 (by omega) (by omega)), if_neg (nI_nle (by omega) (by omega))]
    exact op_same h _
  subst hj0
  rw [if_pos (show nI 0 = (0 : Int32) from rfl), if_pos (show nI 0 ≤ (0 : Int32) by decide)]
  rcases hc with ⟨rfl, rfl, hno⟩ | ⟨p, hp, hm, rfl, rfl⟩
  · rw [if_pos rfl, if_neg (show ¬ (0 : Int32) < 0 by decide), mk_wts, hW.2.1]
    unfold f_X5_isFull
    rw [hW.2.1]
    by_cases h24 : k = 24
    · subst h24
      obtain ⟨r, hr, x1, x2⟩ := chp_eq (evr := evr) (rom := rom) (bef := bef) hW (by decide)
      obtain ⟨-, -, -, -, -, -, -, a7⟩ := row0 hW hr
      rw [if_neg (show ¬ nI 24 < (24 : Int32) by decide), if_pos (show nI 24 = (24 : Int32) by decide), if_pos (show (0 : Int32) ≤ 0 by decide), x1, x2]
      simp only [Option.bind_some, if_neg one0]
      rw [ixw (r + 1) 7 7 rfl, if_pos (inw (by omega) (by decide)), cl_n (show 17 * (r + 1) + 7 < 2 ^ 31 by omega), mk_cal, a7, i64_32]
      exact off_end hn5 hn.1 hn.2 hA hS hD hW hr (fun i hi _ => hno i hi) hE hN _ _ _
    · rw [if_pos (show nI k < (24 : Int32) from nI_lt (b := 24) (by omega) (by decide)), if_neg (show ¬ nI k = (24 : Int32) from fun z => h24 ((nI_eq (b := 24) (by omega) (by decide)).mp z))]
      simp only [Option.bind_some, ↓reduceIte, nI_1]
      obtain ⟨w', cal', a1, a2, a3⟩ := off_fin (rom := rom) (bef := bef) hn.1 hn.2 (by omega) hA hS hD hW hno hE hN 0 (nI 0)
      rw [a1, a2]
      exact ⟨_, _, _, _, _, _, rfl, rfl, a3⟩
  · obtain ⟨-, -, -, -, -, -, -, a7⟩ := row0 hW hp
    have n1 : ¬ nI p = (-1 : Int32) := fun q => by
      have q2 : (nI p).toInt = (-1 : Int32).toInt := congrArg Int32.toInt q
      rw [nI_toInt (by omega), show (-1 : Int32).toInt = -1 from by decide] at q2
      omega
    rw [if_neg n1, if_pos (show (0 : Int32) < nI (p + 1) from nI_lt (a := 0) (by omega) (by omega)), if_neg (nI_nle (by omega) (by omega)), ixw (p + 1) 7 7 rfl, if_pos (inw (by omega) (by decide)), cl_n (show 17 * (p + 1) + 7 < 2 ^ 31 by omega), mk_cal, a7, i64_32]
    exact off_end hn5 hn.1 hn.2 hA hS hD hW hp (fun i hi hne q => hne (hW.2.2.2.2.2.2 i p hi hp (q.1.trans hm.1.symm) (q.2.trans hm.2.symm))) hE hN _ _ _
end OG
