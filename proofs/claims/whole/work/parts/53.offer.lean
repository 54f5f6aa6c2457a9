/-! ===== offers ===== -/
section OF
variable {n : Nat} {u : XS} {cal : Nat → Int64} {evr : Nat → Int32} {rom : Int32} {bef : Nat → Int64} {k p e t : Nat}
theorem row_ref (hW : QW k (x_rwc u) (x_row u) (x_cf u) (x_rc u) (x_am u) cal) (hst : ∃ s, s ≤ 1000 ∧ x_stp u = nI s) {idx same : Int32} (hs : (idx = -1 ∧ same = 0) ∨ ∃ p, p < k ∧ idx = nI p ∧ same = nI (p + 1)) : ∃ j : Nat, j ≤ 8 ∧ f_X6_refusalByRow 0 idx u = some (nI j) ∧ RMd same (mk u cal evr rom bef) = some (nI j) := by
  obtain ⟨h1, h2, h3, h4, ⟨⟨d0, d1, d2, -⟩, -, -, -, ⟨pr, hpr, epr⟩⟩, h6, h7⟩ := id hW
  rcases hs with ⟨rfl, rfl⟩ | ⟨p, hp, rfl, rfl⟩
  · unfold f_X6_refusalByRow RMd f_X5_isFull
    rw [if_pos (show (0 : Nat) < 25 by decide), if_pos rfl, if_pos (show (0 : Int32) ≤ 0 by decide), mk_wts, h2]
    by_cases h24 : k = 24
    · subst h24
      obtain ⟨r, hr, x1, x2⟩ := chp_eq (evr := evr) (rom := rom) (bef := bef) hW (by decide)
      obtain ⟨-, -, a2, -⟩ := row0 hW hr
      rw [if_neg (show ¬ nI 24 < (24 : Int32) by decide), if_pos (show nI 24 = (24 : Int32) by decide), if_pos ib2, x1, x2]
      simp only [Option.bind_some, if_neg one0]
      rw [if_pos (inb_n (show r < 24 by omega) (by decide)), cl_n (show r < 2 ^ 31 by omega), if_pos (h3 r hr).2, ixw (r + 1) 2 2 rfl, if_pos (inw (by omega) (by decide)), cl_n (show 17 * (r + 1) + 2 < 2 ^ 31 by omega), tn2, mk_cal, a2, d2]
      simp only [i64_lt]
      by_cases hq : x_cf u 5 (x_row u r) < x_cf u 5 0
      · rw [if_pos hq]
        exact ⟨0, by decide, rfl, rfl⟩
      · rw [if_neg hq]
        exact ⟨8, by decide, rfl, rfl⟩
    · rw [if_pos (show nI k < (24 : Int32) from nI_lt (b := 24) (by omega) (by decide)), if_neg (show ¬ nI k = (24 : Int32) from fun z => h24 ((nI_eq (b := 24) (by omega) (by decide)).mp z))]
      exact ⟨0, by decide, rfl, rfl⟩
  · obtain ⟨s, hs, es⟩ := hst
    obtain ⟨-, -, a2, -⟩ := row0 hW hp
    obtain ⟨⟨-, -, -, -, ⟨pq, hpq, epq⟩⟩, -⟩ := h6 p hp
    have n1 : ¬ nI p = (-1 : Int32) := fun q => by
      have q2 : (nI p).toInt = (-1 : Int32).toInt := congrArg Int32.toInt q
      rw [nI_toInt (by omega), show (-1 : Int32).toInt = -1 from by decide] at q2
      omega
    unfold f_X6_refusalByRow RMd
    rw [if_pos (show (0 : Nat) < 25 by decide), if_neg n1, if_pos (inb_n (show p < 24 by omega) (by decide)), cl_n (show p < 2 ^ 31 by omega), if_pos (h3 p (by omega)).2, if_neg (nI_nle (by omega) (by omega)), if_pos ib2, ixw (p + 1) 2 2 rfl, if_pos (inw (by omega) (by decide)), cl_n (show 17 * (p + 1) + 2 < 2 ^ 31 by omega), tn2, mk_cal, mk_stp, a2, d2, es, epq, epr, nI_add, nI_l (show pq < 2 ^ 31 by omega), nI_l (show s < 2 ^ 31 by omega), nI_l (show pr < 2 ^ 31 by omega), lN_add]
    by_cases hq : pq + s ≤ pr
    · rw [if_pos (nI_le hq (by omega)), if_pos ((lN_le (by omega) (by omega)).mpr hq)]
      exact ⟨0, by decide, rfl, rfl⟩
    · rw [if_neg (nI_ge (by omega) (by omega)), if_neg (fun z => hq ((lN_le (by omega) (by omega)).mp z))]
      exact ⟨7, by decide, rfl, rfl⟩
theorem stk_ref (hW : QW k (x_rwc u) (x_row u) (x_cf u) (x_rc u) (x_am u) cal) {j : Nat} {idx same : Int32} (hj : j ≤ 8) (hx : f_X6_refusalByRow 0 idx u = some (nI j)) (hm : RMd same (mk u cal evr rom bef) = some (nI j)) : ∃ j : Nat, j ≤ 8 ∧ ((f_X6_coversStake 0 u).bind fun q_9 => (if q_9 = (0 : Int32) then some (6 : Int32) else ((f_X6_refusalByRow 0 idx u).bind fun q_11 => some q_11))) = some (nI j) ∧ STd same (mk u cal evr rom bef) = some (nI j) := by
  obtain ⟨h1, h2, h3, h4, ⟨⟨d0, d1, d2, d3, d4, d5, d6⟩, -, ⟨o, ho, eo⟩, hsp, -⟩, h6, h7⟩ := id hW
  have hP : ∃ P, P < 12 ∧ f_X1_payer 0 u = some (nI P) ∧ f_X7_payer (Int32.toInt64 (x_cf u 3 0)) (Int32.toInt64 (x_cf u 9 0)) = some (nI P) := by
    unfold f_X1_payer f_X7_payer
    rw [if_pos (show (0 : Nat) < 25 by decide), i64_32, i64_32]
    rcases hsp with q | ⟨s, hs, es⟩
    · refine ⟨o, ho, ?_, ?_⟩
      · rw [if_pos q, eo]
      · rw [q, if_neg (by decide), eo]
    · have n1 : ¬ nI s = (-1 : Int32) := fun q => by
        have q2 : (nI s).toInt = (-1 : Int32).toInt := congrArg Int32.toInt q
        rw [nI_toInt (by omega), show (-1 : Int32).toInt = -1 from by decide] at q2
        omega
      refine ⟨s, hs, ?_, ?_⟩
      · rw [es, if_neg n1]
      · rw [es, nI_l (show s < 2 ^ 31 by omega), if_pos (show (0 : Int64) ≤ lN s from (lN_le (a := 0) (b := s) (by omega) (by omega)).mpr (Nat.zero_le _))]
  obtain ⟨P, hP1, hP2, hP3⟩ := hP
  unfold f_X6_coversStake STd f_X1_stake
  rw [if_pos (show (0 : Nat) < 25 by decide), hP2, tn0, tn6, tn2, tn3, mk_cal, d0, d6, i64_32, i64_32, hP3]
  simp only [Option.bind_some]
  rw [if_pos (inb_n hP1 (by decide)), if_pos (inb_n hP1 (by decide)), if_pos ib2, if_pos ib3, cl_n (show P < 2 ^ 31 by omega), if_pos (show (0 : Nat) < 25 by decide), mk_fun, d2, d3]
  simp only [Option.bind_some]
  by_cases hq : x_fun u P < (x_cf u 5 0).toInt64 * (x_cf u 6 0).toInt64
  · rw [if_pos hq, if_neg (Int64.not_le.mpr hq)]
    exact ⟨6, by decide, rfl, rfl⟩
  · rw [if_neg hq, if_pos (Int64.not_lt.mp hq), hx, hm]
    simp only [Option.bind_some, if_neg one0]
    exact ⟨j, hj, rfl, rfl⟩
theorem ref_eq (h : Inv n u cal evr) (hW : QW k (x_rwc u) (x_row u) (x_cf u) (x_rc u) (x_am u) cal) (ht : ¬ x_the u = 0) {idx same : Int32} (hs : (idx = -1 ∧ same = 0) ∨ ∃ p, p < k ∧ idx = nI p ∧ same = nI (p + 1)) : ∃ j : Nat, j ≤ 8 ∧ f_X6_refusal 0 idx u = some (nI j) ∧ f_X7_refusedBy same (mk u cal evr rom bef) = some (nI j) := by
  obtain ⟨sg, s1, s2⟩ := sig_eq (rom := rom) (bef := bef) h ht
  obtain ⟨k', e, t, hn, hA, hS, hD, hW', hE, hN⟩ := id h
  obtain ⟨j, hj, x1, m1⟩ := row_ref (evr := evr) (rom := rom) (bef := bef) hW hN.2 hs
  obtain ⟨j2, hj2, x2, m2⟩ := stk_ref hW hj x1 m1
  obtain ⟨h1, h2, h3, h4, ⟨⟨d0, d1, d2, d3, d4, d5, d6⟩, ⟨a, ha, ea, fa, -⟩, ⟨o, ho, eo⟩, hsp, -⟩, h6, h7⟩ := id hW
  obtain ⟨bo, b1, b2⟩ := s2 o ho
  rw [refM_eq, if_pos ib0, if_pos ib6, if_pos ib8, if_pos ib4, if_pos ib1, tn8, tn4, tn0, tn6, tn1, mk_cal, mk_hgt, mk_nxt, fa, d4, d0, d6, d1, i64_32, i64_32, eo, if_pos (inb_n ho (by decide)), cl_n (show o < 2 ^ 31 by omega), b2]
  unfold f_X6_refusal
  rw [if_pos (show (0 : Nat) < 25 by decide), ea, eo, if_pos (inb_n ho (by decide)), cl_n (show o < 2 ^ 31 by omega), s1]
  simp only [Option.bind_some, b1, i64_le]
  by_cases c1 : a = 0
  · subst c1
    rw [if_pos (show nI 0 = (0 : Int32) from rfl), if_pos (show lN 0 = (0 : Int64) from rfl)]
    exact ⟨1, by decide, rfl, rfl⟩
  rw [if_neg (nI_ne0 (by omega) (by omega)), if_neg (fun z : lN a = (0 : Int64) => c1 ((lN_eq (b := 0) (by omega) (by decide)).mp z))]
  by_cases c2 : x_hgt u ≤ x_cf u 7 0
  rotate_left
  · rw [if_neg c2, if_neg c2]
    exact ⟨2, by decide, rfl, rfl⟩
  rw [if_pos c2, if_pos c2]
  by_cases c3 : x_nxt u o ≤ x_cf u 4 0
  rotate_left
  · rw [if_neg c3, if_neg c3]
    exact ⟨3, by decide, rfl, rfl⟩
  rw [if_pos c3, if_pos c3]
  by_cases c4 : bo = 0
  · rw [if_pos c4, if_pos c4]
    exact ⟨4, by decide, rfl, rfl⟩
  rw [if_neg c4, if_neg c4]
  rcases hsp with q | ⟨s, hs, es⟩
  · rw [if_pos q, q, if_pos (show (-1 : Int32) < 0 by decide)]
    exact ⟨j2, hj2, x2, m2⟩
  · have n1 : ¬ nI s = (-1 : Int32) := fun q => by
      have q2 : (nI s).toInt = (-1 : Int32).toInt := congrArg Int32.toInt q
      rw [nI_toInt (by omega), show (-1 : Int32).toInt = -1 from by decide] at q2
      omega
    obtain ⟨bs, t1, t2⟩ := s2 s hs
    rw [es, if_neg n1, if_neg (nI_pos (show s < 2 ^ 31 by omega)), t1, t2]
    simp only [Option.bind_some]
    by_cases c5 : bs = 0
    · rw [if_pos c5, if_pos c5]
      exact ⟨5, by decide, rfl, rfl⟩
    · rw [if_neg c5, if_neg c5]
      exact ⟨j2, hj2, x2, m2⟩
def EX (p k : Nat) (w : Int32) (e : Nat) (u : XS) : XS := NX (x_cf u 10 (x_row u p)) w 0 e (TX p k u)
theorem end_X (he : e < 2 ^ 30) (hW : QW k (x_rwc u) (x_row u) (x_cf u) (x_rc u) (x_am u) cal) (hE : QE e (x_ina u) (x_kep u) (x_nws u) (x_etk u) (x_ewh u) (x_eun u) evr) (hp : p < k) (w : Int32) : f_X6_end (nI p) w u = some (EX p k w e u) := by
  unfold f_X6_end
  have hk := hW.1
  rw [take_X hW hp]
  simp only [Option.bind_some]
  rw [if_pos (hW.2.2.1 p (by omega)).2, TX_cf]
  have hE2 : QE e (x_ina (TX p k u)) (x_kep (TX p k u)) (x_nws (TX p k u)) (x_etk (TX p k u)) (x_ewh (TX p k u)) (x_eun (TX p k u)) evr := by
    rw [TX_ina, TX_kep, TX_nws, TX_etk, TX_ewh, TX_eun]
    exact hE
  rw [note_X he hE2]
  rfl
theorem end_M (he : e < 2 ^ 30) (hW : QW k (x_rwc u) (x_row u) (x_cf u) (x_rc u) (x_am u) cal) (hE : QE e (x_ina u) (x_kep u) (x_nws u) (x_etk u) (x_ewh u) (x_eun u) evr) (hp : p < k) (w : Int32) : f_X7_comes (x_cf u 10 (x_row u p)) w 0 (mk u cal evr rom bef) = some (mk (NX (x_cf u 10 (x_row u p)) w 0 e u) cal (NE (x_cf u 10 (x_row u p)) w 0 e evr) rom bef) ∧ f_X7_takeOut (nI (p + 1)) (mk (NX (x_cf u 10 (x_row u p)) w 0 e u) cal (NE (x_cf u 10 (x_row u p)) w 0 e evr) rom bef) = some (mk (EX p k w e u) (CT cal p k) (NE (x_cf u 10 (x_row u p)) w 0 e evr) rom bef) := by
  refine ⟨note_M he hE _ _ _, ?_⟩
  rw [take_M hW.1 (by rw [NX_rwc]; exact hW.2.1) hp, TXNX]
  rfl
theorem end_W (hW : QW k (x_rwc u) (x_row u) (x_cf u) (x_rc u) (x_am u) cal) (hp : p < k) (w : Int32) : QW (k - 1) (x_rwc (EX p k w e u)) (x_row (EX p k w e u)) (x_cf (EX p k w e u)) (x_rc (EX p k w e u)) (x_am (EX p k w e u)) (CT cal p k) := by
  unfold EX
  rw [NX_rwc, NX_row, NX_cf, NX_rc, NX_am, TX_rwc, TX_row, TX_cf, TX_rc, TX_am]
  exact take_W hW hp
theorem end_E (hE : QE e (x_ina u) (x_kep u) (x_nws u) (x_etk u) (x_ewh u) (x_eun u) evr) (w : Int32) : QE (e + 1) (x_ina (EX p k w e u)) (x_kep (EX p k w e u)) (x_nws (EX p k w e u)) (x_etk (EX p k w e u)) (x_ewh (EX p k w e u)) (x_eun (EX p k w e u)) (NE (x_cf u 10 (x_row u p)) w 0 e evr) := by
  unfold EX
  rw [NX_ina, NX_kep, NX_nws, NX_etk, NX_ewh, NX_eun, TX_etk, TX_ewh, TX_eun]
  exact note_E hE _ _ _
end OF
