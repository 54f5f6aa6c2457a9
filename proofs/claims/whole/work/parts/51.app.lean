section AP
variable {n : Nat} {u : XS} {cal : Nat → Int64} {evr : Nat → Int32} {rom : Int32} {bef : Nat → Int64} {k p e t : Nat}
theorem like_X {c a : Nat} (hc : c < 25) (hc0 : c ≠ 0) (ha : a ≤ 4) (h2 : x_cf u 2 0 = nI a) : ∃ cf rc am, f_X1_becomeLike c 0 u = some (UX u cf rc am) ∧ LK u c a cf rc am := by
  unfold f_X1_becomeLike f_X1_begin
  simp only [if_pos hc, if_pos (show (0 : Nat) < 25 by decide), Option.bind_some]
  rw [UX_0]
  have ec : ∀ C, x_cf (xs_cf u C) = C := fun _ => rfl
  simp only [ec]
  refine like_loop hc hc0 ha h2 1000 0 0 _ _ (x_rc u) (x_am u) rfl rfl ⟨fun f c' h => ?_, fun f h1 h3 => ?_, ?_, fun c' h => ⟨rfl, rfl⟩, fun j hj => absurd hj (by omega)⟩ (by omega) (by omega)
  · simp only [up2_ne h]
  · have n0 : (0 : Nat) ≠ c := Ne.symm hc0
    have hf : f = 3 ∨ f = 4 ∨ f = 5 ∨ f = 6 ∨ f = 7 ∨ f = 8 ∨ f = 9 := by omega
    rcases hf with rfl | rfl | rfl | rfl | rfl | rfl | rfl <;> simp [up2, n0]
  · simp [up2]
    rfl
def cpf (cal : Nat → Int64) (w j : Nat) : Nat → Int64 := fun x => if 17 * w ≤ x ∧ x < 17 * w + j then cal (x - 17 * w) else cal x
def CP (cal : Nat → Int64) (w t : Nat) : Nat → Int64 := vp_updL (cpf cal w 17) (17 * w + 7) (Int32.toInt64 (nI t))
theorem copy_loop {v0 : MS} {w : Nat} (hw1 : 1 ≤ w) (hw : w ≤ 24) (h2 : m_wts v0 = nI w) (h3 : m_tik v0 = nI t) (l1 l2 : Int32) : ∀ (n j : Nat) (l : Int32) (v : MS), l = nI j → v = ms_cal v0 (cpf (m_cal v0) w j) → j ≤ 17 → 17 < j + n → f_X7_offer_100 n l1 l2 l v = some (nI t, ms_tik (ms_cal v0 (CP (m_cal v0) w t)) (nI (t + 1))) := by
  intro n
  induction n with
  | zero => intro j l v _ _ h4 h5; omega
  | succ n ih =>
    intro j l v el ev h4 h5
    subst el ev
    have e1 : m_wts (ms_cal v0 (cpf (m_cal v0) w j)) = nI w := h2
    have e2 : m_cal (ms_cal v0 (cpf (m_cal v0) w j)) = cpf (m_cal v0) w j := rfl
    have e4 : m_tik (ms_cal v0 (cpf (m_cal v0) w j)) = nI t := h3
    rw [f_X7_offer_100, e1, e2, e4]
    by_cases hj : j = 17
    · subst hj
      rw [if_pos (show (17 : Int32) ≤ nI 17 from nI_le (a := 17) (Nat.le_refl _) (by decide)), ixw w 7 7 rfl, if_pos (inw (by omega) (by decide)), cl_n (by omega), np, nI_1]
      rfl
    · have e5 : (17 : Int32) * nI w + nI j = nI (17 * w + j) := ixw w j _ rfl
      have e6 : cpf (m_cal v0) w j j = m_cal v0 j := by
        unfold cpf
        rw [if_neg (by omega)]
      rw [if_neg (show ¬ (17 : Int32) ≤ nI j from nI_ge (b := 17) (by omega) (by decide)), if_pos (inb_n (show j < 442 by omega) (by decide)), e5, if_pos (inw (by omega) (by omega)), cl_n (show 17 * w + j < 2 ^ 31 by omega), cl_n (show j < 2 ^ 31 by omega), e6]
      refine ih (j + 1) _ _ (nI_1 j) ?_ (by omega) (by omega)
      have ef : vp_updL (cpf (m_cal v0) w j) (17 * w + j) (m_cal v0 j) = cpf (m_cal v0) w (j + 1) := by
        funext x
        unfold vp_updL cpf
        by_cases hx : x = 17 * w + j
        · subst hx
          rw [if_pos rfl, if_pos (by omega)]
          congr 1
          omega
        · rw [if_neg hx]
          by_cases hq : 17 * w ≤ x ∧ x < 17 * w + j
          · rw [if_pos hq, if_pos (by omega)]
          · rw [if_neg hq, if_neg (by omega)]
      rw [ef]
theorem CP_lo {w x : Nat} (h : x < 17 * w) : CP cal w t x = cal x := by
  unfold CP
  rw [pk_uLn (by omega)]
  unfold cpf
  rw [if_neg (by omega)]
theorem CP_at {w j : Nat} (h : j < 17) (h7 : j ≠ 7) : CP cal w t (17 * w + j) = cal j := by
  unfold CP
  rw [pk_uLn (by omega)]
  unfold cpf
  rw [if_pos (by omega)]
  congr 1
  omega
theorem app_eq (hW : QW k (x_rwc u) (x_row u) (x_cf u) (x_rc u) (x_am u) cal) (hk : k < 24) (hno : ∀ i, i < k → ¬ mch u (x_cf u 3 0) (x_cf u 4 0) i) (ht : x_tik u = nI t) (l1 l2 : Int32) : ∃ cf rc am, f_X5_append 0 u = some (nI t, xs_tik (xs_rwc (UX u cf rc am) (nI (k + 1))) (nI (t + 1))) ∧ f_X7_offer_100 1000 l1 l2 0 (ms_wts (mk u cal evr rom bef) (nI (k + 1))) = some (nI t, mk (xs_tik (xs_rwc (UX u cf rc am) (nI (k + 1))) (nI (t + 1))) (CP cal (k + 1) t) evr rom bef) ∧ QW (k + 1) (nI (k + 1)) (x_row u) cf rc am (CP cal (k + 1) t) := by
  obtain ⟨h1, h2, h3, h4, h5, h6, h7⟩ := id hW
  obtain ⟨⟨d0, d1, d2, d3, d4, d5, d6⟩, ⟨a, ha, hb, hc, hd⟩, ho, hs, hp⟩ := id h5
  obtain ⟨r1, r2⟩ := h3 k hk
  have hc0 : x_row u k ≠ 0 := by omega
  obtain ⟨cf, rc, am, hX, g1, g2, g3, g4, g5⟩ := like_X r2 hc0 ha hb
  refine ⟨up2 cf 10 (x_row u k) (nI t), rc, am, ?_, ?_, ?_⟩
  · unfold f_X5_append
    rw [if_pos (show (0 : Nat) < 25 by decide), h2, if_pos (inb_n (show k < 24 by omega) (by decide)), cl_n (by omega), if_pos r2, hX]
    have e1 : x_cf (UX u cf rc am) = cf := UX_cf
    have e2 : x_tik (UX u cf rc am) = nI t := UX_tik.trans ht
    have e3 : x_rwc (UX u cf rc am) = nI k := UX_rwc.trans h2
    simp only [Option.bind_some, e1, e2, e3, nI_1, up2_s]
    rw [UX_c]
  · have := copy_loop (v0 := ms_wts (mk u cal evr rom bef) (nI (k + 1))) (w := k + 1) (t := t) (by omega) (by omega) rfl ht l1 l2 1000 0 0 (ms_wts (mk u cal evr rom bef) (nI (k + 1))) rfl (by
      have ef : cpf cal (k + 1) 0 = cal := by
        funext x
        unfold cpf
        rw [if_neg (by omega)]
      show _ = ms_cal (ms_wts (mk u cal evr rom bef) (nI (k + 1))) (cpf cal (k + 1) 0)
      rw [ef]) (by omega) (by omega)
    rw [this, ← mk_app]
  · have q1 : ∀ f c', c' ≠ x_row u k → up2 cf 10 (x_row u k) (nI t) f c' = x_cf u f c' := fun f c' h => by
      rw [up2_ne h]
      exact g1 f c' h
    have q2 : ∀ f, 3 ≤ f → f ≤ 9 → up2 cf 10 (x_row u k) (nI t) f (x_row u k) = x_cf u f 0 := fun f z1 z2 => by
      rw [up2_nk (by omega)]
      exact g2 f z1 z2
    have rne : ∀ i, i < k → x_row u i ≠ x_row u k := fun i hi q => by
      have := h4 i k (by omega) hk q
      omega
    refine ⟨by omega, rfl, h3, h4, ?_, fun i hi => ?_, fun i j hi hj e1 e2 => ?_⟩
    · exact h5.congr (fun f _ => q1 f 0 (Ne.symm hc0)) (g4 0 (Ne.symm hc0)).1 (g4 0 (Ne.symm hc0)).2 (fun j hj => CP_lo (by omega))
    · by_cases hik : i = k
      · subst hik
        refine ⟨⟨⟨?_, ?_, ?_, ?_, ?_, ?_, ?_⟩, ⟨a, ha, ?_, ?_, fun j hj => ?_⟩, ?_, ?_, ?_⟩, ?_⟩
        · show CP cal (i + 1) t (17 * (i + 1) + 0) = _
          rw [CP_at (by decide) (by decide), q2 3 (by decide) (by decide)]; exact d0
        · show CP cal (i + 1) t (17 * (i + 1) + 1) = _
          rw [CP_at (by decide) (by decide), q2 4 (by decide) (by decide)]; exact d1
        · show CP cal (i + 1) t (17 * (i + 1) + 2) = _
          rw [CP_at (by decide) (by decide), q2 5 (by decide) (by decide)]; exact d2
        · show CP cal (i + 1) t (17 * (i + 1) + 3) = _
          rw [CP_at (by decide) (by decide), q2 6 (by decide) (by decide)]; exact d3
        · show CP cal (i + 1) t (17 * (i + 1) + 4) = _
          rw [CP_at (by decide) (by decide), q2 7 (by decide) (by decide)]; exact d4
        · show CP cal (i + 1) t (17 * (i + 1) + 5) = _
          rw [CP_at (by decide) (by decide), q2 8 (by decide) (by decide)]; exact d5
        · show CP cal (i + 1) t (17 * (i + 1) + 6) = _
          rw [CP_at (by decide) (by decide), q2 9 (by decide) (by decide)]; exact d6
        · rw [up2_nk (by decide)]; exact g3
        · show CP cal (i + 1) t (17 * (i + 1) + 8) = _
          rw [CP_at (by decide) (by decide)]; exact hc
        · obtain ⟨j', hj', z1, z2, z3⟩ := hd j hj
          refine ⟨j', hj', ?_, ?_, ?_⟩
          · rw [(g5 j hj).1]; exact z1
          · show CP cal (i + 1) t (17 * (i + 1) + (9 + 2 * j)) = _
            rw [CP_at (by omega) (by omega)]; exact z2
          · show CP cal (i + 1) t (17 * (i + 1) + (10 + 2 * j)) = _
            rw [CP_at (by omega) (by omega), (g5 j hj).2]; exact z3
        · rw [q2 3 (by decide) (by decide)]; exact ho
        · rw [q2 9 (by decide) (by decide)]; exact hs
        · rw [q2 5 (by decide) (by decide)]; exact hp
        · unfold CP
          rw [pk_uLs, up2_s]
      · have hi2 : i < k := by omega
        obtain ⟨c1, c2⟩ := h6 i hi2
        refine ⟨c1.congr (fun f _ => q1 f _ (rne i hi2)) (g4 _ (rne i hi2)).1 (g4 _ (rne i hi2)).2 (fun j hj => CP_lo (by omega)), ?_⟩
        rw [CP_lo (by omega), q1 _ _ (rne i hi2)]
        exact c2
    · by_cases hik : i = k
      · by_cases hjk : j = k
        · omega
        · subst hik
          rw [q2 3 (by decide) (by decide), q1 _ _ (rne j (by omega))] at e1
          rw [q2 4 (by decide) (by decide), q1 _ _ (rne j (by omega))] at e2
          exact absurd ⟨e1.symm, e2.symm⟩ (hno j (by omega))
      · by_cases hjk : j = k
        · subst hjk
          rw [q2 3 (by decide) (by decide), q1 _ _ (rne i (by omega))] at e1
          rw [q2 4 (by decide) (by decide), q1 _ _ (rne i (by omega))] at e2
          exact absurd ⟨e1, e2⟩ (hno i (by omega))
        · rw [q1 _ _ (rne i (by omega)), q1 _ _ (rne j (by omega))] at e1 e2
          exact h7 i j (by omega) (by omega) e1 e2
end AP
