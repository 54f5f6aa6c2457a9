/-! ===== acts ===== -/
section AC
variable {u : XS} {cf : Nat → Nat → Int32} {f : Nat → Int64} {nx : Nat → Int32} {pa : Int64} {cal : Nat → Int64} {evr : Nat → Int32} {rom : Int32} {bef : Nat → Int64} {c a o w : Nat} {rr : Nat → Nat} {xx : Nat → Int64}
theorem move_X {g r : Nat} (hg : g < 12) (hr : r < 12) (x : Int64) : f_X0_move (nI g) (nI r) x (PX u cf f nx pa) = some (PX u cf (mvf f g r x) nx pa) := by
  unfold f_X0_move
  have i1 : inb (nI g) 12 = true := inb_n hg (by decide)
  have i2 : inb (nI r) 12 = true := inb_n hr (by decide)
  rw [if_pos i1, if_pos i1, if_pos i2, if_pos i2, PX_fun, PX_sf, cl_n (show g < 2 ^ 31 by omega), cl_n (show r < 2 ^ 31 by omega)]
  rfl
/-- what the class's call c and the reference's row w hold of the acts -/
def AT (u : XS) (cf : Nat → Nat → Int32) (cal : Nat → Int64) (c a o w : Nat) (rr : Nat → Nat) (xx : Nat → Int64) : Prop :=
  c < 25 ∧ a ≤ 4 ∧ o < 12 ∧ w ≤ 24 ∧ cf 2 c = nI a ∧ cf 3 c = nI o ∧ cal (17 * w + 8) = lN a ∧ cal (17 * w + 3) = (cf 6 c).toInt64 ∧ ∀ j, j < a → rr j < 12 ∧ x_rc u c j = nI (rr j) ∧ x_am u c j = xx j ∧ cal (17 * w + (9 + 2 * j)) = lN (rr j) ∧ cal (17 * w + (10 + 2 * j)) = xx j
theorem undo_X (hT : AT u cf cal c a o w rr xx) {m : Nat} (hm : m ≤ a) (C : Nat → Nat → Int32) (hC : C 3 c = nI o) (g : Nat → Int64) : ∀ (n j : Nat) (l : Int32) (s : XS), l = nI j → s = PX u C (usq o rr xx g j) nx pa → j ≤ m → m < j + n → f_X6_undoActs_2 n c (nI m) l s = some (PX u C (usq o rr xx g m) nx pa) := by
  obtain ⟨t1, t2, t3, t4, t5, t6, t7, t8, t9⟩ := hT
  intro n
  induction n with
  | zero => intro j l s _ _ h1 h2; omega
  | succ n ih =>
    intro j l s el es h1 h2
    subst el es
    rw [f_X6_undoActs_2]
    by_cases hj : j = m
    · subst hj
      rw [if_pos (nI_le (Nat.le_refl _) (by omega))]
    · obtain ⟨r1, r2, r3, -, -⟩ := t9 j (by omega)
      have hin : inb (nI j) 4 = true := inb_n (show j < 4 by omega) (by decide)
      rw [if_neg (nI_ge (show j < m by omega) (by omega)), if_pos hin, if_pos hin, cl_n (show j < 2 ^ 31 by omega), PX_rc, PX_am, PX_cf, r2, r3, hC, move_X r1 t3]
      exact ih (j + 1) _ _ (nI_1 j) rfl (by omega) (by omega)
theorem act_X (hT : AT u cf cal c a o w rr xx) {j : Nat} (hj : j < a) (U : Int32) (F : Nat → Int64) : f_X6_doAct c (nI j) (PX u (up2 cf 11 c U) F nx pa) = (if (U + 10) ≤ cf 6 c then (if xx j ≤ F o then some (1, PX u (up2 cf 11 c (U + 10)) (mvf F o (rr j) (xx j)) nx pa) else some (0, PX u (up2 cf 11 c (U + 10)) F nx pa)) else some (0, PX u (up2 cf 11 c U) F nx pa)) := by
  obtain ⟨t1, t2, t3, t4, t5, t6, t7, t8, t9⟩ := hT
  obtain ⟨r1, r2, r3, -, -⟩ := t9 j hj
  have hin : inb (nI j) 4 = true := inb_n (show j < 4 by omega) (by decide)
  have ho : inb (nI o) 12 = true := inb_n t3 (by decide)
  unfold f_X6_doAct
  have e3 : up2 (up2 cf 11 c U) 11 c ((up2 cf 11 c U) 11 c + 10) = up2 cf 11 c (U + 10) := by rw [up2_up2, up2_s]
  have e4 : ∀ V, up2 cf 11 c V 3 c = nI o := fun V => by rw [up2_nk (by decide), t6]
  rw [if_pos t1, PX_cf, PX_am, PX_rc, PX_fun, PX_sc, e3, e4, up2_s, up2_nk (show (6 : Nat) ≠ 11 by decide), if_pos ho, if_pos hin, cl_n (show j < 2 ^ 31 by omega), cl_n (show o < 2 ^ 31 by omega), r3, if_pos hin, if_pos hin, r2, move_X t3 r1]
  rfl
/-- behind a failed act the reference goes to its end -/
theorem fail_M (hT : AT u cf cal c a o w rr xx) (l1 l4 l5 : Int32) (l6 l8 : Int64) (U : Int32) (n : Nat) {j : Nat} (hj : j < a) (v : XS) : f_X7_does_155 (n + 1) l1 (nI (17 * w)) (nI o) l4 l5 l6 l8 U 1 (nI j + 1) (mk v cal evr rom bef) = f_X7_does_298 1000 l1 (nI (17 * w)) (nI o) l4 l5 l6 l8 U 1 0 (mk v cal evr rom bef) := by
  obtain ⟨t1, t2, t3, t4, t5, t6, t7, t8, t9⟩ := hT
  rw [f_X7_does_155, show nI (17 * w) + (8 : Int32) = nI (17 * w + 8) from nI_add _ 8, if_pos (inw (by omega) (by decide)), if_neg one0]
  by_cases h : m_cal (mk v cal evr rom bef) (Int32.toNatClampNeg (nI (17 * w + 8))) ≤ Int32.toInt64 (nI j + 1)
  · rw [if_pos h]
  · rw [if_neg h]
theorem acts_eq {u2 : XS} (hT : AT u cf cal c a o w rr xx) (l1 l4 l5 : Int32) (l6 l8 : Int64) : ∀ (d n N j : Nat) (U l L : Int32) (s : XS) (v : MS), j + d = a → d < n → d + 2 ≤ N → l = nI j → L = nI j → s = PX u (up2 cf 11 c U) (fsq o rr xx f j) nx pa → v = mk (PX u2 cf (fsq o rr xx f j) nx pa) cal evr rom bef → ∃ (wh fl U' : Int32) (f' g' : Nat → Int64), f_X6_doActs_2 n c l s = some (wh, PX u (up2 cf 11 c U') f' nx pa) ∧ f_X7_does_155 N l1 (nI (17 * w)) (nI o) l4 l5 l6 l8 U 0 L v = f_X7_does_298 1000 l1 (nI (17 * w)) (nI o) l4 l5 l6 l8 U' fl 0 (mk (PX u2 cf g' nx pa) cal evr rom bef) ∧ ((wh = 1 ∧ fl = 0 ∧ g' = f') ∨ (wh = 0 ∧ fl = 1 ∧ f' = f ∧ ∀ i, 12 ≤ i → g' i = f i)) := by
  obtain ⟨t1, t2, t3, t4, t5, t6, t7, t8, t9⟩ := id hT
  intro d
  induction d with
  | zero =>
    intro n N j U l L s v hj hn hN q1 q2 q3 q4
    subst q1 q2 q3 q4
    obtain ⟨n, rfl⟩ : ∃ n', n = n' + 1 := ⟨n - 1, by omega⟩
    obtain ⟨N, rfl⟩ : ∃ n', N = n' + 1 := ⟨N - 1, by omega⟩
    have hja : j = a := by omega
    refine ⟨1, 0, U, fsq o rr xx f j, fsq o rr xx f j, ?_, ?_, Or.inl ⟨rfl, rfl, rfl⟩⟩
    · rw [f_X6_doActs_2, PX_cf, up2_nk (by decide), t5, if_pos (nI_le (by omega) (by omega))]
    · rw [f_X7_does_155, show nI (17 * w) + (8 : Int32) = nI (17 * w + 8) from nI_add _ 8, if_pos (inw (by omega) (by decide)), cl_n (show 17 * w + 8 < 2 ^ 31 by omega), mk_cal, t7, nI_l (show j < 2 ^ 31 by omega), if_pos ((lN_le (by omega) (by omega)).mpr (by omega))]
  | succ d ih =>
    intro n N j U l L s v hj hn hN q1 q2 q3 q4
    subst q1 q2 q3 q4
    obtain ⟨n, rfl⟩ : ∃ n', n = n' + 1 := ⟨n - 1, by omega⟩
    obtain ⟨N, rfl⟩ : ∃ n', N = n' + 2 := ⟨N - 2, by omega⟩
    have hja : j < a := by omega
    obtain ⟨r1, r2, r3, r4, r5⟩ := t9 j hja
    have ho : inb (nI o) 12 = true := inb_n t3 (by decide)
    have hX : f_X6_doActs_2 (n + 1) c (nI j) (PX u (up2 cf 11 c U) (fsq o rr xx f j) nx pa) = ((f_X6_doAct c (nI j) (PX u (up2 cf 11 c U) (fsq o rr xx f j) nx pa)).bind fun q_2 => (if q_2.1 = (0 : Int32) then ((f_X6_undoActs c (nI j) q_2.2).bind fun q_4 => some ((0 : Int32), q_4)) else (f_X6_doActs_2 n c (nI j + (1 : Int32)) q_2.2))) := by
      rw [f_X6_doActs_2, PX_cf, up2_nk (by decide), t5, if_neg (nI_ge hja (by omega))]
    have hM : f_X7_does_155 (N + 2) l1 (nI (17 * w)) (nI o) l4 l5 l6 l8 U 0 (nI j) (mk (PX u2 cf (fsq o rr xx f j) nx pa) cal evr rom bef) = (if (U + 10) ≤ cf 6 c then (if xx j ≤ fsq o rr xx f j o then f_X7_does_155 (N + 1) l1 (nI (17 * w)) (nI o) l4 l5 l6 l8 (U + 10) 0 (nI j + 1) (mk (PX u2 cf (fsq o rr xx f (j + 1)) nx pa) cal evr rom bef) else f_X7_does_155 (N + 1) l1 (nI (17 * w)) (nI o) l4 l5 l6 l8 (U + 10) 1 (nI j + 1) (mk (PX u2 cf (fsq o rr xx f j) nx pa) cal evr rom bef)) else f_X7_does_155 (N + 1) l1 (nI (17 * w)) (nI o) l4 l5 l6 l8 U 1 (nI j + 1) (mk (PX u2 cf (fsq o rr xx f j) nx pa) cal evr rom bef)) := by
      have z9 : nI (17 * w) + (9 : Int32) + (2 : Int32) * nI j = nI (17 * w + (9 + 2 * j)) := by
        rw [show nI (17 * w) + (9 : Int32) = nI (17 * w + 9) from nI_add _ 9, ix2 (17 * w + 9) j _ rfl]
        congr 1
        omega
      have z10 : nI (17 * w) + (10 : Int32) + (2 : Int32) * nI j = nI (17 * w + (10 + 2 * j)) := by
        rw [show nI (17 * w) + (10 : Int32) = nI (17 * w + 10) from nI_add _ 10, ix2 (17 * w + 10) j _ rfl]
        congr 1
        omega
      have hr : inb (nI (rr j)) 12 = true := inb_n r1 (by decide)
      rw [f_X7_does_155, z9, z10, show nI (17 * w) + (8 : Int32) = nI (17 * w + 8) from nI_add _ 8, show nI (17 * w) + (3 : Int32) = nI (17 * w + 3) from nI_add _ 3, if_pos (inw (by omega) (by decide)), cl_n (show 17 * w + 8 < 2 ^ 31 by omega), cl_n (show 17 * w + 3 < 2 ^ 31 by omega), cl_n (show 17 * w + (9 + 2 * j) < 2 ^ 31 by omega), cl_n (show 17 * w + (10 + 2 * j) < 2 ^ 31 by omega), mk_cal, mk_fun, t7, t8, r4, r5, lN_i, nI_l (show j < 2 ^ 31 by omega), if_neg (fun z => by have := (lN_le (by omega) (by omega)).mp z; omega), if_pos rfl, if_pos (inw (by omega) (by omega)), if_pos (inw (by omega) (by omega)), if_pos (inw (by omega) (by decide)), if_pos ho, if_pos hr, cl_n (show o < 2 ^ 31 by omega), cl_n (show rr j < 2 ^ 31 by omega), PX_fun, mk_sf]
      simp only [i64_le, if_pos ho, if_pos hr]
      rfl
    rw [hX, hM, act_X hT hja]
    have hund : f_X6_undoActs c (nI j) = fun s => f_X6_undoActs_2 1000 c (nI j) 0 s := by
      funext s
      unfold f_X6_undoActs
      rw [if_pos t1]
    have hC : ∀ V, up2 cf 11 c V 3 c = nI o := fun V => by rw [up2_nk (by decide), t6]
    by_cases c1 : (U + 10) ≤ cf 6 c
    · rw [if_pos c1, if_pos c1]
      by_cases c2 : xx j ≤ fsq o rr xx f j o
      · rw [if_pos c2, if_pos c2]
        simp only [Option.bind_some, if_neg one0]
        exact ih n (N + 1) (j + 1) (U + 10) _ _ _ _ (by omega) (by omega) (by omega) (nI_1 j) (nI_1 j) rfl rfl
      · rw [if_neg c2, if_neg c2]
        simp only [Option.bind_some, ↓reduceIte]
        refine ⟨0, 1, U + 10, f, fsq o rr xx f j, ?_, fail_M hT _ _ _ _ _ _ _ hja _, Or.inr ⟨rfl, rfl, rfl, fsq_hi t3 (fun i hi => (t9 i hi).1) j (by omega)⟩⟩
        rw [hund]
        show (f_X6_undoActs_2 1000 c (nI j) 0 _).bind _ = _
        rw [undo_X (nx := nx) (pa := pa) hT (m := j) (by omega) (up2 cf 11 c (U + 10)) (hC _) (fsq o rr xx f j) 1000 0 0 (PX u (up2 cf 11 c (U + 10)) (fsq o rr xx f j) nx pa) rfl rfl (by omega) (by omega), undo_all]
        rfl
    · rw [if_neg c1, if_neg c1]
      simp only [Option.bind_some, ↓reduceIte]
      refine ⟨0, 1, U, f, fsq o rr xx f j, ?_, fail_M hT _ _ _ _ _ _ _ hja _, Or.inr ⟨rfl, rfl, rfl, fsq_hi t3 (fun i hi => (t9 i hi).1) j (by omega)⟩⟩
      rw [hund]
      show (f_X6_undoActs_2 1000 c (nI j) 0 _).bind _ = _
      rw [undo_X (nx := nx) (pa := pa) hT (m := j) (by omega) (up2 cf 11 c U) (hC _) (fsq o rr xx f j) 1000 0 0 (PX u (up2 cf 11 c U) (fsq o rr xx f j) nx pa) rfl rfl (by omega) (by omega), undo_all]
      rfl
end AC
