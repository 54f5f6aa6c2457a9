/-! ===== a call that is taken, on both sides ===== -/
section PE
variable {u s : XS} {f' : Nat → Int64} {cal : Nat → Int64} {evr : Nat → Int32} {rom : Int32} {bef : Nat → Int64} {k p e T c o : Nat}
abbrev stk (s : XS) (c : Nat) : Int64 := (x_cf s 5 c).toInt64 * (x_cf s 6 c).toInt64
theorem perf_pre (hc : c < 25) (h3 : x_cf s 3 c = nI o) (ho : o < 12) (hy : x_cf s 9 c = -1 ∨ ∃ s2, s2 < 12 ∧ x_cf s 9 c = nI s2) (f : Nat → Int64) (nx : Nat → Int32) (pa : Int64) (V : Int32) : f_X1_payer c (PX s (up2 (x_cf s) 11 c V) f nx pa) = some (nI (PY (x_cf s 9 c) o)) ∧ f_X6_coversStake c (PX s (up2 (x_cf s) 11 c V) f nx pa) = some (if f (PY (x_cf s 9 c) o) < stk s c then 0 else 1) ∧ f_X1_stake c (PX s (up2 (x_cf s) 11 c V) f nx pa) = some (stk s c) := by
  have z9 : x_cf (PX s (up2 (x_cf s) 11 c V) f nx pa) 9 c = x_cf s 9 c := by rw [PX_cf, up2_nk (by decide)]
  have z3 : x_cf (PX s (up2 (x_cf s) 11 c V) f nx pa) 3 c = x_cf s 3 c := by rw [PX_cf, up2_nk (by decide)]
  have z5 : x_cf (PX s (up2 (x_cf s) 11 c V) f nx pa) 5 c = x_cf s 5 c := by rw [PX_cf, up2_nk (by decide)]
  have z6 : x_cf (PX s (up2 (x_cf s) 11 c V) f nx pa) 6 c = x_cf s 6 c := by rw [PX_cf, up2_nk (by decide)]
  have zf : x_fun (PX s (up2 (x_cf s) 11 c V) f nx pa) = f := PX_fun
  generalize PX s (up2 (x_cf s) 11 c V) f nx pa = S at z9 z3 z5 z6 zf ⊢
  have hp := pay_X (s := S) (c := c) (o := o) hc (z3.trans h3) (by rw [z9]; exact hy)
  rw [z9] at hp
  refine ⟨hp, ?_, ?_⟩
  · rw [cov_X hc (PY_lt ho hy) hp, zf, z5, z6]
  · unfold f_X1_stake
    rw [if_pos hc, z5, z6]
theorem perf_poor (hc : c < 25) (h3 : x_cf s 3 c = nI o) (ho : o < 12) (hy : x_cf s 9 c = -1 ∨ ∃ s2, s2 < 12 ∧ x_cf s 9 c = nI s2) (hq : x_fun s (PY (x_cf s 9 c) o) < stk s c) : f_X6_perform c s = some (5, PX s (up2 (x_cf s) 11 c 0) (x_fun s) (x_nxt s) (x_pai s)) := by
  obtain ⟨p1, p2, p3⟩ := perf_pre hc h3 ho hy (x_fun s) (x_nxt s) (x_pai s) 0
  unfold f_X6_perform
  rw [if_pos hc, PX_0, p2, if_pos hq]
  rfl
theorem perf_ok (hc : c < 25) (h3 : x_cf s 3 c = nI o) (ho : o < 12) (hy : x_cf s 9 c = -1 ∨ ∃ s2, s2 < 12 ∧ x_cf s 9 c = nI s2) (hq : ¬ x_fun s (PY (x_cf s 9 c) o) < stk s c) {wh U : Int32} (hact : f_X6_doActs_2 1000 c 0 (PX s (up2 (x_cf s) 11 c 0) (vp_updL (x_fun s) (PY (x_cf s 9 c) o) (x_fun s (PY (x_cf s 9 c) o) - stk s c)) (upd (x_nxt s) o (x_nxt s o + 1)) (x_pai s)) = some (wh, PX s (up2 (x_cf s) 11 c U) f' (upd (x_nxt s) o (x_nxt s o + 1)) (x_pai s))) : f_X6_perform c s = some (if wh = 0 then 1 else 0, PX s (up2 (x_cf s) 11 c U) (vp_updL f' (PY (x_cf s 9 c) o) (f' (PY (x_cf s 9 c) o) + (stk s c - (x_cf s 5 c).toInt64 * U.toInt64))) (upd (x_nxt s) o (x_nxt s o + 1)) (x_pai s + (x_cf s 5 c).toInt64 * U.toInt64)) := by
  obtain ⟨p1, p2, p3⟩ := perf_pre hc h3 ho hy (x_fun s) (x_nxt s) (x_pai s) 0
  obtain ⟨-, -, p4⟩ := perf_pre hc h3 ho hy f' (upd (x_nxt s) o (x_nxt s o + 1)) (x_pai s) U
  have hP := PY_lt ho hy
  generalize PY (x_cf s 9 c) o = P at hq hact p1 p2 hP ⊢
  have hin : inb (nI P) 12 = true := inb_n hP (by decide)
  have hio : inb (nI o) 12 = true := inb_n ho (by decide)
  have e0 : xs_cf s (up2 (x_cf s) 11 c 0) = PX s (up2 (x_cf s) 11 c 0) (x_fun s) (x_nxt s) (x_pai s) := PX_0
  have e1 : xs_nxt (xs_fun (PX s (up2 (x_cf s) 11 c 0) (x_fun s) (x_nxt s) (x_pai s)) (vp_updL (x_fun s) P (x_fun s P - stk s c))) (upd (x_nxt s) o (x_nxt s o + 1)) = PX s (up2 (x_cf s) 11 c 0) (vp_updL (x_fun s) P (x_fun s P - stk s c)) (upd (x_nxt s) o (x_nxt s o + 1)) (x_pai s) := by rw [PX_sf, PX_sn]
  have q1 : x_fun (PX s (up2 (x_cf s) 11 c U) f' (upd (x_nxt s) o (x_nxt s o + 1)) (x_pai s)) = f' := PX_fun
  have q2 : x_cf (PX s (up2 (x_cf s) 11 c U) f' (upd (x_nxt s) o (x_nxt s o + 1)) (x_pai s)) 5 c = x_cf s 5 c := by rw [PX_cf, up2_nk (by decide)]
  have q3 : x_cf (PX s (up2 (x_cf s) 11 c U) f' (upd (x_nxt s) o (x_nxt s o + 1)) (x_pai s)) 11 c = U := by rw [PX_cf, up2_s]
  have q4 : x_pai (PX s (up2 (x_cf s) 11 c U) f' (upd (x_nxt s) o (x_nxt s o + 1)) (x_pai s)) = x_pai s := PX_pai
  have q5 : ∀ G A, xs_pai (xs_fun (PX s (up2 (x_cf s) 11 c U) f' (upd (x_nxt s) o (x_nxt s o + 1)) (x_pai s)) G) A = PX s (up2 (x_cf s) 11 c U) G (upd (x_nxt s) o (x_nxt s o + 1)) A := fun G A => by rw [PX_sf, PX_sp]
  generalize PX s (up2 (x_cf s) 11 c U) f' (upd (x_nxt s) o (x_nxt s o + 1)) (x_pai s) = Q at hact p4 q1 q2 q3 q4 q5
  unfold f_X6_perform f_X6_doActs
  rw [if_pos hc, e0]
  generalize PX s (up2 (x_cf s) 11 c 0) (x_fun s) (x_nxt s) (x_pai s) = Z at p1 p2 p3 e1 ⊢
  rw [p1, p2, p3, if_neg hq]
  simp only [Option.bind_some, if_neg one0]
  rw [if_pos hin, if_pos hin, up2_nk (show (3 : Nat) ≠ 11 by decide), h3, if_pos hio, if_pos hio, cl_n (show P < 2 ^ 31 by omega), cl_n (show o < 2 ^ 31 by omega), e1, if_pos hc, hact]
  simp only [Option.bind_some]
  rw [if_pos hin, p4]
  simp only [Option.bind_some]
  rw [if_pos hin, q1, q2, q3, q4, q5]
  by_cases hw : wh = 0
  · rw [if_pos hw, if_pos hw]
  · rw [if_neg hw, if_neg hw]
end PE
