/-! ===== one more waits ===== -/
section AP
variable {n : Nat} {u : XS} {cal : Nat → Int64} {evr : Nat → Int32} {rom : Int32} {bef : Nat → Int64} {k p e t : Nat}
/-- the object c has become like the draft, its first i acts -/
def LK (u : XS) (c i : Nat) (cf rc : Nat → Nat → Int32) (am : Nat → Nat → Int64) : Prop :=
  (∀ f c', c' ≠ c → cf f c' = x_cf u f c') ∧ (∀ f, 3 ≤ f → f ≤ 9 → cf f c = x_cf u f 0) ∧ cf 2 c = nI i ∧ (∀ c', c' ≠ c → rc c' = x_rc u c' ∧ am c' = x_am u c') ∧ ∀ j, j < i → rc c j = x_rc u 0 j ∧ am c j = x_am u 0 j
def UX (u : XS) (cf rc : Nat → Nat → Int32) (am : Nat → Nat → Int64) : XS := xs_am (xs_rc (xs_cf u cf) rc) am
theorem UX_cf {cf rc : Nat → Nat → Int32} {am : Nat → Nat → Int64} : x_cf (UX u cf rc am) = cf := rfl
theorem UX_rc {cf rc : Nat → Nat → Int32} {am : Nat → Nat → Int64} : x_rc (UX u cf rc am) = rc := rfl
theorem UX_am {cf rc : Nat → Nat → Int32} {am : Nat → Nat → Int64} : x_am (UX u cf rc am) = am := rfl
theorem UX_e {cf rc C R : Nat → Nat → Int32} {am A : Nat → Nat → Int64} : xs_cf (xs_am (xs_rc (UX u cf rc am) R) A) C = UX u C R A := by dsimp only [UX, xs_am, xs_rc, xs_cf]
theorem UX_c {cf rc C : Nat → Nat → Int32} {am : Nat → Nat → Int64} : xs_cf (UX u cf rc am) C = UX u C rc am := by dsimp only [UX, xs_am, xs_rc, xs_cf]
theorem UX_0 {C D : Nat → Nat → Int32} : xs_cf (xs_cf u C) D = UX u D (x_rc u) (x_am u) := by dsimp only [UX, xs_am, xs_rc, xs_cf, x_rc, x_am]
theorem UX_tik {cf rc : Nat → Nat → Int32} {am : Nat → Nat → Int64} : x_tik (UX u cf rc am) = x_tik u := by dsimp only [UX, xs_am, xs_rc, xs_cf, x_tik]
theorem UX_rwc {cf rc : Nat → Nat → Int32} {am : Nat → Nat → Int64} : x_rwc (UX u cf rc am) = x_rwc u := by dsimp only [UX, xs_am, xs_rc, xs_cf, x_rwc]
theorem mk_app {cf rc : Nat → Nat → Int32} {am : Nat → Nat → Int64} {c : Nat → Int64} {a b : Int32} : ms_tik (ms_cal (ms_wts (mk u cal evr rom bef) a) c) b = mk (xs_tik (xs_rwc (UX u cf rc am) a) b) c evr rom bef := by dsimp only [mk, ms_tik, ms_cal, ms_wts, UX, xs_tik, xs_rwc, xs_am, xs_rc, xs_cf, x_cnt, x_fun, x_nxt, x_kys, x_thr, x_sgc, x_sky, x_sdg, x_row, x_the, x_dsg, x_add, x_rwc, x_tik, x_stp, x_hgt, x_pai, x_ina, x_kep, x_nws, x_etk, x_ewh, x_eun, x_cf, x_rc, x_am]
end AP
