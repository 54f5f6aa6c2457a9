/-! ===== a call that is done ===== -/
def PX (u : XS) (cf : Nat → Nat → Int32) (f : Nat → Int64) (nx : Nat → Int32) (pa : Int64) : XS := xs_pai (xs_nxt (xs_fun (xs_cf u cf) f) nx) pa
section PXS
variable {u : XS} {cf C : Nat → Nat → Int32} {f g : Nat → Int64} {nx N : Nat → Int32} {pa A : Int64} {cal : Nat → Int64} {evr : Nat → Int32} {rom : Int32} {bef : Nat → Int64}
theorem PX_cnt : x_cnt (PX u cf f nx pa) = x_cnt u := by dsimp only [PX, xs_pai, xs_nxt, xs_fun, xs_cf, x_cnt]
theorem PX_fun : x_fun (PX u cf f nx pa) = f := by dsimp only [PX, xs_pai, xs_nxt, xs_fun, xs_cf, x_fun]
theorem PX_nxt : x_nxt (PX u cf f nx pa) = nx := by dsimp only [PX, xs_pai, xs_nxt, xs_fun, xs_cf, x_nxt]
theorem PX_kys : x_kys (PX u cf f nx pa) = x_kys u := by dsimp only [PX, xs_pai, xs_nxt, xs_fun, xs_cf, x_kys]
theorem PX_thr : x_thr (PX u cf f nx pa) = x_thr u := by dsimp only [PX, xs_pai, xs_nxt, xs_fun, xs_cf, x_thr]
theorem PX_sgc : x_sgc (PX u cf f nx pa) = x_sgc u := by dsimp only [PX, xs_pai, xs_nxt, xs_fun, xs_cf, x_sgc]
theorem PX_sky : x_sky (PX u cf f nx pa) = x_sky u := by dsimp only [PX, xs_pai, xs_nxt, xs_fun, xs_cf, x_sky]
theorem PX_sdg : x_sdg (PX u cf f nx pa) = x_sdg u := by dsimp only [PX, xs_pai, xs_nxt, xs_fun, xs_cf, x_sdg]
theorem PX_row : x_row (PX u cf f nx pa) = x_row u := by dsimp only [PX, xs_pai, xs_nxt, xs_fun, xs_cf, x_row]
theorem PX_the : x_the (PX u cf f nx pa) = x_the u := by dsimp only [PX, xs_pai, xs_nxt, xs_fun, xs_cf, x_the]
theorem PX_dsg : x_dsg (PX u cf f nx pa) = x_dsg u := by dsimp only [PX, xs_pai, xs_nxt, xs_fun, xs_cf, x_dsg]
theorem PX_add : x_add (PX u cf f nx pa) = x_add u := by dsimp only [PX, xs_pai, xs_nxt, xs_fun, xs_cf, x_add]
theorem PX_rwc : x_rwc (PX u cf f nx pa) = x_rwc u := by dsimp only [PX, xs_pai, xs_nxt, xs_fun, xs_cf, x_rwc]
theorem PX_tik : x_tik (PX u cf f nx pa) = x_tik u := by dsimp only [PX, xs_pai, xs_nxt, xs_fun, xs_cf, x_tik]
theorem PX_stp : x_stp (PX u cf f nx pa) = x_stp u := by dsimp only [PX, xs_pai, xs_nxt, xs_fun, xs_cf, x_stp]
theorem PX_hgt : x_hgt (PX u cf f nx pa) = x_hgt u := by dsimp only [PX, xs_pai, xs_nxt, xs_fun, xs_cf, x_hgt]
theorem PX_pai : x_pai (PX u cf f nx pa) = pa := by dsimp only [PX, xs_pai, xs_nxt, xs_fun, xs_cf, x_pai]
theorem PX_ina : x_ina (PX u cf f nx pa) = x_ina u := by dsimp only [PX, xs_pai, xs_nxt, xs_fun, xs_cf, x_ina]
theorem PX_kep : x_kep (PX u cf f nx pa) = x_kep u := by dsimp only [PX, xs_pai, xs_nxt, xs_fun, xs_cf, x_kep]
theorem PX_nws : x_nws (PX u cf f nx pa) = x_nws u := by dsimp only [PX, xs_pai, xs_nxt, xs_fun, xs_cf, x_nws]
theorem PX_etk : x_etk (PX u cf f nx pa) = x_etk u := by dsimp only [PX, xs_pai, xs_nxt, xs_fun, xs_cf, x_etk]
theorem PX_ewh : x_ewh (PX u cf f nx pa) = x_ewh u := by dsimp only [PX, xs_pai, xs_nxt, xs_fun, xs_cf, x_ewh]
theorem PX_eun : x_eun (PX u cf f nx pa) = x_eun u := by dsimp only [PX, xs_pai, xs_nxt, xs_fun, xs_cf, x_eun]
theorem PX_cf : x_cf (PX u cf f nx pa) = cf := by dsimp only [PX, xs_pai, xs_nxt, xs_fun, xs_cf, x_cf]
theorem PX_rc : x_rc (PX u cf f nx pa) = x_rc u := by dsimp only [PX, xs_pai, xs_nxt, xs_fun, xs_cf, x_rc]
theorem PX_am : x_am (PX u cf f nx pa) = x_am u := by dsimp only [PX, xs_pai, xs_nxt, xs_fun, xs_cf, x_am]
theorem PX_sf : xs_fun (PX u cf f nx pa) g = PX u cf g nx pa := by dsimp only [PX, xs_pai, xs_nxt, xs_fun, xs_cf]
theorem PX_sc : xs_cf (PX u cf f nx pa) C = PX u C f nx pa := by dsimp only [PX, xs_pai, xs_nxt, xs_fun, xs_cf]
theorem PX_sn : xs_nxt (PX u cf f nx pa) N = PX u cf f N pa := by dsimp only [PX, xs_pai, xs_nxt, xs_fun, xs_cf]
theorem PX_sp : xs_pai (PX u cf f nx pa) A = PX u cf f nx A := by dsimp only [PX, xs_pai, xs_nxt, xs_fun, xs_cf]
theorem PX_0 : xs_cf u C = PX u C (x_fun u) (x_nxt u) (x_pai u) := by dsimp only [PX, xs_pai, xs_nxt, xs_fun, xs_cf, x_fun, x_nxt, x_pai]
theorem mk_sf : ms_fun (mk (PX u cf f nx pa) cal evr rom bef) g = mk (PX u cf g nx pa) cal evr rom bef := by dsimp only [PX, xs_pai, xs_nxt, xs_fun, xs_cf, mk, ms_fun, x_cnt, x_fun, x_nxt, x_kys, x_thr, x_sgc, x_sky, x_sdg, x_row, x_the, x_dsg, x_add, x_rwc, x_tik, x_stp, x_hgt, x_pai, x_ina, x_kep, x_nws, x_etk, x_ewh, x_eun, x_cf, x_rc, x_am]
theorem mk_sn : ms_nxt (mk (PX u cf f nx pa) cal evr rom bef) N = mk (PX u cf f N pa) cal evr rom bef := by dsimp only [PX, xs_pai, xs_nxt, xs_fun, xs_cf, mk, ms_nxt, x_cnt, x_fun, x_nxt, x_kys, x_thr, x_sgc, x_sky, x_sdg, x_row, x_the, x_dsg, x_add, x_rwc, x_tik, x_stp, x_hgt, x_pai, x_ina, x_kep, x_nws, x_etk, x_ewh, x_eun, x_cf, x_rc, x_am]
theorem mk_sp : ms_pai (mk (PX u cf f nx pa) cal evr rom bef) A = mk (PX u cf f nx A) cal evr rom bef := by dsimp only [PX, xs_pai, xs_nxt, xs_fun, xs_cf, mk, ms_pai, x_cnt, x_fun, x_nxt, x_kys, x_thr, x_sgc, x_sky, x_sdg, x_row, x_the, x_dsg, x_add, x_rwc, x_tik, x_stp, x_hgt, x_pai, x_ina, x_kep, x_nws, x_etk, x_ewh, x_eun, x_cf, x_rc, x_am]
theorem mk_sr {r : Int32} : ms_rom (mk u cal evr rom bef) r = mk u cal evr r bef := by dsimp only [mk, ms_rom]
theorem mk_sb {b : Nat → Int64} : ms_bef (mk u cal evr rom bef) b = mk u cal evr rom b := by dsimp only [mk, ms_bef]
theorem mk_sc : mk (PX u cf f nx pa) cal evr rom bef = mk (PX u C f nx pa) cal evr rom bef := by dsimp only [PX, xs_pai, xs_nxt, xs_fun, xs_cf, mk, x_cnt, x_fun, x_nxt, x_kys, x_thr, x_sgc, x_sky, x_sdg, x_row, x_the, x_dsg, x_add, x_rwc, x_tik, x_stp, x_hgt, x_pai, x_ina, x_kep, x_nws, x_etk, x_ewh, x_eun, x_cf, x_rc, x_am]
theorem mk_PX : mk u cal evr rom bef = mk (PX u cf (x_fun u) (x_nxt u) (x_pai u)) cal evr rom bef := by dsimp only [PX, xs_pai, xs_nxt, xs_fun, xs_cf, mk, x_cnt, x_fun, x_nxt, x_kys, x_thr, x_sgc, x_sky, x_sdg, x_row, x_the, x_dsg, x_add, x_rwc, x_tik, x_stp, x_hgt, x_pai, x_ina, x_kep, x_nws, x_etk, x_ewh, x_eun, x_cf, x_rc, x_am]
theorem TX_PX (p k : Nat) : TX p k (PX u cf f nx pa) = PX (TX p k u) cf f nx pa := by dsimp only [PX, TX, xs_pai, xs_nxt, xs_fun, xs_cf, xs_row, xs_rwc, x_cnt, x_fun, x_nxt, x_kys, x_thr, x_sgc, x_sky, x_sdg, x_row, x_the, x_dsg, x_add, x_rwc, x_tik, x_stp, x_hgt, x_pai, x_ina, x_kep, x_nws, x_etk, x_ewh, x_eun, x_cf, x_rc, x_am]
end PXS
def mvf (f : Nat → Int64) (o r : Nat) (x : Int64) : Nat → Int64 := vp_updL (vp_updL f o (f o - x)) r ((vp_updL f o (f o - x)) r + x)
theorem mvf_at (f : Nat → Int64) (o r : Nat) (x : Int64) (i : Nat) : mvf f o r x i = f i - (if i = o then x else 0) + (if i = r then x else 0) := by
  unfold mvf
  by_cases h1 : i = r
  · subst h1
    rw [pk_uLs, if_pos rfl]
    by_cases h2 : i = o
    · subst h2
      rw [pk_uLs, if_pos rfl]
    · rw [pk_uLn h2, if_neg h2]
      simp
  · rw [pk_uLn h1, if_neg h1]
    by_cases h2 : i = o
    · subst h2
      rw [pk_uLs, if_pos rfl]
      simp
    · rw [pk_uLn h2, if_neg h2]
      simp
def dlt (o : Nat) (rr : Nat → Nat) (xx : Nat → Int64) (i : Nat) : Nat → Int64
  | 0 => 0
  | j + 1 => dlt o rr xx i j - (if i = o then xx j else 0) + (if i = rr j then xx j else 0)
def fsq (o : Nat) (rr : Nat → Nat) (xx : Nat → Int64) (f : Nat → Int64) : Nat → Nat → Int64
  | 0 => f
  | j + 1 => mvf (fsq o rr xx f j) o (rr j) (xx j)
def usq (o : Nat) (rr : Nat → Nat) (xx : Nat → Int64) (f : Nat → Int64) : Nat → Nat → Int64
  | 0 => f
  | j + 1 => mvf (usq o rr xx f j) (rr j) o (xx j)
theorem fsq_at (o : Nat) (rr : Nat → Nat) (xx : Nat → Int64) (f : Nat → Int64) (j i : Nat) : fsq o rr xx f j i = f i + dlt o rr xx i j := by
  induction j with
  | zero => simp [fsq, dlt]
  | succ j ih =>
    rw [fsq, mvf_at, ih, dlt]
    generalize (if i = o then xx j else 0) = a
    generalize (if i = rr j then xx j else 0) = b
    grind
theorem usq_at (o : Nat) (rr : Nat → Nat) (xx : Nat → Int64) (f : Nat → Int64) (j i : Nat) : usq o rr xx f j i = f i - dlt o rr xx i j := by
  induction j with
  | zero => simp [usq, dlt]
  | succ j ih =>
    rw [usq, mvf_at, ih, dlt]
    generalize (if i = o then xx j else 0) = a
    generalize (if i = rr j then xx j else 0) = b
    grind
theorem undo_all (o : Nat) (rr : Nat → Nat) (xx : Nat → Int64) (f : Nat → Int64) (j : Nat) : usq o rr xx (fsq o rr xx f j) j = f := by
  funext i
  rw [usq_at, fsq_at]
  grind
theorem fsq_hi {o : Nat} {rr : Nat → Nat} {xx : Nat → Int64} {f : Nat → Int64} {a : Nat} (ho : o < 12) (hr : ∀ j, j < a → rr j < 12) : ∀ (j : Nat), j ≤ a → ∀ i, 12 ≤ i → fsq o rr xx f j i = f i := by
  intro j
  induction j with
  | zero => intro _ i _; rfl
  | succ j ih =>
    intro hj i hi
    have := hr j (by omega)
    rw [fsq, mvf_at, if_neg (by omega), if_neg (by omega), ih (by omega) i hi]
    simp
theorem up2_up2 {α : Type} {f : Nat → Nat → α} {k c : Nat} {v w : α} : up2 (up2 f k c v) k c w = up2 f k c w := by
  funext a b
  unfold up2
  by_cases h : a = k ∧ b = c
  · rw [if_pos h, if_pos h]
  · rw [if_neg h, if_neg h, if_neg h]
