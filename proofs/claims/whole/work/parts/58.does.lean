/-! ===== a call that is taken ===== -/
section DO
variable {u : XS} {cf : Nat → Nat → Int32} {f g : Nat → Int64} {nx : Nat → Int32} {pa : Int64} {cal : Nat → Int64} {evr : Nat → Int32} {rom : Int32} {bef : Nat → Int64} {k p e T P : Nat}
theorem upto_step (h f0 : Nat → Int64) (i : Nat) : vp_updL (fun a => if a < i then h a else f0 a) i (h i) = fun a => if a < i + 1 then h a else f0 a := by
  funext x
  show (if x = i then h i else (if x < i then h x else f0 x)) = (if x < i + 1 then h x else f0 x)
  by_cases hx : x = i
  · subst hx
    rw [if_pos rfl, if_pos (by omega)]
  · rw [if_neg hx]
    by_cases hq : x < i
    · rw [if_pos hq, if_pos (by omega)]
    · rw [if_neg hq, if_neg (by omega)]
def bfT (f bef : Nat → Int64) : Nat → Int64 := fun a => if a < 12 then f a else bef a
theorem bef_loop (s : XS) (l1 l2 l3 l4 l5 : Int32) (l6 l8 : Int64) : ∀ (n i : Nat) (l : Int32) (v : MS), l = nI i → v = mk s cal evr rom (fun a => if a < i then x_fun s a else bef a) → i ≤ 12 → 12 < i + n → f_X7_does_119 n l1 l2 l3 l4 l5 l6 l8 l v = f_X7_does_155 1000 l1 l2 l3 l4 l5 l6 l8 0 0 0 (mk s cal evr rom (bfT (x_fun s) bef)) := by
  intro n
  induction n with
  | zero => intro i l v _ _ h1 h2; omega
  | succ n ih =>
    intro i l v el ev h1 h2
    subst el ev
    rw [f_X7_does_119]
    by_cases hi : i = 12
    · subst hi
      rw [if_pos (show (12 : Int32) ≤ nI 12 by decide)]
      rfl
    · have hin : inb (nI i) 12 = true := inb_n (show i < 12 by omega) (by decide)
      rw [if_neg (show ¬ (12 : Int32) ≤ nI i from nI_ge (b := 12) (by omega) (by decide)), if_pos hin, if_pos hin, cl_n (show i < 2 ^ 31 by omega), mk_bef, mk_fun, mk_sb]
      refine ih (i + 1) _ _ (nI_1 i) ?_ (by omega) (by omega)
      rw [upto_step]
/-- the end of the reference's work on a call -/
def FN (l1 l5 : Int32) (why d : Int32) (l6 l8 : Int64) (U : Int32) (P : Nat) (u : XS) (cf : Nat → Nat → Int32) (g : Nat → Int64) (nx : Nat → Int32) (pa : Int64) (cal : Nat → Int64) (evr : Nat → Int32) (rom : Int32) (bef : Nat → Int64) : Option (Int32 × MS) :=
  ((f_X7_comes l5 why U (mk (PX u cf (vp_updL g P (g P + (l8 - (l6 * (Int32.toInt64 U))))) nx (pa + (l6 * (Int32.toInt64 U)))) cal evr (rom - U) bef)).bind fun q => ((f_X7_takeOut l1 q).bind fun q' => some (d, q')))
theorem fin0 (hP : P < 12) (l1 l2 l3 l5 : Int32) (l6 l8 : Int64) (U : Int32) : f_X7_does_298 1000 l1 l2 l3 (nI P) l5 l6 l8 U 0 0 (mk (PX u cf g nx pa) cal evr rom bef) = FN l1 l5 0 1 l6 l8 U P u cf g nx pa cal evr rom bef := by
  show f_X7_does_298 (999 + 1) l1 l2 l3 (nI P) l5 l6 l8 U 0 0 (mk (PX u cf g nx pa) cal evr rom bef) = _
  have hin : inb (nI P) 12 = true := inb_n hP (by decide)
  rw [f_X7_does_298, if_neg (show ¬ (12 : Int32) ≤ 0 by decide), if_pos rfl, if_pos hin, if_pos hin, cl_n (show P < 2 ^ 31 by omega), mk_fun, PX_fun, mk_rom, mk_pai, PX_pai, mk_sf, mk_sr, mk_sp]
  simp only [↓reduceIte]
  unfold FN
  rfl
theorem fin1 (hP : P < 12) (l1 l2 l3 l5 : Int32) (l6 l8 : Int64) (U : Int32) : ∀ (n i : Nat) (l : Int32) (v : MS), l = nI i → v = mk (PX u cf (fun a => if a < i then bef a else g a) nx pa) cal evr rom bef → i ≤ 12 → 12 < i + n → f_X7_does_298 n l1 l2 l3 (nI P) l5 l6 l8 U 1 l v = FN l1 l5 1 0 l6 l8 U P u cf (fun a => if a < 12 then bef a else g a) nx pa cal evr rom bef := by
  have hin : inb (nI P) 12 = true := inb_n hP (by decide)
  intro n
  induction n with
  | zero => intro i l v _ _ h1 h2; omega
  | succ n ih =>
    intro i l v el ev h1 h2
    subst el ev
    rw [f_X7_does_298]
    by_cases hi : i = 12
    · subst hi
      rw [if_pos (show (12 : Int32) ≤ nI 12 by decide), if_pos hin, if_pos hin, if_neg one0, cl_n (show P < 2 ^ 31 by omega), mk_fun, PX_fun, mk_rom, mk_pai, PX_pai, mk_sf, mk_sr, mk_sp]
      simp only [if_neg one0]
      unfold FN
      rfl
    · have hin2 : inb (nI i) 12 = true := inb_n (show i < 12 by omega) (by decide)
      rw [if_neg (show ¬ (12 : Int32) ≤ nI i from nI_ge (b := 12) (by omega) (by decide)), if_neg one0, if_pos hin2, if_pos hin2, cl_n (show i < 2 ^ 31 by omega), mk_fun, PX_fun, mk_bef, mk_sf]
      refine ih (i + 1) _ _ (nI_1 i) ?_ (by omega) (by omega)
      rw [upto_step]
theorem PX_E {e : Nat} (hE : QE e (x_ina u) (x_kep u) (x_nws u) (x_etk u) (x_ewh u) (x_eun u) evr) : QE e (x_ina (PX u cf f nx pa)) (x_kep (PX u cf f nx pa)) (x_nws (PX u cf f nx pa)) (x_etk (PX u cf f nx pa)) (x_ewh (PX u cf f nx pa)) (x_eun (PX u cf f nx pa)) evr := by
  rw [PX_ina, PX_kep, PX_nws, PX_etk, PX_ewh, PX_eun]
  exact hE
theorem tail_M (h : PP k e T u cal evr) (hp : p < k) (tk why un d : Int32) : ((f_X7_comes tk why un (mk (PX u cf f nx pa) cal evr rom bef)).bind fun q => ((f_X7_takeOut (nI (p + 1)) q).bind fun q' => some (d, q'))) = some (d, mk (NX tk why un e (PX (TX p k u) cf f nx pa)) (CT cal p k) (NE tk why un e evr) rom bef) := by
  obtain ⟨hT, hA, hS, hD, hW, hE, hN⟩ := h
  rw [note_M (show e < 2 ^ 30 by omega) (PX_E hE)]
  simp only [Option.bind_some]
  rw [take_M hW.1 (by rw [NX_rwc, PX_rwc]; exact hW.2.1) hp, TXNX, TX_PX]
  rfl
theorem QW.f11 {rwc : Int32} {row : Nat → Nat} {C rc : Nat → Nat → Int32} {am : Nat → Nat → Int64} (h : QW k rwc row C rc am cal) (c : Nat) (x : Int32) : QW k rwc row (up2 C 11 c x) rc am cal := by
  obtain ⟨h1, h2, h3, h4, h5, h6, h7⟩ := h
  refine ⟨h1, h2, h3, h4, h5.congr (fun f hf => up2_nk (by omega)) rfl rfl (fun _ _ => rfl), fun i hi => ⟨(h6 i hi).1.congr (fun f hf => up2_nk (by omega)) rfl rfl (fun _ _ => rfl), ?_⟩, fun i j hi hj e1 e2 => ?_⟩
  · rw [up2_nk (by decide)]
    exact (h6 i hi).2
  · rw [up2_nk (by decide), up2_nk (by decide)] at e1 e2
    exact h7 i j hi hj e1 e2
theorem tail_P (h : PP k e T u cal evr) (hp : p < k) (tk why un : Int32) (c : Nat) (V : Int32) : PP (k - 1) (e + 1) T (NX tk why un e (PX (TX p k u) (up2 (x_cf u) 11 c V) f nx pa)) (CT cal p k) (NE tk why un e evr) := by
  obtain ⟨⟨h1, h2⟩, hA, hS, hD, hW, hE, hN⟩ := h
  refine ⟨⟨by omega, h2⟩, ?_, ?_, ?_, ?_, ?_, ?_⟩
  · rw [NX_cnt, NX_kys, PX_cnt, PX_kys, TX_cnt, TX_kys]; exact hA
  · rw [NX_sgc, PX_sgc, TX_sgc]; exact hS
  · rw [NX_dsg, NX_add, PX_dsg, PX_add, TX_dsg, TX_add]; exact hD
  · have s1 : x_rwc (NX tk why un e (PX (TX p k u) (up2 (x_cf u) 11 c V) f nx pa)) = nI (k - 1) := (NX_rwc _ _ _ _ _).trans (PX_rwc.trans (TX_rwc _ _ _))
    have s2 : x_row (NX tk why un e (PX (TX p k u) (up2 (x_cf u) 11 c V) f nx pa)) = rsT (x_row u) p k := (NX_row _ _ _ _ _).trans (PX_row.trans (TX_row _ _ _))
    have s3 : x_cf (NX tk why un e (PX (TX p k u) (up2 (x_cf u) 11 c V) f nx pa)) = up2 (x_cf u) 11 c V := (NX_cf _ _ _ _ _).trans PX_cf
    have s4 : x_rc (NX tk why un e (PX (TX p k u) (up2 (x_cf u) 11 c V) f nx pa)) = x_rc u := (NX_rc _ _ _ _ _).trans (PX_rc.trans (TX_rc _ _ _))
    have s5 : x_am (NX tk why un e (PX (TX p k u) (up2 (x_cf u) 11 c V) f nx pa)) = x_am u := (NX_am _ _ _ _ _).trans (PX_am.trans (TX_am _ _ _))
    have hq := (take_W hW hp).f11 c V
    generalize NX tk why un e (PX (TX p k u) (up2 (x_cf u) 11 c V) f nx pa) = S at s1 s2 s3 s4 s5 ⊢
    rw [s1, s2, s3, s4, s5]
    exact hq
  · rw [NX_ina, NX_kep, NX_nws, NX_etk, NX_ewh, NX_eun, PX_etk, PX_ewh, PX_eun, TX_etk, TX_ewh, TX_eun]
    exact note_E hE _ _ _
  · rw [NX_tik, NX_stp, PX_tik, PX_stp, TX_tik, TX_stp]; exact hN
def PY (y : Int32) (o : Nat) : Nat := if y = -1 then o else Int32.toNatClampNeg y
theorem PY_lt {y : Int32} {o : Nat} (ho : o < 12) (hy : y = -1 ∨ ∃ s, s < 12 ∧ y = nI s) : PY y o < 12 := by
  unfold PY
  by_cases h : y = -1
  · rw [if_pos h]; exact ho
  · rw [if_neg h]
    rcases hy with q | ⟨s, hs, rfl⟩
    · exact absurd q h
    · rw [cl_n (by omega)]; exact hs
theorem pay_X {s : XS} {c o : Nat} (hc : c < 25) (h3 : x_cf s 3 c = nI o) (hy : x_cf s 9 c = -1 ∨ ∃ s2, s2 < 12 ∧ x_cf s 9 c = nI s2) : f_X1_payer c s = some (nI (PY (x_cf s 9 c) o)) := by
  unfold f_X1_payer PY
  rw [if_pos hc]
  by_cases h : x_cf s 9 c = -1
  · rw [if_pos h, if_pos h, h3]
  · rw [if_neg h, if_neg h]
    rcases hy with q | ⟨s2, hs, q⟩
    · exact absurd q h
    · rw [q, cl_n (by omega)]
theorem pay_M {y : Int32} {o : Nat} (hy : y = -1 ∨ ∃ s, s < 12 ∧ y = nI s) : f_X7_payer (Int32.toInt64 (nI o)) (Int32.toInt64 y) = some (nI (PY y o)) := by
  unfold f_X7_payer PY
  rw [i64_32, i64_32]
  rcases hy with rfl | ⟨s, hs, rfl⟩
  · rw [if_neg (by decide), if_pos rfl]
  · have n1 : ¬ nI s = (-1 : Int32) := fun q => by
      have q2 : (nI s).toInt = (-1 : Int32).toInt := congrArg Int32.toInt q
      rw [nI_toInt (by omega), show (-1 : Int32).toInt = -1 from by decide] at q2
      omega
    rw [nI_l (show s < 2 ^ 31 by omega), if_pos (show (0 : Int64) ≤ lN s from (lN_le (a := 0) (b := s) (by omega) (by omega)).mpr (Nat.zero_le _)), if_neg n1, cl_n (by omega)]
theorem cov_X {s : XS} {c : Nat} (hc : c < 25) (hP : P < 12) (hp : f_X1_payer c s = some (nI P)) : f_X6_coversStake c s = some (if x_fun s P < (x_cf s 5 c).toInt64 * (x_cf s 6 c).toInt64 then 0 else 1) := by
  unfold f_X6_coversStake f_X1_stake
  rw [if_pos hc, hp, if_pos hc]
  simp only [Option.bind_some]
  rw [if_pos (inb_n hP (by decide)), cl_n (by omega)]
  by_cases h : x_fun s P < (x_cf s 5 c).toInt64 * (x_cf s 6 c).toInt64
  · rw [if_pos h, if_pos h]
  · rw [if_neg h, if_neg h]
end DO
