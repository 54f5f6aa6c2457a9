section DE
variable {u : XS} {cal : Nat → Int64} {evr : Nat → Int32} {rom : Int32} {bef : Nat → Int64} {k p e T : Nat} {CF RC : Nat → Nat → Int32} {AM : Nat → Nat → Int64} {FU : Nat → Int64} {NT : Nat → Int32} {PA : Int64} {c a o : Nat}
theorem TX_E {e : Nat} (hE : QE e (x_ina u) (x_kep u) (x_nws u) (x_etk u) (x_ewh u) (x_eun u) evr) : QE e (x_ina (TX p k u)) (x_kep (TX p k u)) (x_nws (TX p k u)) (x_etk (TX p k u)) (x_ewh (TX p k u)) (x_eun (TX p k u)) evr := by
  rw [TX_ina, TX_kep, TX_nws, TX_etk, TX_ewh, TX_eun]
  exact hE
theorem noteP (h : PP k e T u cal evr) (tk why U : Int32) (C : Nat → Nat → Int32) (G : Nat → Int64) (N : Nat → Int32) (A : Int64) : f_X3_note tk why U (PX (TX p k u) C G N A) = some (NX tk why U e (PX (TX p k u) C G N A)) := by
  obtain ⟨hT, hA, hS, hD, hW, hE, hN⟩ := h
  exact note_X (show e < 2 ^ 30 by omega) (PX_E (TX_E hE)) _ _ _
theorem FN_eq (h : PP k e T u cal evr) (hp : p < k) (tk why d : Int32) (pr sk : Int64) (U : Int32) (P : Nat) (cf C : Nat → Nat → Int32) (g : Nat → Int64) (nx : Nat → Int32) (pa : Int64) : FN (nI (p + 1)) tk why d pr sk U P u cf g nx pa cal evr rom bef = some (d, mk (NX tk why U e (PX (TX p k u) C (vp_updL g P (g P + (sk - pr * U.toInt64))) nx (pa + pr * U.toInt64))) (CT cal p k) (NE tk why U e evr) (rom - U) bef) := by
  unfold FN
  rw [mk_sc (C := C)]
  exact tail_M h hp tk why U d
theorem tailP (h : PP k e T u cal evr) (hp : p < k) (hCF : x_cf u = CF) (tk why un : Int32) (c : Nat) (V : Int32) (f : Nat → Int64) (nx : Nat → Int32) (pa : Int64) : PP (k - 1) (e + 1) T (NX tk why un e (PX (TX p k u) (up2 CF 11 c V) f nx pa)) (CT cal p k) (NE tk why un e evr) := by
  subst hCF
  exact tail_P h hp tk why un c V
theorem pxu (s : XS) (C : Nat → Nat → Int32) (c : Nat) (U : Int32) (G : Nat → Int64) (N : Nat → Int32) (A : Int64) : x_cf (PX s (up2 C 11 c U) G N A) 10 c = C 10 c ∧ x_cf (PX s (up2 C 11 c U) G N A) 11 c = U ∧ ∀ t w un e, x_cf (NX t w un e (PX s (up2 C 11 c U) G N A)) 11 c = U := by
  have h1 : x_cf (PX s (up2 C 11 c U) G N A) = up2 C 11 c U := PX_cf
  refine ⟨(congrFun (congrFun h1 10) c).trans (up2_nk (by decide)), (congrFun (congrFun h1 11) c).trans up2_s, fun t w un e => ?_⟩
  exact (congrFun (congrFun ((NX_cf t w un e _).trans h1) 11) c).trans up2_s
theorem perf_poorP {s : XS} (hCF : x_cf s = CF) (hFU : x_fun s = FU) (hNT : x_nxt s = NT) (hPA : x_pai s = PA) (hc : c < 25) (h3 : CF 3 c = nI o) (ho : o < 12) (hy : CF 9 c = -1 ∨ ∃ s2, s2 < 12 ∧ CF 9 c = nI s2) (hq : FU (PY (CF 9 c) o) < (CF 5 c).toInt64 * (CF 6 c).toInt64) : f_X6_perform c s = some (5, PX s (up2 CF 11 c 0) FU NT PA) := by
  subst hCF hFU hNT hPA
  exact perf_poor hc h3 ho hy hq
theorem perf_okP {s : XS} {f' : Nat → Int64} (hCF : x_cf s = CF) (hFU : x_fun s = FU) (hNT : x_nxt s = NT) (hPA : x_pai s = PA) (hc : c < 25) (h3 : CF 3 c = nI o) (ho : o < 12) (hy : CF 9 c = -1 ∨ ∃ s2, s2 < 12 ∧ CF 9 c = nI s2) (hq : ¬ FU (PY (CF 9 c) o) < (CF 5 c).toInt64 * (CF 6 c).toInt64) {wh U : Int32} (hact : f_X6_doActs_2 1000 c 0 (PX s (up2 CF 11 c 0) (vp_updL FU (PY (CF 9 c) o) (FU (PY (CF 9 c) o) - (CF 5 c).toInt64 * (CF 6 c).toInt64)) (upd NT o (NT o + 1)) PA) = some (wh, PX s (up2 CF 11 c U) f' (upd NT o (NT o + 1)) PA)) : f_X6_perform c s = some (if wh = 0 then 1 else 0, PX s (up2 CF 11 c U) (vp_updL f' (PY (CF 9 c) o) (f' (PY (CF 9 c) o) + ((CF 5 c).toInt64 * (CF 6 c).toInt64 - (CF 5 c).toInt64 * U.toInt64))) (upd NT o (NT o + 1)) (PA + (CF 5 c).toInt64 * U.toInt64)) := by
  subst hCF hFU hNT hPA
  exact perf_ok hc h3 ho hy hq hact
theorem does_M (hk : p < 24) (hFU : x_fun u = FU) (hNT : x_nxt u = NT) (b0 : cal (17 * (p + 1) + 0) = (CF 3 c).toInt64) (b2 : cal (17 * (p + 1) + 2) = (CF 5 c).toInt64) (b3 : cal (17 * (p + 1) + 3) = (CF 6 c).toInt64) (b6 : cal (17 * (p + 1) + 6) = (CF 9 c).toInt64) (b7 : cal (17 * (p + 1) + 7) = (CF 10 c).toInt64) (h3 : CF 3 c = nI o) (ho : o < 12) (hy : CF 9 c = -1 ∨ ∃ s2, s2 < 12 ∧ CF 9 c = nI s2) : f_X7_does (nI (p + 1)) (mk u cal evr rom bef) = (if (CF 5 c).toInt64 * (CF 6 c).toInt64 ≤ FU (PY (CF 9 c) o) then f_X7_does_119 1000 (nI (p + 1)) (nI (17 * (p + 1))) (nI o) (nI (PY (CF 9 c) o)) (CF 10 c) (CF 5 c).toInt64 ((CF 5 c).toInt64 * (CF 6 c).toInt64) 0 (ms_nxt (ms_fun (mk u cal evr rom bef) (vp_updL FU (PY (CF 9 c) o) (FU (PY (CF 9 c) o) - (CF 5 c).toInt64 * (CF 6 c).toInt64))) (upd NT o (NT o + 1))) else ((f_X7_comes (CF 10 c) 5 0 (mk u cal evr rom bef)).bind fun q_13 => ((f_X7_takeOut (nI (p + 1)) q_13).bind fun q_14 => some ((0 : Int32), q_14)))) := by
  have hP := PY_lt ho hy
  have i1 : ∀ (j : Nat) (J : Int32), J = nI j → (17 : Int32) * nI (p + 1) + J = nI (17 * (p + 1) + j) := fun j J hJ => ixw (p + 1) j J hJ
  have mf : m_fun (mk u cal evr rom bef) = FU := hFU
  have mn : m_nxt (mk u cal evr rom bef) = NT := hNT
  have mc : m_cal (mk u cal evr rom bef) = cal := rfl
  unfold f_X7_does
  generalize mk u cal evr rom bef = v at mf mn mc ⊢
  have hio : inb (nI o) 12 = true := inb_n ho (by decide)
  have hin : inb (nI (PY (CF 9 c) o)) 12 = true := inb_n hP (by decide)
  rw [i1 0 0 rfl, i1 6 6 rfl, i1 7 7 rfl, i1 2 2 rfl, i1 3 3 rfl, if_pos (inw (by omega) (by decide)), if_pos (inw (by omega) (by decide)), cl_n (show 17 * (p + 1) + 0 < 2 ^ 31 by omega), cl_n (show 17 * (p + 1) + 6 < 2 ^ 31 by omega), cl_n (show 17 * (p + 1) + 7 < 2 ^ 31 by omega), cl_n (show 17 * (p + 1) + 2 < 2 ^ 31 by omega), cl_n (show 17 * (p + 1) + 3 < 2 ^ 31 by omega), mc, b0, b6, b7, b2, b3, i64_32, i64_32, h3, pay_M hy]
  simp only [Option.bind_some]
  rw [if_pos (inw (by omega) (by decide)), if_pos (inw (by omega) (by decide)), if_pos (inw (by omega) (by decide)), if_pos hin, if_pos hin, if_pos hin, if_pos hio, if_pos hio, cl_n (show PY (CF 9 c) o < 2 ^ 31 by omega), cl_n (show o < 2 ^ 31 by omega), mf, mn, show (17 : Int32) * nI (p + 1) = nI (17 * (p + 1)) from pk_mul 17 (p + 1)]
theorem does_core (h : PP k e T u cal evr) (hp : p < k) (hk : k ≤ 24) (hCF : x_cf u = CF) (hRC : x_rc u = RC) (hAM : x_am u = AM) (hFU : x_fun u = FU) (hNT : x_nxt u = NT) (hPA : x_pai u = PA) (hc : c < 25) (ha : a ≤ 4) (ea : CF 2 c = nI a) (h3 : CF 3 c = nI o) (ho : o < 12) (hy : CF 9 c = -1 ∨ ∃ s2, s2 < 12 ∧ CF 9 c = nI s2) (b0 : cal (17 * (p + 1) + 0) = (CF 3 c).toInt64) (b2 : cal (17 * (p + 1) + 2) = (CF 5 c).toInt64) (b3 : cal (17 * (p + 1) + 3) = (CF 6 c).toInt64) (b6 : cal (17 * (p + 1) + 6) = (CF 9 c).toInt64) (b7 : cal (17 * (p + 1) + 7) = (CF 10 c).toInt64) (b8 : cal (17 * (p + 1) + 8) = lN a) (hd : ∀ j, j < a → ∃ j', j' < 12 ∧ RC c j = nI j' ∧ cal (17 * (p + 1) + (9 + 2 * j)) = lN j' ∧ cal (17 * (p + 1) + (10 + 2 * j)) = AM c j) : ∃ (why d U : Int32) (s2 s3 : XS) (cal' : Nat → Int64) (evr' : Nat → Int32) (bef' : Nat → Int64), f_X6_perform c (TX p k u) = some (why, s2) ∧ x_cf s2 10 c = CF 10 c ∧ x_cf s2 11 c = U ∧ x_cf s3 11 c = U ∧ f_X3_note (CF 10 c) why U s2 = some s3 ∧ f_X7_does (nI (p + 1)) (mk u cal evr rom bef) = some (d, mk s3 cal' evr' (rom - U) bef') ∧ ((why = 0 ∧ d = 1) ∨ (¬ why = 0 ∧ d = 0)) ∧ PP (k - 1) (e + 1) T s3 cal' evr' := by
  have hP := PY_lt ho hy
  have tCF : x_cf (TX p k u) = CF := (TX_cf p k u).trans hCF
  have tRC : x_rc (TX p k u) = RC := (TX_rc p k u).trans hRC
  have tAM : x_am (TX p k u) = AM := (TX_am p k u).trans hAM
  have tFU : x_fun (TX p k u) = FU := (TX_fun p k u).trans hFU
  have tNT : x_nxt (TX p k u) = NT := (TX_nxt p k u).trans hNT
  have tPA : x_pai (TX p k u) = PA := (TX_pai p k u).trans hPA
  rw [does_M (rom := rom) (bef := bef) (evr := evr) (by omega) hFU hNT b0 b2 b3 b6 b7 h3 ho hy]
  have hAT : AT (TX p k u) CF cal c a o (p + 1) (fun j => Int32.toNatClampNeg (RC c j)) (AM c) := by
    unfold AT
    rw [tRC, tAM]
    refine ⟨hc, ha, ho, by omega, ea, h3, b8, b3, fun j hj => ?_⟩
    obtain ⟨j', hj', z1, z2, z3⟩ := hd j hj
    have zz : Int32.toNatClampNeg (RC c j) = j' := by
      rw [z1]
      exact cl_n (by omega)
    refine ⟨?_, ?_, rfl, ?_, z3⟩
    · show Int32.toNatClampNeg (RC c j) < 12
      rw [zz]; exact hj'
    · show RC c j = nI (Int32.toNatClampNeg (RC c j))
      rw [zz]; exact z1
    · show _ = lN (Int32.toNatClampNeg (RC c j))
      rw [zz]; exact z2
  have mPX : ∀ C, mk u cal evr rom bef = mk (PX u C FU NT PA) cal evr rom bef := by
    intro C
    rw [← hFU, ← hNT, ← hPA]
    exact mk_PX
  by_cases hq : FU (PY (CF 9 c) o) < (CF 5 c).toInt64 * (CF 6 c).toInt64
  · have hx := perf_poorP (s := TX p k u) tCF tFU tNT tPA hc h3 ho hy hq
    obtain ⟨u1, u2, u3⟩ := pxu (TX p k u) CF c 0 FU NT PA
    refine ⟨5, 0, 0, _, _, _, _, bef, hx, u1, u2, u3 _ _ _ _, noteP h _ 5 0 _ _ _ _, ?_, Or.inr ⟨by decide, rfl⟩, tailP h hp hCF _ _ _ _ _ _ _ _⟩
    rw [if_neg (Int64.not_le.mpr hq), mPX (up2 CF 11 c 0), tail_M h hp, show rom - (0 : Int32) = rom by simp]
  · rw [if_pos (Int64.not_lt.mp hq), mPX CF, mk_sf, mk_sn]
    generalize hF : vp_updL FU (PY (CF 9 c) o) (FU (PY (CF 9 c) o) - (CF 5 c).toInt64 * (CF 6 c).toInt64) = F1
    generalize hN1 : upd NT o (NT o + 1) = N1
    have hb := bef_loop (cal := cal) (evr := evr) (rom := rom) (bef := bef) (PX u CF F1 N1 PA) (nI (p + 1)) (nI (17 * (p + 1))) (nI o) (nI (PY (CF 9 c) o)) (CF 10 c) (CF 5 c).toInt64 ((CF 5 c).toInt64 * (CF 6 c).toInt64) 1000 0 0 (mk (PX u CF F1 N1 PA) cal evr rom bef) rfl (by
      have : (fun a => if a < 0 then x_fun (PX u CF F1 N1 PA) a else bef a) = bef := by
        funext a
        rw [if_neg (by omega)]
      rw [this]) (by omega) (by omega)
    rw [PX_fun] at hb
    rw [hb]
    obtain ⟨wh, fl, U, f', g', x1, m1, hcase⟩ := acts_eq (u := TX p k u) (u2 := u) (f := F1) (nx := N1) (pa := PA) (evr := evr) (rom := rom) (bef := bfT F1 bef) hAT (nI (p + 1)) (nI (PY (CF 9 c) o)) (CF 10 c) (CF 5 c).toInt64 ((CF 5 c).toInt64 * (CF 6 c).toInt64) a 1000 1000 0 0 0 0 (PX (TX p k u) (up2 CF 11 c 0) F1 N1 PA) (mk (PX u CF F1 N1 PA) cal evr rom (bfT F1 bef)) (by omega) (by omega) (by omega) rfl rfl rfl rfl
    have hx := perf_okP (s := TX p k u) (f' := f') (wh := wh) (U := U) tCF tFU tNT tPA hc h3 ho hy hq (by
      rw [hF, hN1]
      exact x1)
    rw [hN1] at hx
    rw [m1]
    rcases hcase with ⟨rfl, rfl, rfl⟩ | ⟨rfl, rfl, rfl, hg⟩
    · rw [if_neg one0] at hx
      obtain ⟨u1, u2, u3⟩ := pxu (TX p k u) CF c U (vp_updL g' (PY (CF 9 c) o) (g' (PY (CF 9 c) o) + ((CF 5 c).toInt64 * (CF 6 c).toInt64 - (CF 5 c).toInt64 * U.toInt64))) N1 (PA + (CF 5 c).toInt64 * U.toInt64)
      refine ⟨0, 1, U, _, _, _, _, bfT F1 bef, hx, u1, u2, u3 _ _ _ _, noteP h _ 0 U _ _ _ _, ?_, Or.inl ⟨rfl, rfl⟩, tailP h hp hCF _ _ _ _ _ _ _ _⟩
      rw [fin0 hP]
      exact FN_eq h hp _ _ _ _ _ _ _ _ _ _ _ _
    · rw [if_pos rfl] at hx
      have hfin := fin1 (u := u) (cf := CF) (g := g') (nx := N1) (pa := PA) (cal := cal) (evr := evr) (rom := rom) (bef := bfT f' bef) hP (nI (p + 1)) (nI (17 * (p + 1))) (nI o) (CF 10 c) (CF 5 c).toInt64 ((CF 5 c).toInt64 * (CF 6 c).toInt64) U 1000 0 0 (mk (PX u CF g' N1 PA) cal evr rom (bfT f' bef)) rfl (by
        have : (fun a => if a < 0 then bfT f' bef a else g' a) = g' := by
          funext a
          rw [if_neg (by omega)]
        rw [this]) (by omega) (by omega)
      have hre : (fun a => if a < 12 then bfT f' bef a else g' a) = f' := by
        funext a
        by_cases h12 : a < 12
        · rw [if_pos h12]
          unfold bfT
          rw [if_pos h12]
        · rw [if_neg h12]
          exact hg a (by omega)
      rw [hre] at hfin
      obtain ⟨u1, u2, u3⟩ := pxu (TX p k u) CF c U (vp_updL f' (PY (CF 9 c) o) (f' (PY (CF 9 c) o) + ((CF 5 c).toInt64 * (CF 6 c).toInt64 - (CF 5 c).toInt64 * U.toInt64))) N1 (PA + (CF 5 c).toInt64 * U.toInt64)
      refine ⟨1, 0, U, _, _, _, _, bfT f' bef, hx, u1, u2, u3 _ _ _ _, noteP h _ 1 U _ _ _ _, ?_, Or.inr ⟨one0, rfl⟩, tailP h hp hCF _ _ _ _ _ _ _ _⟩
      rw [hfin]
      exact FN_eq h hp _ _ _ _ _ _ _ _ _ _ _ _
end DE
