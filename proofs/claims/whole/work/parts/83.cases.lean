theorem cL13 : Cond.constantLong RL 13 4294967295 ∈ wsL_law := List.mem_append_left _ (List.mem_append_left _ (List.mem_append_left _ (List.mem_append_left _ (List.mem_append_left _ (List.mem_append_left _ (List.mem_append_left _ (List.mem_append_left _ (List.mem_append_left _ (List.mem_append_left _ (List.mem_of_getElem? (i := 6) rfl))))))))))
section LAWC
variable {p : Program} {l : Launch} {e : Env} {s : State} {m : MethodId} {below : List Frame} {meth : Method} {c : Code} {H : Heap} {locs : List Loc} {cells slots : Nat} {Q : State → Prop} {ls : Array Slot} {D : va_G} {aX aM : Nat → Nat} {cI cJ cR : ClassId} {b L : Nat} {xs : Nat → Int32} {n : Nat} {u : XS} {cal : Nat → Int64} {evr : Nat → Int32} {rom : Int32} {bef : Nat → Int64} {x : Int32}
theorem cs_0 (C : CallFix p m c cL_law 4 s #[Value.ref b] wsL_law RL) (hF : LFix D aX aM cI cJ cR s b L xs) (hc : cells + 0 ≤ room_1.cells ∧ slots + 0 ≤ room_1.slots) (hn5 : n ≤ 512) (hI : Inv n u cal evr) (hw : LW D aX aM cI cJ cR s H locs u (mk u cal evr rom bef)) (h1 : vp_in (x + 1) L) (h2 : vp_in (x + 2) L) (h3 : vp_in (x + 3) L) (h4 : vp_in (x + 4) L) (hl : lv_has ls 4 [(0, .ref b), (1, .ref (aX 0)), (2, .ref (aM 0)), (3, .int x)]) (kk : ∀ (u1 : XS) (cal1 : Nat → Int64) (evr1 : Nat → Int32) (rom1 : Int32) (bef1 : Nat → Int64) (H1 : Heap) (locs1 : List Loc), Inv (n + 1) u1 cal1 evr1 → LW D aX aM cI cJ cR s H1 locs1 u1 (mk u1 cal1 evr1 rom1 bef1) → W p l e room_1 s m #[Value.ref b] below meth c H1 locs1 cells slots Q (F0 m 734 ls [])) : W p l e room_1 s m #[Value.ref b] below meth c H locs cells slots Q (F0 m 124 ls []) := by
  obtain ⟨r, u1, cal1, evr1, rom1, bef1, e1, e2, hI1⟩ := op_account (rom := rom) (bef := bef) hI (((Int32.toInt64 (xs (Int32.toNatClampNeg (x + (1 : Int32))))) <<< (Int32.toInt64 (32 : Int32) &&& 63)) ||| ((Int32.toInt64 (xs (Int32.toNatClampNeg (x + (2 : Int32))))) &&& (4294967295 : Int64))) (xs (Int32.toNatClampNeg (x + (3 : Int32)))) (xs (Int32.toNatClampNeg (x + (4 : Int32))))
  refine lv_aload_n C.1 C.2.1 dL_law_124 rfl (lv_at hl 1 rfl) ?_
  refine lv_aload_n C.1 C.2.1 dL_law_125 rfl (lv_at hl 0 rfl) ?_
  refine lv_iload_n C.1 C.2.1 dL_law_126 rfl (lv_at hl 3 rfl) ?_
  refine lv_iconst (v := 1) C.1 C.2.1 dL_law_127 (by decide) ?_
  refine lv_iadd C.1 C.2.1 dL_law_128 ?_
  refine va_sld (A := AL s) C.1 C.2.1 hF.2.1 hF.2.2.1 (Nat.not_le.mpr hF.2.2.1) hw.2.2.2.2 h1 dL_law_129 ?_
  refine lv_i2l C.1 C.2.1 dL_law_130 rfl ?_
  refine lv_bipush (v := 32) C.1 C.2.1 dL_law_131 (by decide) ?_
  refine lv_lshl C.1 C.2.1 dL_law_133 rfl ?_
  refine lv_aload_n C.1 C.2.1 dL_law_134 rfl (lv_at hl 0 rfl) ?_
  refine lv_iload_n C.1 C.2.1 dL_law_135 rfl (lv_at hl 3 rfl) ?_
  refine lv_iconst (v := 2) C.1 C.2.1 dL_law_136 (by decide) ?_
  refine lv_iadd C.1 C.2.1 dL_law_137 ?_
  refine va_sld (A := AL s) C.1 C.2.1 hF.2.1 hF.2.2.1 (Nat.not_le.mpr hF.2.2.1) hw.2.2.2.2 h2 dL_law_138 ?_
  refine lv_i2l C.1 C.2.1 dL_law_139 rfl ?_
  refine lv_ldc2 (v := 4294967295) C.1 C.2.1 C.2.2.2.1 (C.2.2.2.2 _ cL13) dL_law_140 ?_
  refine lv_land C.1 C.2.1 dL_law_143 ?_
  refine lv_lor C.1 C.2.1 dL_law_144 ?_
  refine lv_aload_n C.1 C.2.1 dL_law_145 rfl (lv_at hl 0 rfl) ?_
  refine lv_iload_n C.1 C.2.1 dL_law_146 rfl (lv_at hl 3 rfl) ?_
  refine lv_iconst (v := 3) C.1 C.2.1 dL_law_147 (by decide) ?_
  refine lv_iadd C.1 C.2.1 dL_law_148 ?_
  refine va_sld (A := AL s) C.1 C.2.1 hF.2.1 hF.2.2.1 (Nat.not_le.mpr hF.2.2.1) hw.2.2.2.2 h3 dL_law_149 ?_
  refine lv_aload_n C.1 C.2.1 dL_law_150 rfl (lv_at hl 0 rfl) ?_
  refine lv_iload_n C.1 C.2.1 dL_law_151 rfl (lv_at hl 3 rfl) ?_
  refine lv_iconst (v := 4) C.1 C.2.1 dL_law_152 (by decide) ?_
  refine lv_iadd C.1 C.2.1 dL_law_153 ?_
  refine va_sld (A := AL s) C.1 C.2.1 hF.2.1 hF.2.2.1 (Nat.not_le.mpr hF.2.2.1) hw.2.2.2.2 h4 dL_law_154 ?_
  refine lXVi (As := [.long (((Int32.toInt64 (xs (Int32.toNatClampNeg (x + (1 : Int32))))) <<< (Int32.toInt64 (32 : Int32) &&& 63)) ||| ((Int32.toInt64 (xs (Int32.toNatClampNeg (x + (2 : Int32))))) &&& (4294967295 : Int64))), .int (xs (Int32.toNatClampNeg (x + (3 : Int32)))), .int (xs (Int32.toNatClampNeg (x + (4 : Int32))))]) (rest := []) C hF hc hw (k_X6_account l D aX cI cJ cR u (((Int32.toInt64 (xs (Int32.toNatClampNeg (x + (1 : Int32))))) <<< (Int32.toInt64 (32 : Int32) &&& 63)) ||| ((Int32.toInt64 (xs (Int32.toNatClampNeg (x + (2 : Int32))))) &&& (4294967295 : Int64))) (xs (Int32.toNatClampNeg (x + (3 : Int32)))) (xs (Int32.toNatClampNeg (x + (4 : Int32)))) r u1 e1) (cwV 3 C.2.2.2.2 gL_law_X6_account rfl rfl rfl (by decide +kernel) ⟨Nat.le_of_ble_eq_true rfl, Nat.le_of_ble_eq_true rfl⟩) rfl hl.1 rfl (Nat.le_of_ble_eq_true rfl) dL_law_155 (fun H locs hw => ?_)
  refine lv_aload_n C.1 C.2.1 dL_law_158 rfl (lv_at hl 2 rfl) ?_
  refine lv_aload_n C.1 C.2.1 dL_law_159 rfl (lv_at hl 0 rfl) ?_
  refine lv_iload_n C.1 C.2.1 dL_law_160 rfl (lv_at hl 3 rfl) ?_
  refine lv_iconst (v := 1) C.1 C.2.1 dL_law_161 (by decide) ?_
  refine lv_iadd C.1 C.2.1 dL_law_162 ?_
  refine va_sld (A := AL s) C.1 C.2.1 hF.2.1 hF.2.2.1 (Nat.not_le.mpr hF.2.2.1) hw.2.2.2.2 h1 dL_law_163 ?_
  refine lv_i2l C.1 C.2.1 dL_law_164 rfl ?_
  refine lv_bipush (v := 32) C.1 C.2.1 dL_law_165 (by decide) ?_
  refine lv_lshl C.1 C.2.1 dL_law_167 rfl ?_
  refine lv_aload_n C.1 C.2.1 dL_law_168 rfl (lv_at hl 0 rfl) ?_
  refine lv_iload_n C.1 C.2.1 dL_law_169 rfl (lv_at hl 3 rfl) ?_
  refine lv_iconst (v := 2) C.1 C.2.1 dL_law_170 (by decide) ?_
  refine lv_iadd C.1 C.2.1 dL_law_171 ?_
  refine va_sld (A := AL s) C.1 C.2.1 hF.2.1 hF.2.2.1 (Nat.not_le.mpr hF.2.2.1) hw.2.2.2.2 h2 dL_law_172 ?_
  refine lv_i2l C.1 C.2.1 dL_law_173 rfl ?_
  refine lv_ldc2 (v := 4294967295) C.1 C.2.1 C.2.2.2.1 (C.2.2.2.2 _ cL13) dL_law_174 ?_
  refine lv_land C.1 C.2.1 dL_law_177 ?_
  refine lv_lor C.1 C.2.1 dL_law_178 ?_
  refine lv_aload_n C.1 C.2.1 dL_law_179 rfl (lv_at hl 0 rfl) ?_
  refine lv_iload_n C.1 C.2.1 dL_law_180 rfl (lv_at hl 3 rfl) ?_
  refine lv_iconst (v := 3) C.1 C.2.1 dL_law_181 (by decide) ?_
  refine lv_iadd C.1 C.2.1 dL_law_182 ?_
  refine va_sld (A := AL s) C.1 C.2.1 hF.2.1 hF.2.2.1 (Nat.not_le.mpr hF.2.2.1) hw.2.2.2.2 h3 dL_law_183 ?_
  refine lv_aload_n C.1 C.2.1 dL_law_184 rfl (lv_at hl 0 rfl) ?_
  refine lv_iload_n C.1 C.2.1 dL_law_185 rfl (lv_at hl 3 rfl) ?_
  refine lv_iconst (v := 4) C.1 C.2.1 dL_law_186 (by decide) ?_
  refine lv_iadd C.1 C.2.1 dL_law_187 ?_
  refine va_sld (A := AL s) C.1 C.2.1 hF.2.1 hF.2.2.1 (Nat.not_le.mpr hF.2.2.1) hw.2.2.2.2 h4 dL_law_188 ?_
  refine lMVi (As := [.long (((Int32.toInt64 (xs (Int32.toNatClampNeg (x + (1 : Int32))))) <<< (Int32.toInt64 (32 : Int32) &&& 63)) ||| ((Int32.toInt64 (xs (Int32.toNatClampNeg (x + (2 : Int32))))) &&& (4294967295 : Int64))), .int (xs (Int32.toNatClampNeg (x + (3 : Int32)))), .int (xs (Int32.toNatClampNeg (x + (4 : Int32))))]) (rest := [.int r]) C hF hc hw (k_X7_account l D aM cI cJ (mk u cal evr rom bef) (((Int32.toInt64 (xs (Int32.toNatClampNeg (x + (1 : Int32))))) <<< (Int32.toInt64 (32 : Int32) &&& 63)) ||| ((Int32.toInt64 (xs (Int32.toNatClampNeg (x + (2 : Int32))))) &&& (4294967295 : Int64))) (xs (Int32.toNatClampNeg (x + (3 : Int32)))) (xs (Int32.toNatClampNeg (x + (4 : Int32)))) r (mk u1 cal1 evr1 rom1 bef1) e2) (cwV 3 C.2.2.2.2 gL_law_X7_account rfl rfl rfl (by decide +kernel) ⟨Nat.le_of_ble_eq_true rfl, Nat.le_of_ble_eq_true rfl⟩) rfl hl.1 rfl (Nat.le_of_ble_eq_true rfl) dL_law_189 (fun H locs hw => ?_)
  refine lv_icmp_eq (tgt := 734) C.1 C.2.1 dL_law_192 (by decide) (fun _ => ?_) (fun z => absurd rfl z)
  exact kk u1 cal1 evr1 rom1 bef1 H locs hI1 hw
theorem cs_1 (C : CallFix p m c cL_law 4 s #[Value.ref b] wsL_law RL) (hF : LFix D aX aM cI cJ cR s b L xs) (hc : cells + 0 ≤ room_1.cells ∧ slots + 0 ≤ room_1.slots) (hn5 : n ≤ 512) (hI : Inv n u cal evr) (hw : LW D aX aM cI cJ cR s H locs u (mk u cal evr rom bef)) (h1 : vp_in (x + 1) L) (h2 : vp_in (x + 2) L) (h3 : vp_in (x + 3) L) (h4 : vp_in (x + 4) L) (hl : lv_has ls 4 [(0, .ref b), (1, .ref (aX 0)), (2, .ref (aM 0)), (3, .int x)]) (kk : ∀ (u1 : XS) (cal1 : Nat → Int64) (evr1 : Nat → Int32) (rom1 : Int32) (bef1 : Nat → Int64) (H1 : Heap) (locs1 : List Loc), Inv (n + 1) u1 cal1 evr1 → LW D aX aM cI cJ cR s H1 locs1 u1 (mk u1 cal1 evr1 rom1 bef1) → W p l e room_1 s m #[Value.ref b] below meth c H1 locs1 cells slots Q (F0 m 734 ls [])) : W p l e room_1 s m #[Value.ref b] below meth c H locs cells slots Q (F0 m 197 ls []) := by
  obtain ⟨r, u1, cal1, evr1, rom1, bef1, e1, e2, hI1⟩ := op_lock (rom := rom) (bef := bef) hI (xs (Int32.toNatClampNeg (x + (1 : Int32)))) (xs (Int32.toNatClampNeg (x + (2 : Int32)))) (xs (Int32.toNatClampNeg (x + (3 : Int32))))
  refine lv_aload_n C.1 C.2.1 dL_law_197 rfl (lv_at hl 1 rfl) ?_
  refine lv_aload_n C.1 C.2.1 dL_law_198 rfl (lv_at hl 0 rfl) ?_
  refine lv_iload_n C.1 C.2.1 dL_law_199 rfl (lv_at hl 3 rfl) ?_
  refine lv_iconst (v := 1) C.1 C.2.1 dL_law_200 (by decide) ?_
  refine lv_iadd C.1 C.2.1 dL_law_201 ?_
  refine va_sld (A := AL s) C.1 C.2.1 hF.2.1 hF.2.2.1 (Nat.not_le.mpr hF.2.2.1) hw.2.2.2.2 h1 dL_law_202 ?_
  refine lv_aload_n C.1 C.2.1 dL_law_203 rfl (lv_at hl 0 rfl) ?_
  refine lv_iload_n C.1 C.2.1 dL_law_204 rfl (lv_at hl 3 rfl) ?_
  refine lv_iconst (v := 2) C.1 C.2.1 dL_law_205 (by decide) ?_
  refine lv_iadd C.1 C.2.1 dL_law_206 ?_
  refine va_sld (A := AL s) C.1 C.2.1 hF.2.1 hF.2.2.1 (Nat.not_le.mpr hF.2.2.1) hw.2.2.2.2 h2 dL_law_207 ?_
  refine lv_aload_n C.1 C.2.1 dL_law_208 rfl (lv_at hl 0 rfl) ?_
  refine lv_iload_n C.1 C.2.1 dL_law_209 rfl (lv_at hl 3 rfl) ?_
  refine lv_iconst (v := 3) C.1 C.2.1 dL_law_210 (by decide) ?_
  refine lv_iadd C.1 C.2.1 dL_law_211 ?_
  refine va_sld (A := AL s) C.1 C.2.1 hF.2.1 hF.2.2.1 (Nat.not_le.mpr hF.2.2.1) hw.2.2.2.2 h3 dL_law_212 ?_
  refine lXVi (As := [.int (xs (Int32.toNatClampNeg (x + (1 : Int32)))), .int (xs (Int32.toNatClampNeg (x + (2 : Int32)))), .int (xs (Int32.toNatClampNeg (x + (3 : Int32))))]) (rest := []) C hF hc hw (k_X6_lock l D aX cI cJ cR u (xs (Int32.toNatClampNeg (x + (1 : Int32)))) (xs (Int32.toNatClampNeg (x + (2 : Int32)))) (xs (Int32.toNatClampNeg (x + (3 : Int32)))) r u1 e1) (cwV 3 C.2.2.2.2 gL_law_X6_lock rfl rfl rfl (by decide +kernel) ⟨Nat.le_of_ble_eq_true rfl, Nat.le_of_ble_eq_true rfl⟩) rfl hl.1 rfl (Nat.le_of_ble_eq_true rfl) dL_law_213 (fun H locs hw => ?_)
  refine lv_aload_n C.1 C.2.1 dL_law_216 rfl (lv_at hl 2 rfl) ?_
  refine lv_aload_n C.1 C.2.1 dL_law_217 rfl (lv_at hl 0 rfl) ?_
  refine lv_iload_n C.1 C.2.1 dL_law_218 rfl (lv_at hl 3 rfl) ?_
  refine lv_iconst (v := 1) C.1 C.2.1 dL_law_219 (by decide) ?_
  refine lv_iadd C.1 C.2.1 dL_law_220 ?_
  refine va_sld (A := AL s) C.1 C.2.1 hF.2.1 hF.2.2.1 (Nat.not_le.mpr hF.2.2.1) hw.2.2.2.2 h1 dL_law_221 ?_
  refine lv_aload_n C.1 C.2.1 dL_law_222 rfl (lv_at hl 0 rfl) ?_
  refine lv_iload_n C.1 C.2.1 dL_law_223 rfl (lv_at hl 3 rfl) ?_
  refine lv_iconst (v := 2) C.1 C.2.1 dL_law_224 (by decide) ?_
  refine lv_iadd C.1 C.2.1 dL_law_225 ?_
  refine va_sld (A := AL s) C.1 C.2.1 hF.2.1 hF.2.2.1 (Nat.not_le.mpr hF.2.2.1) hw.2.2.2.2 h2 dL_law_226 ?_
  refine lv_aload_n C.1 C.2.1 dL_law_227 rfl (lv_at hl 0 rfl) ?_
  refine lv_iload_n C.1 C.2.1 dL_law_228 rfl (lv_at hl 3 rfl) ?_
  refine lv_iconst (v := 3) C.1 C.2.1 dL_law_229 (by decide) ?_
  refine lv_iadd C.1 C.2.1 dL_law_230 ?_
  refine va_sld (A := AL s) C.1 C.2.1 hF.2.1 hF.2.2.1 (Nat.not_le.mpr hF.2.2.1) hw.2.2.2.2 h3 dL_law_231 ?_
  refine lMVi (As := [.int (xs (Int32.toNatClampNeg (x + (1 : Int32)))), .int (xs (Int32.toNatClampNeg (x + (2 : Int32)))), .int (xs (Int32.toNatClampNeg (x + (3 : Int32))))]) (rest := [.int r]) C hF hc hw (k_X7_lock l D aM cI cJ (mk u cal evr rom bef) (xs (Int32.toNatClampNeg (x + (1 : Int32)))) (xs (Int32.toNatClampNeg (x + (2 : Int32)))) (xs (Int32.toNatClampNeg (x + (3 : Int32)))) r (mk u1 cal1 evr1 rom1 bef1) e2) (cwV 3 C.2.2.2.2 gL_law_X7_lock rfl rfl rfl (by decide +kernel) ⟨Nat.le_of_ble_eq_true rfl, Nat.le_of_ble_eq_true rfl⟩) rfl hl.1 rfl (Nat.le_of_ble_eq_true rfl) dL_law_232 (fun H locs hw => ?_)
  refine lv_icmp_eq (tgt := 734) C.1 C.2.1 dL_law_235 (by decide) (fun _ => ?_) (fun z => absurd rfl z)
  exact kk u1 cal1 evr1 rom1 bef1 H locs hI1 hw
theorem cs_2 (C : CallFix p m c cL_law 4 s #[Value.ref b] wsL_law RL) (hF : LFix D aX aM cI cJ cR s b L xs) (hc : cells + 0 ≤ room_1.cells ∧ slots + 0 ≤ room_1.slots) (hn5 : n ≤ 512) (hI : Inv n u cal evr) (hw : LW D aX aM cI cJ cR s H locs u (mk u cal evr rom bef)) (h1 : vp_in (x + 1) L) (h2 : vp_in (x + 2) L) (h3 : vp_in (x + 3) L) (h4 : vp_in (x + 4) L) (hl : lv_has ls 4 [(0, .ref b), (1, .ref (aX 0)), (2, .ref (aM 0)), (3, .int x)]) (kk : ∀ (u1 : XS) (cal1 : Nat → Int64) (evr1 : Nat → Int32) (rom1 : Int32) (bef1 : Nat → Int64) (H1 : Heap) (locs1 : List Loc), Inv (n + 1) u1 cal1 evr1 → LW D aX aM cI cJ cR s H1 locs1 u1 (mk u1 cal1 evr1 rom1 bef1) → W p l e room_1 s m #[Value.ref b] below meth c H1 locs1 cells slots Q (F0 m 734 ls [])) : W p l e room_1 s m #[Value.ref b] below meth c H locs cells slots Q (F0 m 240 ls []) := by
  obtain ⟨r, e1, e2⟩ := op_funds (rom := rom) (bef := bef) hI (xs (Int32.toNatClampNeg (x + (1 : Int32))))
  refine lv_aload_n C.1 C.2.1 dL_law_240 rfl (lv_at hl 1 rfl) ?_
  refine lv_aload_n C.1 C.2.1 dL_law_241 rfl (lv_at hl 0 rfl) ?_
  refine lv_iload_n C.1 C.2.1 dL_law_242 rfl (lv_at hl 3 rfl) ?_
  refine lv_iconst (v := 1) C.1 C.2.1 dL_law_243 (by decide) ?_
  refine lv_iadd C.1 C.2.1 dL_law_244 ?_
  refine va_sld (A := AL s) C.1 C.2.1 hF.2.1 hF.2.2.1 (Nat.not_le.mpr hF.2.2.1) hw.2.2.2.2 h1 dL_law_245 ?_
  refine lXVl (As := [.int (xs (Int32.toNatClampNeg (x + (1 : Int32))))]) (rest := []) C hF hc hw (k_X6_funds l D aX cI cJ cR u (xs (Int32.toNatClampNeg (x + (1 : Int32)))) r e1) (cwV 1 C.2.2.2.2 gL_law_X6_funds rfl rfl rfl (by decide +kernel) ⟨Nat.le_of_ble_eq_true rfl, Nat.le_of_ble_eq_true rfl⟩) rfl hl.1 rfl (Nat.le_of_ble_eq_true rfl) dL_law_246 (fun H locs hw => ?_)
  refine lv_aload_n C.1 C.2.1 dL_law_249 rfl (lv_at hl 2 rfl) ?_
  refine lv_aload_n C.1 C.2.1 dL_law_250 rfl (lv_at hl 0 rfl) ?_
  refine lv_iload_n C.1 C.2.1 dL_law_251 rfl (lv_at hl 3 rfl) ?_
  refine lv_iconst (v := 1) C.1 C.2.1 dL_law_252 (by decide) ?_
  refine lv_iadd C.1 C.2.1 dL_law_253 ?_
  refine va_sld (A := AL s) C.1 C.2.1 hF.2.1 hF.2.2.1 (Nat.not_le.mpr hF.2.2.1) hw.2.2.2.2 h1 dL_law_254 ?_
  refine lMVl (As := [.int (xs (Int32.toNatClampNeg (x + (1 : Int32))))]) (rest := [.long r]) C hF hc hw (k_X7_funds l D aM cI cJ (mk u cal evr rom bef) (xs (Int32.toNatClampNeg (x + (1 : Int32)))) r e2) (cwV 1 C.2.2.2.2 gL_law_X7_funds rfl rfl rfl (by decide +kernel) ⟨Nat.le_of_ble_eq_true rfl, Nat.le_of_ble_eq_true rfl⟩) rfl hl.1 rfl (Nat.le_of_ble_eq_true rfl) dL_law_255 (fun H locs hw => ?_)
  refine W.lcmp C.1 C.2.1 dL_law_258 ?_
  refine lv_if_eq (tgt := 734) C.1 C.2.1 dL_law_259 (by decide) (fun _ => ?_) (fun z => absurd ((lg_cmp_eq _ _).mpr rfl) z)
  exact kk u cal evr rom bef H locs hI.up hw
theorem cs_3 (C : CallFix p m c cL_law 4 s #[Value.ref b] wsL_law RL) (hF : LFix D aX aM cI cJ cR s b L xs) (hc : cells + 0 ≤ room_1.cells ∧ slots + 0 ≤ room_1.slots) (hn5 : n ≤ 512) (hI : Inv n u cal evr) (hw : LW D aX aM cI cJ cR s H locs u (mk u cal evr rom bef)) (h1 : vp_in (x + 1) L) (h2 : vp_in (x + 2) L) (h3 : vp_in (x + 3) L) (h4 : vp_in (x + 4) L) (hl : lv_has ls 4 [(0, .ref b), (1, .ref (aX 0)), (2, .ref (aM 0)), (3, .int x)]) (kk : ∀ (u1 : XS) (cal1 : Nat → Int64) (evr1 : Nat → Int32) (rom1 : Int32) (bef1 : Nat → Int64) (H1 : Heap) (locs1 : List Loc), Inv (n + 1) u1 cal1 evr1 → LW D aX aM cI cJ cR s H1 locs1 u1 (mk u1 cal1 evr1 rom1 bef1) → W p l e room_1 s m #[Value.ref b] below meth c H1 locs1 cells slots Q (F0 m 734 ls [])) : W p l e room_1 s m #[Value.ref b] below meth c H locs cells slots Q (F0 m 264 ls []) := by
  obtain ⟨r, e1, e2⟩ := op_next (rom := rom) (bef := bef) hI (xs (Int32.toNatClampNeg (x + (1 : Int32))))
  refine lv_aload_n C.1 C.2.1 dL_law_264 rfl (lv_at hl 1 rfl) ?_
  refine lv_aload_n C.1 C.2.1 dL_law_265 rfl (lv_at hl 0 rfl) ?_
  refine lv_iload_n C.1 C.2.1 dL_law_266 rfl (lv_at hl 3 rfl) ?_
  refine lv_iconst (v := 1) C.1 C.2.1 dL_law_267 (by decide) ?_
  refine lv_iadd C.1 C.2.1 dL_law_268 ?_
  refine va_sld (A := AL s) C.1 C.2.1 hF.2.1 hF.2.2.1 (Nat.not_le.mpr hF.2.2.1) hw.2.2.2.2 h1 dL_law_269 ?_
  refine lXVi (As := [.int (xs (Int32.toNatClampNeg (x + (1 : Int32))))]) (rest := []) C hF hc hw (k_X6_next l D aX cI cJ cR u (xs (Int32.toNatClampNeg (x + (1 : Int32)))) r e1) (cwV 1 C.2.2.2.2 gL_law_X6_next rfl rfl rfl (by decide +kernel) ⟨Nat.le_of_ble_eq_true rfl, Nat.le_of_ble_eq_true rfl⟩) rfl hl.1 rfl (Nat.le_of_ble_eq_true rfl) dL_law_270 (fun H locs hw => ?_)
  refine lv_aload_n C.1 C.2.1 dL_law_273 rfl (lv_at hl 2 rfl) ?_
  refine lv_aload_n C.1 C.2.1 dL_law_274 rfl (lv_at hl 0 rfl) ?_
  refine lv_iload_n C.1 C.2.1 dL_law_275 rfl (lv_at hl 3 rfl) ?_
  refine lv_iconst (v := 1) C.1 C.2.1 dL_law_276 (by decide) ?_
  refine lv_iadd C.1 C.2.1 dL_law_277 ?_
  refine va_sld (A := AL s) C.1 C.2.1 hF.2.1 hF.2.2.1 (Nat.not_le.mpr hF.2.2.1) hw.2.2.2.2 h1 dL_law_278 ?_
  refine lMVi (As := [.int (xs (Int32.toNatClampNeg (x + (1 : Int32))))]) (rest := [.int r]) C hF hc hw (k_X7_next l D aM cI cJ (mk u cal evr rom bef) (xs (Int32.toNatClampNeg (x + (1 : Int32)))) r e2) (cwV 1 C.2.2.2.2 gL_law_X7_next rfl rfl rfl (by decide +kernel) ⟨Nat.le_of_ble_eq_true rfl, Nat.le_of_ble_eq_true rfl⟩) rfl hl.1 rfl (Nat.le_of_ble_eq_true rfl) dL_law_279 (fun H locs hw => ?_)
  refine lv_icmp_eq (tgt := 734) C.1 C.2.1 dL_law_282 (by decide) (fun _ => ?_) (fun z => absurd rfl z)
  exact kk u cal evr rom bef H locs hI.up hw
theorem cs_4 (C : CallFix p m c cL_law 4 s #[Value.ref b] wsL_law RL) (hF : LFix D aX aM cI cJ cR s b L xs) (hc : cells + 0 ≤ room_1.cells ∧ slots + 0 ≤ room_1.slots) (hn5 : n ≤ 512) (hI : Inv n u cal evr) (hw : LW D aX aM cI cJ cR s H locs u (mk u cal evr rom bef)) (h1 : vp_in (x + 1) L) (h2 : vp_in (x + 2) L) (h3 : vp_in (x + 3) L) (h4 : vp_in (x + 4) L) (hl : lv_has ls 4 [(0, .ref b), (1, .ref (aX 0)), (2, .ref (aM 0)), (3, .int x)]) (kk : ∀ (u1 : XS) (cal1 : Nat → Int64) (evr1 : Nat → Int32) (rom1 : Int32) (bef1 : Nat → Int64) (H1 : Heap) (locs1 : List Loc), Inv (n + 1) u1 cal1 evr1 → LW D aX aM cI cJ cR s H1 locs1 u1 (mk u1 cal1 evr1 rom1 bef1) → W p l e room_1 s m #[Value.ref b] below meth c H1 locs1 cells slots Q (F0 m 734 ls [])) : W p l e room_1 s m #[Value.ref b] below meth c H locs cells slots Q (F0 m 287 ls []) := by
  obtain ⟨r, u1, cal1, evr1, rom1, bef1, e1, e2, hI1⟩ := op_sign (rom := rom) (bef := bef) hI (xs (Int32.toNatClampNeg (x + (1 : Int32)))) (((Int32.toInt64 (xs (Int32.toNatClampNeg (x + (2 : Int32))))) <<< (Int32.toInt64 (32 : Int32) &&& 63)) ||| ((Int32.toInt64 (xs (Int32.toNatClampNeg (x + (3 : Int32))))) &&& (4294967295 : Int64)))
  refine lv_aload_n C.1 C.2.1 dL_law_287 rfl (lv_at hl 1 rfl) ?_
  refine lv_aload_n C.1 C.2.1 dL_law_288 rfl (lv_at hl 0 rfl) ?_
  refine lv_iload_n C.1 C.2.1 dL_law_289 rfl (lv_at hl 3 rfl) ?_
  refine lv_iconst (v := 1) C.1 C.2.1 dL_law_290 (by decide) ?_
  refine lv_iadd C.1 C.2.1 dL_law_291 ?_
  refine va_sld (A := AL s) C.1 C.2.1 hF.2.1 hF.2.2.1 (Nat.not_le.mpr hF.2.2.1) hw.2.2.2.2 h1 dL_law_292 ?_
  refine lv_aload_n C.1 C.2.1 dL_law_293 rfl (lv_at hl 0 rfl) ?_
  refine lv_iload_n C.1 C.2.1 dL_law_294 rfl (lv_at hl 3 rfl) ?_
  refine lv_iconst (v := 2) C.1 C.2.1 dL_law_295 (by decide) ?_
  refine lv_iadd C.1 C.2.1 dL_law_296 ?_
  refine va_sld (A := AL s) C.1 C.2.1 hF.2.1 hF.2.2.1 (Nat.not_le.mpr hF.2.2.1) hw.2.2.2.2 h2 dL_law_297 ?_
  refine lv_i2l C.1 C.2.1 dL_law_298 rfl ?_
  refine lv_bipush (v := 32) C.1 C.2.1 dL_law_299 (by decide) ?_
  refine lv_lshl C.1 C.2.1 dL_law_301 rfl ?_
  refine lv_aload_n C.1 C.2.1 dL_law_302 rfl (lv_at hl 0 rfl) ?_
  refine lv_iload_n C.1 C.2.1 dL_law_303 rfl (lv_at hl 3 rfl) ?_
  refine lv_iconst (v := 3) C.1 C.2.1 dL_law_304 (by decide) ?_
  refine lv_iadd C.1 C.2.1 dL_law_305 ?_
  refine va_sld (A := AL s) C.1 C.2.1 hF.2.1 hF.2.2.1 (Nat.not_le.mpr hF.2.2.1) hw.2.2.2.2 h3 dL_law_306 ?_
  refine lv_i2l C.1 C.2.1 dL_law_307 rfl ?_
  refine lv_ldc2 (v := 4294967295) C.1 C.2.1 C.2.2.2.1 (C.2.2.2.2 _ cL13) dL_law_308 ?_
  refine lv_land C.1 C.2.1 dL_law_311 ?_
  refine lv_lor C.1 C.2.1 dL_law_312 ?_
  refine lXVi (As := [.int (xs (Int32.toNatClampNeg (x + (1 : Int32)))), .long (((Int32.toInt64 (xs (Int32.toNatClampNeg (x + (2 : Int32))))) <<< (Int32.toInt64 (32 : Int32) &&& 63)) ||| ((Int32.toInt64 (xs (Int32.toNatClampNeg (x + (3 : Int32))))) &&& (4294967295 : Int64)))]) (rest := []) C hF hc hw (k_X6_sign l D aX cI cJ cR u (xs (Int32.toNatClampNeg (x + (1 : Int32)))) (((Int32.toInt64 (xs (Int32.toNatClampNeg (x + (2 : Int32))))) <<< (Int32.toInt64 (32 : Int32) &&& 63)) ||| ((Int32.toInt64 (xs (Int32.toNatClampNeg (x + (3 : Int32))))) &&& (4294967295 : Int64))) r u1 e1) (cwV 2 C.2.2.2.2 gL_law_X6_sign rfl rfl rfl (by decide +kernel) ⟨Nat.le_of_ble_eq_true rfl, Nat.le_of_ble_eq_true rfl⟩) rfl hl.1 rfl (Nat.le_of_ble_eq_true rfl) dL_law_313 (fun H locs hw => ?_)
  refine lv_aload_n C.1 C.2.1 dL_law_316 rfl (lv_at hl 2 rfl) ?_
  refine lv_aload_n C.1 C.2.1 dL_law_317 rfl (lv_at hl 0 rfl) ?_
  refine lv_iload_n C.1 C.2.1 dL_law_318 rfl (lv_at hl 3 rfl) ?_
  refine lv_iconst (v := 1) C.1 C.2.1 dL_law_319 (by decide) ?_
  refine lv_iadd C.1 C.2.1 dL_law_320 ?_
  refine va_sld (A := AL s) C.1 C.2.1 hF.2.1 hF.2.2.1 (Nat.not_le.mpr hF.2.2.1) hw.2.2.2.2 h1 dL_law_321 ?_
  refine lv_aload_n C.1 C.2.1 dL_law_322 rfl (lv_at hl 0 rfl) ?_
  refine lv_iload_n C.1 C.2.1 dL_law_323 rfl (lv_at hl 3 rfl) ?_
  refine lv_iconst (v := 2) C.1 C.2.1 dL_law_324 (by decide) ?_
  refine lv_iadd C.1 C.2.1 dL_law_325 ?_
  refine va_sld (A := AL s) C.1 C.2.1 hF.2.1 hF.2.2.1 (Nat.not_le.mpr hF.2.2.1) hw.2.2.2.2 h2 dL_law_326 ?_
  refine lv_i2l C.1 C.2.1 dL_law_327 rfl ?_
  refine lv_bipush (v := 32) C.1 C.2.1 dL_law_328 (by decide) ?_
  refine lv_lshl C.1 C.2.1 dL_law_330 rfl ?_
  refine lv_aload_n C.1 C.2.1 dL_law_331 rfl (lv_at hl 0 rfl) ?_
  refine lv_iload_n C.1 C.2.1 dL_law_332 rfl (lv_at hl 3 rfl) ?_
  refine lv_iconst (v := 3) C.1 C.2.1 dL_law_333 (by decide) ?_
  refine lv_iadd C.1 C.2.1 dL_law_334 ?_
  refine va_sld (A := AL s) C.1 C.2.1 hF.2.1 hF.2.2.1 (Nat.not_le.mpr hF.2.2.1) hw.2.2.2.2 h3 dL_law_335 ?_
  refine lv_i2l C.1 C.2.1 dL_law_336 rfl ?_
  refine lv_ldc2 (v := 4294967295) C.1 C.2.1 C.2.2.2.1 (C.2.2.2.2 _ cL13) dL_law_337 ?_
  refine lv_land C.1 C.2.1 dL_law_340 ?_
  refine lv_lor C.1 C.2.1 dL_law_341 ?_
  refine lMVi (As := [.int (xs (Int32.toNatClampNeg (x + (1 : Int32)))), .long (((Int32.toInt64 (xs (Int32.toNatClampNeg (x + (2 : Int32))))) <<< (Int32.toInt64 (32 : Int32) &&& 63)) ||| ((Int32.toInt64 (xs (Int32.toNatClampNeg (x + (3 : Int32))))) &&& (4294967295 : Int64)))]) (rest := [.int r]) C hF hc hw (k_X7_sign l D aM cI cJ (mk u cal evr rom bef) (xs (Int32.toNatClampNeg (x + (1 : Int32)))) (((Int32.toInt64 (xs (Int32.toNatClampNeg (x + (2 : Int32))))) <<< (Int32.toInt64 (32 : Int32) &&& 63)) ||| ((Int32.toInt64 (xs (Int32.toNatClampNeg (x + (3 : Int32))))) &&& (4294967295 : Int64))) r (mk u1 cal1 evr1 rom1 bef1) e2) (cwV 2 C.2.2.2.2 gL_law_X7_sign rfl rfl rfl (by decide +kernel) ⟨Nat.le_of_ble_eq_true rfl, Nat.le_of_ble_eq_true rfl⟩) rfl hl.1 rfl (Nat.le_of_ble_eq_true rfl) dL_law_342 (fun H locs hw => ?_)
  refine lv_icmp_eq (tgt := 734) C.1 C.2.1 dL_law_345 (by decide) (fun _ => ?_) (fun z => absurd rfl z)
  exact kk u1 cal1 evr1 rom1 bef1 H locs hI1 hw
theorem cs_5 (C : CallFix p m c cL_law 4 s #[Value.ref b] wsL_law RL) (hF : LFix D aX aM cI cJ cR s b L xs) (hc : cells + 0 ≤ room_1.cells ∧ slots + 0 ≤ room_1.slots) (hn5 : n ≤ 512) (hI : Inv n u cal evr) (hw : LW D aX aM cI cJ cR s H locs u (mk u cal evr rom bef)) (h1 : vp_in (x + 1) L) (h2 : vp_in (x + 2) L) (h3 : vp_in (x + 3) L) (h4 : vp_in (x + 4) L) (hl : lv_has ls 4 [(0, .ref b), (1, .ref (aX 0)), (2, .ref (aM 0)), (3, .int x)]) (kk : ∀ (u1 : XS) (cal1 : Nat → Int64) (evr1 : Nat → Int32) (rom1 : Int32) (bef1 : Nat → Int64) (H1 : Heap) (locs1 : List Loc), Inv (n + 1) u1 cal1 evr1 → LW D aX aM cI cJ cR s H1 locs1 u1 (mk u1 cal1 evr1 rom1 bef1) → W p l e room_1 s m #[Value.ref b] below meth c H1 locs1 cells slots Q (F0 m 734 ls [])) : W p l e room_1 s m #[Value.ref b] below meth c H locs cells slots Q (F0 m 350 ls []) := by
  obtain ⟨r, u1, cal1, evr1, rom1, bef1, e1, e2, hI1⟩ := op_draft (rom := rom) (bef := bef) hI (xs (Int32.toNatClampNeg (x + (1 : Int32)))) (xs (Int32.toNatClampNeg (x + (2 : Int32)))) (xs (Int32.toNatClampNeg (x + (3 : Int32)))) (xs (Int32.toNatClampNeg (x + (4 : Int32))))
  refine lv_aload_n C.1 C.2.1 dL_law_350 rfl (lv_at hl 1 rfl) ?_
  refine lv_aload_n C.1 C.2.1 dL_law_351 rfl (lv_at hl 0 rfl) ?_
  refine lv_iload_n C.1 C.2.1 dL_law_352 rfl (lv_at hl 3 rfl) ?_
  refine lv_iconst (v := 1) C.1 C.2.1 dL_law_353 (by decide) ?_
  refine lv_iadd C.1 C.2.1 dL_law_354 ?_
  refine va_sld (A := AL s) C.1 C.2.1 hF.2.1 hF.2.2.1 (Nat.not_le.mpr hF.2.2.1) hw.2.2.2.2 h1 dL_law_355 ?_
  refine lv_aload_n C.1 C.2.1 dL_law_356 rfl (lv_at hl 0 rfl) ?_
  refine lv_iload_n C.1 C.2.1 dL_law_357 rfl (lv_at hl 3 rfl) ?_
  refine lv_iconst (v := 2) C.1 C.2.1 dL_law_358 (by decide) ?_
  refine lv_iadd C.1 C.2.1 dL_law_359 ?_
  refine va_sld (A := AL s) C.1 C.2.1 hF.2.1 hF.2.2.1 (Nat.not_le.mpr hF.2.2.1) hw.2.2.2.2 h2 dL_law_360 ?_
  refine lv_aload_n C.1 C.2.1 dL_law_361 rfl (lv_at hl 0 rfl) ?_
  refine lv_iload_n C.1 C.2.1 dL_law_362 rfl (lv_at hl 3 rfl) ?_
  refine lv_iconst (v := 3) C.1 C.2.1 dL_law_363 (by decide) ?_
  refine lv_iadd C.1 C.2.1 dL_law_364 ?_
  refine va_sld (A := AL s) C.1 C.2.1 hF.2.1 hF.2.2.1 (Nat.not_le.mpr hF.2.2.1) hw.2.2.2.2 h3 dL_law_365 ?_
  refine lv_aload_n C.1 C.2.1 dL_law_366 rfl (lv_at hl 0 rfl) ?_
  refine lv_iload_n C.1 C.2.1 dL_law_367 rfl (lv_at hl 3 rfl) ?_
  refine lv_iconst (v := 4) C.1 C.2.1 dL_law_368 (by decide) ?_
  refine lv_iadd C.1 C.2.1 dL_law_369 ?_
  refine va_sld (A := AL s) C.1 C.2.1 hF.2.1 hF.2.2.1 (Nat.not_le.mpr hF.2.2.1) hw.2.2.2.2 h4 dL_law_370 ?_
  refine lXVi (As := [.int (xs (Int32.toNatClampNeg (x + (1 : Int32)))), .int (xs (Int32.toNatClampNeg (x + (2 : Int32)))), .int (xs (Int32.toNatClampNeg (x + (3 : Int32)))), .int (xs (Int32.toNatClampNeg (x + (4 : Int32))))]) (rest := []) C hF hc hw (k_X6_draft l D aX cI cJ cR u (xs (Int32.toNatClampNeg (x + (1 : Int32)))) (xs (Int32.toNatClampNeg (x + (2 : Int32)))) (xs (Int32.toNatClampNeg (x + (3 : Int32)))) (xs (Int32.toNatClampNeg (x + (4 : Int32)))) r u1 e1) (cwV 4 C.2.2.2.2 gL_law_X6_draft rfl rfl rfl (by decide +kernel) ⟨Nat.le_of_ble_eq_true rfl, Nat.le_of_ble_eq_true rfl⟩) rfl hl.1 rfl (Nat.le_of_ble_eq_true rfl) dL_law_371 (fun H locs hw => ?_)
  refine lv_aload_n C.1 C.2.1 dL_law_374 rfl (lv_at hl 2 rfl) ?_
  refine lv_aload_n C.1 C.2.1 dL_law_375 rfl (lv_at hl 0 rfl) ?_
  refine lv_iload_n C.1 C.2.1 dL_law_376 rfl (lv_at hl 3 rfl) ?_
  refine lv_iconst (v := 1) C.1 C.2.1 dL_law_377 (by decide) ?_
  refine lv_iadd C.1 C.2.1 dL_law_378 ?_
  refine va_sld (A := AL s) C.1 C.2.1 hF.2.1 hF.2.2.1 (Nat.not_le.mpr hF.2.2.1) hw.2.2.2.2 h1 dL_law_379 ?_
  refine lv_aload_n C.1 C.2.1 dL_law_380 rfl (lv_at hl 0 rfl) ?_
  refine lv_iload_n C.1 C.2.1 dL_law_381 rfl (lv_at hl 3 rfl) ?_
  refine lv_iconst (v := 2) C.1 C.2.1 dL_law_382 (by decide) ?_
  refine lv_iadd C.1 C.2.1 dL_law_383 ?_
  refine va_sld (A := AL s) C.1 C.2.1 hF.2.1 hF.2.2.1 (Nat.not_le.mpr hF.2.2.1) hw.2.2.2.2 h2 dL_law_384 ?_
  refine lv_aload_n C.1 C.2.1 dL_law_385 rfl (lv_at hl 0 rfl) ?_
  refine lv_iload_n C.1 C.2.1 dL_law_386 rfl (lv_at hl 3 rfl) ?_
  refine lv_iconst (v := 3) C.1 C.2.1 dL_law_387 (by decide) ?_
  refine lv_iadd C.1 C.2.1 dL_law_388 ?_
  refine va_sld (A := AL s) C.1 C.2.1 hF.2.1 hF.2.2.1 (Nat.not_le.mpr hF.2.2.1) hw.2.2.2.2 h3 dL_law_389 ?_
  refine lv_aload_n C.1 C.2.1 dL_law_390 rfl (lv_at hl 0 rfl) ?_
  refine lv_iload_n C.1 C.2.1 dL_law_391 rfl (lv_at hl 3 rfl) ?_
  refine lv_iconst (v := 4) C.1 C.2.1 dL_law_392 (by decide) ?_
  refine lv_iadd C.1 C.2.1 dL_law_393 ?_
  refine va_sld (A := AL s) C.1 C.2.1 hF.2.1 hF.2.2.1 (Nat.not_le.mpr hF.2.2.1) hw.2.2.2.2 h4 dL_law_394 ?_
  refine lMVi (As := [.int (xs (Int32.toNatClampNeg (x + (1 : Int32)))), .int (xs (Int32.toNatClampNeg (x + (2 : Int32)))), .int (xs (Int32.toNatClampNeg (x + (3 : Int32)))), .int (xs (Int32.toNatClampNeg (x + (4 : Int32))))]) (rest := [.int r]) C hF hc hw (k_X7_draft l D aM cI cJ (mk u cal evr rom bef) (xs (Int32.toNatClampNeg (x + (1 : Int32)))) (xs (Int32.toNatClampNeg (x + (2 : Int32)))) (xs (Int32.toNatClampNeg (x + (3 : Int32)))) (xs (Int32.toNatClampNeg (x + (4 : Int32)))) r (mk u1 cal1 evr1 rom1 bef1) e2) (cwV 4 C.2.2.2.2 gL_law_X7_draft rfl rfl rfl (by decide +kernel) ⟨Nat.le_of_ble_eq_true rfl, Nat.le_of_ble_eq_true rfl⟩) rfl hl.1 rfl (Nat.le_of_ble_eq_true rfl) dL_law_395 (fun H locs hw => ?_)
  refine lv_icmp_eq (tgt := 734) C.1 C.2.1 dL_law_398 (by decide) (fun _ => ?_) (fun z => absurd rfl z)
  exact kk u1 cal1 evr1 rom1 bef1 H locs hI1 hw
theorem cs_6 (C : CallFix p m c cL_law 4 s #[Value.ref b] wsL_law RL) (hF : LFix D aX aM cI cJ cR s b L xs) (hc : cells + 0 ≤ room_1.cells ∧ slots + 0 ≤ room_1.slots) (hn5 : n ≤ 512) (hI : Inv n u cal evr) (hw : LW D aX aM cI cJ cR s H locs u (mk u cal evr rom bef)) (h1 : vp_in (x + 1) L) (h2 : vp_in (x + 2) L) (h3 : vp_in (x + 3) L) (h4 : vp_in (x + 4) L) (hl : lv_has ls 4 [(0, .ref b), (1, .ref (aX 0)), (2, .ref (aM 0)), (3, .int x)]) (kk : ∀ (u1 : XS) (cal1 : Nat → Int64) (evr1 : Nat → Int32) (rom1 : Int32) (bef1 : Nat → Int64) (H1 : Heap) (locs1 : List Loc), Inv (n + 1) u1 cal1 evr1 → LW D aX aM cI cJ cR s H1 locs1 u1 (mk u1 cal1 evr1 rom1 bef1) → W p l e room_1 s m #[Value.ref b] below meth c H1 locs1 cells slots Q (F0 m 734 ls [])) : W p l e room_1 s m #[Value.ref b] below meth c H locs cells slots Q (F0 m 403 ls []) := by
  obtain ⟨r, u1, cal1, evr1, rom1, bef1, e1, e2, hI1⟩ := op_until (rom := rom) (bef := bef) hI (xs (Int32.toNatClampNeg (x + (1 : Int32))))
  refine lv_aload_n C.1 C.2.1 dL_law_403 rfl (lv_at hl 1 rfl) ?_
  refine lv_aload_n C.1 C.2.1 dL_law_404 rfl (lv_at hl 0 rfl) ?_
  refine lv_iload_n C.1 C.2.1 dL_law_405 rfl (lv_at hl 3 rfl) ?_
  refine lv_iconst (v := 1) C.1 C.2.1 dL_law_406 (by decide) ?_
  refine lv_iadd C.1 C.2.1 dL_law_407 ?_
  refine va_sld (A := AL s) C.1 C.2.1 hF.2.1 hF.2.2.1 (Nat.not_le.mpr hF.2.2.1) hw.2.2.2.2 h1 dL_law_408 ?_
  refine lXVi (As := [.int (xs (Int32.toNatClampNeg (x + (1 : Int32))))]) (rest := []) C hF hc hw (k_X6_until l D aX cI cJ cR u (xs (Int32.toNatClampNeg (x + (1 : Int32)))) r u1 e1) (cwV 1 C.2.2.2.2 gL_law_X6_until rfl rfl rfl (by decide +kernel) ⟨Nat.le_of_ble_eq_true rfl, Nat.le_of_ble_eq_true rfl⟩) rfl hl.1 rfl (Nat.le_of_ble_eq_true rfl) dL_law_409 (fun H locs hw => ?_)
  refine lv_aload_n C.1 C.2.1 dL_law_412 rfl (lv_at hl 2 rfl) ?_
  refine lv_aload_n C.1 C.2.1 dL_law_413 rfl (lv_at hl 0 rfl) ?_
  refine lv_iload_n C.1 C.2.1 dL_law_414 rfl (lv_at hl 3 rfl) ?_
  refine lv_iconst (v := 1) C.1 C.2.1 dL_law_415 (by decide) ?_
  refine lv_iadd C.1 C.2.1 dL_law_416 ?_
  refine va_sld (A := AL s) C.1 C.2.1 hF.2.1 hF.2.2.1 (Nat.not_le.mpr hF.2.2.1) hw.2.2.2.2 h1 dL_law_417 ?_
  refine lMVi (As := [.int (xs (Int32.toNatClampNeg (x + (1 : Int32))))]) (rest := [.int r]) C hF hc hw (k_X7_until l D aM cI cJ (mk u cal evr rom bef) (xs (Int32.toNatClampNeg (x + (1 : Int32)))) r (mk u1 cal1 evr1 rom1 bef1) e2) (cwV 1 C.2.2.2.2 gL_law_X7_until rfl rfl rfl (by decide +kernel) ⟨Nat.le_of_ble_eq_true rfl, Nat.le_of_ble_eq_true rfl⟩) rfl hl.1 rfl (Nat.le_of_ble_eq_true rfl) dL_law_418 (fun H locs hw => ?_)
  refine lv_icmp_eq (tgt := 734) C.1 C.2.1 dL_law_421 (by decide) (fun _ => ?_) (fun z => absurd rfl z)
  exact kk u1 cal1 evr1 rom1 bef1 H locs hI1 hw
theorem cs_7 (C : CallFix p m c cL_law 4 s #[Value.ref b] wsL_law RL) (hF : LFix D aX aM cI cJ cR s b L xs) (hc : cells + 0 ≤ room_1.cells ∧ slots + 0 ≤ room_1.slots) (hn5 : n ≤ 512) (hI : Inv n u cal evr) (hw : LW D aX aM cI cJ cR s H locs u (mk u cal evr rom bef)) (h1 : vp_in (x + 1) L) (h2 : vp_in (x + 2) L) (h3 : vp_in (x + 3) L) (h4 : vp_in (x + 4) L) (hl : lv_has ls 4 [(0, .ref b), (1, .ref (aX 0)), (2, .ref (aM 0)), (3, .int x)]) (kk : ∀ (u1 : XS) (cal1 : Nat → Int64) (evr1 : Nat → Int32) (rom1 : Int32) (bef1 : Nat → Int64) (H1 : Heap) (locs1 : List Loc), Inv (n + 1) u1 cal1 evr1 → LW D aX aM cI cJ cR s H1 locs1 u1 (mk u1 cal1 evr1 rom1 bef1) → W p l e room_1 s m #[Value.ref b] below meth c H1 locs1 cells slots Q (F0 m 734 ls [])) : W p l e room_1 s m #[Value.ref b] below meth c H locs cells slots Q (F0 m 426 ls []) := by
  obtain ⟨r, u1, cal1, evr1, rom1, bef1, e1, e2, hI1⟩ := op_from (rom := rom) (bef := bef) hI (xs (Int32.toNatClampNeg (x + (1 : Int32))))
  refine lv_aload_n C.1 C.2.1 dL_law_426 rfl (lv_at hl 1 rfl) ?_
  refine lv_aload_n C.1 C.2.1 dL_law_427 rfl (lv_at hl 0 rfl) ?_
  refine lv_iload_n C.1 C.2.1 dL_law_428 rfl (lv_at hl 3 rfl) ?_
  refine lv_iconst (v := 1) C.1 C.2.1 dL_law_429 (by decide) ?_
  refine lv_iadd C.1 C.2.1 dL_law_430 ?_
  refine va_sld (A := AL s) C.1 C.2.1 hF.2.1 hF.2.2.1 (Nat.not_le.mpr hF.2.2.1) hw.2.2.2.2 h1 dL_law_431 ?_
  refine lXVi (As := [.int (xs (Int32.toNatClampNeg (x + (1 : Int32))))]) (rest := []) C hF hc hw (k_X6_from l D aX cI cJ cR u (xs (Int32.toNatClampNeg (x + (1 : Int32)))) r u1 e1) (cwV 1 C.2.2.2.2 gL_law_X6_from rfl rfl rfl (by decide +kernel) ⟨Nat.le_of_ble_eq_true rfl, Nat.le_of_ble_eq_true rfl⟩) rfl hl.1 rfl (Nat.le_of_ble_eq_true rfl) dL_law_432 (fun H locs hw => ?_)
  refine lv_aload_n C.1 C.2.1 dL_law_435 rfl (lv_at hl 2 rfl) ?_
  refine lv_aload_n C.1 C.2.1 dL_law_436 rfl (lv_at hl 0 rfl) ?_
  refine lv_iload_n C.1 C.2.1 dL_law_437 rfl (lv_at hl 3 rfl) ?_
  refine lv_iconst (v := 1) C.1 C.2.1 dL_law_438 (by decide) ?_
  refine lv_iadd C.1 C.2.1 dL_law_439 ?_
  refine va_sld (A := AL s) C.1 C.2.1 hF.2.1 hF.2.2.1 (Nat.not_le.mpr hF.2.2.1) hw.2.2.2.2 h1 dL_law_440 ?_
  refine lMVi (As := [.int (xs (Int32.toNatClampNeg (x + (1 : Int32))))]) (rest := [.int r]) C hF hc hw (k_X7_from l D aM cI cJ (mk u cal evr rom bef) (xs (Int32.toNatClampNeg (x + (1 : Int32)))) r (mk u1 cal1 evr1 rom1 bef1) e2) (cwV 1 C.2.2.2.2 gL_law_X7_from rfl rfl rfl (by decide +kernel) ⟨Nat.le_of_ble_eq_true rfl, Nat.le_of_ble_eq_true rfl⟩) rfl hl.1 rfl (Nat.le_of_ble_eq_true rfl) dL_law_441 (fun H locs hw => ?_)
  refine lv_icmp_eq (tgt := 734) C.1 C.2.1 dL_law_444 (by decide) (fun _ => ?_) (fun z => absurd rfl z)
  exact kk u1 cal1 evr1 rom1 bef1 H locs hI1 hw
theorem cs_8 (C : CallFix p m c cL_law 4 s #[Value.ref b] wsL_law RL) (hF : LFix D aX aM cI cJ cR s b L xs) (hc : cells + 0 ≤ room_1.cells ∧ slots + 0 ≤ room_1.slots) (hn5 : n ≤ 512) (hI : Inv n u cal evr) (hw : LW D aX aM cI cJ cR s H locs u (mk u cal evr rom bef)) (h1 : vp_in (x + 1) L) (h2 : vp_in (x + 2) L) (h3 : vp_in (x + 3) L) (h4 : vp_in (x + 4) L) (hl : lv_has ls 4 [(0, .ref b), (1, .ref (aX 0)), (2, .ref (aM 0)), (3, .int x)]) (kk : ∀ (u1 : XS) (cal1 : Nat → Int64) (evr1 : Nat → Int32) (rom1 : Int32) (bef1 : Nat → Int64) (H1 : Heap) (locs1 : List Loc), Inv (n + 1) u1 cal1 evr1 → LW D aX aM cI cJ cR s H1 locs1 u1 (mk u1 cal1 evr1 rom1 bef1) → W p l e room_1 s m #[Value.ref b] below meth c H1 locs1 cells slots Q (F0 m 734 ls [])) : W p l e room_1 s m #[Value.ref b] below meth c H locs cells slots Q (F0 m 449 ls []) := by
  obtain ⟨r, u1, cal1, evr1, rom1, bef1, e1, e2, hI1⟩ := op_sponsor (rom := rom) (bef := bef) hI (xs (Int32.toNatClampNeg (x + (1 : Int32))))
  refine lv_aload_n C.1 C.2.1 dL_law_449 rfl (lv_at hl 1 rfl) ?_
  refine lv_aload_n C.1 C.2.1 dL_law_450 rfl (lv_at hl 0 rfl) ?_
  refine lv_iload_n C.1 C.2.1 dL_law_451 rfl (lv_at hl 3 rfl) ?_
  refine lv_iconst (v := 1) C.1 C.2.1 dL_law_452 (by decide) ?_
  refine lv_iadd C.1 C.2.1 dL_law_453 ?_
  refine va_sld (A := AL s) C.1 C.2.1 hF.2.1 hF.2.2.1 (Nat.not_le.mpr hF.2.2.1) hw.2.2.2.2 h1 dL_law_454 ?_
  refine lXVi (As := [.int (xs (Int32.toNatClampNeg (x + (1 : Int32))))]) (rest := []) C hF hc hw (k_X6_sponsor l D aX cI cJ cR u (xs (Int32.toNatClampNeg (x + (1 : Int32)))) r u1 e1) (cwV 1 C.2.2.2.2 gL_law_X6_sponsor rfl rfl rfl (by decide +kernel) ⟨Nat.le_of_ble_eq_true rfl, Nat.le_of_ble_eq_true rfl⟩) rfl hl.1 rfl (Nat.le_of_ble_eq_true rfl) dL_law_455 (fun H locs hw => ?_)
  refine lv_aload_n C.1 C.2.1 dL_law_458 rfl (lv_at hl 2 rfl) ?_
  refine lv_aload_n C.1 C.2.1 dL_law_459 rfl (lv_at hl 0 rfl) ?_
  refine lv_iload_n C.1 C.2.1 dL_law_460 rfl (lv_at hl 3 rfl) ?_
  refine lv_iconst (v := 1) C.1 C.2.1 dL_law_461 (by decide) ?_
  refine lv_iadd C.1 C.2.1 dL_law_462 ?_
  refine va_sld (A := AL s) C.1 C.2.1 hF.2.1 hF.2.2.1 (Nat.not_le.mpr hF.2.2.1) hw.2.2.2.2 h1 dL_law_463 ?_
  refine lMVi (As := [.int (xs (Int32.toNatClampNeg (x + (1 : Int32))))]) (rest := [.int r]) C hF hc hw (k_X7_sponsor l D aM cI cJ (mk u cal evr rom bef) (xs (Int32.toNatClampNeg (x + (1 : Int32)))) r (mk u1 cal1 evr1 rom1 bef1) e2) (cwV 1 C.2.2.2.2 gL_law_X7_sponsor rfl rfl rfl (by decide +kernel) ⟨Nat.le_of_ble_eq_true rfl, Nat.le_of_ble_eq_true rfl⟩) rfl hl.1 rfl (Nat.le_of_ble_eq_true rfl) dL_law_464 (fun H locs hw => ?_)
  refine lv_icmp_eq (tgt := 734) C.1 C.2.1 dL_law_467 (by decide) (fun _ => ?_) (fun z => absurd rfl z)
  exact kk u1 cal1 evr1 rom1 bef1 H locs hI1 hw
theorem cs_9 (C : CallFix p m c cL_law 4 s #[Value.ref b] wsL_law RL) (hF : LFix D aX aM cI cJ cR s b L xs) (hc : cells + 0 ≤ room_1.cells ∧ slots + 0 ≤ room_1.slots) (hn5 : n ≤ 512) (hI : Inv n u cal evr) (hw : LW D aX aM cI cJ cR s H locs u (mk u cal evr rom bef)) (h1 : vp_in (x + 1) L) (h2 : vp_in (x + 2) L) (h3 : vp_in (x + 3) L) (h4 : vp_in (x + 4) L) (hl : lv_has ls 4 [(0, .ref b), (1, .ref (aX 0)), (2, .ref (aM 0)), (3, .int x)]) (kk : ∀ (u1 : XS) (cal1 : Nat → Int64) (evr1 : Nat → Int32) (rom1 : Int32) (bef1 : Nat → Int64) (H1 : Heap) (locs1 : List Loc), Inv (n + 1) u1 cal1 evr1 → LW D aX aM cI cJ cR s H1 locs1 u1 (mk u1 cal1 evr1 rom1 bef1) → W p l e room_1 s m #[Value.ref b] below meth c H1 locs1 cells slots Q (F0 m 734 ls [])) : W p l e room_1 s m #[Value.ref b] below meth c H locs cells slots Q (F0 m 472 ls []) := by
  obtain ⟨r, u1, cal1, evr1, rom1, bef1, e1, e2, hI1⟩ := op_act (rom := rom) (bef := bef) hI (xs (Int32.toNatClampNeg (x + (1 : Int32)))) (((Int32.toInt64 (xs (Int32.toNatClampNeg (x + (2 : Int32))))) <<< (Int32.toInt64 (32 : Int32) &&& 63)) ||| ((Int32.toInt64 (xs (Int32.toNatClampNeg (x + (3 : Int32))))) &&& (4294967295 : Int64)))
  refine lv_aload_n C.1 C.2.1 dL_law_472 rfl (lv_at hl 1 rfl) ?_
  refine lv_aload_n C.1 C.2.1 dL_law_473 rfl (lv_at hl 0 rfl) ?_
  refine lv_iload_n C.1 C.2.1 dL_law_474 rfl (lv_at hl 3 rfl) ?_
  refine lv_iconst (v := 1) C.1 C.2.1 dL_law_475 (by decide) ?_
  refine lv_iadd C.1 C.2.1 dL_law_476 ?_
  refine va_sld (A := AL s) C.1 C.2.1 hF.2.1 hF.2.2.1 (Nat.not_le.mpr hF.2.2.1) hw.2.2.2.2 h1 dL_law_477 ?_
  refine lv_aload_n C.1 C.2.1 dL_law_478 rfl (lv_at hl 0 rfl) ?_
  refine lv_iload_n C.1 C.2.1 dL_law_479 rfl (lv_at hl 3 rfl) ?_
  refine lv_iconst (v := 2) C.1 C.2.1 dL_law_480 (by decide) ?_
  refine lv_iadd C.1 C.2.1 dL_law_481 ?_
  refine va_sld (A := AL s) C.1 C.2.1 hF.2.1 hF.2.2.1 (Nat.not_le.mpr hF.2.2.1) hw.2.2.2.2 h2 dL_law_482 ?_
  refine lv_i2l C.1 C.2.1 dL_law_483 rfl ?_
  refine lv_bipush (v := 32) C.1 C.2.1 dL_law_484 (by decide) ?_
  refine lv_lshl C.1 C.2.1 dL_law_486 rfl ?_
  refine lv_aload_n C.1 C.2.1 dL_law_487 rfl (lv_at hl 0 rfl) ?_
  refine lv_iload_n C.1 C.2.1 dL_law_488 rfl (lv_at hl 3 rfl) ?_
  refine lv_iconst (v := 3) C.1 C.2.1 dL_law_489 (by decide) ?_
  refine lv_iadd C.1 C.2.1 dL_law_490 ?_
  refine va_sld (A := AL s) C.1 C.2.1 hF.2.1 hF.2.2.1 (Nat.not_le.mpr hF.2.2.1) hw.2.2.2.2 h3 dL_law_491 ?_
  refine lv_i2l C.1 C.2.1 dL_law_492 rfl ?_
  refine lv_ldc2 (v := 4294967295) C.1 C.2.1 C.2.2.2.1 (C.2.2.2.2 _ cL13) dL_law_493 ?_
  refine lv_land C.1 C.2.1 dL_law_496 ?_
  refine lv_lor C.1 C.2.1 dL_law_497 ?_
  refine lXVi (As := [.int (xs (Int32.toNatClampNeg (x + (1 : Int32)))), .long (((Int32.toInt64 (xs (Int32.toNatClampNeg (x + (2 : Int32))))) <<< (Int32.toInt64 (32 : Int32) &&& 63)) ||| ((Int32.toInt64 (xs (Int32.toNatClampNeg (x + (3 : Int32))))) &&& (4294967295 : Int64)))]) (rest := []) C hF hc hw (k_X6_act l D aX cI cJ cR u (xs (Int32.toNatClampNeg (x + (1 : Int32)))) (((Int32.toInt64 (xs (Int32.toNatClampNeg (x + (2 : Int32))))) <<< (Int32.toInt64 (32 : Int32) &&& 63)) ||| ((Int32.toInt64 (xs (Int32.toNatClampNeg (x + (3 : Int32))))) &&& (4294967295 : Int64))) r u1 e1) (cwV 2 C.2.2.2.2 gL_law_X6_act rfl rfl rfl (by decide +kernel) ⟨Nat.le_of_ble_eq_true rfl, Nat.le_of_ble_eq_true rfl⟩) rfl hl.1 rfl (Nat.le_of_ble_eq_true rfl) dL_law_498 (fun H locs hw => ?_)
  refine lv_aload_n C.1 C.2.1 dL_law_501 rfl (lv_at hl 2 rfl) ?_
  refine lv_aload_n C.1 C.2.1 dL_law_502 rfl (lv_at hl 0 rfl) ?_
  refine lv_iload_n C.1 C.2.1 dL_law_503 rfl (lv_at hl 3 rfl) ?_
  refine lv_iconst (v := 1) C.1 C.2.1 dL_law_504 (by decide) ?_
  refine lv_iadd C.1 C.2.1 dL_law_505 ?_
  refine va_sld (A := AL s) C.1 C.2.1 hF.2.1 hF.2.2.1 (Nat.not_le.mpr hF.2.2.1) hw.2.2.2.2 h1 dL_law_506 ?_
  refine lv_aload_n C.1 C.2.1 dL_law_507 rfl (lv_at hl 0 rfl) ?_
  refine lv_iload_n C.1 C.2.1 dL_law_508 rfl (lv_at hl 3 rfl) ?_
  refine lv_iconst (v := 2) C.1 C.2.1 dL_law_509 (by decide) ?_
  refine lv_iadd C.1 C.2.1 dL_law_510 ?_
  refine va_sld (A := AL s) C.1 C.2.1 hF.2.1 hF.2.2.1 (Nat.not_le.mpr hF.2.2.1) hw.2.2.2.2 h2 dL_law_511 ?_
  refine lv_i2l C.1 C.2.1 dL_law_512 rfl ?_
  refine lv_bipush (v := 32) C.1 C.2.1 dL_law_513 (by decide) ?_
  refine lv_lshl C.1 C.2.1 dL_law_515 rfl ?_
  refine lv_aload_n C.1 C.2.1 dL_law_516 rfl (lv_at hl 0 rfl) ?_
  refine lv_iload_n C.1 C.2.1 dL_law_517 rfl (lv_at hl 3 rfl) ?_
  refine lv_iconst (v := 3) C.1 C.2.1 dL_law_518 (by decide) ?_
  refine lv_iadd C.1 C.2.1 dL_law_519 ?_
  refine va_sld (A := AL s) C.1 C.2.1 hF.2.1 hF.2.2.1 (Nat.not_le.mpr hF.2.2.1) hw.2.2.2.2 h3 dL_law_520 ?_
  refine lv_i2l C.1 C.2.1 dL_law_521 rfl ?_
  refine lv_ldc2 (v := 4294967295) C.1 C.2.1 C.2.2.2.1 (C.2.2.2.2 _ cL13) dL_law_522 ?_
  refine lv_land C.1 C.2.1 dL_law_525 ?_
  refine lv_lor C.1 C.2.1 dL_law_526 ?_
  refine lMVi (As := [.int (xs (Int32.toNatClampNeg (x + (1 : Int32)))), .long (((Int32.toInt64 (xs (Int32.toNatClampNeg (x + (2 : Int32))))) <<< (Int32.toInt64 (32 : Int32) &&& 63)) ||| ((Int32.toInt64 (xs (Int32.toNatClampNeg (x + (3 : Int32))))) &&& (4294967295 : Int64)))]) (rest := [.int r]) C hF hc hw (k_X7_act l D aM cI cJ (mk u cal evr rom bef) (xs (Int32.toNatClampNeg (x + (1 : Int32)))) (((Int32.toInt64 (xs (Int32.toNatClampNeg (x + (2 : Int32))))) <<< (Int32.toInt64 (32 : Int32) &&& 63)) ||| ((Int32.toInt64 (xs (Int32.toNatClampNeg (x + (3 : Int32))))) &&& (4294967295 : Int64))) r (mk u1 cal1 evr1 rom1 bef1) e2) (cwV 2 C.2.2.2.2 gL_law_X7_act rfl rfl rfl (by decide +kernel) ⟨Nat.le_of_ble_eq_true rfl, Nat.le_of_ble_eq_true rfl⟩) rfl hl.1 rfl (Nat.le_of_ble_eq_true rfl) dL_law_527 (fun H locs hw => ?_)
  refine lv_icmp_eq (tgt := 734) C.1 C.2.1 dL_law_530 (by decide) (fun _ => ?_) (fun z => absurd rfl z)
  exact kk u1 cal1 evr1 rom1 bef1 H locs hI1 hw
theorem cs_10 (C : CallFix p m c cL_law 4 s #[Value.ref b] wsL_law RL) (hF : LFix D aX aM cI cJ cR s b L xs) (hc : cells + 0 ≤ room_1.cells ∧ slots + 0 ≤ room_1.slots) (hn5 : n ≤ 512) (hI : Inv n u cal evr) (hw : LW D aX aM cI cJ cR s H locs u (mk u cal evr rom bef)) (h1 : vp_in (x + 1) L) (h2 : vp_in (x + 2) L) (h3 : vp_in (x + 3) L) (h4 : vp_in (x + 4) L) (hl : lv_has ls 4 [(0, .ref b), (1, .ref (aX 0)), (2, .ref (aM 0)), (3, .int x)]) (kk : ∀ (u1 : XS) (cal1 : Nat → Int64) (evr1 : Nat → Int32) (rom1 : Int32) (bef1 : Nat → Int64) (H1 : Heap) (locs1 : List Loc), Inv (n + 1) u1 cal1 evr1 → LW D aX aM cI cJ cR s H1 locs1 u1 (mk u1 cal1 evr1 rom1 bef1) → W p l e room_1 s m #[Value.ref b] below meth c H1 locs1 cells slots Q (F0 m 734 ls [])) : W p l e room_1 s m #[Value.ref b] below meth c H locs cells slots Q (F0 m 535 ls []) := by
  obtain ⟨r, u1, cal1, evr1, rom1, bef1, e1, e2, hI1⟩ := op_add (rom := rom) (bef := bef) hI (xs (Int32.toNatClampNeg (x + (1 : Int32))))
  refine lv_aload_n C.1 C.2.1 dL_law_535 rfl (lv_at hl 1 rfl) ?_
  refine lv_aload_n C.1 C.2.1 dL_law_536 rfl (lv_at hl 0 rfl) ?_
  refine lv_iload_n C.1 C.2.1 dL_law_537 rfl (lv_at hl 3 rfl) ?_
  refine lv_iconst (v := 1) C.1 C.2.1 dL_law_538 (by decide) ?_
  refine lv_iadd C.1 C.2.1 dL_law_539 ?_
  refine va_sld (A := AL s) C.1 C.2.1 hF.2.1 hF.2.2.1 (Nat.not_le.mpr hF.2.2.1) hw.2.2.2.2 h1 dL_law_540 ?_
  refine lXVi (As := [.int (xs (Int32.toNatClampNeg (x + (1 : Int32))))]) (rest := []) C hF hc hw (k_X6_add l D aX cI cJ cR u (xs (Int32.toNatClampNeg (x + (1 : Int32)))) r u1 e1) (cwV 1 C.2.2.2.2 gL_law_X6_add rfl rfl rfl (by decide +kernel) ⟨Nat.le_of_ble_eq_true rfl, Nat.le_of_ble_eq_true rfl⟩) rfl hl.1 rfl (Nat.le_of_ble_eq_true rfl) dL_law_541 (fun H locs hw => ?_)
  refine lv_aload_n C.1 C.2.1 dL_law_544 rfl (lv_at hl 2 rfl) ?_
  refine lv_aload_n C.1 C.2.1 dL_law_545 rfl (lv_at hl 0 rfl) ?_
  refine lv_iload_n C.1 C.2.1 dL_law_546 rfl (lv_at hl 3 rfl) ?_
  refine lv_iconst (v := 1) C.1 C.2.1 dL_law_547 (by decide) ?_
  refine lv_iadd C.1 C.2.1 dL_law_548 ?_
  refine va_sld (A := AL s) C.1 C.2.1 hF.2.1 hF.2.2.1 (Nat.not_le.mpr hF.2.2.1) hw.2.2.2.2 h1 dL_law_549 ?_
  refine lMVi (As := [.int (xs (Int32.toNatClampNeg (x + (1 : Int32))))]) (rest := [.int r]) C hF hc hw (k_X7_add l D aM cI cJ (mk u cal evr rom bef) (xs (Int32.toNatClampNeg (x + (1 : Int32)))) r (mk u1 cal1 evr1 rom1 bef1) e2) (cwV 1 C.2.2.2.2 gL_law_X7_add rfl rfl rfl (by decide +kernel) ⟨Nat.le_of_ble_eq_true rfl, Nat.le_of_ble_eq_true rfl⟩) rfl hl.1 rfl (Nat.le_of_ble_eq_true rfl) dL_law_550 (fun H locs hw => ?_)
  refine lv_icmp_eq (tgt := 734) C.1 C.2.1 dL_law_553 (by decide) (fun _ => ?_) (fun z => absurd rfl z)
  exact kk u1 cal1 evr1 rom1 bef1 H locs hI1 hw
theorem cs_11 (C : CallFix p m c cL_law 4 s #[Value.ref b] wsL_law RL) (hF : LFix D aX aM cI cJ cR s b L xs) (hc : cells + 0 ≤ room_1.cells ∧ slots + 0 ≤ room_1.slots) (hn5 : n ≤ 512) (hI : Inv n u cal evr) (hw : LW D aX aM cI cJ cR s H locs u (mk u cal evr rom bef)) (h1 : vp_in (x + 1) L) (h2 : vp_in (x + 2) L) (h3 : vp_in (x + 3) L) (h4 : vp_in (x + 4) L) (hl : lv_has ls 4 [(0, .ref b), (1, .ref (aX 0)), (2, .ref (aM 0)), (3, .int x)]) (kk : ∀ (u1 : XS) (cal1 : Nat → Int64) (evr1 : Nat → Int32) (rom1 : Int32) (bef1 : Nat → Int64) (H1 : Heap) (locs1 : List Loc), Inv (n + 1) u1 cal1 evr1 → LW D aX aM cI cJ cR s H1 locs1 u1 (mk u1 cal1 evr1 rom1 bef1) → W p l e room_1 s m #[Value.ref b] below meth c H1 locs1 cells slots Q (F0 m 734 ls [])) : W p l e room_1 s m #[Value.ref b] below meth c H locs cells slots Q (F0 m 558 ls []) := by
  obtain ⟨r, e1, e2⟩ := op_digest (rom := rom) (bef := bef) hI
  refine lv_aload_n C.1 C.2.1 dL_law_558 rfl (lv_at hl 1 rfl) ?_
  refine lXVl (As := []) (rest := []) C hF hc hw (k_X6_digest l D aX cI cJ cR u r e1) (cwV 0 C.2.2.2.2 gL_law_X6_digest rfl rfl rfl (by decide +kernel) ⟨Nat.le_of_ble_eq_true rfl, Nat.le_of_ble_eq_true rfl⟩) rfl hl.1 rfl (Nat.le_of_ble_eq_true rfl) dL_law_559 (fun H locs hw => ?_)
  refine lv_aload_n C.1 C.2.1 dL_law_562 rfl (lv_at hl 2 rfl) ?_
  refine lMVl (As := []) (rest := [.long r]) C hF hc hw (k_X7_digest l D aM cI cJ (mk u cal evr rom bef) r e2) (cwV 0 C.2.2.2.2 gL_law_X7_digest rfl rfl rfl (by decide +kernel) ⟨Nat.le_of_ble_eq_true rfl, Nat.le_of_ble_eq_true rfl⟩) rfl hl.1 rfl (Nat.le_of_ble_eq_true rfl) dL_law_563 (fun H locs hw => ?_)
  refine W.lcmp C.1 C.2.1 dL_law_566 ?_
  refine lv_if_eq (tgt := 734) C.1 C.2.1 dL_law_567 (by decide) (fun _ => ?_) (fun z => absurd ((lg_cmp_eq _ _).mpr rfl) z)
  exact kk u cal evr rom bef H locs hI.up hw
theorem cs_12 (C : CallFix p m c cL_law 4 s #[Value.ref b] wsL_law RL) (hF : LFix D aX aM cI cJ cR s b L xs) (hc : cells + 0 ≤ room_1.cells ∧ slots + 0 ≤ room_1.slots) (hn5 : n ≤ 512) (hI : Inv n u cal evr) (hw : LW D aX aM cI cJ cR s H locs u (mk u cal evr rom bef)) (h1 : vp_in (x + 1) L) (h2 : vp_in (x + 2) L) (h3 : vp_in (x + 3) L) (h4 : vp_in (x + 4) L) (hl : lv_has ls 4 [(0, .ref b), (1, .ref (aX 0)), (2, .ref (aM 0)), (3, .int x)]) (kk : ∀ (u1 : XS) (cal1 : Nat → Int64) (evr1 : Nat → Int32) (rom1 : Int32) (bef1 : Nat → Int64) (H1 : Heap) (locs1 : List Loc), Inv (n + 1) u1 cal1 evr1 → LW D aX aM cI cJ cR s H1 locs1 u1 (mk u1 cal1 evr1 rom1 bef1) → W p l e room_1 s m #[Value.ref b] below meth c H1 locs1 cells slots Q (F0 m 734 ls [])) : W p l e room_1 s m #[Value.ref b] below meth c H locs cells slots Q (F0 m 572 ls []) := by
  obtain ⟨r, u1, cal1, evr1, rom1, bef1, e1, e2, hI1⟩ := op_offer (rom := rom) (bef := bef) hI hn5
  refine lv_aload_n C.1 C.2.1 dL_law_572 rfl (lv_at hl 1 rfl) ?_
  refine lXVi (As := []) (rest := []) C hF hc hw (k_X6_offer l D aX cI cJ cR u r u1 e1) (cwV 0 C.2.2.2.2 gL_law_X6_offer rfl rfl rfl (by decide +kernel) ⟨Nat.le_of_ble_eq_true rfl, Nat.le_of_ble_eq_true rfl⟩) rfl hl.1 rfl (Nat.le_of_ble_eq_true rfl) dL_law_573 (fun H locs hw => ?_)
  refine lv_aload_n C.1 C.2.1 dL_law_576 rfl (lv_at hl 2 rfl) ?_
  refine lMVi (As := []) (rest := [.int r]) C hF hc hw (k_X7_offer l D aM cI cJ (mk u cal evr rom bef) r (mk u1 cal1 evr1 rom1 bef1) e2) (cwV 0 C.2.2.2.2 gL_law_X7_offer rfl rfl rfl (by decide +kernel) ⟨Nat.le_of_ble_eq_true rfl, Nat.le_of_ble_eq_true rfl⟩) rfl hl.1 rfl (Nat.le_of_ble_eq_true rfl) dL_law_577 (fun H locs hw => ?_)
  refine lv_icmp_eq (tgt := 734) C.1 C.2.1 dL_law_580 (by decide) (fun _ => ?_) (fun z => absurd rfl z)
  exact kk u1 cal1 evr1 rom1 bef1 H locs hI1 hw
theorem cs_13 (C : CallFix p m c cL_law 4 s #[Value.ref b] wsL_law RL) (hF : LFix D aX aM cI cJ cR s b L xs) (hc : cells + 0 ≤ room_1.cells ∧ slots + 0 ≤ room_1.slots) (hn5 : n ≤ 512) (hI : Inv n u cal evr) (hw : LW D aX aM cI cJ cR s H locs u (mk u cal evr rom bef)) (h1 : vp_in (x + 1) L) (h2 : vp_in (x + 2) L) (h3 : vp_in (x + 3) L) (h4 : vp_in (x + 4) L) (hl : lv_has ls 4 [(0, .ref b), (1, .ref (aX 0)), (2, .ref (aM 0)), (3, .int x)]) (kk : ∀ (u1 : XS) (cal1 : Nat → Int64) (evr1 : Nat → Int32) (rom1 : Int32) (bef1 : Nat → Int64) (H1 : Heap) (locs1 : List Loc), Inv (n + 1) u1 cal1 evr1 → LW D aX aM cI cJ cR s H1 locs1 u1 (mk u1 cal1 evr1 rom1 bef1) → W p l e room_1 s m #[Value.ref b] below meth c H1 locs1 cells slots Q (F0 m 734 ls [])) : W p l e room_1 s m #[Value.ref b] below meth c H locs cells slots Q (F0 m 585 ls []) := by
  obtain ⟨r, u1, cal1, evr1, rom1, bef1, e1, e2, hI1⟩ := op_step (rom := rom) (bef := bef) hI (xs (Int32.toNatClampNeg (x + (1 : Int32))))
  refine lv_aload_n C.1 C.2.1 dL_law_585 rfl (lv_at hl 1 rfl) ?_
  refine lv_aload_n C.1 C.2.1 dL_law_586 rfl (lv_at hl 0 rfl) ?_
  refine lv_iload_n C.1 C.2.1 dL_law_587 rfl (lv_at hl 3 rfl) ?_
  refine lv_iconst (v := 1) C.1 C.2.1 dL_law_588 (by decide) ?_
  refine lv_iadd C.1 C.2.1 dL_law_589 ?_
  refine va_sld (A := AL s) C.1 C.2.1 hF.2.1 hF.2.2.1 (Nat.not_le.mpr hF.2.2.1) hw.2.2.2.2 h1 dL_law_590 ?_
  refine lXVi (As := [.int (xs (Int32.toNatClampNeg (x + (1 : Int32))))]) (rest := []) C hF hc hw (k_X6_step l D aX cI cJ cR u (xs (Int32.toNatClampNeg (x + (1 : Int32)))) r u1 e1) (cwV 1 C.2.2.2.2 gL_law_X6_step rfl rfl rfl (by decide +kernel) ⟨Nat.le_of_ble_eq_true rfl, Nat.le_of_ble_eq_true rfl⟩) rfl hl.1 rfl (Nat.le_of_ble_eq_true rfl) dL_law_591 (fun H locs hw => ?_)
  refine lv_aload_n C.1 C.2.1 dL_law_594 rfl (lv_at hl 2 rfl) ?_
  refine lv_aload_n C.1 C.2.1 dL_law_595 rfl (lv_at hl 0 rfl) ?_
  refine lv_iload_n C.1 C.2.1 dL_law_596 rfl (lv_at hl 3 rfl) ?_
  refine lv_iconst (v := 1) C.1 C.2.1 dL_law_597 (by decide) ?_
  refine lv_iadd C.1 C.2.1 dL_law_598 ?_
  refine va_sld (A := AL s) C.1 C.2.1 hF.2.1 hF.2.2.1 (Nat.not_le.mpr hF.2.2.1) hw.2.2.2.2 h1 dL_law_599 ?_
  refine lMVi (As := [.int (xs (Int32.toNatClampNeg (x + (1 : Int32))))]) (rest := [.int r]) C hF hc hw (k_X7_step l D aM cI cJ (mk u cal evr rom bef) (xs (Int32.toNatClampNeg (x + (1 : Int32)))) r (mk u1 cal1 evr1 rom1 bef1) e2) (cwV 1 C.2.2.2.2 gL_law_X7_step rfl rfl rfl (by decide +kernel) ⟨Nat.le_of_ble_eq_true rfl, Nat.le_of_ble_eq_true rfl⟩) rfl hl.1 rfl (Nat.le_of_ble_eq_true rfl) dL_law_600 (fun H locs hw => ?_)
  refine lv_icmp_eq (tgt := 734) C.1 C.2.1 dL_law_603 (by decide) (fun _ => ?_) (fun z => absurd rfl z)
  exact kk u1 cal1 evr1 rom1 bef1 H locs hI1 hw
theorem cs_14 (C : CallFix p m c cL_law 4 s #[Value.ref b] wsL_law RL) (hF : LFix D aX aM cI cJ cR s b L xs) (hc : cells + 0 ≤ room_1.cells ∧ slots + 0 ≤ room_1.slots) (hn5 : n ≤ 512) (hI : Inv n u cal evr) (hw : LW D aX aM cI cJ cR s H locs u (mk u cal evr rom bef)) (h1 : vp_in (x + 1) L) (h2 : vp_in (x + 2) L) (h3 : vp_in (x + 3) L) (h4 : vp_in (x + 4) L) (hl : lv_has ls 4 [(0, .ref b), (1, .ref (aX 0)), (2, .ref (aM 0)), (3, .int x)]) (kk : ∀ (u1 : XS) (cal1 : Nat → Int64) (evr1 : Nat → Int32) (rom1 : Int32) (bef1 : Nat → Int64) (H1 : Heap) (locs1 : List Loc), Inv (n + 1) u1 cal1 evr1 → LW D aX aM cI cJ cR s H1 locs1 u1 (mk u1 cal1 evr1 rom1 bef1) → W p l e room_1 s m #[Value.ref b] below meth c H1 locs1 cells slots Q (F0 m 734 ls [])) : W p l e room_1 s m #[Value.ref b] below meth c H locs cells slots Q (F0 m 608 ls []) := by
  obtain ⟨r, u1, cal1, evr1, rom1, bef1, e1, e2, hI1⟩ := op_block (rom := rom) (bef := bef) hI hn5 (xs (Int32.toNatClampNeg (x + (1 : Int32))))
  refine lv_aload_n C.1 C.2.1 dL_law_608 rfl (lv_at hl 1 rfl) ?_
  refine lv_aload_n C.1 C.2.1 dL_law_609 rfl (lv_at hl 0 rfl) ?_
  refine lv_iload_n C.1 C.2.1 dL_law_610 rfl (lv_at hl 3 rfl) ?_
  refine lv_iconst (v := 1) C.1 C.2.1 dL_law_611 (by decide) ?_
  refine lv_iadd C.1 C.2.1 dL_law_612 ?_
  refine va_sld (A := AL s) C.1 C.2.1 hF.2.1 hF.2.2.1 (Nat.not_le.mpr hF.2.2.1) hw.2.2.2.2 h1 dL_law_613 ?_
  refine lXVi (As := [.int (xs (Int32.toNatClampNeg (x + (1 : Int32))))]) (rest := []) C hF hc hw (k_X6_block l D aX cI cJ cR u (xs (Int32.toNatClampNeg (x + (1 : Int32)))) r u1 e1) (cwV 1 C.2.2.2.2 gL_law_X6_block rfl rfl rfl (by decide +kernel) ⟨Nat.le_of_ble_eq_true rfl, Nat.le_of_ble_eq_true rfl⟩) rfl hl.1 rfl (Nat.le_of_ble_eq_true rfl) dL_law_614 (fun H locs hw => ?_)
  refine lv_aload_n C.1 C.2.1 dL_law_617 rfl (lv_at hl 2 rfl) ?_
  refine lv_aload_n C.1 C.2.1 dL_law_618 rfl (lv_at hl 0 rfl) ?_
  refine lv_iload_n C.1 C.2.1 dL_law_619 rfl (lv_at hl 3 rfl) ?_
  refine lv_iconst (v := 1) C.1 C.2.1 dL_law_620 (by decide) ?_
  refine lv_iadd C.1 C.2.1 dL_law_621 ?_
  refine va_sld (A := AL s) C.1 C.2.1 hF.2.1 hF.2.2.1 (Nat.not_le.mpr hF.2.2.1) hw.2.2.2.2 h1 dL_law_622 ?_
  refine lMVi (As := [.int (xs (Int32.toNatClampNeg (x + (1 : Int32))))]) (rest := [.int r]) C hF hc hw (k_X7_block l D aM cI cJ (mk u cal evr rom bef) (xs (Int32.toNatClampNeg (x + (1 : Int32)))) r (mk u1 cal1 evr1 rom1 bef1) e2) (cwV 1 C.2.2.2.2 gL_law_X7_block rfl rfl rfl (by decide +kernel) ⟨Nat.le_of_ble_eq_true rfl, Nat.le_of_ble_eq_true rfl⟩) rfl hl.1 rfl (Nat.le_of_ble_eq_true rfl) dL_law_623 (fun H locs hw => ?_)
  refine lv_icmp_eq (tgt := 734) C.1 C.2.1 dL_law_626 (by decide) (fun _ => ?_) (fun z => absurd rfl z)
  exact kk u1 cal1 evr1 rom1 bef1 H locs hI1 hw
theorem cs_15 (C : CallFix p m c cL_law 4 s #[Value.ref b] wsL_law RL) (hF : LFix D aX aM cI cJ cR s b L xs) (hc : cells + 0 ≤ room_1.cells ∧ slots + 0 ≤ room_1.slots) (hn5 : n ≤ 512) (hI : Inv n u cal evr) (hw : LW D aX aM cI cJ cR s H locs u (mk u cal evr rom bef)) (h1 : vp_in (x + 1) L) (h2 : vp_in (x + 2) L) (h3 : vp_in (x + 3) L) (h4 : vp_in (x + 4) L) (hl : lv_has ls 4 [(0, .ref b), (1, .ref (aX 0)), (2, .ref (aM 0)), (3, .int x)]) (kk : ∀ (u1 : XS) (cal1 : Nat → Int64) (evr1 : Nat → Int32) (rom1 : Int32) (bef1 : Nat → Int64) (H1 : Heap) (locs1 : List Loc), Inv (n + 1) u1 cal1 evr1 → LW D aX aM cI cJ cR s H1 locs1 u1 (mk u1 cal1 evr1 rom1 bef1) → W p l e room_1 s m #[Value.ref b] below meth c H1 locs1 cells slots Q (F0 m 734 ls [])) : W p l e room_1 s m #[Value.ref b] below meth c H locs cells slots Q (F0 m 631 ls []) := by
  obtain ⟨r, e1, e2⟩ := op_waiting (rom := rom) (bef := bef) hI (xs (Int32.toNatClampNeg (x + (1 : Int32)))) (xs (Int32.toNatClampNeg (x + (2 : Int32))))
  refine lv_aload_n C.1 C.2.1 dL_law_631 rfl (lv_at hl 1 rfl) ?_
  refine lv_aload_n C.1 C.2.1 dL_law_632 rfl (lv_at hl 0 rfl) ?_
  refine lv_iload_n C.1 C.2.1 dL_law_633 rfl (lv_at hl 3 rfl) ?_
  refine lv_iconst (v := 1) C.1 C.2.1 dL_law_634 (by decide) ?_
  refine lv_iadd C.1 C.2.1 dL_law_635 ?_
  refine va_sld (A := AL s) C.1 C.2.1 hF.2.1 hF.2.2.1 (Nat.not_le.mpr hF.2.2.1) hw.2.2.2.2 h1 dL_law_636 ?_
  refine lv_aload_n C.1 C.2.1 dL_law_637 rfl (lv_at hl 0 rfl) ?_
  refine lv_iload_n C.1 C.2.1 dL_law_638 rfl (lv_at hl 3 rfl) ?_
  refine lv_iconst (v := 2) C.1 C.2.1 dL_law_639 (by decide) ?_
  refine lv_iadd C.1 C.2.1 dL_law_640 ?_
  refine va_sld (A := AL s) C.1 C.2.1 hF.2.1 hF.2.2.1 (Nat.not_le.mpr hF.2.2.1) hw.2.2.2.2 h2 dL_law_641 ?_
  refine lXVi (As := [.int (xs (Int32.toNatClampNeg (x + (1 : Int32)))), .int (xs (Int32.toNatClampNeg (x + (2 : Int32))))]) (rest := []) C hF hc hw (k_X6_waiting l D aX cI cJ cR u (xs (Int32.toNatClampNeg (x + (1 : Int32)))) (xs (Int32.toNatClampNeg (x + (2 : Int32)))) r e1) (cwV 2 C.2.2.2.2 gL_law_X6_waiting rfl rfl rfl (by decide +kernel) ⟨Nat.le_of_ble_eq_true rfl, Nat.le_of_ble_eq_true rfl⟩) rfl hl.1 rfl (Nat.le_of_ble_eq_true rfl) dL_law_642 (fun H locs hw => ?_)
  refine lv_aload_n C.1 C.2.1 dL_law_645 rfl (lv_at hl 2 rfl) ?_
  refine lv_aload_n C.1 C.2.1 dL_law_646 rfl (lv_at hl 0 rfl) ?_
  refine lv_iload_n C.1 C.2.1 dL_law_647 rfl (lv_at hl 3 rfl) ?_
  refine lv_iconst (v := 1) C.1 C.2.1 dL_law_648 (by decide) ?_
  refine lv_iadd C.1 C.2.1 dL_law_649 ?_
  refine va_sld (A := AL s) C.1 C.2.1 hF.2.1 hF.2.2.1 (Nat.not_le.mpr hF.2.2.1) hw.2.2.2.2 h1 dL_law_650 ?_
  refine lv_aload_n C.1 C.2.1 dL_law_651 rfl (lv_at hl 0 rfl) ?_
  refine lv_iload_n C.1 C.2.1 dL_law_652 rfl (lv_at hl 3 rfl) ?_
  refine lv_iconst (v := 2) C.1 C.2.1 dL_law_653 (by decide) ?_
  refine lv_iadd C.1 C.2.1 dL_law_654 ?_
  refine va_sld (A := AL s) C.1 C.2.1 hF.2.1 hF.2.2.1 (Nat.not_le.mpr hF.2.2.1) hw.2.2.2.2 h2 dL_law_655 ?_
  refine lMVi (As := [.int (xs (Int32.toNatClampNeg (x + (1 : Int32)))), .int (xs (Int32.toNatClampNeg (x + (2 : Int32))))]) (rest := [.int r]) C hF hc hw (k_X7_waiting l D aM cI cJ (mk u cal evr rom bef) (xs (Int32.toNatClampNeg (x + (1 : Int32)))) (xs (Int32.toNatClampNeg (x + (2 : Int32)))) r e2) (cwV 2 C.2.2.2.2 gL_law_X7_waiting rfl rfl rfl (by decide +kernel) ⟨Nat.le_of_ble_eq_true rfl, Nat.le_of_ble_eq_true rfl⟩) rfl hl.1 rfl (Nat.le_of_ble_eq_true rfl) dL_law_656 (fun H locs hw => ?_)
  refine lv_icmp_eq (tgt := 734) C.1 C.2.1 dL_law_659 (by decide) (fun _ => ?_) (fun z => absurd rfl z)
  exact kk u cal evr rom bef H locs hI.up hw
theorem cs_16 (C : CallFix p m c cL_law 4 s #[Value.ref b] wsL_law RL) (hF : LFix D aX aM cI cJ cR s b L xs) (hc : cells + 0 ≤ room_1.cells ∧ slots + 0 ≤ room_1.slots) (hn5 : n ≤ 512) (hI : Inv n u cal evr) (hw : LW D aX aM cI cJ cR s H locs u (mk u cal evr rom bef)) (h1 : vp_in (x + 1) L) (h2 : vp_in (x + 2) L) (h3 : vp_in (x + 3) L) (h4 : vp_in (x + 4) L) (hl : lv_has ls 4 [(0, .ref b), (1, .ref (aX 0)), (2, .ref (aM 0)), (3, .int x)]) (kk : ∀ (u1 : XS) (cal1 : Nat → Int64) (evr1 : Nat → Int32) (rom1 : Int32) (bef1 : Nat → Int64) (H1 : Heap) (locs1 : List Loc), Inv (n + 1) u1 cal1 evr1 → LW D aX aM cI cJ cR s H1 locs1 u1 (mk u1 cal1 evr1 rom1 bef1) → W p l e room_1 s m #[Value.ref b] below meth c H1 locs1 cells slots Q (F0 m 734 ls [])) : W p l e room_1 s m #[Value.ref b] below meth c H locs cells slots Q (F0 m 664 ls []) := by
  obtain ⟨r, e1, e2⟩ := op_event (rom := rom) (bef := bef) hI hn5 (xs (Int32.toNatClampNeg (x + (1 : Int32)))) (xs (Int32.toNatClampNeg (x + (2 : Int32))))
  refine lv_aload_n C.1 C.2.1 dL_law_664 rfl (lv_at hl 1 rfl) ?_
  refine lv_aload_n C.1 C.2.1 dL_law_665 rfl (lv_at hl 0 rfl) ?_
  refine lv_iload_n C.1 C.2.1 dL_law_666 rfl (lv_at hl 3 rfl) ?_
  refine lv_iconst (v := 1) C.1 C.2.1 dL_law_667 (by decide) ?_
  refine lv_iadd C.1 C.2.1 dL_law_668 ?_
  refine va_sld (A := AL s) C.1 C.2.1 hF.2.1 hF.2.2.1 (Nat.not_le.mpr hF.2.2.1) hw.2.2.2.2 h1 dL_law_669 ?_
  refine lv_aload_n C.1 C.2.1 dL_law_670 rfl (lv_at hl 0 rfl) ?_
  refine lv_iload_n C.1 C.2.1 dL_law_671 rfl (lv_at hl 3 rfl) ?_
  refine lv_iconst (v := 2) C.1 C.2.1 dL_law_672 (by decide) ?_
  refine lv_iadd C.1 C.2.1 dL_law_673 ?_
  refine va_sld (A := AL s) C.1 C.2.1 hF.2.1 hF.2.2.1 (Nat.not_le.mpr hF.2.2.1) hw.2.2.2.2 h2 dL_law_674 ?_
  refine lXVi (As := [.int (xs (Int32.toNatClampNeg (x + (1 : Int32)))), .int (xs (Int32.toNatClampNeg (x + (2 : Int32))))]) (rest := []) C hF hc hw (k_X6_event l D aX cI cJ cR u (xs (Int32.toNatClampNeg (x + (1 : Int32)))) (xs (Int32.toNatClampNeg (x + (2 : Int32)))) r e1) (cwV 2 C.2.2.2.2 gL_law_X6_event rfl rfl rfl (by decide +kernel) ⟨Nat.le_of_ble_eq_true rfl, Nat.le_of_ble_eq_true rfl⟩) rfl hl.1 rfl (Nat.le_of_ble_eq_true rfl) dL_law_675 (fun H locs hw => ?_)
  refine lv_aload_n C.1 C.2.1 dL_law_678 rfl (lv_at hl 2 rfl) ?_
  refine lv_aload_n C.1 C.2.1 dL_law_679 rfl (lv_at hl 0 rfl) ?_
  refine lv_iload_n C.1 C.2.1 dL_law_680 rfl (lv_at hl 3 rfl) ?_
  refine lv_iconst (v := 1) C.1 C.2.1 dL_law_681 (by decide) ?_
  refine lv_iadd C.1 C.2.1 dL_law_682 ?_
  refine va_sld (A := AL s) C.1 C.2.1 hF.2.1 hF.2.2.1 (Nat.not_le.mpr hF.2.2.1) hw.2.2.2.2 h1 dL_law_683 ?_
  refine lv_aload_n C.1 C.2.1 dL_law_684 rfl (lv_at hl 0 rfl) ?_
  refine lv_iload_n C.1 C.2.1 dL_law_685 rfl (lv_at hl 3 rfl) ?_
  refine lv_iconst (v := 2) C.1 C.2.1 dL_law_686 (by decide) ?_
  refine lv_iadd C.1 C.2.1 dL_law_687 ?_
  refine va_sld (A := AL s) C.1 C.2.1 hF.2.1 hF.2.2.1 (Nat.not_le.mpr hF.2.2.1) hw.2.2.2.2 h2 dL_law_688 ?_
  refine lMVi (As := [.int (xs (Int32.toNatClampNeg (x + (1 : Int32)))), .int (xs (Int32.toNatClampNeg (x + (2 : Int32))))]) (rest := [.int r]) C hF hc hw (k_X7_event l D aM cI cJ (mk u cal evr rom bef) (xs (Int32.toNatClampNeg (x + (1 : Int32)))) (xs (Int32.toNatClampNeg (x + (2 : Int32)))) r e2) (cwV 2 C.2.2.2.2 gL_law_X7_event rfl rfl rfl (by decide +kernel) ⟨Nat.le_of_ble_eq_true rfl, Nat.le_of_ble_eq_true rfl⟩) rfl hl.1 rfl (Nat.le_of_ble_eq_true rfl) dL_law_689 (fun H locs hw => ?_)
  refine lv_icmp_eq (tgt := 734) C.1 C.2.1 dL_law_692 (by decide) (fun _ => ?_) (fun z => absurd rfl z)
  exact kk u cal evr rom bef H locs hI.up hw
theorem cs_17 (C : CallFix p m c cL_law 4 s #[Value.ref b] wsL_law RL) (hF : LFix D aX aM cI cJ cR s b L xs) (hc : cells + 0 ≤ room_1.cells ∧ slots + 0 ≤ room_1.slots) (hn5 : n ≤ 512) (hI : Inv n u cal evr) (hw : LW D aX aM cI cJ cR s H locs u (mk u cal evr rom bef)) (h1 : vp_in (x + 1) L) (h2 : vp_in (x + 2) L) (h3 : vp_in (x + 3) L) (h4 : vp_in (x + 4) L) (hl : lv_has ls 4 [(0, .ref b), (1, .ref (aX 0)), (2, .ref (aM 0)), (3, .int x)]) (kk : ∀ (u1 : XS) (cal1 : Nat → Int64) (evr1 : Nat → Int32) (rom1 : Int32) (bef1 : Nat → Int64) (H1 : Heap) (locs1 : List Loc), Inv (n + 1) u1 cal1 evr1 → LW D aX aM cI cJ cR s H1 locs1 u1 (mk u1 cal1 evr1 rom1 bef1) → W p l e room_1 s m #[Value.ref b] below meth c H1 locs1 cells slots Q (F0 m 734 ls [])) : W p l e room_1 s m #[Value.ref b] below meth c H locs cells slots Q (F0 m 697 ls []) := by
  obtain ⟨r, e1, e2⟩ := op_paid (u := u) (cal := cal) (evr := evr) (rom := rom) (bef := bef)
  refine lv_aload_n C.1 C.2.1 dL_law_697 rfl (lv_at hl 1 rfl) ?_
  refine lXVl (As := []) (rest := []) C hF hc hw (k_X6_paid l D aX cI cJ cR u r e1) (cwV 0 C.2.2.2.2 gL_law_X6_paid rfl rfl rfl (by decide +kernel) ⟨Nat.le_of_ble_eq_true rfl, Nat.le_of_ble_eq_true rfl⟩) rfl hl.1 rfl (Nat.le_of_ble_eq_true rfl) dL_law_698 (fun H locs hw => ?_)
  refine lv_aload_n C.1 C.2.1 dL_law_701 rfl (lv_at hl 2 rfl) ?_
  refine lMVl (As := []) (rest := [.long r]) C hF hc hw (k_X7_paid l D aM cI cJ (mk u cal evr rom bef) r e2) (cwV 0 C.2.2.2.2 gL_law_X7_paid rfl rfl rfl (by decide +kernel) ⟨Nat.le_of_ble_eq_true rfl, Nat.le_of_ble_eq_true rfl⟩) rfl hl.1 rfl (Nat.le_of_ble_eq_true rfl) dL_law_702 (fun H locs hw => ?_)
  refine W.lcmp C.1 C.2.1 dL_law_705 ?_
  refine lv_if_eq (tgt := 734) C.1 C.2.1 dL_law_706 (by decide) (fun _ => ?_) (fun z => absurd ((lg_cmp_eq _ _).mpr rfl) z)
  exact kk u cal evr rom bef H locs hI.up hw
theorem cs_18 (C : CallFix p m c cL_law 4 s #[Value.ref b] wsL_law RL) (hF : LFix D aX aM cI cJ cR s b L xs) (hc : cells + 0 ≤ room_1.cells ∧ slots + 0 ≤ room_1.slots) (hn5 : n ≤ 512) (hI : Inv n u cal evr) (hw : LW D aX aM cI cJ cR s H locs u (mk u cal evr rom bef)) (h1 : vp_in (x + 1) L) (h2 : vp_in (x + 2) L) (h3 : vp_in (x + 3) L) (h4 : vp_in (x + 4) L) (hl : lv_has ls 4 [(0, .ref b), (1, .ref (aX 0)), (2, .ref (aM 0)), (3, .int x)]) (kk : ∀ (u1 : XS) (cal1 : Nat → Int64) (evr1 : Nat → Int32) (rom1 : Int32) (bef1 : Nat → Int64) (H1 : Heap) (locs1 : List Loc), Inv (n + 1) u1 cal1 evr1 → LW D aX aM cI cJ cR s H1 locs1 u1 (mk u1 cal1 evr1 rom1 bef1) → W p l e room_1 s m #[Value.ref b] below meth c H1 locs1 cells slots Q (F0 m 734 ls [])) : W p l e room_1 s m #[Value.ref b] below meth c H locs cells slots Q (F0 m 711 ls []) := by
  obtain ⟨r, e1, e2⟩ := op_told (u := u) (cal := cal) (evr := evr) (rom := rom) (bef := bef) (xs (Int32.toNatClampNeg (x + (1 : Int32))))
  refine lv_aload_n C.1 C.2.1 dL_law_711 rfl (lv_at hl 1 rfl) ?_
  refine lv_aload_n C.1 C.2.1 dL_law_712 rfl (lv_at hl 0 rfl) ?_
  refine lv_iload_n C.1 C.2.1 dL_law_713 rfl (lv_at hl 3 rfl) ?_
  refine lv_iconst (v := 1) C.1 C.2.1 dL_law_714 (by decide) ?_
  refine lv_iadd C.1 C.2.1 dL_law_715 ?_
  refine va_sld (A := AL s) C.1 C.2.1 hF.2.1 hF.2.2.1 (Nat.not_le.mpr hF.2.2.1) hw.2.2.2.2 h1 dL_law_716 ?_
  refine lXVi (As := [.int (xs (Int32.toNatClampNeg (x + (1 : Int32))))]) (rest := []) C hF hc hw (k_X6_told l D aX cI cJ cR u (xs (Int32.toNatClampNeg (x + (1 : Int32)))) r e1) (cwV 1 C.2.2.2.2 gL_law_X6_told rfl rfl rfl (by decide +kernel) ⟨Nat.le_of_ble_eq_true rfl, Nat.le_of_ble_eq_true rfl⟩) rfl hl.1 rfl (Nat.le_of_ble_eq_true rfl) dL_law_717 (fun H locs hw => ?_)
  refine lv_aload_n C.1 C.2.1 dL_law_720 rfl (lv_at hl 2 rfl) ?_
  refine lv_aload_n C.1 C.2.1 dL_law_721 rfl (lv_at hl 0 rfl) ?_
  refine lv_iload_n C.1 C.2.1 dL_law_722 rfl (lv_at hl 3 rfl) ?_
  refine lv_iconst (v := 1) C.1 C.2.1 dL_law_723 (by decide) ?_
  refine lv_iadd C.1 C.2.1 dL_law_724 ?_
  refine va_sld (A := AL s) C.1 C.2.1 hF.2.1 hF.2.2.1 (Nat.not_le.mpr hF.2.2.1) hw.2.2.2.2 h1 dL_law_725 ?_
  refine lMVi (As := [.int (xs (Int32.toNatClampNeg (x + (1 : Int32))))]) (rest := [.int r]) C hF hc hw (k_X7_told_ l D aM cI cJ (mk u cal evr rom bef) (xs (Int32.toNatClampNeg (x + (1 : Int32)))) r e2) (cwV 1 C.2.2.2.2 gL_law_X7_told_ rfl rfl rfl (by decide +kernel) ⟨Nat.le_of_ble_eq_true rfl, Nat.le_of_ble_eq_true rfl⟩) rfl hl.1 rfl (Nat.le_of_ble_eq_true rfl) dL_law_726 (fun H locs hw => ?_)
  refine lv_icmp_eq (tgt := 734) C.1 C.2.1 dL_law_729 (by decide) (fun _ => ?_) (fun z => absurd rfl z)
  exact kk u cal evr rom bef H locs hI.up hw
end LAWC
