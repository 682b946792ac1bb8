set_option maxHeartbeats 4000000 in
set_option maxRecDepth 100000 in
theorem lw_c_visit {p : Program} {l : Launch} {e : Env} {s : State} {m : MethodId} {below : List Frame} {meth : Method} {c : Code} {Q : State → Prop} {D : va_G} {cI cD : ClassId} {ad0 : Nat → Nat → Nat} {σ0 : lpM} {b L : Nat} {xs : Nat → Int32} (C0 : lw_At p s m meth c b L xs) (hWd : lp_Wd D cI cD s) (hDm : ∀ q, lp_Dom ad0 σ0 s.heap.size q → s.heap.size ≤ q) (hL : L ≤ 2048)
    {ad : Nat → Nat → Nat} {σ : lpM} {H : Heap} {locs : List Loc} {cells slots : Nat} {ls : Array Slot} {t : Nat} (ht : t + 3 < L) (A : lw_A D cI cD s ad0 σ0 b ad σ H locs cells slots ls (nI t)) {Z : lpZ} (hP : lpP σ Z) (hD : lpD σ Z)
    (kk : ∀ (ad' : Nat → Nat → Nat) (σ' : lpM) (H' : Heap) (locs' : List Loc) (cells' slots' : Nat) (Z' : lpZ), lw_A D cI cD s ad0 σ0 b ad' σ' H' locs' cells' slots' ls (nI t) → lpP σ' Z' → lpD σ' Z' → W p l e room_1 s m #[Value.ref b] below meth c H' locs' cells' slots' Q (F0 m 659 ls [])) :
    W p l e room_1 s m #[Value.ref b] below meth c H locs cells slots Q (F0 m 124 ls []) := by
  obtain ⟨hx, hb, hr, hml, hown, hts, hX, hbl, hlocks, hgv⟩ := id C0
  have hl := A.2
  refine lv_aload_n hx hb dL_law_124 rfl (lv_at hl 1 rfl) ?_
  refine lw_call C0 hWd (x := (13, some 6, 0, sp_X6_visit)) (rg := 1) (lp_mkCall lkL_13 (ct_X6_visit l D cI cD) (by omega)) rfl rfl (Or.inl rfl) A [] [] rfl (Nat.zero_le _) dL_law_125 (Qk := fun ro τ => ro = some (an_visit Z) ∧ lpP τ (st_visit Z) ∧ lpFL σ τ) ⟨rfl, rfl, Z, hP, fun τ h1 h2 => ⟨rfl, h1, h2⟩⟩ (fun ro τ ad1 H1 locs1 cells1 slots1 hq A1 => ?_)
  obtain ⟨rfl, h1, h2⟩ := hq
  have hD1 := lpD_high hD h2
  clear hP hD A
  refine lv_aload_n hx hb dL_law_128 rfl (lv_at hl 2 rfl) ?_
  refine lw_call C0 hWd (x := (17, some 7, 0, sp_X7_visit)) (rg := 30) (lp_mkCall lkL_17 (ct_X7_visit l D cI cD) (by omega)) rfl rfl (Or.inr rfl) A1 [] [an_visit Z] rfl (Nat.le_of_ble_eq_true rfl) dL_law_129 (Qk := fun ro υ => ro = some (an_visit Z) ∧ lpD υ (st_visit Z) ∧ lpFM τ υ) ⟨rfl, rfl, Z, hD1, fun υ h3 h4 => ⟨rfl, h3, h4⟩⟩ (fun ro υ ad2 H2 locs2 cells2 slots2 hq A2 => ?_)
  obtain ⟨rfl, h3, h4⟩ := hq
  refine lv_icmp_eq (tgt := 659) hx hb dL_law_132 (by decide) (fun _ => ?_) (fun q => absurd rfl q)
  exact kk ad2 υ H2 locs2 cells2 slots2 _ A2 (LP_low h1 h4) h3
set_option maxHeartbeats 4000000 in
set_option maxRecDepth 100000 in
theorem lw_c_ask {p : Program} {l : Launch} {e : Env} {s : State} {m : MethodId} {below : List Frame} {meth : Method} {c : Code} {Q : State → Prop} {D : va_G} {cI cD : ClassId} {ad0 : Nat → Nat → Nat} {σ0 : lpM} {b L : Nat} {xs : Nat → Int32} (C0 : lw_At p s m meth c b L xs) (hWd : lp_Wd D cI cD s) (hDm : ∀ q, lp_Dom ad0 σ0 s.heap.size q → s.heap.size ≤ q) (hL : L ≤ 2048)
    {ad : Nat → Nat → Nat} {σ : lpM} {H : Heap} {locs : List Loc} {cells slots : Nat} {ls : Array Slot} {t : Nat} (ht : t + 3 < L) (A : lw_A D cI cD s ad0 σ0 b ad σ H locs cells slots ls (nI t)) {Z : lpZ} (hP : lpP σ Z) (hD : lpD σ Z)
    (kk : ∀ (ad' : Nat → Nat → Nat) (σ' : lpM) (H' : Heap) (locs' : List Loc) (cells' slots' : Nat) (Z' : lpZ), lw_A D cI cD s ad0 σ0 b ad' σ' H' locs' cells' slots' ls (nI t) → lpP σ' Z' → lpD σ' Z' → W p l e room_1 s m #[Value.ref b] below meth c H' locs' cells' slots' Q (F0 m 659 ls [])) :
    W p l e room_1 s m #[Value.ref b] below meth c H locs cells slots Q (F0 m 137 ls []) := by
  obtain ⟨hx, hb, hr, hml, hown, hts, hX, hbl, hlocks, hgv⟩ := id C0
  have hl := A.2
  refine lv_aload_n hx hb dL_law_137 rfl (lv_at hl 1 rfl) ?_
  refine lw_arg C0 hDm A 1 (by decide) (by omega) hL dL_law_138 dL_law_139 dL_law_140 dL_law_141 dL_law_142 ?_
  refine lw_arg C0 hDm A 2 (by decide) (by omega) hL dL_law_143 dL_law_144 dL_law_145 dL_law_146 dL_law_147 ?_
  refine lw_call C0 hWd (x := (18, some 6, 2, sp_X6_ask)) (rg := 1) (lp_mkCall lkL_18 (ct_X6_ask l D cI cD) (by omega)) rfl rfl (Or.inl rfl) A [xs (t + 1), xs (t + 2)] [] rfl (Nat.zero_le _) dL_law_148 (Qk := fun ro τ => ro = some (an_ask (xs (t + 1)) (xs (t + 2)) Z) ∧ lpP τ (st_ask (xs (t + 1)) (xs (t + 2)) Z) ∧ lpFL σ τ) ⟨rfl, rfl, Z, hP, fun τ h1 h2 => ⟨rfl, h1, h2⟩⟩ (fun ro τ ad1 H1 locs1 cells1 slots1 hq A1 => ?_)
  obtain ⟨rfl, h1, h2⟩ := hq
  have hD1 := lpD_high hD h2
  clear hP hD A
  refine lv_aload_n hx hb dL_law_151 rfl (lv_at hl 2 rfl) ?_
  refine lw_arg C0 hDm A1 1 (by decide) (by omega) hL dL_law_152 dL_law_153 dL_law_154 dL_law_155 dL_law_156 ?_
  refine lw_arg C0 hDm A1 2 (by decide) (by omega) hL dL_law_157 dL_law_158 dL_law_159 dL_law_160 dL_law_161 ?_
  refine lw_call C0 hWd (x := (22, some 7, 2, sp_X7_ask)) (rg := 30) (lp_mkCall lkL_22 (ct_X7_ask l D cI cD) (by omega)) rfl rfl (Or.inr rfl) A1 [xs (t + 1), xs (t + 2)] [an_ask (xs (t + 1)) (xs (t + 2)) Z] rfl (Nat.le_of_ble_eq_true rfl) dL_law_162 (Qk := fun ro υ => ro = some (an_ask (xs (t + 1)) (xs (t + 2)) Z) ∧ lpD υ (st_ask (xs (t + 1)) (xs (t + 2)) Z) ∧ lpFM τ υ) ⟨rfl, rfl, Z, hD1, fun υ h3 h4 => ⟨rfl, h3, h4⟩⟩ (fun ro υ ad2 H2 locs2 cells2 slots2 hq A2 => ?_)
  obtain ⟨rfl, h3, h4⟩ := hq
  refine lv_icmp_eq (tgt := 659) hx hb dL_law_165 (by decide) (fun _ => ?_) (fun q => absurd rfl q)
  exact kk ad2 υ H2 locs2 cells2 slots2 _ A2 (LP_low h1 h4) h3
set_option maxHeartbeats 4000000 in
set_option maxRecDepth 100000 in
theorem lw_c_clear {p : Program} {l : Launch} {e : Env} {s : State} {m : MethodId} {below : List Frame} {meth : Method} {c : Code} {Q : State → Prop} {D : va_G} {cI cD : ClassId} {ad0 : Nat → Nat → Nat} {σ0 : lpM} {b L : Nat} {xs : Nat → Int32} (C0 : lw_At p s m meth c b L xs) (hWd : lp_Wd D cI cD s) (hDm : ∀ q, lp_Dom ad0 σ0 s.heap.size q → s.heap.size ≤ q) (hL : L ≤ 2048)
    {ad : Nat → Nat → Nat} {σ : lpM} {H : Heap} {locs : List Loc} {cells slots : Nat} {ls : Array Slot} {t : Nat} (ht : t + 3 < L) (A : lw_A D cI cD s ad0 σ0 b ad σ H locs cells slots ls (nI t)) {Z : lpZ} (hP : lpP σ Z) (hD : lpD σ Z)
    (kk : ∀ (ad' : Nat → Nat → Nat) (σ' : lpM) (H' : Heap) (locs' : List Loc) (cells' slots' : Nat) (Z' : lpZ), lw_A D cI cD s ad0 σ0 b ad' σ' H' locs' cells' slots' ls (nI t) → lpP σ' Z' → lpD σ' Z' → W p l e room_1 s m #[Value.ref b] below meth c H' locs' cells' slots' Q (F0 m 659 ls [])) :
    W p l e room_1 s m #[Value.ref b] below meth c H locs cells slots Q (F0 m 170 ls []) := by
  obtain ⟨hx, hb, hr, hml, hown, hts, hX, hbl, hlocks, hgv⟩ := id C0
  have hl := A.2
  refine lv_aload_n hx hb dL_law_170 rfl (lv_at hl 1 rfl) ?_
  refine lw_call C0 hWd (x := (23, some 6, 0, sp_X6_clear)) (rg := 1) (lp_mkCall lkL_23 (ct_X6_clear l D cI cD) (by omega)) rfl rfl (Or.inl rfl) A [] [] rfl (Nat.zero_le _) dL_law_171 (Qk := fun ro τ => ro = none ∧ lpP τ (st_clear Z) ∧ lpFL σ τ) ⟨rfl, rfl, Z, hP, fun τ h1 h2 _ => ⟨rfl, h1, h2⟩⟩ (fun ro τ ad1 H1 locs1 cells1 slots1 hq A1 => ?_)
  obtain ⟨rfl, h1, h2⟩ := hq
  have hD1 := lpD_high hD h2
  clear hP hD A
  refine lv_aload_n hx hb dL_law_174 rfl (lv_at hl 2 rfl) ?_
  refine lw_call C0 hWd (x := (26, some 7, 0, sp_X7_clear)) (rg := 30) (lp_mkCall lkL_26 (ct_X7_clear l D cI cD) (by omega)) rfl rfl (Or.inr rfl) A1 [] [] rfl (Nat.le_of_ble_eq_true rfl) dL_law_175 (Qk := fun ro υ => ro = none ∧ lpD υ (st_clear Z) ∧ lpFM τ υ) ⟨rfl, rfl, Z, hD1, fun υ h3 h4 => ⟨rfl, h3, h4⟩⟩ (fun ro υ ad2 H2 locs2 cells2 slots2 hq A2 => ?_)
  obtain ⟨rfl, h3, h4⟩ := hq
  refine lv_goto (tgt := 659) hx hb dL_law_178 (by decide) ?_
  exact kk ad2 υ H2 locs2 cells2 slots2 _ A2 (LP_low h1 h4) h3
set_option maxHeartbeats 4000000 in
set_option maxRecDepth 100000 in
theorem lw_c_steps {p : Program} {l : Launch} {e : Env} {s : State} {m : MethodId} {below : List Frame} {meth : Method} {c : Code} {Q : State → Prop} {D : va_G} {cI cD : ClassId} {ad0 : Nat → Nat → Nat} {σ0 : lpM} {b L : Nat} {xs : Nat → Int32} (C0 : lw_At p s m meth c b L xs) (hWd : lp_Wd D cI cD s) (hDm : ∀ q, lp_Dom ad0 σ0 s.heap.size q → s.heap.size ≤ q) (hL : L ≤ 2048)
    {ad : Nat → Nat → Nat} {σ : lpM} {H : Heap} {locs : List Loc} {cells slots : Nat} {ls : Array Slot} {t : Nat} (ht : t + 3 < L) (A : lw_A D cI cD s ad0 σ0 b ad σ H locs cells slots ls (nI t)) {Z : lpZ} (hP : lpP σ Z) (hD : lpD σ Z)
    (kk : ∀ (ad' : Nat → Nat → Nat) (σ' : lpM) (H' : Heap) (locs' : List Loc) (cells' slots' : Nat) (Z' : lpZ), lw_A D cI cD s ad0 σ0 b ad' σ' H' locs' cells' slots' ls (nI t) → lpP σ' Z' → lpD σ' Z' → W p l e room_1 s m #[Value.ref b] below meth c H' locs' cells' slots' Q (F0 m 659 ls [])) :
    W p l e room_1 s m #[Value.ref b] below meth c H locs cells slots Q (F0 m 181 ls []) := by
  obtain ⟨hx, hb, hr, hml, hown, hts, hX, hbl, hlocks, hgv⟩ := id C0
  have hl := A.2
  refine lv_aload_n hx hb dL_law_181 rfl (lv_at hl 1 rfl) ?_
  refine lw_arg C0 hDm A 1 (by decide) (by omega) hL dL_law_182 dL_law_183 dL_law_184 dL_law_185 dL_law_186 ?_
  refine lw_arg C0 hDm A 2 (by decide) (by omega) hL dL_law_187 dL_law_188 dL_law_189 dL_law_190 dL_law_191 ?_
  refine lw_call C0 hWd (x := (27, some 6, 2, sp_X6_steps)) (rg := 1) (lp_mkCall lkL_27 (ct_X6_steps l D cI cD) (by omega)) rfl rfl (Or.inl rfl) A [xs (t + 1), xs (t + 2)] [] rfl (Nat.zero_le _) dL_law_192 (Qk := fun ro τ => ro = some (an_steps (xs (t + 1)) (xs (t + 2)) Z) ∧ lpP τ (Z) ∧ lpFL σ τ) ⟨rfl, rfl, Z, hP, rfl, hP, FL_rf σ⟩ (fun ro τ ad1 H1 locs1 cells1 slots1 hq A1 => ?_)
  obtain ⟨rfl, h1, h2⟩ := hq
  have hD1 := lpD_high hD h2
  clear hP hD A
  refine lv_aload_n hx hb dL_law_195 rfl (lv_at hl 2 rfl) ?_
  refine lw_arg C0 hDm A1 1 (by decide) (by omega) hL dL_law_196 dL_law_197 dL_law_198 dL_law_199 dL_law_200 ?_
  refine lw_arg C0 hDm A1 2 (by decide) (by omega) hL dL_law_201 dL_law_202 dL_law_203 dL_law_204 dL_law_205 ?_
  refine lw_call C0 hWd (x := (30, some 7, 2, sp_X7_steps)) (rg := 30) (lp_mkCall lkL_30 (ct_X7_steps l D cI cD) (by omega)) rfl rfl (Or.inr rfl) A1 [xs (t + 1), xs (t + 2)] [an_steps (xs (t + 1)) (xs (t + 2)) Z] rfl (Nat.le_of_ble_eq_true rfl) dL_law_206 (Qk := fun ro υ => ro = some (an_steps (xs (t + 1)) (xs (t + 2)) Z) ∧ lpD υ (Z) ∧ lpFM τ υ) ⟨rfl, rfl, Z, hD1, rfl, hD1, lpFM_rf τ⟩ (fun ro υ ad2 H2 locs2 cells2 slots2 hq A2 => ?_)
  obtain ⟨rfl, h3, h4⟩ := hq
  refine lv_icmp_eq (tgt := 659) hx hb dL_law_209 (by decide) (fun _ => ?_) (fun q => absurd rfl q)
  exact kk ad2 υ H2 locs2 cells2 slots2 _ A2 (LP_low h1 h4) h3
set_option maxHeartbeats 4000000 in
set_option maxRecDepth 100000 in
theorem lw_c_waits {p : Program} {l : Launch} {e : Env} {s : State} {m : MethodId} {below : List Frame} {meth : Method} {c : Code} {Q : State → Prop} {D : va_G} {cI cD : ClassId} {ad0 : Nat → Nat → Nat} {σ0 : lpM} {b L : Nat} {xs : Nat → Int32} (C0 : lw_At p s m meth c b L xs) (hWd : lp_Wd D cI cD s) (hDm : ∀ q, lp_Dom ad0 σ0 s.heap.size q → s.heap.size ≤ q) (hL : L ≤ 2048)
    {ad : Nat → Nat → Nat} {σ : lpM} {H : Heap} {locs : List Loc} {cells slots : Nat} {ls : Array Slot} {t : Nat} (ht : t + 3 < L) (A : lw_A D cI cD s ad0 σ0 b ad σ H locs cells slots ls (nI t)) {Z : lpZ} (hP : lpP σ Z) (hD : lpD σ Z)
    (kk : ∀ (ad' : Nat → Nat → Nat) (σ' : lpM) (H' : Heap) (locs' : List Loc) (cells' slots' : Nat) (Z' : lpZ), lw_A D cI cD s ad0 σ0 b ad' σ' H' locs' cells' slots' ls (nI t) → lpP σ' Z' → lpD σ' Z' → W p l e room_1 s m #[Value.ref b] below meth c H' locs' cells' slots' Q (F0 m 659 ls [])) :
    W p l e room_1 s m #[Value.ref b] below meth c H locs cells slots Q (F0 m 214 ls []) := by
  obtain ⟨hx, hb, hr, hml, hown, hts, hX, hbl, hlocks, hgv⟩ := id C0
  have hl := A.2
  refine lv_aload_n hx hb dL_law_214 rfl (lv_at hl 1 rfl) ?_
  refine lw_arg C0 hDm A 1 (by decide) (by omega) hL dL_law_215 dL_law_216 dL_law_217 dL_law_218 dL_law_219 ?_
  refine lw_arg C0 hDm A 2 (by decide) (by omega) hL dL_law_220 dL_law_221 dL_law_222 dL_law_223 dL_law_224 ?_
  refine lw_arg C0 hDm A 3 (by decide) (by omega) hL dL_law_225 dL_law_226 dL_law_227 dL_law_228 dL_law_229 ?_
  refine lw_call C0 hWd (x := (31, some 6, 3, sp_X6_waits)) (rg := 1) (lp_mkCall lkL_31 (ct_X6_waits l D cI cD) (by omega)) rfl rfl (Or.inl rfl) A [xs (t + 1), xs (t + 2), xs (t + 3)] [] rfl (Nat.zero_le _) dL_law_230 (Qk := fun ro τ => ro = some (an_waits (xs (t + 1)) (xs (t + 2)) (xs (t + 3)) Z) ∧ lpP τ (Z) ∧ lpFL σ τ) ⟨rfl, rfl, Z, hP, rfl, hP, FL_rf σ⟩ (fun ro τ ad1 H1 locs1 cells1 slots1 hq A1 => ?_)
  obtain ⟨rfl, h1, h2⟩ := hq
  have hD1 := lpD_high hD h2
  clear hP hD A
  refine lv_aload_n hx hb dL_law_233 rfl (lv_at hl 2 rfl) ?_
  refine lw_arg C0 hDm A1 1 (by decide) (by omega) hL dL_law_234 dL_law_235 dL_law_236 dL_law_237 dL_law_238 ?_
  refine lw_arg C0 hDm A1 2 (by decide) (by omega) hL dL_law_239 dL_law_240 dL_law_241 dL_law_242 dL_law_243 ?_
  refine lw_arg C0 hDm A1 3 (by decide) (by omega) hL dL_law_244 dL_law_245 dL_law_246 dL_law_247 dL_law_248 ?_
  refine lw_call C0 hWd (x := (35, some 7, 3, sp_X7_waits)) (rg := 30) (lp_mkCall lkL_35 (ct_X7_waits l D cI cD) (by omega)) rfl rfl (Or.inr rfl) A1 [xs (t + 1), xs (t + 2), xs (t + 3)] [an_waits (xs (t + 1)) (xs (t + 2)) (xs (t + 3)) Z] rfl (Nat.le_of_ble_eq_true rfl) dL_law_249 (Qk := fun ro υ => ro = some (an_waits (xs (t + 1)) (xs (t + 2)) (xs (t + 3)) Z) ∧ lpD υ (Z) ∧ lpFM τ υ) ⟨rfl, rfl, Z, hD1, rfl, hD1, lpFM_rf τ⟩ (fun ro υ ad2 H2 locs2 cells2 slots2 hq A2 => ?_)
  obtain ⟨rfl, h3, h4⟩ := hq
  refine lv_icmp_eq (tgt := 659) hx hb dL_law_252 (by decide) (fun _ => ?_) (fun q => absurd rfl q)
  exact kk ad2 υ H2 locs2 cells2 slots2 _ A2 (LP_low h1 h4) h3
set_option maxHeartbeats 4000000 in
set_option maxRecDepth 100000 in
theorem lw_c_rare {p : Program} {l : Launch} {e : Env} {s : State} {m : MethodId} {below : List Frame} {meth : Method} {c : Code} {Q : State → Prop} {D : va_G} {cI cD : ClassId} {ad0 : Nat → Nat → Nat} {σ0 : lpM} {b L : Nat} {xs : Nat → Int32} (C0 : lw_At p s m meth c b L xs) (hWd : lp_Wd D cI cD s) (hDm : ∀ q, lp_Dom ad0 σ0 s.heap.size q → s.heap.size ≤ q) (hL : L ≤ 2048)
    {ad : Nat → Nat → Nat} {σ : lpM} {H : Heap} {locs : List Loc} {cells slots : Nat} {ls : Array Slot} {t : Nat} (ht : t + 3 < L) (A : lw_A D cI cD s ad0 σ0 b ad σ H locs cells slots ls (nI t)) {Z : lpZ} (hP : lpP σ Z) (hD : lpD σ Z)
    (kk : ∀ (ad' : Nat → Nat → Nat) (σ' : lpM) (H' : Heap) (locs' : List Loc) (cells' slots' : Nat) (Z' : lpZ), lw_A D cI cD s ad0 σ0 b ad' σ' H' locs' cells' slots' ls (nI t) → lpP σ' Z' → lpD σ' Z' → W p l e room_1 s m #[Value.ref b] below meth c H' locs' cells' slots' Q (F0 m 659 ls [])) :
    W p l e room_1 s m #[Value.ref b] below meth c H locs cells slots Q (F0 m 257 ls []) := by
  obtain ⟨hx, hb, hr, hml, hown, hts, hX, hbl, hlocks, hgv⟩ := id C0
  have hl := A.2
  refine lv_aload_n hx hb dL_law_257 rfl (lv_at hl 1 rfl) ?_
  refine lw_arg C0 hDm A 1 (by decide) (by omega) hL dL_law_258 dL_law_259 dL_law_260 dL_law_261 dL_law_262 ?_
  refine lw_arg C0 hDm A 2 (by decide) (by omega) hL dL_law_263 dL_law_264 dL_law_265 dL_law_266 dL_law_267 ?_
  refine lw_arg C0 hDm A 3 (by decide) (by omega) hL dL_law_268 dL_law_269 dL_law_270 dL_law_271 dL_law_272 ?_
  refine lw_call C0 hWd (x := (36, some 6, 3, sp_X6_rare)) (rg := 1) (lp_mkCall lkL_36 (ct_X6_rare l D cI cD) (by omega)) rfl rfl (Or.inl rfl) A [xs (t + 1), xs (t + 2), xs (t + 3)] [] rfl (Nat.zero_le _) dL_law_273 (Qk := fun ro τ => ro = some (an_rare (xs (t + 1)) (xs (t + 2)) (xs (t + 3))) ∧ lpP τ (st_rare (xs (t + 1)) (xs (t + 2)) (xs (t + 3)) Z) ∧ lpFL σ τ) ⟨rfl, rfl, Z, hP, fun τ h1 h2 => ⟨rfl, h1, h2⟩⟩ (fun ro τ ad1 H1 locs1 cells1 slots1 hq A1 => ?_)
  obtain ⟨rfl, h1, h2⟩ := hq
  have hD1 := lpD_high hD h2
  clear hP hD A
  refine lv_aload_n hx hb dL_law_276 rfl (lv_at hl 2 rfl) ?_
  refine lw_arg C0 hDm A1 1 (by decide) (by omega) hL dL_law_277 dL_law_278 dL_law_279 dL_law_280 dL_law_281 ?_
  refine lw_arg C0 hDm A1 2 (by decide) (by omega) hL dL_law_282 dL_law_283 dL_law_284 dL_law_285 dL_law_286 ?_
  refine lw_arg C0 hDm A1 3 (by decide) (by omega) hL dL_law_287 dL_law_288 dL_law_289 dL_law_290 dL_law_291 ?_
  refine lw_call C0 hWd (x := (40, some 7, 3, sp_X7_rare)) (rg := 30) (lp_mkCall lkL_40 (ct_X7_rare l D cI cD) (by omega)) rfl rfl (Or.inr rfl) A1 [xs (t + 1), xs (t + 2), xs (t + 3)] [an_rare (xs (t + 1)) (xs (t + 2)) (xs (t + 3))] rfl (Nat.le_of_ble_eq_true rfl) dL_law_292 (Qk := fun ro υ => ro = some (an_rare (xs (t + 1)) (xs (t + 2)) (xs (t + 3))) ∧ lpD υ (st_rare (xs (t + 1)) (xs (t + 2)) (xs (t + 3)) Z) ∧ lpFM τ υ) ⟨rfl, rfl, Z, hD1, fun υ h3 h4 => ⟨rfl, h3, h4⟩⟩ (fun ro υ ad2 H2 locs2 cells2 slots2 hq A2 => ?_)
  obtain ⟨rfl, h3, h4⟩ := hq
  refine lv_icmp_eq (tgt := 659) hx hb dL_law_295 (by decide) (fun _ => ?_) (fun q => absurd rfl q)
  exact kk ad2 υ H2 locs2 cells2 slots2 _ A2 (LP_low h1 h4) h3
set_option maxHeartbeats 4000000 in
set_option maxRecDepth 100000 in
theorem lw_c_cost {p : Program} {l : Launch} {e : Env} {s : State} {m : MethodId} {below : List Frame} {meth : Method} {c : Code} {Q : State → Prop} {D : va_G} {cI cD : ClassId} {ad0 : Nat → Nat → Nat} {σ0 : lpM} {b L : Nat} {xs : Nat → Int32} (C0 : lw_At p s m meth c b L xs) (hWd : lp_Wd D cI cD s) (hDm : ∀ q, lp_Dom ad0 σ0 s.heap.size q → s.heap.size ≤ q) (hL : L ≤ 2048)
    {ad : Nat → Nat → Nat} {σ : lpM} {H : Heap} {locs : List Loc} {cells slots : Nat} {ls : Array Slot} {t : Nat} (ht : t + 3 < L) (A : lw_A D cI cD s ad0 σ0 b ad σ H locs cells slots ls (nI t)) {Z : lpZ} (hP : lpP σ Z) (hD : lpD σ Z)
    (kk : ∀ (ad' : Nat → Nat → Nat) (σ' : lpM) (H' : Heap) (locs' : List Loc) (cells' slots' : Nat) (Z' : lpZ), lw_A D cI cD s ad0 σ0 b ad' σ' H' locs' cells' slots' ls (nI t) → lpP σ' Z' → lpD σ' Z' → W p l e room_1 s m #[Value.ref b] below meth c H' locs' cells' slots' Q (F0 m 659 ls [])) :
    W p l e room_1 s m #[Value.ref b] below meth c H locs cells slots Q (F0 m 300 ls []) := by
  obtain ⟨hx, hb, hr, hml, hown, hts, hX, hbl, hlocks, hgv⟩ := id C0
  have hl := A.2
  refine lv_aload_n hx hb dL_law_300 rfl (lv_at hl 1 rfl) ?_
  refine lw_arg C0 hDm A 1 (by decide) (by omega) hL dL_law_301 dL_law_302 dL_law_303 dL_law_304 dL_law_305 ?_
  refine lw_arg C0 hDm A 2 (by decide) (by omega) hL dL_law_306 dL_law_307 dL_law_308 dL_law_309 dL_law_310 ?_
  refine lw_call C0 hWd (x := (41, some 6, 2, sp_X6_cost)) (rg := 1) (lp_mkCall lkL_41 (ct_X6_cost l D cI cD) (by omega)) rfl rfl (Or.inl rfl) A [xs (t + 1), xs (t + 2)] [] rfl (Nat.zero_le _) dL_law_311 (Qk := fun ro τ => ro = some (an_cost (xs (t + 1)) (xs (t + 2))) ∧ lpP τ (st_cost (xs (t + 1)) (xs (t + 2)) Z) ∧ lpFL σ τ) ⟨rfl, rfl, Z, hP, fun τ h1 h2 => ⟨rfl, h1, h2⟩⟩ (fun ro τ ad1 H1 locs1 cells1 slots1 hq A1 => ?_)
  obtain ⟨rfl, h1, h2⟩ := hq
  have hD1 := lpD_high hD h2
  clear hP hD A
  refine lv_aload_n hx hb dL_law_314 rfl (lv_at hl 2 rfl) ?_
  refine lw_arg C0 hDm A1 1 (by decide) (by omega) hL dL_law_315 dL_law_316 dL_law_317 dL_law_318 dL_law_319 ?_
  refine lw_arg C0 hDm A1 2 (by decide) (by omega) hL dL_law_320 dL_law_321 dL_law_322 dL_law_323 dL_law_324 ?_
  refine lw_call C0 hWd (x := (45, some 7, 2, sp_X7_cost)) (rg := 30) (lp_mkCall lkL_45 (ct_X7_cost l D cI cD) (by omega)) rfl rfl (Or.inr rfl) A1 [xs (t + 1), xs (t + 2)] [an_cost (xs (t + 1)) (xs (t + 2))] rfl (Nat.le_of_ble_eq_true rfl) dL_law_325 (Qk := fun ro υ => ro = some (an_cost (xs (t + 1)) (xs (t + 2))) ∧ lpD υ (st_cost (xs (t + 1)) (xs (t + 2)) Z) ∧ lpFM τ υ) ⟨rfl, rfl, Z, hD1, fun υ h3 h4 => ⟨rfl, h3, h4⟩⟩ (fun ro υ ad2 H2 locs2 cells2 slots2 hq A2 => ?_)
  obtain ⟨rfl, h3, h4⟩ := hq
  refine lv_icmp_eq (tgt := 659) hx hb dL_law_328 (by decide) (fun _ => ?_) (fun q => absurd rfl q)
  exact kk ad2 υ H2 locs2 cells2 slots2 _ A2 (LP_low h1 h4) h3
