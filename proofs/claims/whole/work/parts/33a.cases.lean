set_option maxRecDepth 100000 in
set_option maxHeartbeats 4000000 in
theorem lk_unit {p : Program} {l : Launch} {e : Env} {R : Room} {s : State} {m : MethodId} {args : Array Value} {below : List Frame} {meth : Method} {c : Code} {H : Heap} {locs : List Loc} {cells slots : Nat} {Q : State → Prop} {ls : Array Slot} {G : ct_G} {A : Nat → Prop} {bs n x y o : Nat} {gs : Nat → Int32} {i : Int} {T Y : List (List Int)} {B Z : List Int} (X : cx G "TextDeskLaw" p s m args c b_LW_law 7) (hlT : l.stackTraces = false) (hz : ct_z G A s) (hX : va_X bs n gs s s.heap) (hbl : bs < s.heap.size) (hn : ¬ A bs) (hi0 : 0 ≤ i) (hi1 : i + 5 ≤ (n : Int)) (hi2 : (n : Int) < 2147483648) (hS : lwS G A s.heap x y o T Y B Z H locs) (hl : lv_has ls 7 [(0, .ref bs), (1, .ref x), (2, .ref y), (3, .ref o), (4, .int (iI i))]) (hR : 100 ≤ R.frames ∧ 3000 ≤ R.locals) (hf : cells + 130 ≤ R.cells ∧ slots + 4500 ≤ R.slots)
    (kk : ∀ (T Y : List (List Int)) (B Z : List Int) (H : Heap) (locs : List Loc) (ls : Array Slot), lwS G A s.heap x y o T Y B Z H locs → lv_has ls 7 [(0, .ref bs), (1, .ref x), (2, .ref y), (3, .ref o), (4, .int (iI i))] → W p l e R s m args below meth c H locs (cells + 130) (slots + 4500) Q (F0 m 1469 ls [])) : W p l e R s m args below meth c H locs cells slots Q (F0 m 140 ls []) := by
  have hx := X.1
  have hb := X.2.1
  obtain ⟨fx, fy, g, th, hwx, hwy, dj, ho, hI, hm⟩ := hS
  obtain ⟨M, C, hL⟩ := id hm
  obtain ⟨si, un, bu, ma, bt, so, co, gsi, gun, gbu, gma, gbt, gso, gco, hM, -⟩ := id hL
  have hey := hM.1
  obtain ⟨u1, e_u1⟩ : ∃ u : Int, u = (gs (i + 1).toNat).toInt := ⟨_, rfl⟩
  have h_u1 : iR u1 := by rw [e_u1]; exact ⟨Int32.le_toInt _, Int32.toInt_lt _⟩
  obtain ⟨r, e_r⟩ : ∃ r : Rs, r = sp_unit T Y B Z u1 := ⟨_, rfl⟩
  refine lv_aload_n hx hb d_LW_law_140 rfl (lv_at hl 1 rfl) ?_
  refine lv_aload_n hx hb d_LW_law_141 rfl (lv_at hl 0 rfl) ?_
  refine lv_iload hx hb d_LW_law_142 (lv_at hl 4 rfl) ?_
  refine lv_iconst (v := iI (1)) hx hb d_LW_law_144 rfl ?_
  refine di_add hx hb d_LW_law_145 ?_
  refine lw_read hx hb hX hbl hn hwx.2.1 (i := i + 1) (by omega) (by omega) (by omega) e_u1 d_LW_law_146 ?_
  refine lv_aload_n hx hb d_LW_law_147 rfl (lv_at hl 3 rfl) ?_
  refine cs_LW_89 X hz hwx hl.1 (c_LW_unit l hlT G fx _ x o g T Y B Z hI ho u1 h_u1) ⟨by omega, by omega⟩ ⟨by omega, by omega⟩ (Nat.le_of_ble_eq_true rfl) d_LW_law_148 (fun E ce q9 f9 H1 locs1 hp => hp.elim) (fun v f9 H locs hp hw1 hsz9 hkp9 hdm9 => ?_)
  rw [← e_r] at hp
  obtain ⟨rfl, hr3, fx1, g1, rfl, ho1, hI1, hout⟩ := hp
  obtain ⟨hwy1, dj3⟩ := hw1.side hwy dj hkp9 hdm9
  have hwx1 := hw1
  refine W.eq (g2 := F0 m 151 ls [.int (iI (r.1))]) rfl ?_
  refine lv_istore (lv' := [(5, .int (iI (r.1))), (0, .ref bs), (1, .ref x), (2, .ref y), (3, .ref o), (4, .int (iI i))]) hx hb d_LW_law_151 hl (by decide) rfl (fun ls hl => ?_)
  refine lv_aload_n hx hb d_LW_law_153 rfl (lv_at hl 3 rfl) ?_
  refine lv_aload_n hx hb d_LW_law_154 rfl (lv_at hl 1 rfl) ?_
  refine lv_iload hx hb d_LW_law_155 (lv_at hl 5 rfl) ?_
  refine lv_iconst (v := iI (1)) hx hb d_LW_law_157 rfl ?_
  refine di_add hx hb d_LW_law_158 ?_
  refine lw_read hx hb hX hbl hn hwx1.2.1 (i := i + 1) (by omega) (by omega) (by omega) e_u1 d_LW_law_159 ?_
  refine cs_LW_94 X hz hwy1 hl.1 hey (c_MD_unit l G fy _ y th T Y B Z M C u1 h_u1 hL) ⟨by omega, by omega⟩ ⟨by omega, by omega⟩ (Nat.le_of_ble_eq_true rfl) d_LW_law_160 (fun v fy1 H locs hp hw2 hsz9 hkp9 hdm9 => ?_)
  rw [← e_r] at hp
  obtain ⟨rfl, hm1⟩ := hp
  obtain ⟨hwx2, dj4⟩ := hw2.side hwx1 (dj_sw dj3) hkp9 hdm9
  obtain ⟨M1, C1, hL1⟩ := id hm1
  obtain ⟨si1, un1, bu1, ma1, bt1, so1, co1, gsi1, gun1, gbu1, gma1, gbt1, gso1, gco1, hM1, -⟩ := id hL1
  refine W.eq (g2 := F0 m 163 ls [.int (iI (r.2.1))]) rfl ?_
  refine lv_istore (lv' := [(6, .int (iI (r.2.1))), (5, .int (iI (r.1))), (0, .ref bs), (1, .ref x), (2, .ref y), (3, .ref o), (4, .int (iI i))]) hx hb d_LW_law_163 hl (by decide) rfl (fun ls hl => ?_)
  refine lv_aload_n hx hb d_LW_law_165 rfl (lv_at hl 4 rfl) ?_
  refine cs_LW_95 X hz hw2 hl.1 hM1.1 (c_MD_thrown l G fy1 _ y _ _ _ _ _ M1 C1 hL1) ⟨by omega, by omega⟩ ⟨by omega, by omega⟩ (Nat.le_of_ble_eq_true rfl) d_LW_law_166 (fun v fy2 H locs hp hw3 hsz9 hkp9 hdm9 => ?_)
  obtain ⟨hwx3, dj5⟩ := hw3.side hwx2 dj4 hkp9 hdm9
  obtain ⟨rfl, hfe⟩ := hp
  rw [hfe] at hw3 dj5
  refine W.eq (g2 := F0 m 169 ls [.int (iI (r.1))]) rfl ?_
  refine lv_iload hx hb d_LW_law_169 (lv_at hl 1 rfl) ?_
  refine lv_icmp_eq (tgt := 176) hx hb d_LW_law_171 (by decide) (fun _ => ?_) (fun q9 => absurd rfl q9)
  refine lv_iload hx hb d_LW_law_176 (lv_at hl 1 rfl) ?_
  refine di_if_ne (tgt := 193) hx hb d_LW_law_178 (by decide) ⟨by omega, by omega⟩ (fun hr0 => ?_) (fun hr0 => ?_)
  · refine lv_goto (tgt := 1469) hx hb d_LW_law_193 (by decide) ?_
    refine W.widen (k := cells + 130) (n := slots + 4500) (by omega) (by omega) ?_
    exact kk _ _ _ _ _ _ _ ⟨fx1, fy1, g1, _, hwx3, hw3, dj_sw dj5, ho1, hI1, hm1⟩ (lv_sub hl [2, 3, 4, 5, 6] rfl)
  · refine lv_aload_n hx hb d_LW_law_181 rfl (lv_at hl 5 rfl) ?_
    refine lv_iconst (v := iI (0)) hx hb d_LW_law_182 rfl ?_
    refine dw_lald hx hb X.K hwx3 4 (dw_up_self _ _ _) rfl (i := 0) (by decide) (by decide) (by decide) (hout hr0) d_LW_law_183 ?_
    refine lv_iload hx hb d_LW_law_184 (lv_at hl 0 rfl) ?_
    refine lv_i2l hx hb d_LW_law_186 rfl ?_
    refine lv_lcmpE hx hb d_LW_law_187 ?_
    refine di_if_eq (tgt := 193) hx hb d_LW_law_188 (by decide) ⟨by decide, by decide⟩ (fun _ => ?_) (fun q9 => absurd rfl q9)
    refine lv_goto (tgt := 1469) hx hb d_LW_law_193 (by decide) ?_
    refine W.widen (k := cells + 130) (n := slots + 4500) (by omega) (by omega) ?_
    exact kk _ _ _ _ _ _ _ ⟨fx1, fy1, g1, _, hwx3, hw3, dj_sw dj5, ho1, hI1, hm1⟩ (lv_sub hl [2, 3, 4, 5, 6] rfl)
set_option maxRecDepth 100000 in
set_option maxHeartbeats 4000000 in
theorem lk_insert {p : Program} {l : Launch} {e : Env} {R : Room} {s : State} {m : MethodId} {args : Array Value} {below : List Frame} {meth : Method} {c : Code} {H : Heap} {locs : List Loc} {cells slots : Nat} {Q : State → Prop} {ls : Array Slot} {G : ct_G} {A : Nat → Prop} {bs n x y o : Nat} {gs : Nat → Int32} {i : Int} {T Y : List (List Int)} {B Z : List Int} (X : cx G "TextDeskLaw" p s m args c b_LW_law 7) (hlT : l.stackTraces = false) (hz : ct_z G A s) (hX : va_X bs n gs s s.heap) (hbl : bs < s.heap.size) (hn : ¬ A bs) (hi0 : 0 ≤ i) (hi1 : i + 5 ≤ (n : Int)) (hi2 : (n : Int) < 2147483648) (hS : lwS G A s.heap x y o T Y B Z H locs) (hl : lv_has ls 7 [(0, .ref bs), (1, .ref x), (2, .ref y), (3, .ref o), (4, .int (iI i))]) (hR : 100 ≤ R.frames ∧ 3000 ≤ R.locals) (hf : cells + 130 ≤ R.cells ∧ slots + 4500 ≤ R.slots)
    (kk : ∀ (T Y : List (List Int)) (B Z : List Int) (H : Heap) (locs : List Loc) (ls : Array Slot), lwS G A s.heap x y o T Y B Z H locs → lv_has ls 7 [(0, .ref bs), (1, .ref x), (2, .ref y), (3, .ref o), (4, .int (iI i))] → W p l e R s m args below meth c H locs (cells + 130) (slots + 4500) Q (F0 m 1469 ls [])) : W p l e R s m args below meth c H locs cells slots Q (F0 m 196 ls []) := by
  have hx := X.1
  have hb := X.2.1
  obtain ⟨fx, fy, g, th, hwx, hwy, dj, ho, hI, hm⟩ := hS
  obtain ⟨M, C, hL⟩ := id hm
  obtain ⟨si, un, bu, ma, bt, so, co, gsi, gun, gbu, gma, gbt, gso, gco, hM, -⟩ := id hL
  have hey := hM.1
  obtain ⟨u1, e_u1⟩ : ∃ u : Int, u = (gs (i + 1).toNat).toInt := ⟨_, rfl⟩
  have h_u1 : iR u1 := by rw [e_u1]; exact ⟨Int32.le_toInt _, Int32.toInt_lt _⟩
  obtain ⟨u2, e_u2⟩ : ∃ u : Int, u = (gs (i + 2).toNat).toInt := ⟨_, rfl⟩
  have h_u2 : iR u2 := by rw [e_u2]; exact ⟨Int32.le_toInt _, Int32.toInt_lt _⟩
  obtain ⟨r, e_r⟩ : ∃ r : Rs, r = sp_insert T Y B Z u1 u2 := ⟨_, rfl⟩
  refine lv_aload_n hx hb d_LW_law_196 rfl (lv_at hl 1 rfl) ?_
  refine lv_aload_n hx hb d_LW_law_197 rfl (lv_at hl 0 rfl) ?_
  refine lv_iload hx hb d_LW_law_198 (lv_at hl 4 rfl) ?_
  refine lv_iconst (v := iI (1)) hx hb d_LW_law_200 rfl ?_
  refine di_add hx hb d_LW_law_201 ?_
  refine lw_read hx hb hX hbl hn hwx.2.1 (i := i + 1) (by omega) (by omega) (by omega) e_u1 d_LW_law_202 ?_
  refine lv_aload_n hx hb d_LW_law_203 rfl (lv_at hl 0 rfl) ?_
  refine lv_iload hx hb d_LW_law_204 (lv_at hl 4 rfl) ?_
  refine lv_iconst (v := iI (2)) hx hb d_LW_law_206 rfl ?_
  refine di_add hx hb d_LW_law_207 ?_
  refine lw_read hx hb hX hbl hn hwx.2.1 (i := i + 2) (by omega) (by omega) (by omega) e_u2 d_LW_law_208 ?_
  refine lv_aload_n hx hb d_LW_law_209 rfl (lv_at hl 3 rfl) ?_
  refine cs_LW_98 X hz hwx hl.1 (c_LW_insert l hlT G fx _ x o g T Y B Z hI ho u1 u2 h_u1 h_u2) ⟨by omega, by omega⟩ ⟨by omega, by omega⟩ (Nat.le_of_ble_eq_true rfl) d_LW_law_210 (fun E ce q9 f9 H1 locs1 hp => hp.elim) (fun v f9 H locs hp hw1 hsz9 hkp9 hdm9 => ?_)
  rw [← e_r] at hp
  obtain ⟨rfl, hr3, fx1, g1, rfl, ho1, hI1, hout⟩ := hp
  obtain ⟨hwy1, dj3⟩ := hw1.side hwy dj hkp9 hdm9
  have hwx1 := hw1
  refine W.eq (g2 := F0 m 213 ls [.int (iI (r.1))]) rfl ?_
  refine lv_istore (lv' := [(5, .int (iI (r.1))), (0, .ref bs), (1, .ref x), (2, .ref y), (3, .ref o), (4, .int (iI i))]) hx hb d_LW_law_213 hl (by decide) rfl (fun ls hl => ?_)
  refine lv_aload_n hx hb d_LW_law_215 rfl (lv_at hl 3 rfl) ?_
  refine lv_aload_n hx hb d_LW_law_216 rfl (lv_at hl 1 rfl) ?_
  refine lv_iload hx hb d_LW_law_217 (lv_at hl 5 rfl) ?_
  refine lv_iconst (v := iI (1)) hx hb d_LW_law_219 rfl ?_
  refine di_add hx hb d_LW_law_220 ?_
  refine lw_read hx hb hX hbl hn hwx1.2.1 (i := i + 1) (by omega) (by omega) (by omega) e_u1 d_LW_law_221 ?_
  refine lv_aload_n hx hb d_LW_law_222 rfl (lv_at hl 1 rfl) ?_
  refine lv_iload hx hb d_LW_law_223 (lv_at hl 5 rfl) ?_
  refine lv_iconst (v := iI (2)) hx hb d_LW_law_225 rfl ?_
  refine di_add hx hb d_LW_law_226 ?_
  refine lw_read hx hb hX hbl hn hwx1.2.1 (i := i + 2) (by omega) (by omega) (by omega) e_u2 d_LW_law_227 ?_
  refine cs_LW_101 X hz hwy1 hl.1 hey (c_MD_insert l G fy _ y th T Y B Z M C u1 u2 h_u1 h_u2 hL) ⟨by omega, by omega⟩ ⟨by omega, by omega⟩ (Nat.le_of_ble_eq_true rfl) d_LW_law_228 (fun v fy1 H locs hp hw2 hsz9 hkp9 hdm9 => ?_)
  rw [← e_r] at hp
  obtain ⟨rfl, hm1⟩ := hp
  obtain ⟨hwx2, dj4⟩ := hw2.side hwx1 (dj_sw dj3) hkp9 hdm9
  obtain ⟨M1, C1, hL1⟩ := id hm1
  obtain ⟨si1, un1, bu1, ma1, bt1, so1, co1, gsi1, gun1, gbu1, gma1, gbt1, gso1, gco1, hM1, -⟩ := id hL1
  refine W.eq (g2 := F0 m 231 ls [.int (iI (r.2.1))]) rfl ?_
  refine lv_istore (lv' := [(6, .int (iI (r.2.1))), (5, .int (iI (r.1))), (0, .ref bs), (1, .ref x), (2, .ref y), (3, .ref o), (4, .int (iI i))]) hx hb d_LW_law_231 hl (by decide) rfl (fun ls hl => ?_)
  refine lv_aload_n hx hb d_LW_law_233 rfl (lv_at hl 4 rfl) ?_
  refine cs_LW_95 X hz hw2 hl.1 hM1.1 (c_MD_thrown l G fy1 _ y _ _ _ _ _ M1 C1 hL1) ⟨by omega, by omega⟩ ⟨by omega, by omega⟩ (Nat.le_of_ble_eq_true rfl) d_LW_law_234 (fun v fy2 H locs hp hw3 hsz9 hkp9 hdm9 => ?_)
  obtain ⟨hwx3, dj5⟩ := hw3.side hwx2 dj4 hkp9 hdm9
  obtain ⟨rfl, hfe⟩ := hp
  rw [hfe] at hw3 dj5
  refine W.eq (g2 := F0 m 237 ls [.int (iI (r.1))]) rfl ?_
  refine lv_iload hx hb d_LW_law_237 (lv_at hl 1 rfl) ?_
  refine lv_icmp_eq (tgt := 244) hx hb d_LW_law_239 (by decide) (fun _ => ?_) (fun q9 => absurd rfl q9)
  refine lv_iload hx hb d_LW_law_244 (lv_at hl 1 rfl) ?_
  refine di_if_ne (tgt := 261) hx hb d_LW_law_246 (by decide) ⟨by omega, by omega⟩ (fun hr0 => ?_) (fun hr0 => ?_)
  · refine lv_goto (tgt := 1469) hx hb d_LW_law_261 (by decide) ?_
    refine W.widen (k := cells + 130) (n := slots + 4500) (by omega) (by omega) ?_
    exact kk _ _ _ _ _ _ _ ⟨fx1, fy1, g1, _, hwx3, hw3, dj_sw dj5, ho1, hI1, hm1⟩ (lv_sub hl [2, 3, 4, 5, 6] rfl)
  · refine lv_aload_n hx hb d_LW_law_249 rfl (lv_at hl 5 rfl) ?_
    refine lv_iconst (v := iI (0)) hx hb d_LW_law_250 rfl ?_
    refine dw_lald hx hb X.K hwx3 4 (dw_up_self _ _ _) rfl (i := 0) (by decide) (by decide) (by decide) (hout hr0) d_LW_law_251 ?_
    refine lv_iload hx hb d_LW_law_252 (lv_at hl 0 rfl) ?_
    refine lv_i2l hx hb d_LW_law_254 rfl ?_
    refine lv_lcmpE hx hb d_LW_law_255 ?_
    refine di_if_eq (tgt := 261) hx hb d_LW_law_256 (by decide) ⟨by decide, by decide⟩ (fun _ => ?_) (fun q9 => absurd rfl q9)
    refine lv_goto (tgt := 1469) hx hb d_LW_law_261 (by decide) ?_
    refine W.widen (k := cells + 130) (n := slots + 4500) (by omega) (by omega) ?_
    exact kk _ _ _ _ _ _ _ ⟨fx1, fy1, g1, _, hwx3, hw3, dj_sw dj5, ho1, hI1, hm1⟩ (lv_sub hl [2, 3, 4, 5, 6] rfl)
set_option maxRecDepth 100000 in
set_option maxHeartbeats 4000000 in
theorem lk_delete {p : Program} {l : Launch} {e : Env} {R : Room} {s : State} {m : MethodId} {args : Array Value} {below : List Frame} {meth : Method} {c : Code} {H : Heap} {locs : List Loc} {cells slots : Nat} {Q : State → Prop} {ls : Array Slot} {G : ct_G} {A : Nat → Prop} {bs n x y o : Nat} {gs : Nat → Int32} {i : Int} {T Y : List (List Int)} {B Z : List Int} (X : cx G "TextDeskLaw" p s m args c b_LW_law 7) (hlT : l.stackTraces = false) (hz : ct_z G A s) (hX : va_X bs n gs s s.heap) (hbl : bs < s.heap.size) (hn : ¬ A bs) (hi0 : 0 ≤ i) (hi1 : i + 5 ≤ (n : Int)) (hi2 : (n : Int) < 2147483648) (hS : lwS G A s.heap x y o T Y B Z H locs) (hl : lv_has ls 7 [(0, .ref bs), (1, .ref x), (2, .ref y), (3, .ref o), (4, .int (iI i))]) (hR : 100 ≤ R.frames ∧ 3000 ≤ R.locals) (hf : cells + 130 ≤ R.cells ∧ slots + 4500 ≤ R.slots)
    (kk : ∀ (T Y : List (List Int)) (B Z : List Int) (H : Heap) (locs : List Loc) (ls : Array Slot), lwS G A s.heap x y o T Y B Z H locs → lv_has ls 7 [(0, .ref bs), (1, .ref x), (2, .ref y), (3, .ref o), (4, .int (iI i))] → W p l e R s m args below meth c H locs (cells + 130) (slots + 4500) Q (F0 m 1469 ls [])) : W p l e R s m args below meth c H locs cells slots Q (F0 m 264 ls []) := by
  have hx := X.1
  have hb := X.2.1
  obtain ⟨fx, fy, g, th, hwx, hwy, dj, ho, hI, hm⟩ := hS
  obtain ⟨M, C, hL⟩ := id hm
  obtain ⟨si, un, bu, ma, bt, so, co, gsi, gun, gbu, gma, gbt, gso, gco, hM, -⟩ := id hL
  have hey := hM.1
  obtain ⟨u1, e_u1⟩ : ∃ u : Int, u = (gs (i + 1).toNat).toInt := ⟨_, rfl⟩
  have h_u1 : iR u1 := by rw [e_u1]; exact ⟨Int32.le_toInt _, Int32.toInt_lt _⟩
  obtain ⟨u2, e_u2⟩ : ∃ u : Int, u = (gs (i + 2).toNat).toInt := ⟨_, rfl⟩
  have h_u2 : iR u2 := by rw [e_u2]; exact ⟨Int32.le_toInt _, Int32.toInt_lt _⟩
  obtain ⟨r, e_r⟩ : ∃ r : Rs, r = sp_delete T Y B Z u1 u2 := ⟨_, rfl⟩
  refine lv_aload_n hx hb d_LW_law_264 rfl (lv_at hl 1 rfl) ?_
  refine lv_aload_n hx hb d_LW_law_265 rfl (lv_at hl 0 rfl) ?_
  refine lv_iload hx hb d_LW_law_266 (lv_at hl 4 rfl) ?_
  refine lv_iconst (v := iI (1)) hx hb d_LW_law_268 rfl ?_
  refine di_add hx hb d_LW_law_269 ?_
  refine lw_read hx hb hX hbl hn hwx.2.1 (i := i + 1) (by omega) (by omega) (by omega) e_u1 d_LW_law_270 ?_
  refine lv_aload_n hx hb d_LW_law_271 rfl (lv_at hl 0 rfl) ?_
  refine lv_iload hx hb d_LW_law_272 (lv_at hl 4 rfl) ?_
  refine lv_iconst (v := iI (2)) hx hb d_LW_law_274 rfl ?_
  refine di_add hx hb d_LW_law_275 ?_
  refine lw_read hx hb hX hbl hn hwx.2.1 (i := i + 2) (by omega) (by omega) (by omega) e_u2 d_LW_law_276 ?_
  refine cs_LW_102 X hz (hwx.fst ho) hl.1 (c_LW_delete l hlT G fx _ x T Y B Z hI u1 u2 h_u1 h_u2) ⟨by omega, by omega⟩ ⟨by omega, by omega⟩ (Nat.le_of_ble_eq_true rfl) d_LW_law_277 (fun E ce q9 f9 H1 locs1 hp => hp.elim) (fun v fx1 H locs hp hw1 hsz9 hkp9 hdm9 => ?_)
  rw [← e_r] at hp
  obtain ⟨rfl, hr3, hI1⟩ := hp
  obtain ⟨hwo1, dj1⟩ := hw1.side hwx.snd (dj_one ho) hkp9 hdm9
  obtain ⟨hwy1, dj2⟩ := hw1.side hwy (dj_fst ho dj) hkp9 hdm9
  have hwx1 := hw1.both hwo1
  have ho1 := dj_one' dj1
  have dj3 := dj_up (c := lcl G g) (dj_o dj) dj2
  refine W.eq (g2 := F0 m 280 ls [.int (iI (r.1))]) rfl ?_
  refine lv_istore (lv' := [(5, .int (iI (r.1))), (0, .ref bs), (1, .ref x), (2, .ref y), (3, .ref o), (4, .int (iI i))]) hx hb d_LW_law_280 hl (by decide) rfl (fun ls hl => ?_)
  refine lv_aload_n hx hb d_LW_law_282 rfl (lv_at hl 3 rfl) ?_
  refine lv_aload_n hx hb d_LW_law_283 rfl (lv_at hl 1 rfl) ?_
  refine lv_iload hx hb d_LW_law_284 (lv_at hl 5 rfl) ?_
  refine lv_iconst (v := iI (1)) hx hb d_LW_law_286 rfl ?_
  refine di_add hx hb d_LW_law_287 ?_
  refine lw_read hx hb hX hbl hn hwx1.2.1 (i := i + 1) (by omega) (by omega) (by omega) e_u1 d_LW_law_288 ?_
  refine lv_aload_n hx hb d_LW_law_289 rfl (lv_at hl 1 rfl) ?_
  refine lv_iload hx hb d_LW_law_290 (lv_at hl 5 rfl) ?_
  refine lv_iconst (v := iI (2)) hx hb d_LW_law_292 rfl ?_
  refine di_add hx hb d_LW_law_293 ?_
  refine lw_read hx hb hX hbl hn hwx1.2.1 (i := i + 2) (by omega) (by omega) (by omega) e_u2 d_LW_law_294 ?_
  refine cs_LW_105 X hz hwy1 hl.1 hey (c_MD_delete l G fy _ y th T Y B Z M C u1 u2 h_u1 h_u2 hL) ⟨by omega, by omega⟩ ⟨by omega, by omega⟩ (Nat.le_of_ble_eq_true rfl) d_LW_law_295 (fun v fy1 H locs hp hw2 hsz9 hkp9 hdm9 => ?_)
  rw [← e_r] at hp
  obtain ⟨rfl, hm1⟩ := hp
  obtain ⟨hwx2, dj4⟩ := hw2.side hwx1 (dj_sw dj3) hkp9 hdm9
  obtain ⟨M1, C1, hL1⟩ := id hm1
  obtain ⟨si1, un1, bu1, ma1, bt1, so1, co1, gsi1, gun1, gbu1, gma1, gbt1, gso1, gco1, hM1, -⟩ := id hL1
  refine W.eq (g2 := F0 m 298 ls []) rfl ?_
  refine lv_aload_n hx hb d_LW_law_298 rfl (lv_at hl 3 rfl) ?_
  refine cs_LW_95 X hz hw2 hl.1 hM1.1 (c_MD_thrown l G fy1 _ y _ _ _ _ _ M1 C1 hL1) ⟨by omega, by omega⟩ ⟨by omega, by omega⟩ (Nat.le_of_ble_eq_true rfl) d_LW_law_299 (fun v fy2 H locs hp hw3 hsz9 hkp9 hdm9 => ?_)
  obtain ⟨hwx3, dj5⟩ := hw3.side hwx2 dj4 hkp9 hdm9
  obtain ⟨rfl, hfe⟩ := hp
  rw [hfe] at hw3 dj5
  refine W.eq (g2 := F0 m 302 ls [.int (iI (r.1))]) rfl ?_
  refine lv_iload hx hb d_LW_law_302 (lv_at hl 0 rfl) ?_
  refine lv_icmp_eq (tgt := 309) hx hb d_LW_law_304 (by decide) (fun _ => ?_) (fun q9 => absurd rfl q9)
  refine lv_goto (tgt := 1469) hx hb d_LW_law_309 (by decide) ?_
  refine W.widen (k := cells + 130) (n := slots + 4500) (by omega) (by omega) ?_
  exact kk _ _ _ _ _ _ _ ⟨fx1, fy1, g, _, hwx3, hw3, dj_sw dj5, ho1, hI1, hm1⟩ (lv_sub hl [1, 2, 3, 4, 5] rfl)
set_option maxRecDepth 100000 in
set_option maxHeartbeats 4000000 in
theorem lk_reverse {p : Program} {l : Launch} {e : Env} {R : Room} {s : State} {m : MethodId} {args : Array Value} {below : List Frame} {meth : Method} {c : Code} {H : Heap} {locs : List Loc} {cells slots : Nat} {Q : State → Prop} {ls : Array Slot} {G : ct_G} {A : Nat → Prop} {bs n x y o : Nat} {gs : Nat → Int32} {i : Int} {T Y : List (List Int)} {B Z : List Int} (X : cx G "TextDeskLaw" p s m args c b_LW_law 7) (hlT : l.stackTraces = false) (hz : ct_z G A s) (hX : va_X bs n gs s s.heap) (hbl : bs < s.heap.size) (hn : ¬ A bs) (hi0 : 0 ≤ i) (hi1 : i + 5 ≤ (n : Int)) (hi2 : (n : Int) < 2147483648) (hS : lwS G A s.heap x y o T Y B Z H locs) (hl : lv_has ls 7 [(0, .ref bs), (1, .ref x), (2, .ref y), (3, .ref o), (4, .int (iI i))]) (hR : 100 ≤ R.frames ∧ 3000 ≤ R.locals) (hf : cells + 130 ≤ R.cells ∧ slots + 4500 ≤ R.slots)
    (kk : ∀ (T Y : List (List Int)) (B Z : List Int) (H : Heap) (locs : List Loc) (ls : Array Slot), lwS G A s.heap x y o T Y B Z H locs → lv_has ls 7 [(0, .ref bs), (1, .ref x), (2, .ref y), (3, .ref o), (4, .int (iI i))] → W p l e R s m args below meth c H locs (cells + 130) (slots + 4500) Q (F0 m 1469 ls [])) : W p l e R s m args below meth c H locs cells slots Q (F0 m 312 ls []) := by
  have hx := X.1
  have hb := X.2.1
  obtain ⟨fx, fy, g, th, hwx, hwy, dj, ho, hI, hm⟩ := hS
  obtain ⟨M, C, hL⟩ := id hm
  obtain ⟨si, un, bu, ma, bt, so, co, gsi, gun, gbu, gma, gbt, gso, gco, hM, -⟩ := id hL
  have hey := hM.1
  obtain ⟨ta, sa, yr, dc, bu2, dr, qy, qb, qd, gT, gS, c0, w0, D, sB, sZ, sD, hd⟩ := id hI
  refine lv_aload_n hx hb d_LW_law_312 rfl (lv_at hl 1 rfl) ?_
  refine cs_LW_106 X hz (hwx.fst ho) hl.1 hd.1 (c_DK_reverse l G fx _ x T Y B Z hI) ⟨by omega, by omega⟩ ⟨by omega, by omega⟩ (Nat.le_of_ble_eq_true rfl) d_LW_law_313 (fun v fx1 H locs hp hw1 hsz9 hkp9 hdm9 => ?_)
  obtain ⟨rfl, hI1⟩ := hp
  obtain ⟨hwo1, dj1⟩ := hw1.side hwx.snd (dj_one ho) hkp9 hdm9
  obtain ⟨hwy1, dj2⟩ := hw1.side hwy (dj_fst ho dj) hkp9 hdm9
  have hwx1 := hw1.both hwo1
  have ho1 := dj_one' dj1
  have dj3 := dj_up (c := lcl G g) (dj_o dj) dj2
  refine W.eq (g2 := F0 m 316 ls []) rfl ?_
  refine lv_aload_n hx hb d_LW_law_316 rfl (lv_at hl 2 rfl) ?_
  refine cs_LW_109 X hz hwy1 hl.1 hey (c_MD_reverse l G fy _ y th T Y B Z M C hL) ⟨by omega, by omega⟩ ⟨by omega, by omega⟩ (Nat.le_of_ble_eq_true rfl) d_LW_law_317 (fun v fy1 H locs hp hw2 hsz9 hkp9 hdm9 => ?_)
  obtain ⟨rfl, hm1⟩ := hp
  obtain ⟨hwx2, dj4⟩ := hw2.side hwx1 (dj_sw dj3) hkp9 hdm9
  refine W.eq (g2 := F0 m 320 ls []) rfl ?_
  refine lv_goto (tgt := 1469) hx hb d_LW_law_320 (by decide) ?_
  refine W.widen (k := cells + 130) (n := slots + 4500) (by omega) (by omega) ?_
  exact kk _ _ _ _ _ _ _ ⟨fx1, fy1, g, _, hwx2, hw2, dj_sw dj4, ho1, hI1, hm1⟩ (lv_sub hl [0, 1, 2, 3, 4] rfl)
set_option maxRecDepth 100000 in
set_option maxHeartbeats 4000000 in
theorem lk_built {p : Program} {l : Launch} {e : Env} {R : Room} {s : State} {m : MethodId} {args : Array Value} {below : List Frame} {meth : Method} {c : Code} {H : Heap} {locs : List Loc} {cells slots : Nat} {Q : State → Prop} {ls : Array Slot} {G : ct_G} {A : Nat → Prop} {bs n x y o : Nat} {gs : Nat → Int32} {i : Int} {T Y : List (List Int)} {B Z : List Int} (X : cx G "TextDeskLaw" p s m args c b_LW_law 7) (hlT : l.stackTraces = false) (hz : ct_z G A s) (hX : va_X bs n gs s s.heap) (hbl : bs < s.heap.size) (hn : ¬ A bs) (hi0 : 0 ≤ i) (hi1 : i + 5 ≤ (n : Int)) (hi2 : (n : Int) < 2147483648) (hS : lwS G A s.heap x y o T Y B Z H locs) (hl : lv_has ls 7 [(0, .ref bs), (1, .ref x), (2, .ref y), (3, .ref o), (4, .int (iI i))]) (hR : 100 ≤ R.frames ∧ 3000 ≤ R.locals) (hf : cells + 130 ≤ R.cells ∧ slots + 4500 ≤ R.slots)
    (kk : ∀ (T Y : List (List Int)) (B Z : List Int) (H : Heap) (locs : List Loc) (ls : Array Slot), lwS G A s.heap x y o T Y B Z H locs → lv_has ls 7 [(0, .ref bs), (1, .ref x), (2, .ref y), (3, .ref o), (4, .int (iI i))] → W p l e R s m args below meth c H locs (cells + 130) (slots + 4500) Q (F0 m 1469 ls [])) : W p l e R s m args below meth c H locs cells slots Q (F0 m 323 ls []) := by
  have hx := X.1
  have hb := X.2.1
  obtain ⟨fx, fy, g, th, hwx, hwy, dj, ho, hI, hm⟩ := hS
  obtain ⟨M, C, hL⟩ := id hm
  obtain ⟨si, un, bu, ma, bt, so, co, gsi, gun, gbu, gma, gbt, gso, gco, hM, -⟩ := id hL
  have hey := hM.1
  obtain ⟨u1, e_u1⟩ : ∃ u : Int, u = (gs (i + 1).toNat).toInt := ⟨_, rfl⟩
  have h_u1 : iR u1 := by rw [e_u1]; exact ⟨Int32.le_toInt _, Int32.toInt_lt _⟩
  obtain ⟨r, e_r⟩ : ∃ r : Rs, r = sp_built T Y B Z u1 := ⟨_, rfl⟩
  refine lv_aload_n hx hb d_LW_law_323 rfl (lv_at hl 1 rfl) ?_
  refine lv_aload_n hx hb d_LW_law_324 rfl (lv_at hl 0 rfl) ?_
  refine lv_iload hx hb d_LW_law_325 (lv_at hl 4 rfl) ?_
  refine lv_iconst (v := iI (1)) hx hb d_LW_law_327 rfl ?_
  refine di_add hx hb d_LW_law_328 ?_
  refine lw_read hx hb hX hbl hn hwx.2.1 (i := i + 1) (by omega) (by omega) (by omega) e_u1 d_LW_law_329 ?_
  refine lv_aload_n hx hb d_LW_law_330 rfl (lv_at hl 3 rfl) ?_
  refine cs_LW_110 X hz hwx hl.1 (c_LW_built l hlT G fx _ x o g T Y B Z hI ho u1 h_u1) ⟨by omega, by omega⟩ ⟨by omega, by omega⟩ (Nat.le_of_ble_eq_true rfl) d_LW_law_331 (fun E ce q9 f9 H1 locs1 hp => hp.elim) (fun v f9 H locs hp hw1 hsz9 hkp9 hdm9 => ?_)
  rw [← e_r] at hp
  obtain ⟨rfl, hr3, fx1, g1, rfl, ho1, hI1, hout⟩ := hp
  obtain ⟨hwy1, dj3⟩ := hw1.side hwy dj hkp9 hdm9
  have hwx1 := hw1
  refine W.eq (g2 := F0 m 334 ls [.int (iI (r.1))]) rfl ?_
  refine lv_istore (lv' := [(5, .int (iI (r.1))), (0, .ref bs), (1, .ref x), (2, .ref y), (3, .ref o), (4, .int (iI i))]) hx hb d_LW_law_334 hl (by decide) rfl (fun ls hl => ?_)
  refine lv_aload_n hx hb d_LW_law_336 rfl (lv_at hl 3 rfl) ?_
  refine lv_aload_n hx hb d_LW_law_337 rfl (lv_at hl 1 rfl) ?_
  refine lv_iload hx hb d_LW_law_338 (lv_at hl 5 rfl) ?_
  refine lv_iconst (v := iI (1)) hx hb d_LW_law_340 rfl ?_
  refine di_add hx hb d_LW_law_341 ?_
  refine lw_read hx hb hX hbl hn hwx1.2.1 (i := i + 1) (by omega) (by omega) (by omega) e_u1 d_LW_law_342 ?_
  refine cs_LW_112 X hz hwy1 hl.1 hey (c_MD_built l G fy _ y th T Y B Z M C u1 h_u1 hL) ⟨by omega, by omega⟩ ⟨by omega, by omega⟩ (Nat.le_of_ble_eq_true rfl) d_LW_law_343 (fun v fy1 H locs hp hw2 hsz9 hkp9 hdm9 => ?_)
  rw [← e_r] at hp
  obtain ⟨rfl, hm1⟩ := hp
  obtain ⟨hwx2, dj4⟩ := hw2.side hwx1 (dj_sw dj3) hkp9 hdm9
  obtain ⟨M1, C1, hL1⟩ := id hm1
  obtain ⟨si1, un1, bu1, ma1, bt1, so1, co1, gsi1, gun1, gbu1, gma1, gbt1, gso1, gco1, hM1, -⟩ := id hL1
  refine W.eq (g2 := F0 m 346 ls [.int (iI (r.2.1))]) rfl ?_
  refine lv_istore (lv' := [(6, .int (iI (r.2.1))), (5, .int (iI (r.1))), (0, .ref bs), (1, .ref x), (2, .ref y), (3, .ref o), (4, .int (iI i))]) hx hb d_LW_law_346 hl (by decide) rfl (fun ls hl => ?_)
  refine lv_aload_n hx hb d_LW_law_348 rfl (lv_at hl 4 rfl) ?_
  refine cs_LW_95 X hz hw2 hl.1 hM1.1 (c_MD_thrown l G fy1 _ y _ _ _ _ _ M1 C1 hL1) ⟨by omega, by omega⟩ ⟨by omega, by omega⟩ (Nat.le_of_ble_eq_true rfl) d_LW_law_349 (fun v fy2 H locs hp hw3 hsz9 hkp9 hdm9 => ?_)
  obtain ⟨hwx3, dj5⟩ := hw3.side hwx2 dj4 hkp9 hdm9
  obtain ⟨rfl, hfe⟩ := hp
  rw [hfe] at hw3 dj5
  refine W.eq (g2 := F0 m 352 ls [.int (iI (r.1))]) rfl ?_
  refine lv_iload hx hb d_LW_law_352 (lv_at hl 1 rfl) ?_
  refine lv_icmp_eq (tgt := 359) hx hb d_LW_law_354 (by decide) (fun _ => ?_) (fun q9 => absurd rfl q9)
  refine lv_iload hx hb d_LW_law_359 (lv_at hl 1 rfl) ?_
  refine di_if_ne (tgt := 376) hx hb d_LW_law_361 (by decide) ⟨by omega, by omega⟩ (fun hr0 => ?_) (fun hr0 => ?_)
  · refine lv_goto (tgt := 1469) hx hb d_LW_law_376 (by decide) ?_
    refine W.widen (k := cells + 130) (n := slots + 4500) (by omega) (by omega) ?_
    exact kk _ _ _ _ _ _ _ ⟨fx1, fy1, g1, _, hwx3, hw3, dj_sw dj5, ho1, hI1, hm1⟩ (lv_sub hl [2, 3, 4, 5, 6] rfl)
  · refine lv_aload_n hx hb d_LW_law_364 rfl (lv_at hl 5 rfl) ?_
    refine lv_iconst (v := iI (0)) hx hb d_LW_law_365 rfl ?_
    refine dw_lald hx hb X.K hwx3 4 (dw_up_self _ _ _) rfl (i := 0) (by decide) (by decide) (by decide) (hout hr0) d_LW_law_366 ?_
    refine lv_iload hx hb d_LW_law_367 (lv_at hl 0 rfl) ?_
    refine lv_i2l hx hb d_LW_law_369 rfl ?_
    refine lv_lcmpE hx hb d_LW_law_370 ?_
    refine di_if_eq (tgt := 376) hx hb d_LW_law_371 (by decide) ⟨by decide, by decide⟩ (fun _ => ?_) (fun q9 => absurd rfl q9)
    refine lv_goto (tgt := 1469) hx hb d_LW_law_376 (by decide) ?_
    refine W.widen (k := cells + 130) (n := slots + 4500) (by omega) (by omega) ?_
    exact kk _ _ _ _ _ _ _ ⟨fx1, fy1, g1, _, hwx3, hw3, dj_sw dj5, ho1, hI1, hm1⟩ (lv_sub hl [2, 3, 4, 5, 6] rfl)
set_option maxRecDepth 100000 in
set_option maxHeartbeats 4000000 in
theorem lk_take {p : Program} {l : Launch} {e : Env} {R : Room} {s : State} {m : MethodId} {args : Array Value} {below : List Frame} {meth : Method} {c : Code} {H : Heap} {locs : List Loc} {cells slots : Nat} {Q : State → Prop} {ls : Array Slot} {G : ct_G} {A : Nat → Prop} {bs n x y o : Nat} {gs : Nat → Int32} {i : Int} {T Y : List (List Int)} {B Z : List Int} (X : cx G "TextDeskLaw" p s m args c b_LW_law 7) (hlT : l.stackTraces = false) (hz : ct_z G A s) (hX : va_X bs n gs s s.heap) (hbl : bs < s.heap.size) (hn : ¬ A bs) (hi0 : 0 ≤ i) (hi1 : i + 5 ≤ (n : Int)) (hi2 : (n : Int) < 2147483648) (hS : lwS G A s.heap x y o T Y B Z H locs) (hl : lv_has ls 7 [(0, .ref bs), (1, .ref x), (2, .ref y), (3, .ref o), (4, .int (iI i))]) (hR : 100 ≤ R.frames ∧ 3000 ≤ R.locals) (hf : cells + 130 ≤ R.cells ∧ slots + 4500 ≤ R.slots)
    (kk : ∀ (T Y : List (List Int)) (B Z : List Int) (H : Heap) (locs : List Loc) (ls : Array Slot), lwS G A s.heap x y o T Y B Z H locs → lv_has ls 7 [(0, .ref bs), (1, .ref x), (2, .ref y), (3, .ref o), (4, .int (iI i))] → W p l e R s m args below meth c H locs (cells + 130) (slots + 4500) Q (F0 m 1469 ls [])) : W p l e R s m args below meth c H locs cells slots Q (F0 m 379 ls []) := by
  have hx := X.1
  have hb := X.2.1
  obtain ⟨fx, fy, g, th, hwx, hwy, dj, ho, hI, hm⟩ := hS
  obtain ⟨M, C, hL⟩ := id hm
  obtain ⟨si, un, bu, ma, bt, so, co, gsi, gun, gbu, gma, gbt, gso, gco, hM, -⟩ := id hL
  have hey := hM.1
  obtain ⟨r, e_r⟩ : ∃ r : Rs, r = sp_take T Y B Z := ⟨_, rfl⟩
  refine lv_aload_n hx hb d_LW_law_379 rfl (lv_at hl 1 rfl) ?_
  refine lv_aload_n hx hb d_LW_law_380 rfl (lv_at hl 3 rfl) ?_
  refine cs_LW_113 X hz hwx hl.1 (c_LW_take l hlT G fx _ x o g T Y B Z hI ho) ⟨by omega, by omega⟩ ⟨by omega, by omega⟩ (Nat.le_of_ble_eq_true rfl) d_LW_law_381 (fun E ce q9 f9 H1 locs1 hp => hp.elim) (fun v f9 H locs hp hw1 hsz9 hkp9 hdm9 => ?_)
  rw [← e_r] at hp
  obtain ⟨rfl, hr3, fx1, g1, rfl, ho1, hI1, hout⟩ := hp
  obtain ⟨hwy1, dj3⟩ := hw1.side hwy dj hkp9 hdm9
  have hwx1 := hw1
  refine W.eq (g2 := F0 m 384 ls [.int (iI (r.1))]) rfl ?_
  refine lv_istore (lv' := [(5, .int (iI (r.1))), (0, .ref bs), (1, .ref x), (2, .ref y), (3, .ref o), (4, .int (iI i))]) hx hb d_LW_law_384 hl (by decide) rfl (fun ls hl => ?_)
  refine lv_aload_n hx hb d_LW_law_386 rfl (lv_at hl 3 rfl) ?_
  refine cs_LW_116 X hz hwy1 hl.1 hey (c_MD_take l G fy _ y th T Y B Z M C hL) ⟨by omega, by omega⟩ ⟨by omega, by omega⟩ (Nat.le_of_ble_eq_true rfl) d_LW_law_387 (fun v fy1 H locs hp hw2 hsz9 hkp9 hdm9 => ?_)
  rw [← e_r] at hp
  obtain ⟨rfl, hm1⟩ := hp
  obtain ⟨hwx2, dj4⟩ := hw2.side hwx1 (dj_sw dj3) hkp9 hdm9
  obtain ⟨M1, C1, hL1⟩ := id hm1
  obtain ⟨si1, un1, bu1, ma1, bt1, so1, co1, gsi1, gun1, gbu1, gma1, gbt1, gso1, gco1, hM1, -⟩ := id hL1
  refine W.eq (g2 := F0 m 390 ls [.int (iI (r.2.1))]) rfl ?_
  refine lv_istore (lv' := [(6, .int (iI (r.2.1))), (5, .int (iI (r.1))), (0, .ref bs), (1, .ref x), (2, .ref y), (3, .ref o), (4, .int (iI i))]) hx hb d_LW_law_390 hl (by decide) rfl (fun ls hl => ?_)
  refine lv_aload_n hx hb d_LW_law_392 rfl (lv_at hl 4 rfl) ?_
  refine cs_LW_95 X hz hw2 hl.1 hM1.1 (c_MD_thrown l G fy1 _ y _ _ _ _ _ M1 C1 hL1) ⟨by omega, by omega⟩ ⟨by omega, by omega⟩ (Nat.le_of_ble_eq_true rfl) d_LW_law_393 (fun v fy2 H locs hp hw3 hsz9 hkp9 hdm9 => ?_)
  obtain ⟨hwx3, dj5⟩ := hw3.side hwx2 dj4 hkp9 hdm9
  obtain ⟨rfl, hfe⟩ := hp
  rw [hfe] at hw3 dj5
  refine W.eq (g2 := F0 m 396 ls [.int (iI (r.1))]) rfl ?_
  refine lv_iload hx hb d_LW_law_396 (lv_at hl 1 rfl) ?_
  refine lv_icmp_eq (tgt := 403) hx hb d_LW_law_398 (by decide) (fun _ => ?_) (fun q9 => absurd rfl q9)
  refine lv_iload hx hb d_LW_law_403 (lv_at hl 1 rfl) ?_
  refine di_if_ne (tgt := 420) hx hb d_LW_law_405 (by decide) ⟨by omega, by omega⟩ (fun hr0 => ?_) (fun hr0 => ?_)
  · refine lv_goto (tgt := 1469) hx hb d_LW_law_420 (by decide) ?_
    refine W.widen (k := cells + 130) (n := slots + 4500) (by omega) (by omega) ?_
    exact kk _ _ _ _ _ _ _ ⟨fx1, fy1, g1, _, hwx3, hw3, dj_sw dj5, ho1, hI1, hm1⟩ (lv_sub hl [2, 3, 4, 5, 6] rfl)
  · refine lv_aload_n hx hb d_LW_law_408 rfl (lv_at hl 5 rfl) ?_
    refine lv_iconst (v := iI (0)) hx hb d_LW_law_409 rfl ?_
    refine dw_lald hx hb X.K hwx3 4 (dw_up_self _ _ _) rfl (i := 0) (by decide) (by decide) (by decide) (hout hr0) d_LW_law_410 ?_
    refine lv_iload hx hb d_LW_law_411 (lv_at hl 0 rfl) ?_
    refine lv_i2l hx hb d_LW_law_413 rfl ?_
    refine lv_lcmpE hx hb d_LW_law_414 ?_
    refine di_if_eq (tgt := 420) hx hb d_LW_law_415 (by decide) ⟨by decide, by decide⟩ (fun _ => ?_) (fun q9 => absurd rfl q9)
    refine lv_goto (tgt := 1469) hx hb d_LW_law_420 (by decide) ?_
    refine W.widen (k := cells + 130) (n := slots + 4500) (by omega) (by omega) ?_
    exact kk _ _ _ _ _ _ _ ⟨fx1, fy1, g1, _, hwx3, hw3, dj_sw dj5, ho1, hI1, hm1⟩ (lv_sub hl [2, 3, 4, 5, 6] rfl)
set_option maxRecDepth 100000 in
set_option maxHeartbeats 4000000 in
theorem lk_join {p : Program} {l : Launch} {e : Env} {R : Room} {s : State} {m : MethodId} {args : Array Value} {below : List Frame} {meth : Method} {c : Code} {H : Heap} {locs : List Loc} {cells slots : Nat} {Q : State → Prop} {ls : Array Slot} {G : ct_G} {A : Nat → Prop} {bs n x y o : Nat} {gs : Nat → Int32} {i : Int} {T Y : List (List Int)} {B Z : List Int} (X : cx G "TextDeskLaw" p s m args c b_LW_law 7) (hlT : l.stackTraces = false) (hz : ct_z G A s) (hX : va_X bs n gs s s.heap) (hbl : bs < s.heap.size) (hn : ¬ A bs) (hi0 : 0 ≤ i) (hi1 : i + 5 ≤ (n : Int)) (hi2 : (n : Int) < 2147483648) (hS : lwS G A s.heap x y o T Y B Z H locs) (hl : lv_has ls 7 [(0, .ref bs), (1, .ref x), (2, .ref y), (3, .ref o), (4, .int (iI i))]) (hR : 100 ≤ R.frames ∧ 3000 ≤ R.locals) (hf : cells + 130 ≤ R.cells ∧ slots + 4500 ≤ R.slots)
    (kk : ∀ (T Y : List (List Int)) (B Z : List Int) (H : Heap) (locs : List Loc) (ls : Array Slot), lwS G A s.heap x y o T Y B Z H locs → lv_has ls 7 [(0, .ref bs), (1, .ref x), (2, .ref y), (3, .ref o), (4, .int (iI i))] → W p l e R s m args below meth c H locs (cells + 130) (slots + 4500) Q (F0 m 1469 ls [])) : W p l e R s m args below meth c H locs cells slots Q (F0 m 423 ls []) := by
  have hx := X.1
  have hb := X.2.1
  obtain ⟨fx, fy, g, th, hwx, hwy, dj, ho, hI, hm⟩ := hS
  obtain ⟨M, C, hL⟩ := id hm
  obtain ⟨si, un, bu, ma, bt, so, co, gsi, gun, gbu, gma, gbt, gso, gco, hM, -⟩ := id hL
  have hey := hM.1
  obtain ⟨u1, e_u1⟩ : ∃ u : Int, u = (gs (i + 1).toNat).toInt := ⟨_, rfl⟩
  have h_u1 : iR u1 := by rw [e_u1]; exact ⟨Int32.le_toInt _, Int32.toInt_lt _⟩
  obtain ⟨u2, e_u2⟩ : ∃ u : Int, u = (gs (i + 2).toNat).toInt := ⟨_, rfl⟩
  have h_u2 : iR u2 := by rw [e_u2]; exact ⟨Int32.le_toInt _, Int32.toInt_lt _⟩
  obtain ⟨r, e_r⟩ : ∃ r : Rs, r = sp_join T Y B Z u1 u2 := ⟨_, rfl⟩
  refine lv_aload_n hx hb d_LW_law_423 rfl (lv_at hl 1 rfl) ?_
  refine lv_aload_n hx hb d_LW_law_424 rfl (lv_at hl 0 rfl) ?_
  refine lv_iload hx hb d_LW_law_425 (lv_at hl 4 rfl) ?_
  refine lv_iconst (v := iI (1)) hx hb d_LW_law_427 rfl ?_
  refine di_add hx hb d_LW_law_428 ?_
  refine lw_read hx hb hX hbl hn hwx.2.1 (i := i + 1) (by omega) (by omega) (by omega) e_u1 d_LW_law_429 ?_
  refine lv_aload_n hx hb d_LW_law_430 rfl (lv_at hl 0 rfl) ?_
  refine lv_iload hx hb d_LW_law_431 (lv_at hl 4 rfl) ?_
  refine lv_iconst (v := iI (2)) hx hb d_LW_law_433 rfl ?_
  refine di_add hx hb d_LW_law_434 ?_
  refine lw_read hx hb hX hbl hn hwx.2.1 (i := i + 2) (by omega) (by omega) (by omega) e_u2 d_LW_law_435 ?_
  refine lv_aload_n hx hb d_LW_law_436 rfl (lv_at hl 3 rfl) ?_
  refine cs_LW_117 X hz hwx hl.1 (c_LW_join l hlT G fx _ x o g T Y B Z hI ho u1 u2 h_u1 h_u2) ⟨by omega, by omega⟩ ⟨by omega, by omega⟩ (Nat.le_of_ble_eq_true rfl) d_LW_law_437 (fun E ce q9 f9 H1 locs1 hp => hp.elim) (fun v f9 H locs hp hw1 hsz9 hkp9 hdm9 => ?_)
  rw [← e_r] at hp
  obtain ⟨rfl, hr3, fx1, g1, rfl, ho1, hI1, hout⟩ := hp
  obtain ⟨hwy1, dj3⟩ := hw1.side hwy dj hkp9 hdm9
  have hwx1 := hw1
  refine W.eq (g2 := F0 m 440 ls [.int (iI (r.1))]) rfl ?_
  refine lv_istore (lv' := [(5, .int (iI (r.1))), (0, .ref bs), (1, .ref x), (2, .ref y), (3, .ref o), (4, .int (iI i))]) hx hb d_LW_law_440 hl (by decide) rfl (fun ls hl => ?_)
  refine lv_aload_n hx hb d_LW_law_442 rfl (lv_at hl 3 rfl) ?_
  refine lv_aload_n hx hb d_LW_law_443 rfl (lv_at hl 1 rfl) ?_
  refine lv_iload hx hb d_LW_law_444 (lv_at hl 5 rfl) ?_
  refine lv_iconst (v := iI (1)) hx hb d_LW_law_446 rfl ?_
  refine di_add hx hb d_LW_law_447 ?_
  refine lw_read hx hb hX hbl hn hwx1.2.1 (i := i + 1) (by omega) (by omega) (by omega) e_u1 d_LW_law_448 ?_
  refine lv_aload_n hx hb d_LW_law_449 rfl (lv_at hl 1 rfl) ?_
  refine lv_iload hx hb d_LW_law_450 (lv_at hl 5 rfl) ?_
  refine lv_iconst (v := iI (2)) hx hb d_LW_law_452 rfl ?_
  refine di_add hx hb d_LW_law_453 ?_
  refine lw_read hx hb hX hbl hn hwx1.2.1 (i := i + 2) (by omega) (by omega) (by omega) e_u2 d_LW_law_454 ?_
  refine cs_LW_119 X hz hwy1 hl.1 hey (c_MD_join l G fy _ y th T Y B Z M C u1 u2 h_u1 h_u2 hL) ⟨by omega, by omega⟩ ⟨by omega, by omega⟩ (Nat.le_of_ble_eq_true rfl) d_LW_law_455 (fun v fy1 H locs hp hw2 hsz9 hkp9 hdm9 => ?_)
  rw [← e_r] at hp
  obtain ⟨rfl, hm1⟩ := hp
  obtain ⟨hwx2, dj4⟩ := hw2.side hwx1 (dj_sw dj3) hkp9 hdm9
  obtain ⟨M1, C1, hL1⟩ := id hm1
  obtain ⟨si1, un1, bu1, ma1, bt1, so1, co1, gsi1, gun1, gbu1, gma1, gbt1, gso1, gco1, hM1, -⟩ := id hL1
  refine W.eq (g2 := F0 m 458 ls [.int (iI (r.2.1))]) rfl ?_
  refine lv_istore (lv' := [(6, .int (iI (r.2.1))), (5, .int (iI (r.1))), (0, .ref bs), (1, .ref x), (2, .ref y), (3, .ref o), (4, .int (iI i))]) hx hb d_LW_law_458 hl (by decide) rfl (fun ls hl => ?_)
  refine lv_aload_n hx hb d_LW_law_460 rfl (lv_at hl 4 rfl) ?_
  refine cs_LW_95 X hz hw2 hl.1 hM1.1 (c_MD_thrown l G fy1 _ y _ _ _ _ _ M1 C1 hL1) ⟨by omega, by omega⟩ ⟨by omega, by omega⟩ (Nat.le_of_ble_eq_true rfl) d_LW_law_461 (fun v fy2 H locs hp hw3 hsz9 hkp9 hdm9 => ?_)
  obtain ⟨hwx3, dj5⟩ := hw3.side hwx2 dj4 hkp9 hdm9
  obtain ⟨rfl, hfe⟩ := hp
  rw [hfe] at hw3 dj5
  refine W.eq (g2 := F0 m 464 ls [.int (iI (r.1))]) rfl ?_
  refine lv_iload hx hb d_LW_law_464 (lv_at hl 1 rfl) ?_
  refine lv_icmp_eq (tgt := 471) hx hb d_LW_law_466 (by decide) (fun _ => ?_) (fun q9 => absurd rfl q9)
  refine lv_iload hx hb d_LW_law_471 (lv_at hl 1 rfl) ?_
  refine di_if_ne (tgt := 488) hx hb d_LW_law_473 (by decide) ⟨by omega, by omega⟩ (fun hr0 => ?_) (fun hr0 => ?_)
  · refine lv_goto (tgt := 1469) hx hb d_LW_law_488 (by decide) ?_
    refine W.widen (k := cells + 130) (n := slots + 4500) (by omega) (by omega) ?_
    exact kk _ _ _ _ _ _ _ ⟨fx1, fy1, g1, _, hwx3, hw3, dj_sw dj5, ho1, hI1, hm1⟩ (lv_sub hl [2, 3, 4, 5, 6] rfl)
  · refine lv_aload_n hx hb d_LW_law_476 rfl (lv_at hl 5 rfl) ?_
    refine lv_iconst (v := iI (0)) hx hb d_LW_law_477 rfl ?_
    refine dw_lald hx hb X.K hwx3 4 (dw_up_self _ _ _) rfl (i := 0) (by decide) (by decide) (by decide) (hout hr0) d_LW_law_478 ?_
    refine lv_iload hx hb d_LW_law_479 (lv_at hl 0 rfl) ?_
    refine lv_i2l hx hb d_LW_law_481 rfl ?_
    refine lv_lcmpE hx hb d_LW_law_482 ?_
    refine di_if_eq (tgt := 488) hx hb d_LW_law_483 (by decide) ⟨by decide, by decide⟩ (fun _ => ?_) (fun q9 => absurd rfl q9)
    refine lv_goto (tgt := 1469) hx hb d_LW_law_488 (by decide) ?_
    refine W.widen (k := cells + 130) (n := slots + 4500) (by omega) (by omega) ?_
    exact kk _ _ _ _ _ _ _ ⟨fx1, fy1, g1, _, hwx3, hw3, dj_sw dj5, ho1, hI1, hm1⟩ (lv_sub hl [2, 3, 4, 5, 6] rfl)
set_option maxRecDepth 100000 in
set_option maxHeartbeats 4000000 in
theorem lk_part {p : Program} {l : Launch} {e : Env} {R : Room} {s : State} {m : MethodId} {args : Array Value} {below : List Frame} {meth : Method} {c : Code} {H : Heap} {locs : List Loc} {cells slots : Nat} {Q : State → Prop} {ls : Array Slot} {G : ct_G} {A : Nat → Prop} {bs n x y o : Nat} {gs : Nat → Int32} {i : Int} {T Y : List (List Int)} {B Z : List Int} (X : cx G "TextDeskLaw" p s m args c b_LW_law 7) (hlT : l.stackTraces = false) (hz : ct_z G A s) (hX : va_X bs n gs s s.heap) (hbl : bs < s.heap.size) (hn : ¬ A bs) (hi0 : 0 ≤ i) (hi1 : i + 5 ≤ (n : Int)) (hi2 : (n : Int) < 2147483648) (hS : lwS G A s.heap x y o T Y B Z H locs) (hl : lv_has ls 7 [(0, .ref bs), (1, .ref x), (2, .ref y), (3, .ref o), (4, .int (iI i))]) (hR : 100 ≤ R.frames ∧ 3000 ≤ R.locals) (hf : cells + 130 ≤ R.cells ∧ slots + 4500 ≤ R.slots)
    (kk : ∀ (T Y : List (List Int)) (B Z : List Int) (H : Heap) (locs : List Loc) (ls : Array Slot), lwS G A s.heap x y o T Y B Z H locs → lv_has ls 7 [(0, .ref bs), (1, .ref x), (2, .ref y), (3, .ref o), (4, .int (iI i))] → W p l e R s m args below meth c H locs (cells + 130) (slots + 4500) Q (F0 m 1469 ls [])) : W p l e R s m args below meth c H locs cells slots Q (F0 m 491 ls []) := by
  have hx := X.1
  have hb := X.2.1
  obtain ⟨fx, fy, g, th, hwx, hwy, dj, ho, hI, hm⟩ := hS
  obtain ⟨M, C, hL⟩ := id hm
  obtain ⟨si, un, bu, ma, bt, so, co, gsi, gun, gbu, gma, gbt, gso, gco, hM, -⟩ := id hL
  have hey := hM.1
  obtain ⟨u1, e_u1⟩ : ∃ u : Int, u = (gs (i + 1).toNat).toInt := ⟨_, rfl⟩
  have h_u1 : iR u1 := by rw [e_u1]; exact ⟨Int32.le_toInt _, Int32.toInt_lt _⟩
  obtain ⟨u2, e_u2⟩ : ∃ u : Int, u = (gs (i + 2).toNat).toInt := ⟨_, rfl⟩
  have h_u2 : iR u2 := by rw [e_u2]; exact ⟨Int32.le_toInt _, Int32.toInt_lt _⟩
  obtain ⟨u3, e_u3⟩ : ∃ u : Int, u = (gs (i + 3).toNat).toInt := ⟨_, rfl⟩
  have h_u3 : iR u3 := by rw [e_u3]; exact ⟨Int32.le_toInt _, Int32.toInt_lt _⟩
  obtain ⟨r, e_r⟩ : ∃ r : Rs, r = sp_part T Y B Z u1 u2 u3 := ⟨_, rfl⟩
  refine lv_aload_n hx hb d_LW_law_491 rfl (lv_at hl 1 rfl) ?_
  refine lv_aload_n hx hb d_LW_law_492 rfl (lv_at hl 0 rfl) ?_
  refine lv_iload hx hb d_LW_law_493 (lv_at hl 4 rfl) ?_
  refine lv_iconst (v := iI (1)) hx hb d_LW_law_495 rfl ?_
  refine di_add hx hb d_LW_law_496 ?_
  refine lw_read hx hb hX hbl hn hwx.2.1 (i := i + 1) (by omega) (by omega) (by omega) e_u1 d_LW_law_497 ?_
  refine lv_aload_n hx hb d_LW_law_498 rfl (lv_at hl 0 rfl) ?_
  refine lv_iload hx hb d_LW_law_499 (lv_at hl 4 rfl) ?_
  refine lv_iconst (v := iI (2)) hx hb d_LW_law_501 rfl ?_
  refine di_add hx hb d_LW_law_502 ?_
  refine lw_read hx hb hX hbl hn hwx.2.1 (i := i + 2) (by omega) (by omega) (by omega) e_u2 d_LW_law_503 ?_
  refine lv_aload_n hx hb d_LW_law_504 rfl (lv_at hl 0 rfl) ?_
  refine lv_iload hx hb d_LW_law_505 (lv_at hl 4 rfl) ?_
  refine lv_iconst (v := iI (3)) hx hb d_LW_law_507 rfl ?_
  refine di_add hx hb d_LW_law_508 ?_
  refine lw_read hx hb hX hbl hn hwx.2.1 (i := i + 3) (by omega) (by omega) (by omega) e_u3 d_LW_law_509 ?_
  refine lv_aload_n hx hb d_LW_law_510 rfl (lv_at hl 3 rfl) ?_
  refine cs_LW_120 X hz hwx hl.1 (c_LW_part l hlT G fx _ x o g T Y B Z hI ho u1 u2 u3 h_u1 h_u2 h_u3) ⟨by omega, by omega⟩ ⟨by omega, by omega⟩ (Nat.le_of_ble_eq_true rfl) d_LW_law_511 (fun E ce q9 f9 H1 locs1 hp => hp.elim) (fun v f9 H locs hp hw1 hsz9 hkp9 hdm9 => ?_)
  rw [← e_r] at hp
  obtain ⟨rfl, hr3, fx1, g1, rfl, ho1, hI1, hout⟩ := hp
  obtain ⟨hwy1, dj3⟩ := hw1.side hwy dj hkp9 hdm9
  have hwx1 := hw1
  refine W.eq (g2 := F0 m 514 ls [.int (iI (r.1))]) rfl ?_
  refine lv_istore (lv' := [(5, .int (iI (r.1))), (0, .ref bs), (1, .ref x), (2, .ref y), (3, .ref o), (4, .int (iI i))]) hx hb d_LW_law_514 hl (by decide) rfl (fun ls hl => ?_)
  refine lv_aload_n hx hb d_LW_law_516 rfl (lv_at hl 3 rfl) ?_
  refine lv_aload_n hx hb d_LW_law_517 rfl (lv_at hl 1 rfl) ?_
  refine lv_iload hx hb d_LW_law_518 (lv_at hl 5 rfl) ?_
  refine lv_iconst (v := iI (1)) hx hb d_LW_law_520 rfl ?_
  refine di_add hx hb d_LW_law_521 ?_
  refine lw_read hx hb hX hbl hn hwx1.2.1 (i := i + 1) (by omega) (by omega) (by omega) e_u1 d_LW_law_522 ?_
  refine lv_aload_n hx hb d_LW_law_523 rfl (lv_at hl 1 rfl) ?_
  refine lv_iload hx hb d_LW_law_524 (lv_at hl 5 rfl) ?_
  refine lv_iconst (v := iI (2)) hx hb d_LW_law_526 rfl ?_
  refine di_add hx hb d_LW_law_527 ?_
  refine lw_read hx hb hX hbl hn hwx1.2.1 (i := i + 2) (by omega) (by omega) (by omega) e_u2 d_LW_law_528 ?_
  refine lv_aload_n hx hb d_LW_law_529 rfl (lv_at hl 1 rfl) ?_
  refine lv_iload hx hb d_LW_law_530 (lv_at hl 5 rfl) ?_
  refine lv_iconst (v := iI (3)) hx hb d_LW_law_532 rfl ?_
  refine di_add hx hb d_LW_law_533 ?_
  refine lw_read hx hb hX hbl hn hwx1.2.1 (i := i + 3) (by omega) (by omega) (by omega) e_u3 d_LW_law_534 ?_
  refine cs_LW_123 X hz hwy1 hl.1 hey (c_MD_part l G fy _ y th T Y B Z M C u1 u2 u3 h_u1 h_u2 h_u3 hL) ⟨by omega, by omega⟩ ⟨by omega, by omega⟩ (Nat.le_of_ble_eq_true rfl) d_LW_law_535 (fun v fy1 H locs hp hw2 hsz9 hkp9 hdm9 => ?_)
  rw [← e_r] at hp
  obtain ⟨rfl, hm1⟩ := hp
  obtain ⟨hwx2, dj4⟩ := hw2.side hwx1 (dj_sw dj3) hkp9 hdm9
  obtain ⟨M1, C1, hL1⟩ := id hm1
  obtain ⟨si1, un1, bu1, ma1, bt1, so1, co1, gsi1, gun1, gbu1, gma1, gbt1, gso1, gco1, hM1, -⟩ := id hL1
  refine W.eq (g2 := F0 m 538 ls [.int (iI (r.2.1))]) rfl ?_
  refine lv_istore (lv' := [(6, .int (iI (r.2.1))), (5, .int (iI (r.1))), (0, .ref bs), (1, .ref x), (2, .ref y), (3, .ref o), (4, .int (iI i))]) hx hb d_LW_law_538 hl (by decide) rfl (fun ls hl => ?_)
  refine lv_aload_n hx hb d_LW_law_540 rfl (lv_at hl 4 rfl) ?_
  refine cs_LW_95 X hz hw2 hl.1 hM1.1 (c_MD_thrown l G fy1 _ y _ _ _ _ _ M1 C1 hL1) ⟨by omega, by omega⟩ ⟨by omega, by omega⟩ (Nat.le_of_ble_eq_true rfl) d_LW_law_541 (fun v fy2 H locs hp hw3 hsz9 hkp9 hdm9 => ?_)
  obtain ⟨hwx3, dj5⟩ := hw3.side hwx2 dj4 hkp9 hdm9
  obtain ⟨rfl, hfe⟩ := hp
  rw [hfe] at hw3 dj5
  refine W.eq (g2 := F0 m 544 ls [.int (iI (r.1))]) rfl ?_
  refine lv_iload hx hb d_LW_law_544 (lv_at hl 1 rfl) ?_
  refine lv_icmp_eq (tgt := 551) hx hb d_LW_law_546 (by decide) (fun _ => ?_) (fun q9 => absurd rfl q9)
  refine lv_iload hx hb d_LW_law_551 (lv_at hl 1 rfl) ?_
  refine di_if_ne (tgt := 568) hx hb d_LW_law_553 (by decide) ⟨by omega, by omega⟩ (fun hr0 => ?_) (fun hr0 => ?_)
  · refine lv_goto (tgt := 1469) hx hb d_LW_law_568 (by decide) ?_
    refine W.widen (k := cells + 130) (n := slots + 4500) (by omega) (by omega) ?_
    exact kk _ _ _ _ _ _ _ ⟨fx1, fy1, g1, _, hwx3, hw3, dj_sw dj5, ho1, hI1, hm1⟩ (lv_sub hl [2, 3, 4, 5, 6] rfl)
  · refine lv_aload_n hx hb d_LW_law_556 rfl (lv_at hl 5 rfl) ?_
    refine lv_iconst (v := iI (0)) hx hb d_LW_law_557 rfl ?_
    refine dw_lald hx hb X.K hwx3 4 (dw_up_self _ _ _) rfl (i := 0) (by decide) (by decide) (by decide) (hout hr0) d_LW_law_558 ?_
    refine lv_iload hx hb d_LW_law_559 (lv_at hl 0 rfl) ?_
    refine lv_i2l hx hb d_LW_law_561 rfl ?_
    refine lv_lcmpE hx hb d_LW_law_562 ?_
    refine di_if_eq (tgt := 568) hx hb d_LW_law_563 (by decide) ⟨by decide, by decide⟩ (fun _ => ?_) (fun q9 => absurd rfl q9)
    refine lv_goto (tgt := 1469) hx hb d_LW_law_568 (by decide) ?_
    refine W.widen (k := cells + 130) (n := slots + 4500) (by omega) (by omega) ?_
    exact kk _ _ _ _ _ _ _ ⟨fx1, fy1, g1, _, hwx3, hw3, dj_sw dj5, ho1, hI1, hm1⟩ (lv_sub hl [2, 3, 4, 5, 6] rfl)
set_option maxRecDepth 100000 in
set_option maxHeartbeats 4000000 in
theorem lk_replace {p : Program} {l : Launch} {e : Env} {R : Room} {s : State} {m : MethodId} {args : Array Value} {below : List Frame} {meth : Method} {c : Code} {H : Heap} {locs : List Loc} {cells slots : Nat} {Q : State → Prop} {ls : Array Slot} {G : ct_G} {A : Nat → Prop} {bs n x y o : Nat} {gs : Nat → Int32} {i : Int} {T Y : List (List Int)} {B Z : List Int} (X : cx G "TextDeskLaw" p s m args c b_LW_law 7) (hlT : l.stackTraces = false) (hz : ct_z G A s) (hX : va_X bs n gs s s.heap) (hbl : bs < s.heap.size) (hn : ¬ A bs) (hi0 : 0 ≤ i) (hi1 : i + 5 ≤ (n : Int)) (hi2 : (n : Int) < 2147483648) (hS : lwS G A s.heap x y o T Y B Z H locs) (hl : lv_has ls 7 [(0, .ref bs), (1, .ref x), (2, .ref y), (3, .ref o), (4, .int (iI i))]) (hR : 100 ≤ R.frames ∧ 3000 ≤ R.locals) (hf : cells + 130 ≤ R.cells ∧ slots + 4500 ≤ R.slots)
    (kk : ∀ (T Y : List (List Int)) (B Z : List Int) (H : Heap) (locs : List Loc) (ls : Array Slot), lwS G A s.heap x y o T Y B Z H locs → lv_has ls 7 [(0, .ref bs), (1, .ref x), (2, .ref y), (3, .ref o), (4, .int (iI i))] → W p l e R s m args below meth c H locs (cells + 130) (slots + 4500) Q (F0 m 1469 ls [])) : W p l e R s m args below meth c H locs cells slots Q (F0 m 571 ls []) := by
  have hx := X.1
  have hb := X.2.1
  obtain ⟨fx, fy, g, th, hwx, hwy, dj, ho, hI, hm⟩ := hS
  obtain ⟨M, C, hL⟩ := id hm
  obtain ⟨si, un, bu, ma, bt, so, co, gsi, gun, gbu, gma, gbt, gso, gco, hM, -⟩ := id hL
  have hey := hM.1
  obtain ⟨u1, e_u1⟩ : ∃ u : Int, u = (gs (i + 1).toNat).toInt := ⟨_, rfl⟩
  have h_u1 : iR u1 := by rw [e_u1]; exact ⟨Int32.le_toInt _, Int32.toInt_lt _⟩
  obtain ⟨u2, e_u2⟩ : ∃ u : Int, u = (gs (i + 2).toNat).toInt := ⟨_, rfl⟩
  have h_u2 : iR u2 := by rw [e_u2]; exact ⟨Int32.le_toInt _, Int32.toInt_lt _⟩
  obtain ⟨u3, e_u3⟩ : ∃ u : Int, u = (gs (i + 3).toNat).toInt := ⟨_, rfl⟩
  have h_u3 : iR u3 := by rw [e_u3]; exact ⟨Int32.le_toInt _, Int32.toInt_lt _⟩
  obtain ⟨r, e_r⟩ : ∃ r : Rs, r = sp_replace T Y B Z u1 u2 u3 := ⟨_, rfl⟩
  refine lv_aload_n hx hb d_LW_law_571 rfl (lv_at hl 1 rfl) ?_
  refine lv_aload_n hx hb d_LW_law_572 rfl (lv_at hl 0 rfl) ?_
  refine lv_iload hx hb d_LW_law_573 (lv_at hl 4 rfl) ?_
  refine lv_iconst (v := iI (1)) hx hb d_LW_law_575 rfl ?_
  refine di_add hx hb d_LW_law_576 ?_
  refine lw_read hx hb hX hbl hn hwx.2.1 (i := i + 1) (by omega) (by omega) (by omega) e_u1 d_LW_law_577 ?_
  refine lv_aload_n hx hb d_LW_law_578 rfl (lv_at hl 0 rfl) ?_
  refine lv_iload hx hb d_LW_law_579 (lv_at hl 4 rfl) ?_
  refine lv_iconst (v := iI (2)) hx hb d_LW_law_581 rfl ?_
  refine di_add hx hb d_LW_law_582 ?_
  refine lw_read hx hb hX hbl hn hwx.2.1 (i := i + 2) (by omega) (by omega) (by omega) e_u2 d_LW_law_583 ?_
  refine lv_aload_n hx hb d_LW_law_584 rfl (lv_at hl 0 rfl) ?_
  refine lv_iload hx hb d_LW_law_585 (lv_at hl 4 rfl) ?_
  refine lv_iconst (v := iI (3)) hx hb d_LW_law_587 rfl ?_
  refine di_add hx hb d_LW_law_588 ?_
  refine lw_read hx hb hX hbl hn hwx.2.1 (i := i + 3) (by omega) (by omega) (by omega) e_u3 d_LW_law_589 ?_
  refine lv_aload_n hx hb d_LW_law_590 rfl (lv_at hl 3 rfl) ?_
  refine cs_LW_124 X hz hwx hl.1 (c_LW_replace l hlT G fx _ x o g T Y B Z hI ho u1 u2 u3 h_u1 h_u2 h_u3) ⟨by omega, by omega⟩ ⟨by omega, by omega⟩ (Nat.le_of_ble_eq_true rfl) d_LW_law_591 (fun E ce q9 f9 H1 locs1 hp => hp.elim) (fun v f9 H locs hp hw1 hsz9 hkp9 hdm9 => ?_)
  rw [← e_r] at hp
  obtain ⟨rfl, hr3, fx1, g1, rfl, ho1, hI1, hout⟩ := hp
  obtain ⟨hwy1, dj3⟩ := hw1.side hwy dj hkp9 hdm9
  have hwx1 := hw1
  refine W.eq (g2 := F0 m 594 ls [.int (iI (r.1))]) rfl ?_
  refine lv_istore (lv' := [(5, .int (iI (r.1))), (0, .ref bs), (1, .ref x), (2, .ref y), (3, .ref o), (4, .int (iI i))]) hx hb d_LW_law_594 hl (by decide) rfl (fun ls hl => ?_)
  refine lv_aload_n hx hb d_LW_law_596 rfl (lv_at hl 3 rfl) ?_
  refine lv_aload_n hx hb d_LW_law_597 rfl (lv_at hl 1 rfl) ?_
  refine lv_iload hx hb d_LW_law_598 (lv_at hl 5 rfl) ?_
  refine lv_iconst (v := iI (1)) hx hb d_LW_law_600 rfl ?_
  refine di_add hx hb d_LW_law_601 ?_
  refine lw_read hx hb hX hbl hn hwx1.2.1 (i := i + 1) (by omega) (by omega) (by omega) e_u1 d_LW_law_602 ?_
  refine lv_aload_n hx hb d_LW_law_603 rfl (lv_at hl 1 rfl) ?_
  refine lv_iload hx hb d_LW_law_604 (lv_at hl 5 rfl) ?_
  refine lv_iconst (v := iI (2)) hx hb d_LW_law_606 rfl ?_
  refine di_add hx hb d_LW_law_607 ?_
  refine lw_read hx hb hX hbl hn hwx1.2.1 (i := i + 2) (by omega) (by omega) (by omega) e_u2 d_LW_law_608 ?_
  refine lv_aload_n hx hb d_LW_law_609 rfl (lv_at hl 1 rfl) ?_
  refine lv_iload hx hb d_LW_law_610 (lv_at hl 5 rfl) ?_
  refine lv_iconst (v := iI (3)) hx hb d_LW_law_612 rfl ?_
  refine di_add hx hb d_LW_law_613 ?_
  refine lw_read hx hb hX hbl hn hwx1.2.1 (i := i + 3) (by omega) (by omega) (by omega) e_u3 d_LW_law_614 ?_
  refine cs_LW_126 X hz hwy1 hl.1 hey (c_MD_replace l G fy _ y th T Y B Z M C u1 u2 u3 h_u1 h_u2 h_u3 hL) ⟨by omega, by omega⟩ ⟨by omega, by omega⟩ (Nat.le_of_ble_eq_true rfl) d_LW_law_615 (fun v fy1 H locs hp hw2 hsz9 hkp9 hdm9 => ?_)
  rw [← e_r] at hp
  obtain ⟨rfl, hm1⟩ := hp
  obtain ⟨hwx2, dj4⟩ := hw2.side hwx1 (dj_sw dj3) hkp9 hdm9
  obtain ⟨M1, C1, hL1⟩ := id hm1
  obtain ⟨si1, un1, bu1, ma1, bt1, so1, co1, gsi1, gun1, gbu1, gma1, gbt1, gso1, gco1, hM1, -⟩ := id hL1
  refine W.eq (g2 := F0 m 618 ls [.int (iI (r.2.1))]) rfl ?_
  refine lv_istore (lv' := [(6, .int (iI (r.2.1))), (5, .int (iI (r.1))), (0, .ref bs), (1, .ref x), (2, .ref y), (3, .ref o), (4, .int (iI i))]) hx hb d_LW_law_618 hl (by decide) rfl (fun ls hl => ?_)
  refine lv_aload_n hx hb d_LW_law_620 rfl (lv_at hl 4 rfl) ?_
  refine cs_LW_95 X hz hw2 hl.1 hM1.1 (c_MD_thrown l G fy1 _ y _ _ _ _ _ M1 C1 hL1) ⟨by omega, by omega⟩ ⟨by omega, by omega⟩ (Nat.le_of_ble_eq_true rfl) d_LW_law_621 (fun v fy2 H locs hp hw3 hsz9 hkp9 hdm9 => ?_)
  obtain ⟨hwx3, dj5⟩ := hw3.side hwx2 dj4 hkp9 hdm9
  obtain ⟨rfl, hfe⟩ := hp
  rw [hfe] at hw3 dj5
  refine W.eq (g2 := F0 m 624 ls [.int (iI (r.1))]) rfl ?_
  refine lv_iload hx hb d_LW_law_624 (lv_at hl 1 rfl) ?_
  refine lv_icmp_eq (tgt := 631) hx hb d_LW_law_626 (by decide) (fun _ => ?_) (fun q9 => absurd rfl q9)
  refine lv_iload hx hb d_LW_law_631 (lv_at hl 1 rfl) ?_
  refine di_if_ne (tgt := 648) hx hb d_LW_law_633 (by decide) ⟨by omega, by omega⟩ (fun hr0 => ?_) (fun hr0 => ?_)
  · refine lv_goto (tgt := 1469) hx hb d_LW_law_648 (by decide) ?_
    refine W.widen (k := cells + 130) (n := slots + 4500) (by omega) (by omega) ?_
    exact kk _ _ _ _ _ _ _ ⟨fx1, fy1, g1, _, hwx3, hw3, dj_sw dj5, ho1, hI1, hm1⟩ (lv_sub hl [2, 3, 4, 5, 6] rfl)
  · refine lv_aload_n hx hb d_LW_law_636 rfl (lv_at hl 5 rfl) ?_
    refine lv_iconst (v := iI (0)) hx hb d_LW_law_637 rfl ?_
    refine dw_lald hx hb X.K hwx3 4 (dw_up_self _ _ _) rfl (i := 0) (by decide) (by decide) (by decide) (hout hr0) d_LW_law_638 ?_
    refine lv_iload hx hb d_LW_law_639 (lv_at hl 0 rfl) ?_
    refine lv_i2l hx hb d_LW_law_641 rfl ?_
    refine lv_lcmpE hx hb d_LW_law_642 ?_
    refine di_if_eq (tgt := 648) hx hb d_LW_law_643 (by decide) ⟨by decide, by decide⟩ (fun _ => ?_) (fun q9 => absurd rfl q9)
    refine lv_goto (tgt := 1469) hx hb d_LW_law_648 (by decide) ?_
    refine W.widen (k := cells + 130) (n := slots + 4500) (by omega) (by omega) ?_
    exact kk _ _ _ _ _ _ _ ⟨fx1, fy1, g1, _, hwx3, hw3, dj_sw dj5, ho1, hI1, hm1⟩ (lv_sub hl [2, 3, 4, 5, 6] rfl)
set_option maxRecDepth 100000 in
set_option maxHeartbeats 4000000 in
theorem lk_strip {p : Program} {l : Launch} {e : Env} {R : Room} {s : State} {m : MethodId} {args : Array Value} {below : List Frame} {meth : Method} {c : Code} {H : Heap} {locs : List Loc} {cells slots : Nat} {Q : State → Prop} {ls : Array Slot} {G : ct_G} {A : Nat → Prop} {bs n x y o : Nat} {gs : Nat → Int32} {i : Int} {T Y : List (List Int)} {B Z : List Int} (X : cx G "TextDeskLaw" p s m args c b_LW_law 7) (hlT : l.stackTraces = false) (hz : ct_z G A s) (hX : va_X bs n gs s s.heap) (hbl : bs < s.heap.size) (hn : ¬ A bs) (hi0 : 0 ≤ i) (hi1 : i + 5 ≤ (n : Int)) (hi2 : (n : Int) < 2147483648) (hS : lwS G A s.heap x y o T Y B Z H locs) (hl : lv_has ls 7 [(0, .ref bs), (1, .ref x), (2, .ref y), (3, .ref o), (4, .int (iI i))]) (hR : 100 ≤ R.frames ∧ 3000 ≤ R.locals) (hf : cells + 130 ≤ R.cells ∧ slots + 4500 ≤ R.slots)
    (kk : ∀ (T Y : List (List Int)) (B Z : List Int) (H : Heap) (locs : List Loc) (ls : Array Slot), lwS G A s.heap x y o T Y B Z H locs → lv_has ls 7 [(0, .ref bs), (1, .ref x), (2, .ref y), (3, .ref o), (4, .int (iI i))] → W p l e R s m args below meth c H locs (cells + 130) (slots + 4500) Q (F0 m 1469 ls [])) : W p l e R s m args below meth c H locs cells slots Q (F0 m 651 ls []) := by
  have hx := X.1
  have hb := X.2.1
  obtain ⟨fx, fy, g, th, hwx, hwy, dj, ho, hI, hm⟩ := hS
  obtain ⟨M, C, hL⟩ := id hm
  obtain ⟨si, un, bu, ma, bt, so, co, gsi, gun, gbu, gma, gbt, gso, gco, hM, -⟩ := id hL
  have hey := hM.1
  obtain ⟨u1, e_u1⟩ : ∃ u : Int, u = (gs (i + 1).toNat).toInt := ⟨_, rfl⟩
  have h_u1 : iR u1 := by rw [e_u1]; exact ⟨Int32.le_toInt _, Int32.toInt_lt _⟩
  obtain ⟨r, e_r⟩ : ∃ r : Rs, r = sp_strip T Y B Z u1 := ⟨_, rfl⟩
  refine lv_aload_n hx hb d_LW_law_651 rfl (lv_at hl 1 rfl) ?_
  refine lv_aload_n hx hb d_LW_law_652 rfl (lv_at hl 0 rfl) ?_
  refine lv_iload hx hb d_LW_law_653 (lv_at hl 4 rfl) ?_
  refine lv_iconst (v := iI (1)) hx hb d_LW_law_655 rfl ?_
  refine di_add hx hb d_LW_law_656 ?_
  refine lw_read hx hb hX hbl hn hwx.2.1 (i := i + 1) (by omega) (by omega) (by omega) e_u1 d_LW_law_657 ?_
  refine lv_aload_n hx hb d_LW_law_658 rfl (lv_at hl 3 rfl) ?_
  refine cs_LW_127 X hz hwx hl.1 (c_LW_strip l hlT G fx _ x o g T Y B Z hI ho u1 h_u1) ⟨by omega, by omega⟩ ⟨by omega, by omega⟩ (Nat.le_of_ble_eq_true rfl) d_LW_law_659 (fun E ce q9 f9 H1 locs1 hp => hp.elim) (fun v f9 H locs hp hw1 hsz9 hkp9 hdm9 => ?_)
  rw [← e_r] at hp
  obtain ⟨rfl, hr3, fx1, g1, rfl, ho1, hI1, hout⟩ := hp
  obtain ⟨hwy1, dj3⟩ := hw1.side hwy dj hkp9 hdm9
  have hwx1 := hw1
  refine W.eq (g2 := F0 m 662 ls [.int (iI (r.1))]) rfl ?_
  refine lv_istore (lv' := [(5, .int (iI (r.1))), (0, .ref bs), (1, .ref x), (2, .ref y), (3, .ref o), (4, .int (iI i))]) hx hb d_LW_law_662 hl (by decide) rfl (fun ls hl => ?_)
  refine lv_aload_n hx hb d_LW_law_664 rfl (lv_at hl 3 rfl) ?_
  refine lv_aload_n hx hb d_LW_law_665 rfl (lv_at hl 1 rfl) ?_
  refine lv_iload hx hb d_LW_law_666 (lv_at hl 5 rfl) ?_
  refine lv_iconst (v := iI (1)) hx hb d_LW_law_668 rfl ?_
  refine di_add hx hb d_LW_law_669 ?_
  refine lw_read hx hb hX hbl hn hwx1.2.1 (i := i + 1) (by omega) (by omega) (by omega) e_u1 d_LW_law_670 ?_
  refine cs_LW_129 X hz hwy1 hl.1 hey (c_MD_strip l G fy _ y th T Y B Z M C u1 h_u1 hL) ⟨by omega, by omega⟩ ⟨by omega, by omega⟩ (Nat.le_of_ble_eq_true rfl) d_LW_law_671 (fun v fy1 H locs hp hw2 hsz9 hkp9 hdm9 => ?_)
  rw [← e_r] at hp
  obtain ⟨rfl, hm1⟩ := hp
  obtain ⟨hwx2, dj4⟩ := hw2.side hwx1 (dj_sw dj3) hkp9 hdm9
  obtain ⟨M1, C1, hL1⟩ := id hm1
  obtain ⟨si1, un1, bu1, ma1, bt1, so1, co1, gsi1, gun1, gbu1, gma1, gbt1, gso1, gco1, hM1, -⟩ := id hL1
  refine W.eq (g2 := F0 m 674 ls [.int (iI (r.2.1))]) rfl ?_
  refine lv_istore (lv' := [(6, .int (iI (r.2.1))), (5, .int (iI (r.1))), (0, .ref bs), (1, .ref x), (2, .ref y), (3, .ref o), (4, .int (iI i))]) hx hb d_LW_law_674 hl (by decide) rfl (fun ls hl => ?_)
  refine lv_aload_n hx hb d_LW_law_676 rfl (lv_at hl 4 rfl) ?_
  refine cs_LW_95 X hz hw2 hl.1 hM1.1 (c_MD_thrown l G fy1 _ y _ _ _ _ _ M1 C1 hL1) ⟨by omega, by omega⟩ ⟨by omega, by omega⟩ (Nat.le_of_ble_eq_true rfl) d_LW_law_677 (fun v fy2 H locs hp hw3 hsz9 hkp9 hdm9 => ?_)
  obtain ⟨hwx3, dj5⟩ := hw3.side hwx2 dj4 hkp9 hdm9
  obtain ⟨rfl, hfe⟩ := hp
  rw [hfe] at hw3 dj5
  refine W.eq (g2 := F0 m 680 ls [.int (iI (r.1))]) rfl ?_
  refine lv_iload hx hb d_LW_law_680 (lv_at hl 1 rfl) ?_
  refine lv_icmp_eq (tgt := 687) hx hb d_LW_law_682 (by decide) (fun _ => ?_) (fun q9 => absurd rfl q9)
  refine lv_iload hx hb d_LW_law_687 (lv_at hl 1 rfl) ?_
  refine di_if_ne (tgt := 704) hx hb d_LW_law_689 (by decide) ⟨by omega, by omega⟩ (fun hr0 => ?_) (fun hr0 => ?_)
  · refine lv_goto (tgt := 1469) hx hb d_LW_law_704 (by decide) ?_
    refine W.widen (k := cells + 130) (n := slots + 4500) (by omega) (by omega) ?_
    exact kk _ _ _ _ _ _ _ ⟨fx1, fy1, g1, _, hwx3, hw3, dj_sw dj5, ho1, hI1, hm1⟩ (lv_sub hl [2, 3, 4, 5, 6] rfl)
  · refine lv_aload_n hx hb d_LW_law_692 rfl (lv_at hl 5 rfl) ?_
    refine lv_iconst (v := iI (0)) hx hb d_LW_law_693 rfl ?_
    refine dw_lald hx hb X.K hwx3 4 (dw_up_self _ _ _) rfl (i := 0) (by decide) (by decide) (by decide) (hout hr0) d_LW_law_694 ?_
    refine lv_iload hx hb d_LW_law_695 (lv_at hl 0 rfl) ?_
    refine lv_i2l hx hb d_LW_law_697 rfl ?_
    refine lv_lcmpE hx hb d_LW_law_698 ?_
    refine di_if_eq (tgt := 704) hx hb d_LW_law_699 (by decide) ⟨by decide, by decide⟩ (fun _ => ?_) (fun q9 => absurd rfl q9)
    refine lv_goto (tgt := 1469) hx hb d_LW_law_704 (by decide) ?_
    refine W.widen (k := cells + 130) (n := slots + 4500) (by omega) (by omega) ?_
    exact kk _ _ _ _ _ _ _ ⟨fx1, fy1, g1, _, hwx3, hw3, dj_sw dj5, ho1, hI1, hm1⟩ (lv_sub hl [2, 3, 4, 5, 6] rfl)
set_option maxRecDepth 100000 in
set_option maxHeartbeats 4000000 in
theorem lk_at {p : Program} {l : Launch} {e : Env} {R : Room} {s : State} {m : MethodId} {args : Array Value} {below : List Frame} {meth : Method} {c : Code} {H : Heap} {locs : List Loc} {cells slots : Nat} {Q : State → Prop} {ls : Array Slot} {G : ct_G} {A : Nat → Prop} {bs n x y o : Nat} {gs : Nat → Int32} {i : Int} {T Y : List (List Int)} {B Z : List Int} (X : cx G "TextDeskLaw" p s m args c b_LW_law 7) (hlT : l.stackTraces = false) (hz : ct_z G A s) (hX : va_X bs n gs s s.heap) (hbl : bs < s.heap.size) (hn : ¬ A bs) (hi0 : 0 ≤ i) (hi1 : i + 5 ≤ (n : Int)) (hi2 : (n : Int) < 2147483648) (hS : lwS G A s.heap x y o T Y B Z H locs) (hl : lv_has ls 7 [(0, .ref bs), (1, .ref x), (2, .ref y), (3, .ref o), (4, .int (iI i))]) (hR : 100 ≤ R.frames ∧ 3000 ≤ R.locals) (hf : cells + 130 ≤ R.cells ∧ slots + 4500 ≤ R.slots)
    (kk : ∀ (T Y : List (List Int)) (B Z : List Int) (H : Heap) (locs : List Loc) (ls : Array Slot), lwS G A s.heap x y o T Y B Z H locs → lv_has ls 7 [(0, .ref bs), (1, .ref x), (2, .ref y), (3, .ref o), (4, .int (iI i))] → W p l e R s m args below meth c H locs (cells + 130) (slots + 4500) Q (F0 m 1469 ls [])) : W p l e R s m args below meth c H locs cells slots Q (F0 m 707 ls []) := by
  have hx := X.1
  have hb := X.2.1
  obtain ⟨fx, fy, g, th, hwx, hwy, dj, ho, hI, hm⟩ := hS
  obtain ⟨M, C, hL⟩ := id hm
  obtain ⟨si, un, bu, ma, bt, so, co, gsi, gun, gbu, gma, gbt, gso, gco, hM, -⟩ := id hL
  have hey := hM.1
  obtain ⟨u1, e_u1⟩ : ∃ u : Int, u = (gs (i + 1).toNat).toInt := ⟨_, rfl⟩
  have h_u1 : iR u1 := by rw [e_u1]; exact ⟨Int32.le_toInt _, Int32.toInt_lt _⟩
  obtain ⟨u2, e_u2⟩ : ∃ u : Int, u = (gs (i + 2).toNat).toInt := ⟨_, rfl⟩
  have h_u2 : iR u2 := by rw [e_u2]; exact ⟨Int32.le_toInt _, Int32.toInt_lt _⟩
  obtain ⟨r, e_r⟩ : ∃ r : Rs, r = sp_at T Y B Z u1 u2 := ⟨_, rfl⟩
  refine lv_aload_n hx hb d_LW_law_707 rfl (lv_at hl 1 rfl) ?_
  refine lv_aload_n hx hb d_LW_law_708 rfl (lv_at hl 0 rfl) ?_
  refine lv_iload hx hb d_LW_law_709 (lv_at hl 4 rfl) ?_
  refine lv_iconst (v := iI (1)) hx hb d_LW_law_711 rfl ?_
  refine di_add hx hb d_LW_law_712 ?_
  refine lw_read hx hb hX hbl hn hwx.2.1 (i := i + 1) (by omega) (by omega) (by omega) e_u1 d_LW_law_713 ?_
  refine lv_aload_n hx hb d_LW_law_714 rfl (lv_at hl 0 rfl) ?_
  refine lv_iload hx hb d_LW_law_715 (lv_at hl 4 rfl) ?_
  refine lv_iconst (v := iI (2)) hx hb d_LW_law_717 rfl ?_
  refine di_add hx hb d_LW_law_718 ?_
  refine lw_read hx hb hX hbl hn hwx.2.1 (i := i + 2) (by omega) (by omega) (by omega) e_u2 d_LW_law_719 ?_
  refine lv_aload_n hx hb d_LW_law_720 rfl (lv_at hl 3 rfl) ?_
  refine cs_LW_130 X hz hwx hl.1 (c_LW_at l hlT G fx _ x o g T Y B Z hI ho u1 u2 h_u1 h_u2) ⟨by omega, by omega⟩ ⟨by omega, by omega⟩ (Nat.le_of_ble_eq_true rfl) d_LW_law_721 (fun E ce q9 f9 H1 locs1 hp => hp.elim) (fun v f9 H locs hp hw1 hsz9 hkp9 hdm9 => ?_)
  rw [← e_r] at hp
  obtain ⟨rfl, hr3, fx1, g1, rfl, ho1, hI1, hout⟩ := hp
  obtain ⟨hwy1, dj3⟩ := hw1.side hwy dj hkp9 hdm9
  have hwx1 := hw1
  refine W.eq (g2 := F0 m 724 ls [.int (iI (r.1))]) rfl ?_
  refine lv_istore (lv' := [(5, .int (iI (r.1))), (0, .ref bs), (1, .ref x), (2, .ref y), (3, .ref o), (4, .int (iI i))]) hx hb d_LW_law_724 hl (by decide) rfl (fun ls hl => ?_)
  refine lv_aload_n hx hb d_LW_law_726 rfl (lv_at hl 3 rfl) ?_
  refine lv_aload_n hx hb d_LW_law_727 rfl (lv_at hl 1 rfl) ?_
  refine lv_iload hx hb d_LW_law_728 (lv_at hl 5 rfl) ?_
  refine lv_iconst (v := iI (1)) hx hb d_LW_law_730 rfl ?_
  refine di_add hx hb d_LW_law_731 ?_
  refine lw_read hx hb hX hbl hn hwx1.2.1 (i := i + 1) (by omega) (by omega) (by omega) e_u1 d_LW_law_732 ?_
  refine lv_aload_n hx hb d_LW_law_733 rfl (lv_at hl 1 rfl) ?_
  refine lv_iload hx hb d_LW_law_734 (lv_at hl 5 rfl) ?_
  refine lv_iconst (v := iI (2)) hx hb d_LW_law_736 rfl ?_
  refine di_add hx hb d_LW_law_737 ?_
  refine lw_read hx hb hX hbl hn hwx1.2.1 (i := i + 2) (by omega) (by omega) (by omega) e_u2 d_LW_law_738 ?_
  refine cs_LW_132 X hz hwy1 hl.1 hey (c_MD_at l G fy _ y th T Y B Z M C u1 u2 h_u1 h_u2 hL) ⟨by omega, by omega⟩ ⟨by omega, by omega⟩ (Nat.le_of_ble_eq_true rfl) d_LW_law_739 (fun v fy1 H locs hp hw2 hsz9 hkp9 hdm9 => ?_)
  rw [← e_r] at hp
  obtain ⟨rfl, hm1⟩ := hp
  obtain ⟨hwx2, dj4⟩ := hw2.side hwx1 (dj_sw dj3) hkp9 hdm9
  obtain ⟨M1, C1, hL1⟩ := id hm1
  obtain ⟨si1, un1, bu1, ma1, bt1, so1, co1, gsi1, gun1, gbu1, gma1, gbt1, gso1, gco1, hM1, -⟩ := id hL1
  refine W.eq (g2 := F0 m 742 ls [.int (iI (r.2.1))]) rfl ?_
  refine lv_istore (lv' := [(6, .int (iI (r.2.1))), (5, .int (iI (r.1))), (0, .ref bs), (1, .ref x), (2, .ref y), (3, .ref o), (4, .int (iI i))]) hx hb d_LW_law_742 hl (by decide) rfl (fun ls hl => ?_)
  refine lv_aload_n hx hb d_LW_law_744 rfl (lv_at hl 4 rfl) ?_
  refine cs_LW_95 X hz hw2 hl.1 hM1.1 (c_MD_thrown l G fy1 _ y _ _ _ _ _ M1 C1 hL1) ⟨by omega, by omega⟩ ⟨by omega, by omega⟩ (Nat.le_of_ble_eq_true rfl) d_LW_law_745 (fun v fy2 H locs hp hw3 hsz9 hkp9 hdm9 => ?_)
  obtain ⟨hwx3, dj5⟩ := hw3.side hwx2 dj4 hkp9 hdm9
  obtain ⟨rfl, hfe⟩ := hp
  rw [hfe] at hw3 dj5
  refine W.eq (g2 := F0 m 748 ls [.int (iI (r.1))]) rfl ?_
  refine lv_iload hx hb d_LW_law_748 (lv_at hl 1 rfl) ?_
  refine lv_icmp_eq (tgt := 755) hx hb d_LW_law_750 (by decide) (fun _ => ?_) (fun q9 => absurd rfl q9)
  refine lv_iload hx hb d_LW_law_755 (lv_at hl 1 rfl) ?_
  refine di_if_ne (tgt := 772) hx hb d_LW_law_757 (by decide) ⟨by omega, by omega⟩ (fun hr0 => ?_) (fun hr0 => ?_)
  · refine lv_goto (tgt := 1469) hx hb d_LW_law_772 (by decide) ?_
    refine W.widen (k := cells + 130) (n := slots + 4500) (by omega) (by omega) ?_
    exact kk _ _ _ _ _ _ _ ⟨fx1, fy1, g1, _, hwx3, hw3, dj_sw dj5, ho1, hI1, hm1⟩ (lv_sub hl [2, 3, 4, 5, 6] rfl)
  · refine lv_aload_n hx hb d_LW_law_760 rfl (lv_at hl 5 rfl) ?_
    refine lv_iconst (v := iI (0)) hx hb d_LW_law_761 rfl ?_
    refine dw_lald hx hb X.K hwx3 4 (dw_up_self _ _ _) rfl (i := 0) (by decide) (by decide) (by decide) (hout hr0) d_LW_law_762 ?_
    refine lv_iload hx hb d_LW_law_763 (lv_at hl 0 rfl) ?_
    refine lv_i2l hx hb d_LW_law_765 rfl ?_
    refine lv_lcmpE hx hb d_LW_law_766 ?_
    refine di_if_eq (tgt := 772) hx hb d_LW_law_767 (by decide) ⟨by decide, by decide⟩ (fun _ => ?_) (fun q9 => absurd rfl q9)
    refine lv_goto (tgt := 1469) hx hb d_LW_law_772 (by decide) ?_
    refine W.widen (k := cells + 130) (n := slots + 4500) (by omega) (by omega) ?_
    exact kk _ _ _ _ _ _ _ ⟨fx1, fy1, g1, _, hwx3, hw3, dj_sw dj5, ho1, hI1, hm1⟩ (lv_sub hl [2, 3, 4, 5, 6] rfl)
