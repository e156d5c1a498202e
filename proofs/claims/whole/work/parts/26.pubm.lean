theorem ecc_next {us : List Int} (h : ∀ u ∈ us, 0 ≤ u ∧ u < 65536) (e : Int) {k : Int} (h0 : 0 ≤ k) (h1 : k < (us.length : Int)) : 65536 ≤ ecc us e k → k + 2 ≤ (us.length : Int) := by
  intro h5
  unfold ecc at h5
  have hg := gt_rng h k
  split at h5
  · by_cases hp : pr us k = true
    · have h6 := pr_hi hp
      by_cases h9 : k + 1 < (us.length : Int)
      · omega
      · rw [gt_out (us := us) (k := k + 1) (by omega)] at h6
        omega
    · unfold chr at h5
      rw [if_neg hp] at h5
      omega
  · omega
set_option maxRecDepth 100000 in
set_option maxHeartbeats 4000000 in
theorem c_MD_put (l : Launch) (G : ct_G) (f : dw_M) (sz : Nat) (y : Nat) (th : Int) (T Y : List (List Int)) (B Z M C : List Int) (u : Int) (hc4 : C.length < 4) (hL : mdL G f y th T Y B Z M C) : cn l y_MD_put w_MD_put (0) (0) G f sz [.ref y, .int (iI u)] (fun v f' => v = none ∧ mdL G f' y th T Y B Z M (C ++ [u])) (0) (0) := by
  refine cn_of (own := "TextDeskModel") (nm := "put") (ds := "(I)V") (by decide) (Nat.le_of_ble_eq_true rfl) ?_
  intro p e s m args below meth c ls X hnm hr hlk hs0 hz hw hl
  have hx := X.1
  have hb := X.2.1
  have hl : lv_has ls 2 [(0, .ref y), (1, .int (iI u))] := hl
  obtain ⟨si, un, bu, ma, bt, so, co, gsi, gun, gbu, gma, gbt, gso, gco, hM, hT, hB, hZ, hMa, hC, hY⟩ := id hL
  have hTl := hT.1
  have hBl := hB.1.1
  have hZl := hZ.1.1
  have hYl := hY.1
  have hCl := hC.1
  have el : (((C ++ [u]).length : Nat) : Int) = (C.length : Int) + 1 := by simp
  refine lv_aload_n hx hb d_MD_put_0 rfl (lv_at hl 0 rfl) ?_
  refine gf_MD_28_MD X hw hM.1 d_MD_put_1 ?_
  refine lv_aload_n hx hb d_MD_put_4 rfl (lv_at hl 0 rfl) ?_
  refine gf_MD_99_MD X hw hM.1 d_MD_put_5 ?_
  refine lv_iload_n hx hb d_MD_put_8 rfl (lv_at hl 1 rfl) ?_
  refine dw_iast hx hb X.K hw 0 hM.2.2.2.2.2.2.2.1 rfl (i := (C.length : Int)) (by omega) (by omega) (by omega) d_MD_put_9 (fun H locs hw => ?_)
  obtain ⟨f1, e_f1⟩ : ∃ g9 : dw_M, g9 = dw_up f co (.inl (G.2.1 0, 4, .inl (upd gco ((C.length : Int)).toNat (iI (u))))) := ⟨_, rfl⟩
  rw [← e_f1] at hw
  have hM_f1 : mdS G f1 y th (T.length : Int) (B.length : Int) (M.length : Int) (Z.length : Int) (Y.length : Int) (C.length : Int) si un bu ma bt so co gsi gun gbu gma gbt gso (upd gco ((C.length : Int)).toNat (iI (u))) := by rw [e_f1]; exact hM.w_co _
  refine lv_aload_n hx hb d_MD_put_10 rfl (lv_at hl 0 rfl) ?_
  refine lv_dup hx hb d_MD_put_11 rfl ?_
  refine gf_MD_99_MD X hw hM_f1.1 d_MD_put_12 ?_
  refine lv_iconst (v := iI (1)) hx hb d_MD_put_15 rfl ?_
  refine di_add hx hb d_MD_put_16 ?_
  refine pf_MD_99_MD X hw hM_f1.1 rfl rfl d_MD_put_17 (fun H locs hw => ?_)
  obtain ⟨f2, e_f2⟩ : ∃ g9 : dw_M, g9 = dw_up f1 y (.inr (6, [.int (iI th), .int (iI ((T.length : Int))), .ref si, .ref un, .int (iI ((B.length : Int))), .ref bu, .int (iI ((M.length : Int))), .ref ma, .int (iI ((Z.length : Int))), .ref bt, .int (iI ((Y.length : Int))), .ref so, .int (iI ((C.length : Int) + 1)), .ref co])) := ⟨_, rfl⟩
  rw [← e_f2] at hw
  have hM_f2 : mdS G f2 y th (T.length : Int) (B.length : Int) (M.length : Int) (Z.length : Int) (Y.length : Int) ((C.length : Int) + 1) si un bu ma bt so co gsi gun gbu gma gbt gso (upd gco ((C.length : Int)).toNat (iI (u))) := by rw [e_f2]; exact hM_f1.obj th (T.length : Int) (B.length : Int) (M.length : Int) (Z.length : Int) (Y.length : Int) ((C.length : Int) + 1)
  exact cn_vret hx hb hr hlk hw  (⟨rfl, ⟨si, un, bu, ma, bt, so, co, _, _, _, _, _, _, _, (by rw [el]; exact hM_f2), hT, hB, hZ, hMa, (by rw [Int.toNat_natCast]; exact hC.snoc (by omega) u), hY⟩⟩) (Nat.le_refl _) (Nat.le_refl _) d_MD_put_20
set_option maxRecDepth 100000 in
set_option maxHeartbeats 4000000 in
theorem c_MD_utf (l : Launch) (G : ct_G) (f : dw_M) (sz : Nat) (y : Nat) (th : Int) (T Y : List (List Int)) (B Z M C : List Int) (cd : Int) (hc0 : 0 ≤ cd) (hc1 : cd < 1114112) (hL : mdL G f y th T Y B Z M C) : cn l y_MD_utf w_MD_utf (1) (21) G f sz [.ref y, .int (iI cd)] (fun v f' => v = none ∧ mdL G f' y th T Y B Z M (utf cd)) (0) (0) := by
  refine cn_of (own := "TextDeskModel") (nm := "utf") (ds := "(I)V") (by decide) (Nat.le_of_ble_eq_true rfl) ?_
  intro p e s m args below meth c ls X hnm hr hlk hs0 hz hw hl
  have hx := X.1
  have hb := X.2.1
  have hl : lv_has ls 2 [(0, .ref y), (1, .int (iI cd))] := hl
  obtain ⟨si, un, bu, ma, bt, so, co, gsi, gun, gbu, gma, gbt, gso, gco, hM, hT, hB, hZ, hMa, hC, hY⟩ := id hL
  have hTl := hT.1
  have hBl := hB.1.1
  have hZl := hZ.1.1
  have hYl := hY.1
  have hCl := hC.1
  refine lv_aload_n hx hb d_MD_utf_0 rfl (lv_at hl 0 rfl) ?_
  refine lv_iconst (v := iI (0)) hx hb d_MD_utf_1 rfl ?_
  refine pf_MD_99_MD X hw hM.1 rfl rfl d_MD_utf_2 (fun H locs hw => ?_)
  obtain ⟨f1, e_f1⟩ : ∃ g9 : dw_M, g9 = dw_up f y (.inr (6, [.int (iI th), .int (iI ((T.length : Int))), .ref si, .ref un, .int (iI ((B.length : Int))), .ref bu, .int (iI ((M.length : Int))), .ref ma, .int (iI ((Z.length : Int))), .ref bt, .int (iI ((Y.length : Int))), .ref so, .int (iI 0), .ref co])) := ⟨_, rfl⟩
  rw [← e_f1] at hw
  have hM_f1 : mdS G f1 y th (T.length : Int) (B.length : Int) (M.length : Int) (Z.length : Int) (Y.length : Int) 0 si un bu ma bt so co gsi gun gbu gma gbt gso gco := by rw [e_f1]; exact hM.obj th (T.length : Int) (B.length : Int) (M.length : Int) (Z.length : Int) (Y.length : Int) 0
  refine lv_iload_n hx hb d_MD_utf_5 rfl (lv_at hl 1 rfl) ?_
  refine lv_sipush (v := iI (128)) hx hb d_MD_utf_6 rfl ?_
  refine di_icmp_ge (tgt := 18) hx hb d_MD_utf_9 (by decide) ⟨by omega, by omega⟩ ⟨by omega, by omega⟩ (fun bq9 => ?_) (fun bq9 => ?_)
  · rcases (show cd < 2048 ∨ (2048 ≤ cd ∧ cd < 65536) ∨ 65536 ≤ cd by omega) with hr9 | hr9 | hr9
    · refine lv_iload_n hx hb d_MD_utf_18 rfl (lv_at hl 1 rfl) ?_
      refine lv_sipush (v := iI (2048)) hx hb d_MD_utf_19 rfl ?_
      refine di_icmp_ge (tgt := 37) hx hb d_MD_utf_22 (by decide) ⟨by omega, by omega⟩ ⟨by omega, by omega⟩ (fun bq22 => ?_) (fun bq22 => ?_)
      · exfalso; omega
      · refine lv_aload_n hx hb d_MD_utf_25 rfl (lv_at hl 0 rfl) ?_
        refine lv_sipush (v := iI (192)) hx hb d_MD_utf_26 rfl ?_
        refine lv_iload_n hx hb d_MD_utf_29 rfl (lv_at hl 1 rfl) ?_
        refine lv_bipush (v := iI (64)) hx hb d_MD_utf_30 rfl ?_
        refine di_div hx hb d_MD_utf_32 (by omega) (by omega) (by omega) (by omega) ?_
        refine di_add hx hb d_MD_utf_33 ?_
        refine cs_MD_102 X hz hw hl.1 hM_f1.1 (c_MD_put l G f1 _ y th T Y B Z M [] (192 + cd / 64) (by simp) ⟨si, un, bu, ma, bt, so, co, _, _, _, _, _, _, _, hM_f1, hT, hB, hZ, hMa, (rA.nil _ _), hY⟩) ⟨Nat.le_of_ble_eq_true rfl, Nat.le_of_ble_eq_true rfl⟩ ⟨by show 0 + 0 ≤ 0; omega, by show 0 + 0 ≤ 0; omega⟩ (Nat.le_of_ble_eq_true rfl) d_MD_utf_34 (fun v f11 H locs hp hw hsz9 hkp9 hdm9 => ?_)
        obtain ⟨rfl, hL_f11⟩ := hp
        refine W.eq (g2 := F0 m 37 ls []) rfl ?_
        obtain ⟨si, un, bu, ma, bt, so, co, gsi, gun, gbu, gma, gbt, gso, gco, hM, hT, hB, hZ, hMa, hC, hY⟩ := id hL_f11
        refine lv_iload_n hx hb d_MD_utf_37 rfl (lv_at hl 1 rfl) ?_
        refine lv_sipush (v := iI (2048)) hx hb d_MD_utf_38 rfl ?_
        refine di_icmp_lt (tgt := 63) hx hb d_MD_utf_41 (by decide) ⟨by omega, by omega⟩ ⟨by omega, by omega⟩ (fun bq41 => ?_) (fun bq41 => ?_)
        · refine lv_iload_n hx hb d_MD_utf_63 rfl (lv_at hl 1 rfl) ?_
          refine lv_ldc (v := iI (65536)) hx hb X.own (X.hts _ mw_697) d_MD_utf_64 ?_
          refine di_icmp_lt (tgt := 81) hx hb d_MD_utf_66 (by decide) ⟨by omega, by omega⟩ ⟨by omega, by omega⟩ (fun bq66 => ?_) (fun bq66 => ?_)
          · refine lv_iload_n hx hb d_MD_utf_81 rfl (lv_at hl 1 rfl) ?_
            refine lv_ldc (v := iI (65536)) hx hb X.own (X.hts _ mw_697) d_MD_utf_82 ?_
            refine di_icmp_lt (tgt := 103) hx hb d_MD_utf_84 (by decide) ⟨by omega, by omega⟩ ⟨by omega, by omega⟩ (fun bq84 => ?_) (fun bq84 => ?_)
            · refine lv_iload_n hx hb d_MD_utf_103 rfl (lv_at hl 1 rfl) ?_
              refine lv_sipush (v := iI (2048)) hx hb d_MD_utf_104 rfl ?_
              refine di_icmp_lt (tgt := 125) hx hb d_MD_utf_107 (by decide) ⟨by omega, by omega⟩ ⟨by omega, by omega⟩ (fun bq107 => ?_) (fun bq107 => ?_)
              · refine lv_aload_n hx hb d_MD_utf_125 rfl (lv_at hl 0 rfl) ?_
                refine lv_sipush (v := iI (128)) hx hb d_MD_utf_126 rfl ?_
                refine lv_iload_n hx hb d_MD_utf_129 rfl (lv_at hl 1 rfl) ?_
                refine lv_bipush (v := iI (64)) hx hb d_MD_utf_130 rfl ?_
                refine di_rem hx hb d_MD_utf_132 (by omega) (by omega) (by omega) (by omega) ?_
                refine di_add hx hb d_MD_utf_133 ?_
                refine cs_MD_102 X hz hw hl.1 hM.1 (c_MD_put l G f11 _ y th T Y B Z M ([] ++ [192 + cd / 64]) (128 + cd % 64) (by simp) ⟨si, un, bu, ma, bt, so, co, _, _, _, _, _, _, _, hM, hT, hB, hZ, hMa, hC, hY⟩) ⟨Nat.le_of_ble_eq_true rfl, Nat.le_of_ble_eq_true rfl⟩ ⟨by show 0 + 0 ≤ 0; omega, by show 0 + 0 ≤ 0; omega⟩ (Nat.le_of_ble_eq_true rfl) d_MD_utf_134 (fun v f12 H locs hp hw hsz9 hkp9 hdm9 => ?_)
                obtain ⟨rfl, hL_f12⟩ := hp
                refine W.eq (g2 := F0 m 137 ls []) rfl ?_
                obtain ⟨si, un, bu, ma, bt, so, co, gsi, gun, gbu, gma, gbt, gso, gco, hM, hT, hB, hZ, hMa, hC, hY⟩ := id hL_f12
                have hu : utf cd = [192 + cd / 64, 128 + cd % 64] := by rw [utf, if_neg (by omega), if_pos (by omega)]
                exact cn_vret hx hb hr hlk hw  (⟨rfl, by rw [hu]; exact hL_f12⟩) (Nat.le_refl _) (Nat.le_refl _) d_MD_utf_137
              · exfalso; omega
            · exfalso; omega
          · exfalso; omega
        · exfalso; omega
    · refine lv_iload_n hx hb d_MD_utf_18 rfl (lv_at hl 1 rfl) ?_
      refine lv_sipush (v := iI (2048)) hx hb d_MD_utf_19 rfl ?_
      refine di_icmp_ge (tgt := 37) hx hb d_MD_utf_22 (by decide) ⟨by omega, by omega⟩ ⟨by omega, by omega⟩ (fun bq22 => ?_) (fun bq22 => ?_)
      · refine lv_iload_n hx hb d_MD_utf_37 rfl (lv_at hl 1 rfl) ?_
        refine lv_sipush (v := iI (2048)) hx hb d_MD_utf_38 rfl ?_
        refine di_icmp_lt (tgt := 63) hx hb d_MD_utf_41 (by decide) ⟨by omega, by omega⟩ ⟨by omega, by omega⟩ (fun bq41 => ?_) (fun bq41 => ?_)
        · exfalso; omega
        · refine lv_iload_n hx hb d_MD_utf_44 rfl (lv_at hl 1 rfl) ?_
          refine lv_ldc (v := iI (65536)) hx hb X.own (X.hts _ mw_697) d_MD_utf_45 ?_
          refine di_icmp_ge (tgt := 63) hx hb d_MD_utf_47 (by decide) ⟨by omega, by omega⟩ ⟨by omega, by omega⟩ (fun bq47 => ?_) (fun bq47 => ?_)
          · exfalso; omega
          · refine lv_aload_n hx hb d_MD_utf_50 rfl (lv_at hl 0 rfl) ?_
            refine lv_sipush (v := iI (224)) hx hb d_MD_utf_51 rfl ?_
            refine lv_iload_n hx hb d_MD_utf_54 rfl (lv_at hl 1 rfl) ?_
            refine lv_sipush (v := iI (4096)) hx hb d_MD_utf_55 rfl ?_
            refine di_div hx hb d_MD_utf_58 (by omega) (by omega) (by omega) (by omega) ?_
            refine di_add hx hb d_MD_utf_59 ?_
            refine cs_MD_102 X hz hw hl.1 hM_f1.1 (c_MD_put l G f1 _ y th T Y B Z M [] (224 + cd / 4096) (by simp) ⟨si, un, bu, ma, bt, so, co, _, _, _, _, _, _, _, hM_f1, hT, hB, hZ, hMa, (rA.nil _ _), hY⟩) ⟨Nat.le_of_ble_eq_true rfl, Nat.le_of_ble_eq_true rfl⟩ ⟨by show 0 + 0 ≤ 0; omega, by show 0 + 0 ≤ 0; omega⟩ (Nat.le_of_ble_eq_true rfl) d_MD_utf_60 (fun v f11 H locs hp hw hsz9 hkp9 hdm9 => ?_)
            obtain ⟨rfl, hL_f11⟩ := hp
            refine W.eq (g2 := F0 m 63 ls []) rfl ?_
            obtain ⟨si, un, bu, ma, bt, so, co, gsi, gun, gbu, gma, gbt, gso, gco, hM, hT, hB, hZ, hMa, hC, hY⟩ := id hL_f11
            refine lv_iload_n hx hb d_MD_utf_63 rfl (lv_at hl 1 rfl) ?_
            refine lv_ldc (v := iI (65536)) hx hb X.own (X.hts _ mw_697) d_MD_utf_64 ?_
            refine di_icmp_lt (tgt := 81) hx hb d_MD_utf_66 (by decide) ⟨by omega, by omega⟩ ⟨by omega, by omega⟩ (fun bq66 => ?_) (fun bq66 => ?_)
            · refine lv_iload_n hx hb d_MD_utf_81 rfl (lv_at hl 1 rfl) ?_
              refine lv_ldc (v := iI (65536)) hx hb X.own (X.hts _ mw_697) d_MD_utf_82 ?_
              refine di_icmp_lt (tgt := 103) hx hb d_MD_utf_84 (by decide) ⟨by omega, by omega⟩ ⟨by omega, by omega⟩ (fun bq84 => ?_) (fun bq84 => ?_)
              · refine lv_iload_n hx hb d_MD_utf_103 rfl (lv_at hl 1 rfl) ?_
                refine lv_sipush (v := iI (2048)) hx hb d_MD_utf_104 rfl ?_
                refine di_icmp_lt (tgt := 125) hx hb d_MD_utf_107 (by decide) ⟨by omega, by omega⟩ ⟨by omega, by omega⟩ (fun bq107 => ?_) (fun bq107 => ?_)
                · exfalso; omega
                · refine lv_aload_n hx hb d_MD_utf_110 rfl (lv_at hl 0 rfl) ?_
                  refine lv_sipush (v := iI (128)) hx hb d_MD_utf_111 rfl ?_
                  refine lv_iload_n hx hb d_MD_utf_114 rfl (lv_at hl 1 rfl) ?_
                  refine lv_bipush (v := iI (64)) hx hb d_MD_utf_115 rfl ?_
                  refine di_div hx hb d_MD_utf_117 (by omega) (by omega) (by omega) (by omega) ?_
                  refine lv_bipush (v := iI (64)) hx hb d_MD_utf_118 rfl ?_
                  refine di_rem hx hb d_MD_utf_120 (by omega) (by omega) (by omega) (by omega) ?_
                  refine di_add hx hb d_MD_utf_121 ?_
                  refine cs_MD_102 X hz hw hl.1 hM.1 (c_MD_put l G f11 _ y th T Y B Z M ([] ++ [224 + cd / 4096]) (128 + cd / 64 % 64) (by simp) ⟨si, un, bu, ma, bt, so, co, _, _, _, _, _, _, _, hM, hT, hB, hZ, hMa, hC, hY⟩) ⟨Nat.le_of_ble_eq_true rfl, Nat.le_of_ble_eq_true rfl⟩ ⟨by show 0 + 0 ≤ 0; omega, by show 0 + 0 ≤ 0; omega⟩ (Nat.le_of_ble_eq_true rfl) d_MD_utf_122 (fun v f12 H locs hp hw hsz9 hkp9 hdm9 => ?_)
                  obtain ⟨rfl, hL_f12⟩ := hp
                  refine W.eq (g2 := F0 m 125 ls []) rfl ?_
                  obtain ⟨si, un, bu, ma, bt, so, co, gsi, gun, gbu, gma, gbt, gso, gco, hM, hT, hB, hZ, hMa, hC, hY⟩ := id hL_f12
                  refine lv_aload_n hx hb d_MD_utf_125 rfl (lv_at hl 0 rfl) ?_
                  refine lv_sipush (v := iI (128)) hx hb d_MD_utf_126 rfl ?_
                  refine lv_iload_n hx hb d_MD_utf_129 rfl (lv_at hl 1 rfl) ?_
                  refine lv_bipush (v := iI (64)) hx hb d_MD_utf_130 rfl ?_
                  refine di_rem hx hb d_MD_utf_132 (by omega) (by omega) (by omega) (by omega) ?_
                  refine di_add hx hb d_MD_utf_133 ?_
                  refine cs_MD_102 X hz hw hl.1 hM.1 (c_MD_put l G f12 _ y th T Y B Z M ([] ++ [224 + cd / 4096] ++ [128 + cd / 64 % 64]) (128 + cd % 64) (by simp) ⟨si, un, bu, ma, bt, so, co, _, _, _, _, _, _, _, hM, hT, hB, hZ, hMa, hC, hY⟩) ⟨Nat.le_of_ble_eq_true rfl, Nat.le_of_ble_eq_true rfl⟩ ⟨by show 0 + 0 ≤ 0; omega, by show 0 + 0 ≤ 0; omega⟩ (Nat.le_of_ble_eq_true rfl) d_MD_utf_134 (fun v f13 H locs hp hw hsz9 hkp9 hdm9 => ?_)
                  obtain ⟨rfl, hL_f13⟩ := hp
                  refine W.eq (g2 := F0 m 137 ls []) rfl ?_
                  obtain ⟨si, un, bu, ma, bt, so, co, gsi, gun, gbu, gma, gbt, gso, gco, hM, hT, hB, hZ, hMa, hC, hY⟩ := id hL_f13
                  have hu : utf cd = [224 + cd / 4096, 128 + cd / 64 % 64, 128 + cd % 64] := by rw [utf, if_neg (by omega), if_neg (by omega), if_pos (by omega)]
                  exact cn_vret hx hb hr hlk hw  (⟨rfl, by rw [hu]; exact hL_f13⟩) (Nat.le_refl _) (Nat.le_refl _) d_MD_utf_137
              · exfalso; omega
            · exfalso; omega
      · exfalso; omega
    · refine lv_iload_n hx hb d_MD_utf_18 rfl (lv_at hl 1 rfl) ?_
      refine lv_sipush (v := iI (2048)) hx hb d_MD_utf_19 rfl ?_
      refine di_icmp_ge (tgt := 37) hx hb d_MD_utf_22 (by decide) ⟨by omega, by omega⟩ ⟨by omega, by omega⟩ (fun bq22 => ?_) (fun bq22 => ?_)
      · refine lv_iload_n hx hb d_MD_utf_37 rfl (lv_at hl 1 rfl) ?_
        refine lv_sipush (v := iI (2048)) hx hb d_MD_utf_38 rfl ?_
        refine di_icmp_lt (tgt := 63) hx hb d_MD_utf_41 (by decide) ⟨by omega, by omega⟩ ⟨by omega, by omega⟩ (fun bq41 => ?_) (fun bq41 => ?_)
        · exfalso; omega
        · refine lv_iload_n hx hb d_MD_utf_44 rfl (lv_at hl 1 rfl) ?_
          refine lv_ldc (v := iI (65536)) hx hb X.own (X.hts _ mw_697) d_MD_utf_45 ?_
          refine di_icmp_ge (tgt := 63) hx hb d_MD_utf_47 (by decide) ⟨by omega, by omega⟩ ⟨by omega, by omega⟩ (fun bq47 => ?_) (fun bq47 => ?_)
          · refine lv_iload_n hx hb d_MD_utf_63 rfl (lv_at hl 1 rfl) ?_
            refine lv_ldc (v := iI (65536)) hx hb X.own (X.hts _ mw_697) d_MD_utf_64 ?_
            refine di_icmp_lt (tgt := 81) hx hb d_MD_utf_66 (by decide) ⟨by omega, by omega⟩ ⟨by omega, by omega⟩ (fun bq66 => ?_) (fun bq66 => ?_)
            · exfalso; omega
            · refine lv_aload_n hx hb d_MD_utf_69 rfl (lv_at hl 0 rfl) ?_
              refine lv_sipush (v := iI (240)) hx hb d_MD_utf_70 rfl ?_
              refine lv_iload_n hx hb d_MD_utf_73 rfl (lv_at hl 1 rfl) ?_
              refine lv_ldc (v := iI (262144)) hx hb X.own (X.hts _ mw_831) d_MD_utf_74 ?_
              refine di_div hx hb d_MD_utf_76 (by omega) (by omega) (by omega) (by omega) ?_
              refine di_add hx hb d_MD_utf_77 ?_
              refine cs_MD_102 X hz hw hl.1 hM_f1.1 (c_MD_put l G f1 _ y th T Y B Z M [] (240 + cd / 262144) (by simp) ⟨si, un, bu, ma, bt, so, co, _, _, _, _, _, _, _, hM_f1, hT, hB, hZ, hMa, (rA.nil _ _), hY⟩) ⟨Nat.le_of_ble_eq_true rfl, Nat.le_of_ble_eq_true rfl⟩ ⟨by show 0 + 0 ≤ 0; omega, by show 0 + 0 ≤ 0; omega⟩ (Nat.le_of_ble_eq_true rfl) d_MD_utf_78 (fun v f11 H locs hp hw hsz9 hkp9 hdm9 => ?_)
              obtain ⟨rfl, hL_f11⟩ := hp
              refine W.eq (g2 := F0 m 81 ls []) rfl ?_
              obtain ⟨si, un, bu, ma, bt, so, co, gsi, gun, gbu, gma, gbt, gso, gco, hM, hT, hB, hZ, hMa, hC, hY⟩ := id hL_f11
              refine lv_iload_n hx hb d_MD_utf_81 rfl (lv_at hl 1 rfl) ?_
              refine lv_ldc (v := iI (65536)) hx hb X.own (X.hts _ mw_697) d_MD_utf_82 ?_
              refine di_icmp_lt (tgt := 103) hx hb d_MD_utf_84 (by decide) ⟨by omega, by omega⟩ ⟨by omega, by omega⟩ (fun bq84 => ?_) (fun bq84 => ?_)
              · exfalso; omega
              · refine lv_aload_n hx hb d_MD_utf_87 rfl (lv_at hl 0 rfl) ?_
                refine lv_sipush (v := iI (128)) hx hb d_MD_utf_88 rfl ?_
                refine lv_iload_n hx hb d_MD_utf_91 rfl (lv_at hl 1 rfl) ?_
                refine lv_sipush (v := iI (4096)) hx hb d_MD_utf_92 rfl ?_
                refine di_div hx hb d_MD_utf_95 (by omega) (by omega) (by omega) (by omega) ?_
                refine lv_bipush (v := iI (64)) hx hb d_MD_utf_96 rfl ?_
                refine di_rem hx hb d_MD_utf_98 (by omega) (by omega) (by omega) (by omega) ?_
                refine di_add hx hb d_MD_utf_99 ?_
                refine cs_MD_102 X hz hw hl.1 hM.1 (c_MD_put l G f11 _ y th T Y B Z M ([] ++ [240 + cd / 262144]) (128 + cd / 4096 % 64) (by simp) ⟨si, un, bu, ma, bt, so, co, _, _, _, _, _, _, _, hM, hT, hB, hZ, hMa, hC, hY⟩) ⟨Nat.le_of_ble_eq_true rfl, Nat.le_of_ble_eq_true rfl⟩ ⟨by show 0 + 0 ≤ 0; omega, by show 0 + 0 ≤ 0; omega⟩ (Nat.le_of_ble_eq_true rfl) d_MD_utf_100 (fun v f12 H locs hp hw hsz9 hkp9 hdm9 => ?_)
                obtain ⟨rfl, hL_f12⟩ := hp
                refine W.eq (g2 := F0 m 103 ls []) rfl ?_
                obtain ⟨si, un, bu, ma, bt, so, co, gsi, gun, gbu, gma, gbt, gso, gco, hM, hT, hB, hZ, hMa, hC, hY⟩ := id hL_f12
                refine lv_iload_n hx hb d_MD_utf_103 rfl (lv_at hl 1 rfl) ?_
                refine lv_sipush (v := iI (2048)) hx hb d_MD_utf_104 rfl ?_
                refine di_icmp_lt (tgt := 125) hx hb d_MD_utf_107 (by decide) ⟨by omega, by omega⟩ ⟨by omega, by omega⟩ (fun bq107 => ?_) (fun bq107 => ?_)
                · exfalso; omega
                · refine lv_aload_n hx hb d_MD_utf_110 rfl (lv_at hl 0 rfl) ?_
                  refine lv_sipush (v := iI (128)) hx hb d_MD_utf_111 rfl ?_
                  refine lv_iload_n hx hb d_MD_utf_114 rfl (lv_at hl 1 rfl) ?_
                  refine lv_bipush (v := iI (64)) hx hb d_MD_utf_115 rfl ?_
                  refine di_div hx hb d_MD_utf_117 (by omega) (by omega) (by omega) (by omega) ?_
                  refine lv_bipush (v := iI (64)) hx hb d_MD_utf_118 rfl ?_
                  refine di_rem hx hb d_MD_utf_120 (by omega) (by omega) (by omega) (by omega) ?_
                  refine di_add hx hb d_MD_utf_121 ?_
                  refine cs_MD_102 X hz hw hl.1 hM.1 (c_MD_put l G f12 _ y th T Y B Z M ([] ++ [240 + cd / 262144] ++ [128 + cd / 4096 % 64]) (128 + cd / 64 % 64) (by simp) ⟨si, un, bu, ma, bt, so, co, _, _, _, _, _, _, _, hM, hT, hB, hZ, hMa, hC, hY⟩) ⟨Nat.le_of_ble_eq_true rfl, Nat.le_of_ble_eq_true rfl⟩ ⟨by show 0 + 0 ≤ 0; omega, by show 0 + 0 ≤ 0; omega⟩ (Nat.le_of_ble_eq_true rfl) d_MD_utf_122 (fun v f13 H locs hp hw hsz9 hkp9 hdm9 => ?_)
                  obtain ⟨rfl, hL_f13⟩ := hp
                  refine W.eq (g2 := F0 m 125 ls []) rfl ?_
                  obtain ⟨si, un, bu, ma, bt, so, co, gsi, gun, gbu, gma, gbt, gso, gco, hM, hT, hB, hZ, hMa, hC, hY⟩ := id hL_f13
                  refine lv_aload_n hx hb d_MD_utf_125 rfl (lv_at hl 0 rfl) ?_
                  refine lv_sipush (v := iI (128)) hx hb d_MD_utf_126 rfl ?_
                  refine lv_iload_n hx hb d_MD_utf_129 rfl (lv_at hl 1 rfl) ?_
                  refine lv_bipush (v := iI (64)) hx hb d_MD_utf_130 rfl ?_
                  refine di_rem hx hb d_MD_utf_132 (by omega) (by omega) (by omega) (by omega) ?_
                  refine di_add hx hb d_MD_utf_133 ?_
                  refine cs_MD_102 X hz hw hl.1 hM.1 (c_MD_put l G f13 _ y th T Y B Z M ([] ++ [240 + cd / 262144] ++ [128 + cd / 4096 % 64] ++ [128 + cd / 64 % 64]) (128 + cd % 64) (by simp) ⟨si, un, bu, ma, bt, so, co, _, _, _, _, _, _, _, hM, hT, hB, hZ, hMa, hC, hY⟩) ⟨Nat.le_of_ble_eq_true rfl, Nat.le_of_ble_eq_true rfl⟩ ⟨by show 0 + 0 ≤ 0; omega, by show 0 + 0 ≤ 0; omega⟩ (Nat.le_of_ble_eq_true rfl) d_MD_utf_134 (fun v f14 H locs hp hw hsz9 hkp9 hdm9 => ?_)
                  obtain ⟨rfl, hL_f14⟩ := hp
                  refine W.eq (g2 := F0 m 137 ls []) rfl ?_
                  obtain ⟨si, un, bu, ma, bt, so, co, gsi, gun, gbu, gma, gbt, gso, gco, hM, hT, hB, hZ, hMa, hC, hY⟩ := id hL_f14
                  have hu : utf cd = [240 + cd / 262144, 128 + cd / 4096 % 64, 128 + cd / 64 % 64, 128 + cd % 64] := by rw [utf, if_neg (by omega), if_neg (by omega), if_neg (by omega)]
                  exact cn_vret hx hb hr hlk hw  (⟨rfl, by rw [hu]; exact hL_f14⟩) (Nat.le_refl _) (Nat.le_refl _) d_MD_utf_137
          · exfalso; omega
      · exfalso; omega
  · refine lv_aload_n hx hb d_MD_utf_12 rfl (lv_at hl 0 rfl) ?_
    refine lv_iload_n hx hb d_MD_utf_13 rfl (lv_at hl 1 rfl) ?_
    refine cs_MD_102 X hz hw hl.1 hM_f1.1 (c_MD_put l G f1 _ y th T Y B Z M [] cd (by simp) ⟨si, un, bu, ma, bt, so, co, _, _, _, _, _, _, _, hM_f1, hT, hB, hZ, hMa, (rA.nil _ _), hY⟩) ⟨Nat.le_of_ble_eq_true rfl, Nat.le_of_ble_eq_true rfl⟩ ⟨by show 0 + 0 ≤ 0; omega, by show 0 + 0 ≤ 0; omega⟩ (Nat.le_of_ble_eq_true rfl) d_MD_utf_14 (fun v f11 H locs hp hw hsz9 hkp9 hdm9 => ?_)
    obtain ⟨rfl, hL_f11⟩ := hp
    refine W.eq (g2 := F0 m 17 ls []) rfl ?_
    obtain ⟨si, un, bu, ma, bt, so, co, gsi, gun, gbu, gma, gbt, gso, gco, hM, hT, hB, hZ, hMa, hC, hY⟩ := id hL_f11
    have hu : utf cd = [cd] := by rw [utf, if_pos (by omega)]
    exact cn_vret hx hb hr hlk hw  (⟨rfl, by rw [hu]; exact hL_f11⟩) (Nat.le_refl _) (Nat.le_refl _) d_MD_utf_17
set_option maxRecDepth 100000 in
set_option maxHeartbeats 4000000 in
theorem c_MD_modified (l : Launch) (G : ct_G) (f : dw_M) (sz : Nat) (y : Nat) (th : Int) (T Y : List (List Int)) (B Z M C : List Int) (cd : Int) (hc0 : 0 ≤ cd) (hc1 : cd < 65536) (hL : mdL G f y th T Y B Z M C) : cn l y_MD_modified w_MD_modified (2) (42) G f sz [.ref y, .int (iI cd)] (fun v f' => v = none ∧ mdL G f' y th T Y B Z M (ecd 1 cd)) (0) (0) := by
  refine cn_of (own := "TextDeskModel") (nm := "modified") (ds := "(I)V") (by decide) (Nat.le_of_ble_eq_true rfl) ?_
  intro p e s m args below meth c ls X hnm hr hlk hs0 hz hw hl
  have hx := X.1
  have hb := X.2.1
  have hl : lv_has ls 2 [(0, .ref y), (1, .int (iI cd))] := hl
  obtain ⟨si, un, bu, ma, bt, so, co, gsi, gun, gbu, gma, gbt, gso, gco, hM, hT, hB, hZ, hMa, hC, hY⟩ := id hL
  have hTl := hT.1
  have hBl := hB.1.1
  have hZl := hZ.1.1
  have hYl := hY.1
  have hCl := hC.1
  refine lv_aload_n hx hb d_MD_modified_0 rfl (lv_at hl 0 rfl) ?_
  refine lv_iload_n hx hb d_MD_modified_1 rfl (lv_at hl 1 rfl) ?_
  refine cs_MD_106 X hz hw hl.1 hM.1 (c_MD_utf l G f _ y th T Y B Z M C cd (hc0) (by omega) ⟨si, un, bu, ma, bt, so, co, _, _, _, _, _, _, _, hM, hT, hB, hZ, hMa, hC, hY⟩) ⟨Nat.le_of_ble_eq_true rfl, Nat.le_of_ble_eq_true rfl⟩ ⟨by show 0 + 0 ≤ 0; omega, by show 0 + 0 ≤ 0; omega⟩ (Nat.le_of_ble_eq_true rfl) d_MD_modified_2 (fun v f11 H locs hp hw hsz9 hkp9 hdm9 => ?_)
  obtain ⟨rfl, hL_f11⟩ := hp
  refine W.eq (g2 := F0 m 5 ls []) rfl ?_
  obtain ⟨si, un, bu, ma, bt, so, co, gsi, gun, gbu, gma, gbt, gso, gco, hM, hT, hB, hZ, hMa, hC, hY⟩ := id hL_f11
  refine lv_iload_n hx hb d_MD_modified_5 rfl (lv_at hl 1 rfl) ?_
  refine di_if_le (tgt := 10) hx hb d_MD_modified_6 (by decide) ⟨by omega, by omega⟩ (fun bq6 => ?_) (fun bq6 => ?_)
  · refine lv_aload_n hx hb d_MD_modified_10 rfl (lv_at hl 0 rfl) ?_
    refine lv_iconst (v := iI (0)) hx hb d_MD_modified_11 rfl ?_
    refine pf_MD_99_MD X hw hM.1 rfl rfl d_MD_modified_12 (fun H locs hw => ?_)
    obtain ⟨f1, e_f1⟩ : ∃ g9 : dw_M, g9 = dw_up f11 y (.inr (6, [.int (iI th), .int (iI ((T.length : Int))), .ref si, .ref un, .int (iI ((B.length : Int))), .ref bu, .int (iI ((M.length : Int))), .ref ma, .int (iI ((Z.length : Int))), .ref bt, .int (iI ((Y.length : Int))), .ref so, .int (iI 0), .ref co])) := ⟨_, rfl⟩
    rw [← e_f1] at hw
    have hM_f1 : mdS G f1 y th (T.length : Int) (B.length : Int) (M.length : Int) (Z.length : Int) (Y.length : Int) 0 si un bu ma bt so co gsi gun gbu gma gbt gso gco := by rw [e_f1]; exact hM.obj th (T.length : Int) (B.length : Int) (M.length : Int) (Z.length : Int) (Y.length : Int) 0
    refine lv_aload_n hx hb d_MD_modified_15 rfl (lv_at hl 0 rfl) ?_
    refine lv_sipush (v := iI (192)) hx hb d_MD_modified_16 rfl ?_
    refine cs_MD_102 X hz hw hl.1 hM_f1.1 (c_MD_put l G f1 _ y th T Y B Z M [] 192 (by simp) ⟨si, un, bu, ma, bt, so, co, _, _, _, _, _, _, _, hM_f1, hT, hB, hZ, hMa, (rA.nil _ _), hY⟩) ⟨Nat.le_of_ble_eq_true rfl, Nat.le_of_ble_eq_true rfl⟩ ⟨by show 0 + 0 ≤ 0; omega, by show 0 + 0 ≤ 0; omega⟩ (Nat.le_of_ble_eq_true rfl) d_MD_modified_19 (fun v f12 H locs hp hw hsz9 hkp9 hdm9 => ?_)
    obtain ⟨rfl, hL_f12⟩ := hp
    refine W.eq (g2 := F0 m 22 ls []) rfl ?_
    obtain ⟨si, un, bu, ma, bt, so, co, gsi, gun, gbu, gma, gbt, gso, gco, hM, hT, hB, hZ, hMa, hC, hY⟩ := id hL_f12
    refine lv_aload_n hx hb d_MD_modified_22 rfl (lv_at hl 0 rfl) ?_
    refine lv_sipush (v := iI (128)) hx hb d_MD_modified_23 rfl ?_
    refine cs_MD_102 X hz hw hl.1 hM.1 (c_MD_put l G f12 _ y th T Y B Z M ([] ++ [192]) 128 (by simp) ⟨si, un, bu, ma, bt, so, co, _, _, _, _, _, _, _, hM, hT, hB, hZ, hMa, hC, hY⟩) ⟨Nat.le_of_ble_eq_true rfl, Nat.le_of_ble_eq_true rfl⟩ ⟨by show 0 + 0 ≤ 0; omega, by show 0 + 0 ≤ 0; omega⟩ (Nat.le_of_ble_eq_true rfl) d_MD_modified_26 (fun v f13 H locs hp hw hsz9 hkp9 hdm9 => ?_)
    obtain ⟨rfl, hL_f13⟩ := hp
    refine W.eq (g2 := F0 m 29 ls []) rfl ?_
    obtain ⟨si, un, bu, ma, bt, so, co, gsi, gun, gbu, gma, gbt, gso, gco, hM, hT, hB, hZ, hMa, hC, hY⟩ := id hL_f13
    have hu : ecd 1 cd = [192, 128] := by rw [ecd, if_neg (by omega), if_pos rfl, if_pos (by omega)]
    exact cn_vret hx hb hr hlk hw  (⟨rfl, by rw [hu]; exact hL_f13⟩) (Nat.le_refl _) (Nat.le_refl _) d_MD_modified_29
  · have hu : ecd 1 cd = utf cd := by rw [ecd, if_neg (by omega), if_pos rfl, if_neg (by omega)]
    exact cn_vret hx hb hr hlk hw  (⟨rfl, by rw [hu]; exact hL_f11⟩) (Nat.le_refl _) (Nat.le_refl _) d_MD_modified_9
set_option maxRecDepth 100000 in
set_option maxHeartbeats 4000000 in
theorem c_MD_encodeAt (l : Launch) (G : ct_G) (f : dw_M) (sz : Nat) (y : Nat) (th : Int) (T Y : List (List Int)) (B Z M C : List Int) (k0 k en : Int) (ht : isT T k0) (hk : 0 ≤ k ∧ k < ((tt T k0).length : Int)) (hen : 0 ≤ en ∧ en ≤ 4) (hL : mdL G f y th T Y B Z M C) : cn l y_MD_encodeAt w_MD_encodeAt (3) (67) G f sz [.ref y, .int (iI k0), .int (iI k), .int (iI en)] (fun v f' => v = some (.int (iI (if 65536 ≤ ecc (tt T k0) en k then 2 else 1))) ∧ mdL G f' y th T Y B Z M (ecd en (ecc (tt T k0) en k))) (0) (0) := by
  refine cn_of (own := "TextDeskModel") (nm := "encodeAt") (ds := "(III)I") (by decide) (Nat.le_of_ble_eq_true rfl) ?_
  intro p e s m args below meth c ls X hnm hr hlk hs0 hz hw hl
  have hx := X.1
  have hb := X.2.1
  have hl : lv_has ls 6 [(0, .ref y), (1, .int (iI k0)), (2, .int (iI k)), (3, .int (iI en))] := hl
  obtain ⟨si, un, bu, ma, bt, so, co, gsi, gun, gbu, gma, gbt, gso, gco, hM, hT, hB, hZ, hMa, hC, hY⟩ := id hL
  have hTl := hT.1
  have hBl := hB.1.1
  have hZl := hZ.1.1
  have hYl := hY.1
  have hCl := hC.1
  have hle := hT.len k0
  have ht0 := ht.1
  have ht1 := ht.2
  have hg := gt_mem (hT.rng k0) hk.1 hk.2
  have hcb := chr_big (hT.rng k0) k
  have hcr := chr_rng (hT.rng k0) k
  have hb01 := b2_01 (pr (tt T k0) k)
  have hgu := gt (tt T k0) k
  have hbh := b2_01 (hi (gt (tt T k0) k))
  have hbl := b2_01 (lw (gt (tt T k0) k))
  refine lv_aload_n hx hb d_MD_encodeAt_0 rfl (lv_at hl 0 rfl) ?_
  refine lv_iload_n hx hb d_MD_encodeAt_1 rfl (lv_at hl 1 rfl) ?_
  refine lv_iload_n hx hb d_MD_encodeAt_2 rfl (lv_at hl 2 rfl) ?_
  refine cs_MD_39 X hz hw hl.1 hM.1 (c_MD_unitOf l G f _ y th T Y B Z M C k0 k ht hk ⟨si, un, bu, ma, bt, so, co, _, _, _, _, _, _, _, hM, hT, hB, hZ, hMa, hC, hY⟩) ⟨Nat.le_of_ble_eq_true rfl, Nat.le_of_ble_eq_true rfl⟩ ⟨by show 0 + 0 ≤ 0; omega, by show 0 + 0 ≤ 0; omega⟩ (Nat.le_of_ble_eq_true rfl) d_MD_encodeAt_3 (fun v f9 H locs hp hw hsz9 hkp9 hdm9 => ?_)
  obtain ⟨rfl, hfe⟩ := hp
  rw [hfe] at hw
  refine W.eq (g2 := F0 m 6 ls [.int (iI (gt (tt T k0) k))]) rfl ?_
  refine lv_istore (lv' := [(4, .int (iI (gt (tt T k0) k))), (0, .ref y), (1, .int (iI k0)), (2, .int (iI k)), (3, .int (iI en))]) hx hb d_MD_encodeAt_6 hl (by decide) rfl (fun ls hl => ?_)
  refine lv_aload_n hx hb d_MD_encodeAt_8 rfl (lv_at hl 1 rfl) ?_
  refine lv_iload_n hx hb d_MD_encodeAt_9 rfl (lv_at hl 2 rfl) ?_
  refine lv_iload_n hx hb d_MD_encodeAt_10 rfl (lv_at hl 3 rfl) ?_
  refine cs_MD_50 X hz hw hl.1 hM.1 (c_MD_pair l G f _ y th T Y B Z M C k0 k ht hk ⟨si, un, bu, ma, bt, so, co, _, _, _, _, _, _, _, hM, hT, hB, hZ, hMa, hC, hY⟩) ⟨Nat.le_of_ble_eq_true rfl, Nat.le_of_ble_eq_true rfl⟩ ⟨by show 0 + 0 ≤ 0; omega, by show 0 + 0 ≤ 0; omega⟩ (Nat.le_of_ble_eq_true rfl) d_MD_encodeAt_11 (fun v f9 H locs hp hw hsz9 hkp9 hdm9 => ?_)
  obtain ⟨rfl, hfe⟩ := hp
  rw [hfe] at hw
  refine W.eq (g2 := F0 m 14 ls [.int (iI (b2 (pr (tt T k0) k)))]) rfl ?_
  refine lv_istore (lv' := [(5, .int (iI (b2 (pr (tt T k0) k)))), (4, .int (iI (gt (tt T k0) k))), (0, .ref y), (1, .int (iI k0)), (2, .int (iI k)), (3, .int (iI en))]) hx hb d_MD_encodeAt_14 hl (by decide) rfl (fun ls hl => ?_)
  refine lv_aload_n hx hb d_MD_encodeAt_16 rfl (lv_at hl 2 rfl) ?_
  refine lv_iconst (v := iI (0)) hx hb d_MD_encodeAt_17 rfl ?_
  refine pf_MD_99_MD X hw hM.1 rfl rfl d_MD_encodeAt_18 (fun H locs hw => ?_)
  obtain ⟨f1, e_f1⟩ : ∃ g9 : dw_M, g9 = dw_up f y (.inr (6, [.int (iI th), .int (iI ((T.length : Int))), .ref si, .ref un, .int (iI ((B.length : Int))), .ref bu, .int (iI ((M.length : Int))), .ref ma, .int (iI ((Z.length : Int))), .ref bt, .int (iI ((Y.length : Int))), .ref so, .int (iI 0), .ref co])) := ⟨_, rfl⟩
  rw [← e_f1] at hw
  have hM_f1 : mdS G f1 y th (T.length : Int) (B.length : Int) (M.length : Int) (Z.length : Int) (Y.length : Int) 0 si un bu ma bt so co gsi gun gbu gma gbt gso gco := by rw [e_f1]; exact hM.obj th (T.length : Int) (B.length : Int) (M.length : Int) (Z.length : Int) (Y.length : Int) 0
  refine lv_iload_n hx hb d_MD_encodeAt_21 rfl (lv_at hl 5 rfl) ?_
  rcases (show en = 0 ∨ en = 1 ∨ en = 2 ∨ en = 3 ∨ en = 4 by omega) with he | he | he | he | he
  · subst he
    refine di_if_ne (tgt := 69) hx hb d_MD_encodeAt_22 (by decide) ⟨by decide, by decide⟩ (fun q9 => absurd q9 (by decide)) (fun _ => ?_)
    refine lv_aload_n hx hb d_MD_encodeAt_25 rfl (lv_at hl 2 rfl) ?_
    refine lv_iload hx hb d_MD_encodeAt_26 (lv_at hl 0 rfl) ?_
    refine di_if_eq (tgt := 40) hx hb d_MD_encodeAt_28 (by decide) ⟨by omega, by omega⟩ (fun bq28 => ?_) (fun bq28 => ?_)
    · have hpn := b2_0 bq28
      have hch : chr (tt T k0) k = gt (tt T k0) k := by rw [chr, if_neg (by rw [hpn]; decide)]
      refine lv_iload hx hb d_MD_encodeAt_40 (lv_at hl 1 rfl) ?_
      refine cs_MD_43 X hz hw hl.1 (c_MD_high l G f1 _ (gt (tt T k0) k) ⟨by omega, by omega⟩) ⟨Nat.le_of_ble_eq_true rfl, Nat.le_of_ble_eq_true rfl⟩ ⟨by show 0 + 0 ≤ 0; omega, by show 0 + 0 ≤ 0; omega⟩ (Nat.le_of_ble_eq_true rfl) d_MD_encodeAt_42 (fun v f9 H locs hp hw hsz9 hkp9 hdm9 => ?_)
      obtain ⟨rfl, hfe⟩ := hp
      rw [hfe] at hw
      refine W.eq (g2 := F0 m 45 ls [.int (iI (b2 (hi (gt (tt T k0) k)))), .ref y]) rfl ?_
      have hec0 : ecc (tt T k0) 0 k = gt (tt T k0) k := by rw [ecc, if_pos (Or.inl rfl), hch]
      refine di_if_ne (tgt := 56) hx hb d_MD_encodeAt_45 (by decide) ⟨by omega, by omega⟩ (fun bq45 => ?_) (fun bq45 => ?_)
      · refine lv_bipush (v := iI (63)) hx hb d_MD_encodeAt_56 rfl ?_
        refine lv_goto (tgt := 63) hx hb d_MD_encodeAt_58 (by decide) ?_
        refine cs_MD_106 X hz hw hl.1 hM_f1.1 (c_MD_utf l G f1 _ y th T Y B Z M [] 63 (by omega) (by omega) ⟨si, un, bu, ma, bt, so, co, _, _, _, _, _, _, _, hM_f1, hT, hB, hZ, hMa, (rA.nil _ _), hY⟩) ⟨Nat.le_of_ble_eq_true rfl, Nat.le_of_ble_eq_true rfl⟩ ⟨by show 0 + 0 ≤ 0; omega, by show 0 + 0 ≤ 0; omega⟩ (Nat.le_of_ble_eq_true rfl) d_MD_encodeAt_63 (fun v f21 H locs hp hw hsz9 hkp9 hdm9 => ?_)
        obtain ⟨rfl, hL_f21⟩ := hp
        refine W.eq (g2 := F0 m 66 ls []) rfl ?_
        obtain ⟨si, un, bu, ma, bt, so, co, gsi, gun, gbu, gma, gbt, gso, gco, hM, hT, hB, hZ, hMa, hC, hY⟩ := id hL_f21
        have hec : ecc (tt T k0) 0 k = gt (tt T k0) k := hec0
        refine lv_goto (tgt := 158) hx hb d_MD_encodeAt_66 (by decide) ?_
        refine lv_iload hx hb d_MD_encodeAt_158 (lv_at hl 0 rfl) ?_
        refine di_if_eq (tgt := 176) hx hb d_MD_encodeAt_160 (by decide) ⟨by omega, by omega⟩ (fun bq160 => ?_) (fun bq160 => ?_)
        · refine lv_iconst (v := iI (1)) hx hb d_MD_encodeAt_176 rfl ?_
          exact cn_iret hx hb hr hlk hw  (⟨by rw [hec, if_neg (by omega)], by rw [hec, show ecd 0 (gt (tt T k0) k) = utf 63 by rw [ecd, if_pos rfl, if_pos (Or.inl (b2_1 bq45))]]; exact hL_f21⟩) (Nat.le_refl _) (Nat.le_refl _) d_MD_encodeAt_177
        · exfalso; omega
      · refine lv_iload hx hb d_MD_encodeAt_48 (lv_at hl 1 rfl) ?_
        refine cs_MD_47 X hz hw hl.1 (c_MD_low l G f1 _ (gt (tt T k0) k) ⟨by omega, by omega⟩) ⟨Nat.le_of_ble_eq_true rfl, Nat.le_of_ble_eq_true rfl⟩ ⟨by show 0 + 0 ≤ 0; omega, by show 0 + 0 ≤ 0; omega⟩ (Nat.le_of_ble_eq_true rfl) d_MD_encodeAt_50 (fun v f9 H locs hp hw hsz9 hkp9 hdm9 => ?_)
        obtain ⟨rfl, hfe⟩ := hp
        rw [hfe] at hw
        refine W.eq (g2 := F0 m 53 ls [.int (iI (b2 (lw (gt (tt T k0) k)))), .ref y]) rfl ?_
        refine di_if_eq (tgt := 61) hx hb d_MD_encodeAt_53 (by decide) ⟨by omega, by omega⟩ (fun bq53 => ?_) (fun bq53 => ?_)
        · refine lv_iload hx hb d_MD_encodeAt_61 (lv_at hl 1 rfl) ?_
          refine cs_MD_106 X hz hw hl.1 hM_f1.1 (c_MD_utf l G f1 _ y th T Y B Z M [] (gt (tt T k0) k) (by omega) (by omega) ⟨si, un, bu, ma, bt, so, co, _, _, _, _, _, _, _, hM_f1, hT, hB, hZ, hMa, (rA.nil _ _), hY⟩) ⟨Nat.le_of_ble_eq_true rfl, Nat.le_of_ble_eq_true rfl⟩ ⟨by show 0 + 0 ≤ 0; omega, by show 0 + 0 ≤ 0; omega⟩ (Nat.le_of_ble_eq_true rfl) d_MD_encodeAt_63 (fun v f21 H locs hp hw hsz9 hkp9 hdm9 => ?_)
          obtain ⟨rfl, hL_f21⟩ := hp
          refine W.eq (g2 := F0 m 66 ls []) rfl ?_
          obtain ⟨si, un, bu, ma, bt, so, co, gsi, gun, gbu, gma, gbt, gso, gco, hM, hT, hB, hZ, hMa, hC, hY⟩ := id hL_f21
          have hec : ecc (tt T k0) 0 k = gt (tt T k0) k := hec0
          refine lv_goto (tgt := 158) hx hb d_MD_encodeAt_66 (by decide) ?_
          refine lv_iload hx hb d_MD_encodeAt_158 (lv_at hl 0 rfl) ?_
          refine di_if_eq (tgt := 176) hx hb d_MD_encodeAt_160 (by decide) ⟨by omega, by omega⟩ (fun bq160 => ?_) (fun bq160 => ?_)
          · refine lv_iconst (v := iI (1)) hx hb d_MD_encodeAt_176 rfl ?_
            exact cn_iret hx hb hr hlk hw  (⟨by rw [hec, if_neg (by omega)], by rw [hec, show ecd 0 (gt (tt T k0) k) = utf (gt (tt T k0) k) by rw [ecd, if_pos rfl, if_neg (fun q => q.elim (fun q => by rw [b2_0 (by omega : b2 (hi (gt (tt T k0) k)) = 0)] at q; cases q) (fun q => by rw [b2_0 bq53] at q; cases q))]]; exact hL_f21⟩) (Nat.le_refl _) (Nat.le_refl _) d_MD_encodeAt_177
          · exfalso; omega
        · refine lv_bipush (v := iI (63)) hx hb d_MD_encodeAt_56 rfl ?_
          refine lv_goto (tgt := 63) hx hb d_MD_encodeAt_58 (by decide) ?_
          refine cs_MD_106 X hz hw hl.1 hM_f1.1 (c_MD_utf l G f1 _ y th T Y B Z M [] 63 (by omega) (by omega) ⟨si, un, bu, ma, bt, so, co, _, _, _, _, _, _, _, hM_f1, hT, hB, hZ, hMa, (rA.nil _ _), hY⟩) ⟨Nat.le_of_ble_eq_true rfl, Nat.le_of_ble_eq_true rfl⟩ ⟨by show 0 + 0 ≤ 0; omega, by show 0 + 0 ≤ 0; omega⟩ (Nat.le_of_ble_eq_true rfl) d_MD_encodeAt_63 (fun v f21 H locs hp hw hsz9 hkp9 hdm9 => ?_)
          obtain ⟨rfl, hL_f21⟩ := hp
          refine W.eq (g2 := F0 m 66 ls []) rfl ?_
          obtain ⟨si, un, bu, ma, bt, so, co, gsi, gun, gbu, gma, gbt, gso, gco, hM, hT, hB, hZ, hMa, hC, hY⟩ := id hL_f21
          have hec : ecc (tt T k0) 0 k = gt (tt T k0) k := hec0
          refine lv_goto (tgt := 158) hx hb d_MD_encodeAt_66 (by decide) ?_
          refine lv_iload hx hb d_MD_encodeAt_158 (lv_at hl 0 rfl) ?_
          refine di_if_eq (tgt := 176) hx hb d_MD_encodeAt_160 (by decide) ⟨by omega, by omega⟩ (fun bq160 => ?_) (fun bq160 => ?_)
          · refine lv_iconst (v := iI (1)) hx hb d_MD_encodeAt_176 rfl ?_
            exact cn_iret hx hb hr hlk hw  (⟨by rw [hec, if_neg (by omega)], by rw [hec, show ecd 0 (gt (tt T k0) k) = utf 63 by rw [ecd, if_pos rfl, if_pos (Or.inr (b2_1 bq53))]]; exact hL_f21⟩) (Nat.le_refl _) (Nat.le_refl _) d_MD_encodeAt_177
          · exfalso; omega
    · have hpt := hcb.1 (b2_1 bq28)
      refine lv_aload_n hx hb d_MD_encodeAt_31 rfl (lv_at hl 2 rfl) ?_
      refine lv_iload_n hx hb d_MD_encodeAt_32 rfl (lv_at hl 3 rfl) ?_
      refine lv_iload_n hx hb d_MD_encodeAt_33 rfl (lv_at hl 4 rfl) ?_
      refine cs_MD_90 X hz hw hl.1 hM_f1.1 (c_MD_characterAt l G f1 _ y th T Y B Z M [] k0 k ht hk ⟨si, un, bu, ma, bt, so, co, _, _, _, _, _, _, _, hM_f1, hT, hB, hZ, hMa, (rA.nil _ _), hY⟩) ⟨Nat.le_of_ble_eq_true rfl, Nat.le_of_ble_eq_true rfl⟩ ⟨by show 0 + 0 ≤ 0; omega, by show 0 + 0 ≤ 0; omega⟩ (Nat.le_of_ble_eq_true rfl) d_MD_encodeAt_34 (fun v f9 H locs hp hw hsz9 hkp9 hdm9 => ?_)
      obtain ⟨rfl, hfe⟩ := hp
      rw [hfe] at hw
      refine W.eq (g2 := F0 m 37 ls [.int (iI (chr (tt T k0) k)), .ref y]) rfl ?_
      refine lv_goto (tgt := 63) hx hb d_MD_encodeAt_37 (by decide) ?_
      refine cs_MD_106 X hz hw hl.1 hM_f1.1 (c_MD_utf l G f1 _ y th T Y B Z M [] (chr (tt T k0) k) (by omega) (by omega) ⟨si, un, bu, ma, bt, so, co, _, _, _, _, _, _, _, hM_f1, hT, hB, hZ, hMa, (rA.nil _ _), hY⟩) ⟨Nat.le_of_ble_eq_true rfl, Nat.le_of_ble_eq_true rfl⟩ ⟨by show 0 + 0 ≤ 0; omega, by show 0 + 0 ≤ 0; omega⟩ (Nat.le_of_ble_eq_true rfl) d_MD_encodeAt_63 (fun v f21 H locs hp hw hsz9 hkp9 hdm9 => ?_)
      obtain ⟨rfl, hL_f21⟩ := hp
      refine W.eq (g2 := F0 m 66 ls []) rfl ?_
      obtain ⟨si, un, bu, ma, bt, so, co, gsi, gun, gbu, gma, gbt, gso, gco, hM, hT, hB, hZ, hMa, hC, hY⟩ := id hL_f21
      have hec : ecc (tt T k0) 0 k = chr (tt T k0) k := if_pos (Or.inl rfl)
      refine lv_goto (tgt := 158) hx hb d_MD_encodeAt_66 (by decide) ?_
      refine lv_iload hx hb d_MD_encodeAt_158 (lv_at hl 0 rfl) ?_
      refine di_if_eq (tgt := 176) hx hb d_MD_encodeAt_160 (by decide) ⟨by omega, by omega⟩ (fun bq160 => ?_) (fun bq160 => ?_)
      · exfalso; omega
      · refine lv_iload_n hx hb d_MD_encodeAt_163 rfl (lv_at hl 5 rfl) ?_
        refine di_if_eq (tgt := 172) hx hb d_MD_encodeAt_164 (by decide) ⟨by decide, by decide⟩ (fun _ => ?_) (fun q9 => absurd q9 (by decide))
        refine lv_iconst (v := iI (2)) hx hb d_MD_encodeAt_172 rfl ?_
        refine lv_goto (tgt := 177) hx hb d_MD_encodeAt_173 (by decide) ?_
        exact cn_iret hx hb hr hlk hw  (⟨by rw [hec, if_pos (by omega)], by rw [hec, show ecd 0 (chr (tt T k0) k) = utf (chr (tt T k0) k) by rw [ecd, if_pos rfl, if_neg (fun q => q.elim (fun q => by have := of_decide_eq_true q; omega) (fun q => by have := of_decide_eq_true q; omega))]]; exact hL_f21⟩) (Nat.le_refl _) (Nat.le_refl _) d_MD_encodeAt_177
  · subst he
    refine di_if_ne (tgt := 69) hx hb d_MD_encodeAt_22 (by decide) ⟨by decide, by decide⟩ (fun _ => ?_) (fun q9 => absurd q9 (by decide))
    refine lv_iload_n hx hb d_MD_encodeAt_69 rfl (lv_at hl 5 rfl) ?_
    refine lv_iconst (v := iI (1)) hx hb d_MD_encodeAt_70 rfl ?_
    refine di_icmp_ne (tgt := 83) hx hb d_MD_encodeAt_71 (by decide) ⟨by decide, by decide⟩ ⟨by decide, by decide⟩ (fun q9 => absurd q9 (by decide)) (fun _ => ?_)
    refine lv_aload_n hx hb d_MD_encodeAt_74 rfl (lv_at hl 2 rfl) ?_
    refine lv_iload hx hb d_MD_encodeAt_75 (lv_at hl 1 rfl) ?_
    refine cs_MD_109 X hz hw hl.1 hM_f1.1 (c_MD_modified l G f1 _ y th T Y B Z M [] (gt (tt T k0) k) (by omega) (by omega) ⟨si, un, bu, ma, bt, so, co, _, _, _, _, _, _, _, hM_f1, hT, hB, hZ, hMa, (rA.nil _ _), hY⟩) ⟨Nat.le_of_ble_eq_true rfl, Nat.le_of_ble_eq_true rfl⟩ ⟨by show 0 + 0 ≤ 0; omega, by show 0 + 0 ≤ 0; omega⟩ (Nat.le_of_ble_eq_true rfl) d_MD_encodeAt_77 (fun v f21 H locs hp hw hsz9 hkp9 hdm9 => ?_)
    obtain ⟨rfl, hL_f21⟩ := hp
    refine W.eq (g2 := F0 m 80 ls []) rfl ?_
    obtain ⟨si, un, bu, ma, bt, so, co, gsi, gun, gbu, gma, gbt, gso, gco, hM, hT, hB, hZ, hMa, hC, hY⟩ := id hL_f21
    have hec : ecc (tt T k0) 1 k = gt (tt T k0) k := if_neg (by omega)
    refine lv_goto (tgt := 158) hx hb d_MD_encodeAt_80 (by decide) ?_
    refine lv_iload hx hb d_MD_encodeAt_158 (lv_at hl 0 rfl) ?_
    refine di_if_eq (tgt := 176) hx hb d_MD_encodeAt_160 (by decide) ⟨by omega, by omega⟩ (fun bq160 => ?_) (fun bq160 => ?_)
    · refine lv_iconst (v := iI (1)) hx hb d_MD_encodeAt_176 rfl ?_
      exact cn_iret hx hb hr hlk hw  (⟨by rw [hec, if_neg (by omega)], by rw [hec, show ecd 1 (gt (tt T k0) k) = ecd 1 (gt (tt T k0) k) from rfl]; exact hL_f21⟩) (Nat.le_refl _) (Nat.le_refl _) d_MD_encodeAt_177
    · refine lv_iload_n hx hb d_MD_encodeAt_163 rfl (lv_at hl 5 rfl) ?_
      refine di_if_eq (tgt := 172) hx hb d_MD_encodeAt_164 (by decide) ⟨by decide, by decide⟩ (fun q9 => absurd q9 (by decide)) (fun _ => ?_)
      refine lv_iload_n hx hb d_MD_encodeAt_167 rfl (lv_at hl 5 rfl) ?_
      refine lv_iconst (v := iI (4)) hx hb d_MD_encodeAt_168 rfl ?_
      refine di_icmp_ne (tgt := 176) hx hb d_MD_encodeAt_169 (by decide) ⟨by decide, by decide⟩ ⟨by decide, by decide⟩ (fun _ => ?_) (fun q9 => absurd q9 (by decide))
      refine lv_iconst (v := iI (1)) hx hb d_MD_encodeAt_176 rfl ?_
      exact cn_iret hx hb hr hlk hw  (⟨by rw [hec, if_neg (by omega)], by rw [hec, show ecd 1 (gt (tt T k0) k) = ecd 1 (gt (tt T k0) k) from rfl]; exact hL_f21⟩) (Nat.le_refl _) (Nat.le_refl _) d_MD_encodeAt_177
  · subst he
    refine di_if_ne (tgt := 69) hx hb d_MD_encodeAt_22 (by decide) ⟨by decide, by decide⟩ (fun _ => ?_) (fun q9 => absurd q9 (by decide))
    refine lv_iload_n hx hb d_MD_encodeAt_69 rfl (lv_at hl 5 rfl) ?_
    refine lv_iconst (v := iI (1)) hx hb d_MD_encodeAt_70 rfl ?_
    refine di_icmp_ne (tgt := 83) hx hb d_MD_encodeAt_71 (by decide) ⟨by decide, by decide⟩ ⟨by decide, by decide⟩ (fun _ => ?_) (fun q9 => absurd q9 (by decide))
    refine lv_iload_n hx hb d_MD_encodeAt_83 rfl (lv_at hl 5 rfl) ?_
    refine lv_iconst (v := iI (4)) hx hb d_MD_encodeAt_84 rfl ?_
    refine di_icmp_ne (tgt := 110) hx hb d_MD_encodeAt_85 (by decide) ⟨by decide, by decide⟩ ⟨by decide, by decide⟩ (fun _ => ?_) (fun q9 => absurd q9 (by decide))
    refine lv_aload_n hx hb d_MD_encodeAt_110 rfl (lv_at hl 2 rfl) ?_
    refine lv_iload_n hx hb d_MD_encodeAt_111 rfl (lv_at hl 5 rfl) ?_
    refine lv_iconst (v := iI (2)) hx hb d_MD_encodeAt_112 rfl ?_
    refine di_icmp_ne (tgt := 125) hx hb d_MD_encodeAt_113 (by decide) ⟨by decide, by decide⟩ ⟨by decide, by decide⟩ (fun q9 => absurd q9 (by decide)) (fun _ => ?_)
    refine lv_iload hx hb d_MD_encodeAt_116 (lv_at hl 1 rfl) ?_
    refine lv_sipush (v := iI (256)) hx hb d_MD_encodeAt_118 rfl ?_
    refine di_div hx hb d_MD_encodeAt_121 (by omega) (by omega) (by omega) (by omega) ?_
    refine lv_goto (tgt := 131) hx hb d_MD_encodeAt_122 (by decide) ?_
    refine cs_MD_102 X hz hw hl.1 hM_f1.1 (c_MD_put l G f1 _ y th T Y B Z M [] (gt (tt T k0) k / 256) (by simp) ⟨si, un, bu, ma, bt, so, co, _, _, _, _, _, _, _, hM_f1, hT, hB, hZ, hMa, (rA.nil _ _), hY⟩) ⟨Nat.le_of_ble_eq_true rfl, Nat.le_of_ble_eq_true rfl⟩ ⟨by show 0 + 0 ≤ 0; omega, by show 0 + 0 ≤ 0; omega⟩ (Nat.le_of_ble_eq_true rfl) d_MD_encodeAt_131 (fun v f21 H locs hp hw hsz9 hkp9 hdm9 => ?_)
    obtain ⟨rfl, hL_f21⟩ := hp
    refine W.eq (g2 := F0 m 134 ls []) rfl ?_
    obtain ⟨si, un, bu, ma, bt, so, co, gsi, gun, gbu, gma, gbt, gso, gco, hM, hT, hB, hZ, hMa, hC, hY⟩ := id hL_f21
    refine lv_aload_n hx hb d_MD_encodeAt_134 rfl (lv_at hl 2 rfl) ?_
    refine lv_iload_n hx hb d_MD_encodeAt_135 rfl (lv_at hl 5 rfl) ?_
    refine lv_iconst (v := iI (2)) hx hb d_MD_encodeAt_136 rfl ?_
    refine di_icmp_ne (tgt := 149) hx hb d_MD_encodeAt_137 (by decide) ⟨by decide, by decide⟩ ⟨by decide, by decide⟩ (fun q9 => absurd q9 (by decide)) (fun _ => ?_)
    refine lv_iload hx hb d_MD_encodeAt_140 (lv_at hl 1 rfl) ?_
    refine lv_sipush (v := iI (256)) hx hb d_MD_encodeAt_142 rfl ?_
    refine di_rem hx hb d_MD_encodeAt_145 (by omega) (by omega) (by omega) (by omega) ?_
    refine lv_goto (tgt := 155) hx hb d_MD_encodeAt_146 (by decide) ?_
    refine cs_MD_102 X hz hw hl.1 hM.1 (c_MD_put l G f21 _ y th T Y B Z M ([] ++ [gt (tt T k0) k / 256]) (gt (tt T k0) k % 256) (by simp) ⟨si, un, bu, ma, bt, so, co, _, _, _, _, _, _, _, hM, hT, hB, hZ, hMa, hC, hY⟩) ⟨Nat.le_of_ble_eq_true rfl, Nat.le_of_ble_eq_true rfl⟩ ⟨by show 0 + 0 ≤ 0; omega, by show 0 + 0 ≤ 0; omega⟩ (Nat.le_of_ble_eq_true rfl) d_MD_encodeAt_155 (fun v f22 H locs hp hw hsz9 hkp9 hdm9 => ?_)
    obtain ⟨rfl, hL_f22⟩ := hp
    refine W.eq (g2 := F0 m 158 ls []) rfl ?_
    obtain ⟨si, un, bu, ma, bt, so, co, gsi, gun, gbu, gma, gbt, gso, gco, hM, hT, hB, hZ, hMa, hC, hY⟩ := id hL_f22
    have hec : ecc (tt T k0) 2 k = gt (tt T k0) k := if_neg (by omega)
    refine lv_iload hx hb d_MD_encodeAt_158 (lv_at hl 0 rfl) ?_
    refine di_if_eq (tgt := 176) hx hb d_MD_encodeAt_160 (by decide) ⟨by omega, by omega⟩ (fun bq160 => ?_) (fun bq160 => ?_)
    · refine lv_iconst (v := iI (1)) hx hb d_MD_encodeAt_176 rfl ?_
      exact cn_iret hx hb hr hlk hw  (⟨by rw [hec, if_neg (by omega)], by rw [hec, show ecd 2 (gt (tt T k0) k) = [gt (tt T k0) k / 256, gt (tt T k0) k % 256] by rw [ecd, if_neg (by omega), if_neg (by omega), if_pos rfl]]; exact hL_f22⟩) (Nat.le_refl _) (Nat.le_refl _) d_MD_encodeAt_177
    · refine lv_iload_n hx hb d_MD_encodeAt_163 rfl (lv_at hl 5 rfl) ?_
      refine di_if_eq (tgt := 172) hx hb d_MD_encodeAt_164 (by decide) ⟨by decide, by decide⟩ (fun q9 => absurd q9 (by decide)) (fun _ => ?_)
      refine lv_iload_n hx hb d_MD_encodeAt_167 rfl (lv_at hl 5 rfl) ?_
      refine lv_iconst (v := iI (4)) hx hb d_MD_encodeAt_168 rfl ?_
      refine di_icmp_ne (tgt := 176) hx hb d_MD_encodeAt_169 (by decide) ⟨by decide, by decide⟩ ⟨by decide, by decide⟩ (fun _ => ?_) (fun q9 => absurd q9 (by decide))
      refine lv_iconst (v := iI (1)) hx hb d_MD_encodeAt_176 rfl ?_
      exact cn_iret hx hb hr hlk hw  (⟨by rw [hec, if_neg (by omega)], by rw [hec, show ecd 2 (gt (tt T k0) k) = [gt (tt T k0) k / 256, gt (tt T k0) k % 256] by rw [ecd, if_neg (by omega), if_neg (by omega), if_pos rfl]]; exact hL_f22⟩) (Nat.le_refl _) (Nat.le_refl _) d_MD_encodeAt_177
  · subst he
    refine di_if_ne (tgt := 69) hx hb d_MD_encodeAt_22 (by decide) ⟨by decide, by decide⟩ (fun _ => ?_) (fun q9 => absurd q9 (by decide))
    refine lv_iload_n hx hb d_MD_encodeAt_69 rfl (lv_at hl 5 rfl) ?_
    refine lv_iconst (v := iI (1)) hx hb d_MD_encodeAt_70 rfl ?_
    refine di_icmp_ne (tgt := 83) hx hb d_MD_encodeAt_71 (by decide) ⟨by decide, by decide⟩ ⟨by decide, by decide⟩ (fun _ => ?_) (fun q9 => absurd q9 (by decide))
    refine lv_iload_n hx hb d_MD_encodeAt_83 rfl (lv_at hl 5 rfl) ?_
    refine lv_iconst (v := iI (4)) hx hb d_MD_encodeAt_84 rfl ?_
    refine di_icmp_ne (tgt := 110) hx hb d_MD_encodeAt_85 (by decide) ⟨by decide, by decide⟩ ⟨by decide, by decide⟩ (fun _ => ?_) (fun q9 => absurd q9 (by decide))
    refine lv_aload_n hx hb d_MD_encodeAt_110 rfl (lv_at hl 2 rfl) ?_
    refine lv_iload_n hx hb d_MD_encodeAt_111 rfl (lv_at hl 5 rfl) ?_
    refine lv_iconst (v := iI (2)) hx hb d_MD_encodeAt_112 rfl ?_
    refine di_icmp_ne (tgt := 125) hx hb d_MD_encodeAt_113 (by decide) ⟨by decide, by decide⟩ ⟨by decide, by decide⟩ (fun _ => ?_) (fun q9 => absurd q9 (by decide))
    refine lv_iload hx hb d_MD_encodeAt_125 (lv_at hl 1 rfl) ?_
    refine lv_sipush (v := iI (256)) hx hb d_MD_encodeAt_127 rfl ?_
    refine di_rem hx hb d_MD_encodeAt_130 (by omega) (by omega) (by omega) (by omega) ?_
    refine cs_MD_102 X hz hw hl.1 hM_f1.1 (c_MD_put l G f1 _ y th T Y B Z M [] (gt (tt T k0) k % 256) (by simp) ⟨si, un, bu, ma, bt, so, co, _, _, _, _, _, _, _, hM_f1, hT, hB, hZ, hMa, (rA.nil _ _), hY⟩) ⟨Nat.le_of_ble_eq_true rfl, Nat.le_of_ble_eq_true rfl⟩ ⟨by show 0 + 0 ≤ 0; omega, by show 0 + 0 ≤ 0; omega⟩ (Nat.le_of_ble_eq_true rfl) d_MD_encodeAt_131 (fun v f21 H locs hp hw hsz9 hkp9 hdm9 => ?_)
    obtain ⟨rfl, hL_f21⟩ := hp
    refine W.eq (g2 := F0 m 134 ls []) rfl ?_
    obtain ⟨si, un, bu, ma, bt, so, co, gsi, gun, gbu, gma, gbt, gso, gco, hM, hT, hB, hZ, hMa, hC, hY⟩ := id hL_f21
    refine lv_aload_n hx hb d_MD_encodeAt_134 rfl (lv_at hl 2 rfl) ?_
    refine lv_iload_n hx hb d_MD_encodeAt_135 rfl (lv_at hl 5 rfl) ?_
    refine lv_iconst (v := iI (2)) hx hb d_MD_encodeAt_136 rfl ?_
    refine di_icmp_ne (tgt := 149) hx hb d_MD_encodeAt_137 (by decide) ⟨by decide, by decide⟩ ⟨by decide, by decide⟩ (fun _ => ?_) (fun q9 => absurd q9 (by decide))
    refine lv_iload hx hb d_MD_encodeAt_149 (lv_at hl 1 rfl) ?_
    refine lv_sipush (v := iI (256)) hx hb d_MD_encodeAt_151 rfl ?_
    refine di_div hx hb d_MD_encodeAt_154 (by omega) (by omega) (by omega) (by omega) ?_
    refine cs_MD_102 X hz hw hl.1 hM.1 (c_MD_put l G f21 _ y th T Y B Z M ([] ++ [gt (tt T k0) k % 256]) (gt (tt T k0) k / 256) (by simp) ⟨si, un, bu, ma, bt, so, co, _, _, _, _, _, _, _, hM, hT, hB, hZ, hMa, hC, hY⟩) ⟨Nat.le_of_ble_eq_true rfl, Nat.le_of_ble_eq_true rfl⟩ ⟨by show 0 + 0 ≤ 0; omega, by show 0 + 0 ≤ 0; omega⟩ (Nat.le_of_ble_eq_true rfl) d_MD_encodeAt_155 (fun v f22 H locs hp hw hsz9 hkp9 hdm9 => ?_)
    obtain ⟨rfl, hL_f22⟩ := hp
    refine W.eq (g2 := F0 m 158 ls []) rfl ?_
    obtain ⟨si, un, bu, ma, bt, so, co, gsi, gun, gbu, gma, gbt, gso, gco, hM, hT, hB, hZ, hMa, hC, hY⟩ := id hL_f22
    have hec : ecc (tt T k0) 3 k = gt (tt T k0) k := if_neg (by omega)
    refine lv_iload hx hb d_MD_encodeAt_158 (lv_at hl 0 rfl) ?_
    refine di_if_eq (tgt := 176) hx hb d_MD_encodeAt_160 (by decide) ⟨by omega, by omega⟩ (fun bq160 => ?_) (fun bq160 => ?_)
    · refine lv_iconst (v := iI (1)) hx hb d_MD_encodeAt_176 rfl ?_
      exact cn_iret hx hb hr hlk hw  (⟨by rw [hec, if_neg (by omega)], by rw [hec, show ecd 3 (gt (tt T k0) k) = [gt (tt T k0) k % 256, gt (tt T k0) k / 256] by rw [ecd, if_neg (by omega), if_neg (by omega), if_neg (by omega), if_pos rfl]]; exact hL_f22⟩) (Nat.le_refl _) (Nat.le_refl _) d_MD_encodeAt_177
    · refine lv_iload_n hx hb d_MD_encodeAt_163 rfl (lv_at hl 5 rfl) ?_
      refine di_if_eq (tgt := 172) hx hb d_MD_encodeAt_164 (by decide) ⟨by decide, by decide⟩ (fun q9 => absurd q9 (by decide)) (fun _ => ?_)
      refine lv_iload_n hx hb d_MD_encodeAt_167 rfl (lv_at hl 5 rfl) ?_
      refine lv_iconst (v := iI (4)) hx hb d_MD_encodeAt_168 rfl ?_
      refine di_icmp_ne (tgt := 176) hx hb d_MD_encodeAt_169 (by decide) ⟨by decide, by decide⟩ ⟨by decide, by decide⟩ (fun _ => ?_) (fun q9 => absurd q9 (by decide))
      refine lv_iconst (v := iI (1)) hx hb d_MD_encodeAt_176 rfl ?_
      exact cn_iret hx hb hr hlk hw  (⟨by rw [hec, if_neg (by omega)], by rw [hec, show ecd 3 (gt (tt T k0) k) = [gt (tt T k0) k % 256, gt (tt T k0) k / 256] by rw [ecd, if_neg (by omega), if_neg (by omega), if_neg (by omega), if_pos rfl]]; exact hL_f22⟩) (Nat.le_refl _) (Nat.le_refl _) d_MD_encodeAt_177
  · subst he
    refine di_if_ne (tgt := 69) hx hb d_MD_encodeAt_22 (by decide) ⟨by decide, by decide⟩ (fun _ => ?_) (fun q9 => absurd q9 (by decide))
    refine lv_iload_n hx hb d_MD_encodeAt_69 rfl (lv_at hl 5 rfl) ?_
    refine lv_iconst (v := iI (1)) hx hb d_MD_encodeAt_70 rfl ?_
    refine di_icmp_ne (tgt := 83) hx hb d_MD_encodeAt_71 (by decide) ⟨by decide, by decide⟩ ⟨by decide, by decide⟩ (fun _ => ?_) (fun q9 => absurd q9 (by decide))
    refine lv_iload_n hx hb d_MD_encodeAt_83 rfl (lv_at hl 5 rfl) ?_
    refine lv_iconst (v := iI (4)) hx hb d_MD_encodeAt_84 rfl ?_
    refine di_icmp_ne (tgt := 110) hx hb d_MD_encodeAt_85 (by decide) ⟨by decide, by decide⟩ ⟨by decide, by decide⟩ (fun q9 => absurd q9 (by decide)) (fun _ => ?_)
    refine lv_aload_n hx hb d_MD_encodeAt_88 rfl (lv_at hl 2 rfl) ?_
    refine lv_iload hx hb d_MD_encodeAt_89 (lv_at hl 1 rfl) ?_
    refine lv_sipush (v := iI (256)) hx hb d_MD_encodeAt_91 rfl ?_
    refine di_icmp_ge (tgt := 102) hx hb d_MD_encodeAt_94 (by decide) ⟨by omega, by omega⟩ ⟨by omega, by omega⟩ (fun bq94 => ?_) (fun bq94 => ?_)
    · refine lv_bipush (v := iI (63)) hx hb d_MD_encodeAt_102 rfl ?_
      refine cs_MD_102 X hz hw hl.1 hM_f1.1 (c_MD_put l G f1 _ y th T Y B Z M [] 63 (by simp) ⟨si, un, bu, ma, bt, so, co, _, _, _, _, _, _, _, hM_f1, hT, hB, hZ, hMa, (rA.nil _ _), hY⟩) ⟨Nat.le_of_ble_eq_true rfl, Nat.le_of_ble_eq_true rfl⟩ ⟨by show 0 + 0 ≤ 0; omega, by show 0 + 0 ≤ 0; omega⟩ (Nat.le_of_ble_eq_true rfl) d_MD_encodeAt_104 (fun v f21 H locs hp hw hsz9 hkp9 hdm9 => ?_)
      obtain ⟨rfl, hL_f21⟩ := hp
      refine W.eq (g2 := F0 m 107 ls []) rfl ?_
      obtain ⟨si, un, bu, ma, bt, so, co, gsi, gun, gbu, gma, gbt, gso, gco, hM, hT, hB, hZ, hMa, hC, hY⟩ := id hL_f21
      have hcd : ecd 4 (chr (tt T k0) k) = [63] := by
        rw [ecd, if_neg (by omega), if_neg (by omega), if_neg (by omega), if_neg (by omega)]
        by_cases q : pr (tt T k0) k = true
        · have h8 := hcb.1 q
          have h9 := pr_hi q
          rw [if_neg (by omega)]
        · rw [show chr (tt T k0) k = gt (tt T k0) k by rw [chr, if_neg q]]
          rw [if_neg (by omega)]
      have h2p : pr (tt T k0) k = true ↔ 65536 ≤ chr (tt T k0) k := ⟨hcb.1, hcb.2⟩
      have hec : ecc (tt T k0) 4 k = chr (tt T k0) k := if_pos (Or.inr rfl)
      refine lv_goto (tgt := 158) hx hb d_MD_encodeAt_107 (by decide) ?_
      refine lv_iload hx hb d_MD_encodeAt_158 (lv_at hl 0 rfl) ?_
      refine di_if_eq (tgt := 176) hx hb d_MD_encodeAt_160 (by decide) ⟨by omega, by omega⟩ (fun bq160 => ?_) (fun bq160 => ?_)
      · refine lv_iconst (v := iI (1)) hx hb d_MD_encodeAt_176 rfl ?_
        exact cn_iret hx hb hr hlk hw  (⟨by rw [hec, if_neg (fun q => by rw [h2p.mpr q] at bq160; exact absurd bq160 (by decide))], by rw [hec, hcd]; exact hL_f21⟩) (Nat.le_refl _) (Nat.le_refl _) d_MD_encodeAt_177
      · have hpt := hcb.1 (b2_1 bq160)
        refine lv_iload_n hx hb d_MD_encodeAt_163 rfl (lv_at hl 5 rfl) ?_
        refine di_if_eq (tgt := 172) hx hb d_MD_encodeAt_164 (by decide) ⟨by decide, by decide⟩ (fun q9 => absurd q9 (by decide)) (fun _ => ?_)
        refine lv_iload_n hx hb d_MD_encodeAt_167 rfl (lv_at hl 5 rfl) ?_
        refine lv_iconst (v := iI (4)) hx hb d_MD_encodeAt_168 rfl ?_
        refine di_icmp_ne (tgt := 176) hx hb d_MD_encodeAt_169 (by decide) ⟨by decide, by decide⟩ ⟨by decide, by decide⟩ (fun q9 => absurd q9 (by decide)) (fun _ => ?_)
        refine lv_iconst (v := iI (2)) hx hb d_MD_encodeAt_172 rfl ?_
        refine lv_goto (tgt := 177) hx hb d_MD_encodeAt_173 (by decide) ?_
        exact cn_iret hx hb hr hlk hw  (⟨by rw [hec, if_pos hpt], by rw [hec, hcd]; exact hL_f21⟩) (Nat.le_refl _) (Nat.le_refl _) d_MD_encodeAt_177
    · refine lv_iload hx hb d_MD_encodeAt_97 (lv_at hl 1 rfl) ?_
      refine lv_goto (tgt := 104) hx hb d_MD_encodeAt_99 (by decide) ?_
      refine cs_MD_102 X hz hw hl.1 hM_f1.1 (c_MD_put l G f1 _ y th T Y B Z M [] (gt (tt T k0) k) (by simp) ⟨si, un, bu, ma, bt, so, co, _, _, _, _, _, _, _, hM_f1, hT, hB, hZ, hMa, (rA.nil _ _), hY⟩) ⟨Nat.le_of_ble_eq_true rfl, Nat.le_of_ble_eq_true rfl⟩ ⟨by show 0 + 0 ≤ 0; omega, by show 0 + 0 ≤ 0; omega⟩ (Nat.le_of_ble_eq_true rfl) d_MD_encodeAt_104 (fun v f21 H locs hp hw hsz9 hkp9 hdm9 => ?_)
      obtain ⟨rfl, hL_f21⟩ := hp
      refine W.eq (g2 := F0 m 107 ls []) rfl ?_
      obtain ⟨si, un, bu, ma, bt, so, co, gsi, gun, gbu, gma, gbt, gso, gco, hM, hT, hB, hZ, hMa, hC, hY⟩ := id hL_f21
      have hcd : ecd 4 (chr (tt T k0) k) = [gt (tt T k0) k] := by
        rw [ecd, if_neg (by omega), if_neg (by omega), if_neg (by omega), if_neg (by omega)]
        by_cases q : pr (tt T k0) k = true
        · have h8 := hcb.1 q
          have h9 := pr_hi q
          rw [if_neg (by omega)]
          exfalso; omega
        · rw [show chr (tt T k0) k = gt (tt T k0) k by rw [chr, if_neg q]]
          rw [if_pos (by omega)]
      have h2p : pr (tt T k0) k = true ↔ 65536 ≤ chr (tt T k0) k := ⟨hcb.1, hcb.2⟩
      have hec : ecc (tt T k0) 4 k = chr (tt T k0) k := if_pos (Or.inr rfl)
      refine lv_goto (tgt := 158) hx hb d_MD_encodeAt_107 (by decide) ?_
      refine lv_iload hx hb d_MD_encodeAt_158 (lv_at hl 0 rfl) ?_
      refine di_if_eq (tgt := 176) hx hb d_MD_encodeAt_160 (by decide) ⟨by omega, by omega⟩ (fun bq160 => ?_) (fun bq160 => ?_)
      · refine lv_iconst (v := iI (1)) hx hb d_MD_encodeAt_176 rfl ?_
        exact cn_iret hx hb hr hlk hw  (⟨by rw [hec, if_neg (fun q => by rw [h2p.mpr q] at bq160; exact absurd bq160 (by decide))], by rw [hec, hcd]; exact hL_f21⟩) (Nat.le_refl _) (Nat.le_refl _) d_MD_encodeAt_177
      · have hpt := hcb.1 (b2_1 bq160)
        refine lv_iload_n hx hb d_MD_encodeAt_163 rfl (lv_at hl 5 rfl) ?_
        refine di_if_eq (tgt := 172) hx hb d_MD_encodeAt_164 (by decide) ⟨by decide, by decide⟩ (fun q9 => absurd q9 (by decide)) (fun _ => ?_)
        refine lv_iload_n hx hb d_MD_encodeAt_167 rfl (lv_at hl 5 rfl) ?_
        refine lv_iconst (v := iI (4)) hx hb d_MD_encodeAt_168 rfl ?_
        refine di_icmp_ne (tgt := 176) hx hb d_MD_encodeAt_169 (by decide) ⟨by decide, by decide⟩ ⟨by decide, by decide⟩ (fun q9 => absurd q9 (by decide)) (fun _ => ?_)
        refine lv_iconst (v := iI (2)) hx hb d_MD_encodeAt_172 rfl ?_
        refine lv_goto (tgt := 177) hx hb d_MD_encodeAt_173 (by decide) ?_
        exact cn_iret hx hb hr hlk hw  (⟨by rw [hec, if_pos hpt], by rw [hec, hcd]; exact hL_f21⟩) (Nat.le_refl _) (Nat.le_refl _) d_MD_encodeAt_177
set_option maxRecDepth 100000 in
set_option maxHeartbeats 4000000 in
theorem c_MD_encode (l : Launch) (G : ct_G) (f : dw_M) (sz : Nat) (y : Nat) (th : Int) (T Y : List (List Int)) (B Z M C : List Int) (k0 : Int) (en : Int) (hk0 : iR k0) (hen : iR en) (hL : mdL G f y th T Y B Z M C) : cn l y_MD_encode w_MD_encode (4) (92) G f sz [.ref y, .int (iI k0), .int (iI en)] (fun v f' => v = some (.int (iI (sp_encode T Y B Z k0 en).2.1)) ∧ mdP G f' y (sp_encode T Y B Z k0 en)) (0) (0) := by
  refine cn_of (own := "TextDeskModel") (nm := "encode") (ds := "(II)I") (by decide) (Nat.le_of_ble_eq_true rfl) ?_
  intro p e s m args below meth c ls X hnm hr hlk hs0 hz hw hl
  have hx := X.1
  have hb := X.2.1
  have hl : lv_has ls 5 [(0, .ref y), (1, .int (iI k0)), (2, .int (iI en))] := hl
  obtain ⟨si, un, bu, ma, bt, so, co, gsi, gun, gbu, gma, gbt, gso, gco, hM, hT, hB, hZ, hMa, hC, hY⟩ := id hL
  have hTl := hT.1
  have hBl := hB.1.1
  have hZl := hZ.1.1
  have hYl := hY.1
  have hCl := hC.1
  obtain ⟨hk00, hk01⟩ := hk0
  obtain ⟨hen0, hen1⟩ := hen
  refine lv_aload_n hx hb d_MD_encode_0 rfl (lv_at hl 0 rfl) ?_
  refine lv_aload_n hx hb d_MD_encode_1 rfl (lv_at hl 0 rfl) ?_
  refine lv_iload_n hx hb d_MD_encode_2 rfl (lv_at hl 1 rfl) ?_
  refine cs_MD_71 X hz hw hl.1 hM.1 (c_MD_isText l G f _ y th T Y B Z M C k0 ⟨by omega, by omega⟩ ⟨si, un, bu, ma, bt, so, co, _, _, _, _, _, _, _, hM, hT, hB, hZ, hMa, hC, hY⟩) ⟨Nat.le_of_ble_eq_true rfl, Nat.le_of_ble_eq_true rfl⟩ ⟨by show 0 + 0 ≤ 0; omega, by show 0 + 0 ≤ 0; omega⟩ (Nat.le_of_ble_eq_true rfl) d_MD_encode_3 (fun v f9 H locs hp hw hsz9 hkp9 hdm9 => ?_)
  obtain ⟨rfl, hfe⟩ := hp
  rw [hfe] at hw
  refine W.eq (g2 := F0 m 6 ls [.int (iI (b2 (decide (isT T k0)))), .ref y]) rfl ?_
  have hbt := b2_01 (decide (isT T k0))
  refine di_if_eq (tgt := 17) hx hb d_MD_encode_6 (by decide) ⟨by omega, by omega⟩ (fun bq6 => ?_) (fun bq6 => ?_)
  · have nT : ¬ isT T k0 := of_decide_eq_false (b2_0 (by omega))
    refine lv_iconst (v := iI (1)) hx hb d_MD_encode_17 rfl ?_
    refine lv_goto (tgt := 22) hx hb d_MD_encode_18 (by decide) ?_
    refine pf_MD_31_MD X hw hM.1 rfl rfl d_MD_encode_22 (fun H locs hw => ?_)
    obtain ⟨f1, e_f1⟩ : ∃ g9 : dw_M, g9 = dw_up f y (.inr (6, [.int (iI 1), .int (iI ((T.length : Int))), .ref si, .ref un, .int (iI ((B.length : Int))), .ref bu, .int (iI ((M.length : Int))), .ref ma, .int (iI ((Z.length : Int))), .ref bt, .int (iI ((Y.length : Int))), .ref so, .int (iI ((C.length : Int))), .ref co])) := ⟨_, rfl⟩
    rw [← e_f1] at hw
    have hM_f1 : mdS G f1 y 1 (T.length : Int) (B.length : Int) (M.length : Int) (Z.length : Int) (Y.length : Int) (C.length : Int) si un bu ma bt so co gsi gun gbu gma gbt gso gco := by rw [e_f1]; exact hM.obj 1 (T.length : Int) (B.length : Int) (M.length : Int) (Z.length : Int) (Y.length : Int) (C.length : Int)
    refine lv_aload_n hx hb d_MD_encode_25 rfl (lv_at hl 0 rfl) ?_
    refine gf_MD_31_MD X hw hM_f1.1 d_MD_encode_26 ?_
    refine di_if_le (tgt := 34) hx hb d_MD_encode_29 (by decide) ⟨by decide, by decide⟩ (fun q9 => absurd q9 (by decide)) (fun _ => ?_)
    refine lv_iconst (v := iI (0)) hx hb d_MD_encode_32 rfl ?_
    have e9 : sp_encode T Y B Z k0 en = (1, 0, T, Y, B, Z) := by rw [sp_encode, if_pos (fun q => nT q.1)]
    exact cn_iret hx hb hr hlk hw  (⟨by rw [e9], by rw [e9]; exact mdP_of (M := M) (C := C) ⟨si, un, bu, ma, bt, so, co, _, _, _, _, _, _, _, hM_f1, hT, hB, hZ, hMa, hC, hY⟩⟩) (Nat.le_refl _) (Nat.le_refl _) d_MD_encode_33
  · have hT0 : isT T k0 := of_decide_eq_true (b2_1 (by omega))
    have hT0a := hT0.1
    have hT0b := hT0.2
    have hT0l := hT.len k0
    refine lv_iload_n hx hb d_MD_encode_9 rfl (lv_at hl 2 rfl) ?_
    refine lv_iconst (v := iI (5)) hx hb d_MD_encode_10 rfl ?_
    refine cs_MD_61 X hz hw hl.1 (c_MD_out l G f _ en 5 ⟨by omega, by omega⟩ ⟨by omega, by omega⟩) ⟨Nat.le_of_ble_eq_true rfl, Nat.le_of_ble_eq_true rfl⟩ ⟨by show 0 + 0 ≤ 0; omega, by show 0 + 0 ≤ 0; omega⟩ (Nat.le_of_ble_eq_true rfl) d_MD_encode_11 (fun v f9 H locs hp hw hsz9 hkp9 hdm9 => ?_)
    obtain ⟨rfl, hfe⟩ := hp
    rw [hfe] at hw
    refine W.eq (g2 := F0 m 14 ls [.int (iI (b2 (decide (en < 0 ∨ 5 ≤ en)))), .ref y]) rfl ?_
    have hbo := b2_01 (decide (en < 0 ∨ 5 ≤ en))
    refine di_if_eq (tgt := 21) hx hb d_MD_encode_14 (by decide) ⟨by omega, by omega⟩ (fun bq14 => ?_) (fun bq14 => ?_)
    · have he2 := of_decide_eq_false (b2_0 (by omega) : decide (en < 0 ∨ 5 ≤ en) = false)
      have hen9 : 0 ≤ en ∧ en ≤ 4 := by omega
      have hrU := hT.rng k0
      have henc := enc_all hrU hT0l hen9
      refine lv_iconst (v := iI (0)) hx hb d_MD_encode_21 rfl ?_
      refine pf_MD_31_MD X hw hM.1 rfl rfl d_MD_encode_22 (fun H locs hw => ?_)
      obtain ⟨f2, e_f2⟩ : ∃ g9 : dw_M, g9 = dw_up f y (.inr (6, [.int (iI 0), .int (iI ((T.length : Int))), .ref si, .ref un, .int (iI ((B.length : Int))), .ref bu, .int (iI ((M.length : Int))), .ref ma, .int (iI ((Z.length : Int))), .ref bt, .int (iI ((Y.length : Int))), .ref so, .int (iI ((C.length : Int))), .ref co])) := ⟨_, rfl⟩
      rw [← e_f2] at hw
      have hM_f2 : mdS G f2 y 0 (T.length : Int) (B.length : Int) (M.length : Int) (Z.length : Int) (Y.length : Int) (C.length : Int) si un bu ma bt so co gsi gun gbu gma gbt gso gco := by rw [e_f2]; exact hM.obj 0 (T.length : Int) (B.length : Int) (M.length : Int) (Z.length : Int) (Y.length : Int) (C.length : Int)
      refine lv_aload_n hx hb d_MD_encode_25 rfl (lv_at hl 0 rfl) ?_
      refine gf_MD_31_MD X hw hM_f2.1 d_MD_encode_26 ?_
      refine di_if_le (tgt := 34) hx hb d_MD_encode_29 (by decide) ⟨by decide, by decide⟩ (fun _ => ?_) (fun q9 => absurd q9 (by decide))
      refine lv_aload_n hx hb d_MD_encode_34 rfl (lv_at hl 0 rfl) ?_
      refine lv_iconst (v := iI (0)) hx hb d_MD_encode_35 rfl ?_
      refine pf_MD_112_MD X hw hM_f2.1 rfl rfl d_MD_encode_36 (fun H locs hw => ?_)
      obtain ⟨f3, e_f3⟩ : ∃ g9 : dw_M, g9 = dw_up f2 y (.inr (6, [.int (iI 0), .int (iI ((T.length : Int))), .ref si, .ref un, .int (iI ((B.length : Int))), .ref bu, .int (iI ((M.length : Int))), .ref ma, .int (iI 0), .ref bt, .int (iI ((Y.length : Int))), .ref so, .int (iI ((C.length : Int))), .ref co])) := ⟨_, rfl⟩
      rw [← e_f3] at hw
      have hM_f3 : mdS G f3 y 0 (T.length : Int) (B.length : Int) (M.length : Int) 0 (Y.length : Int) (C.length : Int) si un bu ma bt so co gsi gun gbu gma gbt gso gco := by rw [e_f3]; exact hM_f2.obj 0 (T.length : Int) (B.length : Int) (M.length : Int) 0 (Y.length : Int) (C.length : Int)
      refine lv_iconst (v := iI (0)) hx hb d_MD_encode_39 rfl ?_
      refine lv_istore_n (lv' := [(3, .int (iI 0)), (0, .ref y), (1, .int (iI k0)), (2, .int (iI en))]) hx hb d_MD_encode_40 rfl hl (by decide) rfl (fun ls hl => ?_)
      have loop : ∀ (N : Nat) (k : Int) (acc : List Int) (fu : Nat) (Ck : List Int) (f1 : dw_M) (H : Heap) (locs : List Loc) (ls : Array Slot), (((tt T k0).length : Int) + 2 - k).toNat < N → 0 ≤ k → k ≤ ((tt T k0).length : Int) + 1 → ((tt T k0).length : Int) - k < (fu : Int) + 1 → enc (tt T k0) en = acc ++ ecl (tt T k0) en (fu + 1) k → mdL G f1 y 0 T Y B acc M Ck → dw G.1 dk_cl (dw_A f sz) s.heap f1 H locs → lv_has ls 5 [(3, .int (iI k)), (0, .ref y), (1, .int (iI k0)), (2, .int (iI en))] → W p l e { frames := 4, locals := 92, cells := 0, slots := 0 } s m args below meth c H locs (0) (0) (MQ below (ct_Q G f sz (fun v f' => v = some (.int (iI (sp_encode T Y B Z k0 en).2.1)) ∧ mdP G f' y (sp_encode T Y B Z k0 en))) args s (0) (0) (dw_A f sz)) (F0 m 41 ls []) := by
        intro N
        induction N with
        | zero => intros; omega
        | succ N ih =>
          intro k acc fu Ck f1 H locs ls hN hk0 hk1 hfu hspl hL1 hw hl
          obtain ⟨si, un, bu, ma, bt, so, co, gsi, gun, gbu, gma, gbt, gso, gco, hM, hT, hB, hZ, hMa, hC, hY⟩ := id hL1
          refine lv_iload_n hx hb d_MD_encode_41 rfl (lv_at hl 0 rfl) ?_
          refine lv_aload_n hx hb d_MD_encode_42 rfl (lv_at hl 1 rfl) ?_
          refine gf_MD_7_MD X hw hM.1 d_MD_encode_43 ?_
          refine lv_iload_n hx hb d_MD_encode_46 rfl (lv_at hl 2 rfl) ?_
          refine dw_iald hx hb X.K hw 0 hM.2.1 rfl (i := k0) (by omega) (by omega) (by omega) (hT.sz hT0) d_MD_encode_47 ?_
          refine di_icmp_ge (tgt := 108) hx hb d_MD_encode_48 (by decide) ⟨by omega, by omega⟩ ⟨by omega, by omega⟩ (fun bq48 => ?_) (fun bq48 => ?_)
          · have hres : enc (tt T k0) en = acc := by rw [hspl, ecl, if_pos (by omega), List.append_nil]
            refine lv_aload_n hx hb d_MD_encode_108 rfl (lv_at hl 1 rfl) ?_
            refine gf_MD_112_MD X hw hM.1 d_MD_encode_109 ?_
            have e9 : sp_encode T Y B Z k0 en = (0, (acc.length : Int), T, Y, B, acc) := by rw [sp_encode, if_neg (fun q => q ⟨hT0, hen9⟩), hres]
            exact cn_iret hx hb hr hlk hw  (⟨by rw [e9], by rw [e9]; exact mdP_of (M := M) (C := Ck) ⟨si, un, bu, ma, bt, so, co, _, _, _, _, _, _, _, hM, hT, hB, hZ, hMa, hC, hY⟩⟩) (Nat.le_refl _) (Nat.le_refl _) d_MD_encode_112
          · have hcr := ecc_rng hrU en hk0 (by omega : k < ((tt T k0).length : Int))
            obtain ⟨fu2, rfl⟩ : ∃ z, fu = z + 1 := ⟨fu - 1, by omega⟩
            have hstep : ecl (tt T k0) en (fu2 + 1 + 1) k = ecd en (ecc (tt T k0) en k) ++ ecl (tt T k0) en (fu2 + 1) (if 65536 ≤ ecc (tt T k0) en k then k + 2 else k + 1) := by rw [ecl, if_neg (by omega)]
            obtain ⟨Cn, hCn⟩ : ∃ z, z = ecd en (ecc (tt T k0) en k) := ⟨_, rfl⟩
            have hrC := ecd_rng hen9 hcr.1 hcr.2.1 hcr.2.2
            rw [← hCn] at hstep hrC
            have hlen : acc.length + Cn.length ≤ 180 := by have h9 := henc.1; rw [hspl, hstep] at h9; simp only [List.length_append] at h9; omega
            refine lv_iload_n hx hb d_MD_encode_51 rfl (lv_at hl 0 rfl) ?_
            refine lv_aload_n hx hb d_MD_encode_52 rfl (lv_at hl 1 rfl) ?_
            refine lv_iload_n hx hb d_MD_encode_53 rfl (lv_at hl 2 rfl) ?_
            refine lv_iload_n hx hb d_MD_encode_54 rfl (lv_at hl 0 rfl) ?_
            refine lv_iload_n hx hb d_MD_encode_55 rfl (lv_at hl 3 rfl) ?_
            refine cs_MD_115 X hz hw hl.1 hM.1 (c_MD_encodeAt l G f1 _ y 0 T Y B acc M Ck k0 k en hT0 ⟨by omega, by omega⟩ hen9 ⟨si, un, bu, ma, bt, so, co, _, _, _, _, _, _, _, hM, hT, hB, hZ, hMa, hC, hY⟩) ⟨Nat.le_of_ble_eq_true rfl, Nat.le_of_ble_eq_true rfl⟩ ⟨by show 0 + 0 ≤ 0; omega, by show 0 + 0 ≤ 0; omega⟩ (Nat.le_of_ble_eq_true rfl) d_MD_encode_56 (fun v f21 H locs hp hw hsz9 hkp9 hdm9 => ?_)
            obtain ⟨rfl, hL_f21⟩ := hp
            refine W.eq (g2 := F0 m 59 ls [.int (iI (if 65536 ≤ ecc (tt T k0) en k then 2 else 1)), .int (iI k)]) rfl ?_
            obtain ⟨si, un, bu, ma, bt, so, co, gsi, gun, gbu, gma, gbt, gso, gco, hM, hT, hB, hZ, hMa, hC, hY⟩ := id hL_f21
            rw [← hCn] at hL_f21 hM hC
            have ihO := ih
            refine di_add hx hb d_MD_encode_59 ?_
            refine lv_istore_n (lv' := [(3, .int (iI (k + (if 65536 ≤ ecc (tt T k0) en k then 2 else 1)))), (0, .ref y), (1, .int (iI k0)), (2, .int (iI en))]) hx hb d_MD_encode_60 rfl hl (by decide) rfl (fun ls hl => ?_)
            refine lv_iconst (v := iI (0)) hx hb d_MD_encode_61 rfl ?_
            refine lv_istore (lv' := [(4, .int (iI 0)), (3, .int (iI (k + (if 65536 ≤ ecc (tt T k0) en k then 2 else 1)))), (0, .ref y), (1, .int (iI k0)), (2, .int (iI en))]) hx hb d_MD_encode_62 hl (by decide) rfl (fun ls hl => ?_)
            have inner : ∀ (N : Nat) (i : Int) (Zi : List Int) (f1 : dw_M) (H : Heap) (locs : List Loc) (ls : Array Slot), ((Cn.length : Int) - i).toNat < N → 0 ≤ i → i ≤ (Cn.length : Int) → Zi = acc ++ sbl Cn 0 i → mdL G f1 y 0 T Y B Zi M Cn → dw G.1 dk_cl (dw_A f sz) s.heap f1 H locs → lv_has ls 5 [(4, .int (iI i)), (3, .int (iI (k + (if 65536 ≤ ecc (tt T k0) en k then 2 else 1)))), (0, .ref y), (1, .int (iI k0)), (2, .int (iI en))] → W p l e { frames := 4, locals := 92, cells := 0, slots := 0 } s m args below meth c H locs (0) (0) (MQ below (ct_Q G f sz (fun v f' => v = some (.int (iI (sp_encode T Y B Z k0 en).2.1)) ∧ mdP G f' y (sp_encode T Y B Z k0 en))) args s (0) (0) (dw_A f sz)) (F0 m 64 ls []) := by
              intro N
              induction N with
              | zero => intros; omega
              | succ N ih =>
                intro i Zi f1 H locs ls hN hi0 hi1 hZi hL2 hw hl
                obtain ⟨si, un, bu, ma, bt, so, co, gsi, gun, gbu, gma, gbt, gso, gco, hM, hT, hB, hZ, hMa, hC, hY⟩ := id hL2
                refine lv_iload hx hb d_MD_encode_64 (lv_at hl 0 rfl) ?_
                refine lv_aload_n hx hb d_MD_encode_66 rfl (lv_at hl 2 rfl) ?_
                refine gf_MD_99_MD X hw hM.1 d_MD_encode_67 ?_
                refine di_icmp_ge (tgt := 105) hx hb d_MD_encode_70 (by decide) ⟨by omega, by omega⟩ ⟨by omega, by omega⟩ (fun bq70 => ?_) (fun bq70 => ?_)
                · have hZf : Zi = acc ++ Cn := by rw [hZi, show sbl Cn 0 i = Cn from (sbl_stop (by omega) (by omega) (Or.inl (by omega))).trans (sbl_all Cn)]
                  refine lv_goto (tgt := 41) hx hb d_MD_encode_105 (by decide) ?_
                  have hkn : k + (if 65536 ≤ ecc (tt T k0) en k then 2 else 1) = (if 65536 ≤ ecc (tt T k0) en k then k + 2 else k + 1) := by split <;> omega
                  rw [hkn] at hl
                  have hkb := ecc_next hrU en hk0 (by omega : k < ((tt T k0).length : Int))
                  exact ihO (if 65536 ≤ ecc (tt T k0) en k then k + 2 else k + 1) (Zi) (fu2) (Cn) _ _ _ _ (by omega) (by split <;> omega) (by split <;> omega) (by split <;> omega) (by rw [hspl, hstep, hZf, List.append_assoc]) (hL2) hw (lv_sub hl [1, 2, 3, 4] rfl)
                · have el : (((Zi ++ [gt Cn i]).length : Nat) : Int) = (Zi.length : Int) + 1 := by simp
                  have hC4 := hC.1
                  have hZl2 : Zi.length ≤ 180 := by rw [hZi, List.length_append]; have := sbl_len Cn 0 i; omega
                  refine lv_aload_n hx hb d_MD_encode_73 rfl (lv_at hl 2 rfl) ?_
                  refine gf_MD_22_MD X hw hM.1 d_MD_encode_74 ?_
                  refine lv_aload_n hx hb d_MD_encode_77 rfl (lv_at hl 2 rfl) ?_
                  refine gf_MD_112_MD X hw hM.1 d_MD_encode_78 ?_
                  refine lv_aload_n hx hb d_MD_encode_81 rfl (lv_at hl 2 rfl) ?_
                  refine gf_MD_28_MD X hw hM.1 d_MD_encode_82 ?_
                  refine lv_iload hx hb d_MD_encode_85 (lv_at hl 0 rfl) ?_
                  refine dw_iald hx hb X.K hw 0 hM.2.2.2.2.2.2.2.1 rfl (i := i) (by omega) (by omega) (by omega) (hC.at (by omega) (by omega)) d_MD_encode_87 ?_
                  refine dw_iast hx hb X.K hw 0 hM.2.2.2.2.2.1 rfl (i := (Zi.length : Int)) (by omega) (by omega) (by omega) d_MD_encode_88 (fun H locs hw => ?_)
                  obtain ⟨f31, e_f31⟩ : ∃ g9 : dw_M, g9 = dw_up f1 bt (.inl (G.2.1 0, 200, .inl (upd gbt ((Zi.length : Int)).toNat (iI (gt Cn i))))) := ⟨_, rfl⟩
                  rw [← e_f31] at hw
                  have hM_f31 : mdS G f31 y 0 (T.length : Int) (B.length : Int) (M.length : Int) (Zi.length : Int) (Y.length : Int) (Cn.length : Int) si un bu ma bt so co gsi gun gbu gma (upd gbt ((Zi.length : Int)).toNat (iI (gt Cn i))) gso gco := by rw [e_f31]; exact hM.w_bt _
                  refine lv_aload_n hx hb d_MD_encode_89 rfl (lv_at hl 2 rfl) ?_
                  refine lv_dup hx hb d_MD_encode_90 rfl ?_
                  refine gf_MD_112_MD X hw hM_f31.1 d_MD_encode_91 ?_
                  refine lv_iconst (v := iI (1)) hx hb d_MD_encode_94 rfl ?_
                  refine di_add hx hb d_MD_encode_95 ?_
                  refine pf_MD_112_MD X hw hM_f31.1 rfl rfl d_MD_encode_96 (fun H locs hw => ?_)
                  obtain ⟨f32, e_f32⟩ : ∃ g9 : dw_M, g9 = dw_up f31 y (.inr (6, [.int (iI 0), .int (iI ((T.length : Int))), .ref si, .ref un, .int (iI ((B.length : Int))), .ref bu, .int (iI ((M.length : Int))), .ref ma, .int (iI ((Zi.length : Int) + 1)), .ref bt, .int (iI ((Y.length : Int))), .ref so, .int (iI ((Cn.length : Int))), .ref co])) := ⟨_, rfl⟩
                  rw [← e_f32] at hw
                  have hM_f32 : mdS G f32 y 0 (T.length : Int) (B.length : Int) (M.length : Int) ((Zi.length : Int) + 1) (Y.length : Int) (Cn.length : Int) si un bu ma bt so co gsi gun gbu gma (upd gbt ((Zi.length : Int)).toNat (iI (gt Cn i))) gso gco := by rw [e_f32]; exact hM_f31.obj 0 (T.length : Int) (B.length : Int) (M.length : Int) ((Zi.length : Int) + 1) (Y.length : Int) (Cn.length : Int)
                  refine lv_iinc (v := iI (i + 1)) (lv' := [(4, .int (iI (i + 1))), (3, .int (iI (k + (if 65536 ≤ ecc (tt T k0) en k then 2 else 1)))), (0, .ref y), (1, .int (iI k0)), (2, .int (iI en))]) hx hb d_MD_encode_99 hl (k := 0) rfl (iI_add _ _) (by decide) rfl (fun ls hl => ?_)
                  refine lv_goto (tgt := 64) hx hb d_MD_encode_102 (by decide) ?_
                  exact ih (i + 1) (Zi ++ [gt Cn i]) _ _ _ _ (by omega) (by omega) (by omega) (by rw [hZi, sbl_snoc (by omega) (by omega) (by omega), gt_in (by omega) (by omega), List.append_assoc]) (⟨si, un, bu, ma, bt, so, co, _, _, _, _, _, _, _, (by rw [el]; exact hM_f32), hT, hB, ⟨by rw [Int.toNat_natCast]; exact hZ.1.snoc (by omega) _, mem_app hZ.2 (mem_one (by rw [gt_in (by omega) (by omega)]; exact hrC _ (getD_mem (by omega))))⟩, hMa, hC, hY⟩) hw (lv_sub hl [0, 1, 2, 3, 4] rfl)
            exact inner (((Cn.length : Int) - 0).toNat + 1) (0) (acc) _ _ _ _ (by omega) (by omega) (by omega) (by rw [sbl_nil (Int.le_refl _) (Int.le_refl _), List.append_nil]) (hL_f21) hw (lv_sub hl [0, 1, 2, 3, 4] rfl)
      exact loop ((((tt T k0).length : Int) + 2 - 0).toNat + 1) (0) ([]) ((tt T k0).length) (C) _ _ _ _ (by omega) (by omega) (by omega) (by omega) (rfl) (⟨si, un, bu, ma, bt, so, co, _, _, _, _, _, _, _, hM_f3, hT, hB, ⟨rA.nil _ _, mem_nil⟩, hMa, hC, hY⟩) hw (lv_sub hl [0, 1, 2, 3] rfl)
    · have he2 := of_decide_eq_true (b2_1 (by omega) : decide (en < 0 ∨ 5 ≤ en) = true)
      refine lv_iconst (v := iI (1)) hx hb d_MD_encode_17 rfl ?_
      refine lv_goto (tgt := 22) hx hb d_MD_encode_18 (by decide) ?_
      refine pf_MD_31_MD X hw hM.1 rfl rfl d_MD_encode_22 (fun H locs hw => ?_)
      obtain ⟨f4, e_f4⟩ : ∃ g9 : dw_M, g9 = dw_up f y (.inr (6, [.int (iI 1), .int (iI ((T.length : Int))), .ref si, .ref un, .int (iI ((B.length : Int))), .ref bu, .int (iI ((M.length : Int))), .ref ma, .int (iI ((Z.length : Int))), .ref bt, .int (iI ((Y.length : Int))), .ref so, .int (iI ((C.length : Int))), .ref co])) := ⟨_, rfl⟩
      rw [← e_f4] at hw
      have hM_f4 : mdS G f4 y 1 (T.length : Int) (B.length : Int) (M.length : Int) (Z.length : Int) (Y.length : Int) (C.length : Int) si un bu ma bt so co gsi gun gbu gma gbt gso gco := by rw [e_f4]; exact hM.obj 1 (T.length : Int) (B.length : Int) (M.length : Int) (Z.length : Int) (Y.length : Int) (C.length : Int)
      refine lv_aload_n hx hb d_MD_encode_25 rfl (lv_at hl 0 rfl) ?_
      refine gf_MD_31_MD X hw hM_f4.1 d_MD_encode_26 ?_
      refine di_if_le (tgt := 34) hx hb d_MD_encode_29 (by decide) ⟨by decide, by decide⟩ (fun q9 => absurd q9 (by decide)) (fun _ => ?_)
      refine lv_iconst (v := iI (0)) hx hb d_MD_encode_32 rfl ?_
      have e9 : sp_encode T Y B Z k0 en = (1, 0, T, Y, B, Z) := by rw [sp_encode, if_pos (fun q => by have q1 := q.2; omega)]
      exact cn_iret hx hb hr hlk hw  (⟨by rw [e9], by rw [e9]; exact mdP_of (M := M) (C := C) ⟨si, un, bu, ma, bt, so, co, _, _, _, _, _, _, _, hM_f4, hT, hB, hZ, hMa, hC, hY⟩⟩) (Nat.le_refl _) (Nat.le_refl _) d_MD_encode_33
set_option maxRecDepth 100000 in
set_option maxHeartbeats 4000000 in
theorem c_MD_init (l : Launch) (G : ct_G) (f : dw_M) (sz : Nat) (y : Nat) (h0 : f y = some (.inr (6, [.int (iI 0), .int (iI 0), .null, .null, .int (iI 0), .null, .int (iI 0), .null, .int (iI 0), .null, .int (iI 0), .null, .int (iI 0), .null]))) : cn l y_MD_init w_MD_init (1) (20) G f sz [.ref y] (fun v f' => v = none ∧ mdI G f' y 0 [] [] [] []) (7) (1944) := by
  refine cn_of (own := "TextDeskModel") (nm := "<init>") (ds := "()V") (by decide) (Nat.le_of_ble_eq_true rfl) ?_
  intro p e s m args below meth c ls X hnm hr hlk hs0 hz hw hl
  have hx := X.1
  have hb := X.2.1
  have hl : lv_has ls 1 [(0, .ref y)] := hl
  refine lv_aload_n hx hb d_MD_init_0 rfl (lv_at hl 0 rfl) ?_
  refine di_obj X hl.1 mw_645 (Nat.le_of_ble_eq_true rfl) (Nat.le_of_ble_eq_true rfl) d_MD_init_1 ?_
  refine lv_aload_n hx hb d_MD_init_4 rfl (lv_at hl 0 rfl) ?_
  refine lv_bipush (v := iI (24)) hx hb d_MD_init_5 rfl ?_
  refine na_int X hw (N := 24) (rfl) (by omega) (by show 0 + 1 ≤ 7; omega) (by show 0 + 24 ≤ 1944; omega) d_MD_init_7 (fun si H hq_si hw => ?_)
  obtain ⟨f1, e_f1⟩ : ∃ g9 : dw_M, g9 = dw_up f si (.inl (G.2.1 0, 24, .inl (fun _ => iI 0))) := ⟨_, rfl⟩
  rw [← e_f1] at hw
  have k_f1_y : f1 y = some (.inr (6, [.int (iI 0), .int (iI 0), .null, .null, .int (iI 0), .null, .int (iI 0), .null, .int (iI 0), .null, .int (iI 0), .null, .int (iI 0), .null])) := by rw [e_f1]; exact dw_keep h0 (dw_neN h0 hq_si)
  have k_f1_si : f1 si = some (.inl (G.2.1 0, 24, .inl (fun _ => iI 0))) := by rw [e_f1]; exact dw_up_self _ _ _
  refine pf_MD_7_MD X hnm hw k_f1_y (rfl) (rfl) d_MD_init_9 (fun H locs hw => ?_)
  obtain ⟨f2, e_f2⟩ : ∃ g9 : dw_M, g9 = dw_up f1 y (.inr (6, [.int (iI 0), .int (iI 0), .ref si, .null, .int (iI 0), .null, .int (iI 0), .null, .int (iI 0), .null, .int (iI 0), .null, .int (iI 0), .null])) := ⟨_, rfl⟩
  rw [← e_f2] at hw
  have k_f2_si : f2 si = some (.inl (G.2.1 0, 24, .inl (fun _ => iI 0))) := by rw [e_f2]; exact dw_keep k_f1_si (dw_ne k_f1_si k_f1_y (by simp))
  have k_f2_y : f2 y = some (.inr (6, [.int (iI 0), .int (iI 0), .ref si, .null, .int (iI 0), .null, .int (iI 0), .null, .int (iI 0), .null, .int (iI 0), .null, .int (iI 0), .null])) := by rw [e_f2]; exact dw_up_self _ _ _
  refine lv_aload_n hx hb d_MD_init_12 rfl (lv_at hl 0 rfl) ?_
  refine lv_sipush (v := iI (1440)) hx hb d_MD_init_13 rfl ?_
  refine na_int X hw (N := 1440) (rfl) (by omega) (by show 0 + 1 + 1 ≤ 7; omega) (by show 0 + 24 + 1440 ≤ 1944; omega) d_MD_init_16 (fun un H hq_un hw => ?_)
  obtain ⟨f3, e_f3⟩ : ∃ g9 : dw_M, g9 = dw_up f2 un (.inl (G.2.1 0, 1440, .inl (fun _ => iI 0))) := ⟨_, rfl⟩
  rw [← e_f3] at hw
  have k_f3_y : f3 y = some (.inr (6, [.int (iI 0), .int (iI 0), .ref si, .null, .int (iI 0), .null, .int (iI 0), .null, .int (iI 0), .null, .int (iI 0), .null, .int (iI 0), .null])) := by rw [e_f3]; exact dw_keep k_f2_y (dw_neN k_f2_y hq_un)
  have k_f3_si : f3 si = some (.inl (G.2.1 0, 24, .inl (fun _ => iI 0))) := by rw [e_f3]; exact dw_keep k_f2_si (dw_neN k_f2_si hq_un)
  have k_f3_un : f3 un = some (.inl (G.2.1 0, 1440, .inl (fun _ => iI 0))) := by rw [e_f3]; exact dw_up_self _ _ _
  refine pf_MD_13_MD X hnm hw k_f3_y (rfl) (rfl) d_MD_init_18 (fun H locs hw => ?_)
  obtain ⟨f4, e_f4⟩ : ∃ g9 : dw_M, g9 = dw_up f3 y (.inr (6, [.int (iI 0), .int (iI 0), .ref si, .ref un, .int (iI 0), .null, .int (iI 0), .null, .int (iI 0), .null, .int (iI 0), .null, .int (iI 0), .null])) := ⟨_, rfl⟩
  rw [← e_f4] at hw
  have k_f4_si : f4 si = some (.inl (G.2.1 0, 24, .inl (fun _ => iI 0))) := by rw [e_f4]; exact dw_keep k_f3_si (dw_ne k_f3_si k_f3_y (by simp))
  have k_f4_un : f4 un = some (.inl (G.2.1 0, 1440, .inl (fun _ => iI 0))) := by rw [e_f4]; exact dw_keep k_f3_un (dw_ne k_f3_un k_f3_y (by simp))
  have k_f4_y : f4 y = some (.inr (6, [.int (iI 0), .int (iI 0), .ref si, .ref un, .int (iI 0), .null, .int (iI 0), .null, .int (iI 0), .null, .int (iI 0), .null, .int (iI 0), .null])) := by rw [e_f4]; exact dw_up_self _ _ _
  refine lv_aload_n hx hb d_MD_init_21 rfl (lv_at hl 0 rfl) ?_
  refine lv_bipush (v := iI (60)) hx hb d_MD_init_22 rfl ?_
  refine na_int X hw (N := 60) (rfl) (by omega) (by show 0 + 1 + 1 + 1 ≤ 7; omega) (by show 0 + 24 + 1440 + 60 ≤ 1944; omega) d_MD_init_24 (fun bu H hq_bu hw => ?_)
  obtain ⟨f5, e_f5⟩ : ∃ g9 : dw_M, g9 = dw_up f4 bu (.inl (G.2.1 0, 60, .inl (fun _ => iI 0))) := ⟨_, rfl⟩
  rw [← e_f5] at hw
  have k_f5_y : f5 y = some (.inr (6, [.int (iI 0), .int (iI 0), .ref si, .ref un, .int (iI 0), .null, .int (iI 0), .null, .int (iI 0), .null, .int (iI 0), .null, .int (iI 0), .null])) := by rw [e_f5]; exact dw_keep k_f4_y (dw_neN k_f4_y hq_bu)
  have k_f5_si : f5 si = some (.inl (G.2.1 0, 24, .inl (fun _ => iI 0))) := by rw [e_f5]; exact dw_keep k_f4_si (dw_neN k_f4_si hq_bu)
  have k_f5_un : f5 un = some (.inl (G.2.1 0, 1440, .inl (fun _ => iI 0))) := by rw [e_f5]; exact dw_keep k_f4_un (dw_neN k_f4_un hq_bu)
  have k_f5_bu : f5 bu = some (.inl (G.2.1 0, 60, .inl (fun _ => iI 0))) := by rw [e_f5]; exact dw_up_self _ _ _
  refine pf_MD_16_MD X hnm hw k_f5_y (rfl) (rfl) d_MD_init_26 (fun H locs hw => ?_)
  obtain ⟨f6, e_f6⟩ : ∃ g9 : dw_M, g9 = dw_up f5 y (.inr (6, [.int (iI 0), .int (iI 0), .ref si, .ref un, .int (iI 0), .ref bu, .int (iI 0), .null, .int (iI 0), .null, .int (iI 0), .null, .int (iI 0), .null])) := ⟨_, rfl⟩
  rw [← e_f6] at hw
  have k_f6_si : f6 si = some (.inl (G.2.1 0, 24, .inl (fun _ => iI 0))) := by rw [e_f6]; exact dw_keep k_f5_si (dw_ne k_f5_si k_f5_y (by simp))
  have k_f6_un : f6 un = some (.inl (G.2.1 0, 1440, .inl (fun _ => iI 0))) := by rw [e_f6]; exact dw_keep k_f5_un (dw_ne k_f5_un k_f5_y (by simp))
  have k_f6_bu : f6 bu = some (.inl (G.2.1 0, 60, .inl (fun _ => iI 0))) := by rw [e_f6]; exact dw_keep k_f5_bu (dw_ne k_f5_bu k_f5_y (by simp))
  have k_f6_y : f6 y = some (.inr (6, [.int (iI 0), .int (iI 0), .ref si, .ref un, .int (iI 0), .ref bu, .int (iI 0), .null, .int (iI 0), .null, .int (iI 0), .null, .int (iI 0), .null])) := by rw [e_f6]; exact dw_up_self _ _ _
  refine lv_aload_n hx hb d_MD_init_29 rfl (lv_at hl 0 rfl) ?_
  refine lv_sipush (v := iI (200)) hx hb d_MD_init_30 rfl ?_
  refine na_int X hw (N := 200) (rfl) (by omega) (by show 0 + 1 + 1 + 1 + 1 ≤ 7; omega) (by show 0 + 24 + 1440 + 60 + 200 ≤ 1944; omega) d_MD_init_33 (fun ma H hq_ma hw => ?_)
  obtain ⟨f7, e_f7⟩ : ∃ g9 : dw_M, g9 = dw_up f6 ma (.inl (G.2.1 0, 200, .inl (fun _ => iI 0))) := ⟨_, rfl⟩
  rw [← e_f7] at hw
  have k_f7_y : f7 y = some (.inr (6, [.int (iI 0), .int (iI 0), .ref si, .ref un, .int (iI 0), .ref bu, .int (iI 0), .null, .int (iI 0), .null, .int (iI 0), .null, .int (iI 0), .null])) := by rw [e_f7]; exact dw_keep k_f6_y (dw_neN k_f6_y hq_ma)
  have k_f7_si : f7 si = some (.inl (G.2.1 0, 24, .inl (fun _ => iI 0))) := by rw [e_f7]; exact dw_keep k_f6_si (dw_neN k_f6_si hq_ma)
  have k_f7_un : f7 un = some (.inl (G.2.1 0, 1440, .inl (fun _ => iI 0))) := by rw [e_f7]; exact dw_keep k_f6_un (dw_neN k_f6_un hq_ma)
  have k_f7_bu : f7 bu = some (.inl (G.2.1 0, 60, .inl (fun _ => iI 0))) := by rw [e_f7]; exact dw_keep k_f6_bu (dw_neN k_f6_bu hq_ma)
  have k_f7_ma : f7 ma = some (.inl (G.2.1 0, 200, .inl (fun _ => iI 0))) := by rw [e_f7]; exact dw_up_self _ _ _
  refine pf_MD_19_MD X hnm hw k_f7_y (rfl) (rfl) d_MD_init_35 (fun H locs hw => ?_)
  obtain ⟨f8, e_f8⟩ : ∃ g9 : dw_M, g9 = dw_up f7 y (.inr (6, [.int (iI 0), .int (iI 0), .ref si, .ref un, .int (iI 0), .ref bu, .int (iI 0), .ref ma, .int (iI 0), .null, .int (iI 0), .null, .int (iI 0), .null])) := ⟨_, rfl⟩
  rw [← e_f8] at hw
  have k_f8_si : f8 si = some (.inl (G.2.1 0, 24, .inl (fun _ => iI 0))) := by rw [e_f8]; exact dw_keep k_f7_si (dw_ne k_f7_si k_f7_y (by simp))
  have k_f8_un : f8 un = some (.inl (G.2.1 0, 1440, .inl (fun _ => iI 0))) := by rw [e_f8]; exact dw_keep k_f7_un (dw_ne k_f7_un k_f7_y (by simp))
  have k_f8_bu : f8 bu = some (.inl (G.2.1 0, 60, .inl (fun _ => iI 0))) := by rw [e_f8]; exact dw_keep k_f7_bu (dw_ne k_f7_bu k_f7_y (by simp))
  have k_f8_ma : f8 ma = some (.inl (G.2.1 0, 200, .inl (fun _ => iI 0))) := by rw [e_f8]; exact dw_keep k_f7_ma (dw_ne k_f7_ma k_f7_y (by simp))
  have k_f8_y : f8 y = some (.inr (6, [.int (iI 0), .int (iI 0), .ref si, .ref un, .int (iI 0), .ref bu, .int (iI 0), .ref ma, .int (iI 0), .null, .int (iI 0), .null, .int (iI 0), .null])) := by rw [e_f8]; exact dw_up_self _ _ _
  refine lv_aload_n hx hb d_MD_init_38 rfl (lv_at hl 0 rfl) ?_
  refine lv_sipush (v := iI (200)) hx hb d_MD_init_39 rfl ?_
  have ne_mb := k_f8_ma
  refine na_int X hw (N := 200) (rfl) (by omega) (by show 0 + 1 + 1 + 1 + 1 + 1 ≤ 7; omega) (by show 0 + 24 + 1440 + 60 + 200 + 200 ≤ 1944; omega) d_MD_init_42 (fun bt H hq_bt hw => ?_)
  obtain ⟨f9, e_f9⟩ : ∃ g9 : dw_M, g9 = dw_up f8 bt (.inl (G.2.1 0, 200, .inl (fun _ => iI 0))) := ⟨_, rfl⟩
  rw [← e_f9] at hw
  have k_f9_y : f9 y = some (.inr (6, [.int (iI 0), .int (iI 0), .ref si, .ref un, .int (iI 0), .ref bu, .int (iI 0), .ref ma, .int (iI 0), .null, .int (iI 0), .null, .int (iI 0), .null])) := by rw [e_f9]; exact dw_keep k_f8_y (dw_neN k_f8_y hq_bt)
  have k_f9_si : f9 si = some (.inl (G.2.1 0, 24, .inl (fun _ => iI 0))) := by rw [e_f9]; exact dw_keep k_f8_si (dw_neN k_f8_si hq_bt)
  have k_f9_un : f9 un = some (.inl (G.2.1 0, 1440, .inl (fun _ => iI 0))) := by rw [e_f9]; exact dw_keep k_f8_un (dw_neN k_f8_un hq_bt)
  have k_f9_bu : f9 bu = some (.inl (G.2.1 0, 60, .inl (fun _ => iI 0))) := by rw [e_f9]; exact dw_keep k_f8_bu (dw_neN k_f8_bu hq_bt)
  have k_f9_ma : f9 ma = some (.inl (G.2.1 0, 200, .inl (fun _ => iI 0))) := by rw [e_f9]; exact dw_keep k_f8_ma (dw_neN k_f8_ma hq_bt)
  have k_f9_bt : f9 bt = some (.inl (G.2.1 0, 200, .inl (fun _ => iI 0))) := by rw [e_f9]; exact dw_up_self _ _ _
  have ne_ma_bt : ma ≠ bt := dw_neN ne_mb hq_bt
  refine pf_MD_22_MD X hnm hw k_f9_y (rfl) (rfl) d_MD_init_44 (fun H locs hw => ?_)
  obtain ⟨f10, e_f10⟩ : ∃ g9 : dw_M, g9 = dw_up f9 y (.inr (6, [.int (iI 0), .int (iI 0), .ref si, .ref un, .int (iI 0), .ref bu, .int (iI 0), .ref ma, .int (iI 0), .ref bt, .int (iI 0), .null, .int (iI 0), .null])) := ⟨_, rfl⟩
  rw [← e_f10] at hw
  have k_f10_si : f10 si = some (.inl (G.2.1 0, 24, .inl (fun _ => iI 0))) := by rw [e_f10]; exact dw_keep k_f9_si (dw_ne k_f9_si k_f9_y (by simp))
  have k_f10_un : f10 un = some (.inl (G.2.1 0, 1440, .inl (fun _ => iI 0))) := by rw [e_f10]; exact dw_keep k_f9_un (dw_ne k_f9_un k_f9_y (by simp))
  have k_f10_bu : f10 bu = some (.inl (G.2.1 0, 60, .inl (fun _ => iI 0))) := by rw [e_f10]; exact dw_keep k_f9_bu (dw_ne k_f9_bu k_f9_y (by simp))
  have k_f10_ma : f10 ma = some (.inl (G.2.1 0, 200, .inl (fun _ => iI 0))) := by rw [e_f10]; exact dw_keep k_f9_ma (dw_ne k_f9_ma k_f9_y (by simp))
  have k_f10_bt : f10 bt = some (.inl (G.2.1 0, 200, .inl (fun _ => iI 0))) := by rw [e_f10]; exact dw_keep k_f9_bt (dw_ne k_f9_bt k_f9_y (by simp))
  have k_f10_y : f10 y = some (.inr (6, [.int (iI 0), .int (iI 0), .ref si, .ref un, .int (iI 0), .ref bu, .int (iI 0), .ref ma, .int (iI 0), .ref bt, .int (iI 0), .null, .int (iI 0), .null])) := by rw [e_f10]; exact dw_up_self _ _ _
  refine lv_aload_n hx hb d_MD_init_47 rfl (lv_at hl 0 rfl) ?_
  refine lv_bipush (v := iI (16)) hx hb d_MD_init_48 rfl ?_
  refine na_int X hw (N := 16) (rfl) (by omega) (by show 0 + 1 + 1 + 1 + 1 + 1 + 1 ≤ 7; omega) (by show 0 + 24 + 1440 + 60 + 200 + 200 + 16 ≤ 1944; omega) d_MD_init_50 (fun so H hq_so hw => ?_)
  obtain ⟨f11, e_f11⟩ : ∃ g9 : dw_M, g9 = dw_up f10 so (.inl (G.2.1 0, 16, .inl (fun _ => iI 0))) := ⟨_, rfl⟩
  rw [← e_f11] at hw
  have k_f11_y : f11 y = some (.inr (6, [.int (iI 0), .int (iI 0), .ref si, .ref un, .int (iI 0), .ref bu, .int (iI 0), .ref ma, .int (iI 0), .ref bt, .int (iI 0), .null, .int (iI 0), .null])) := by rw [e_f11]; exact dw_keep k_f10_y (dw_neN k_f10_y hq_so)
  have k_f11_si : f11 si = some (.inl (G.2.1 0, 24, .inl (fun _ => iI 0))) := by rw [e_f11]; exact dw_keep k_f10_si (dw_neN k_f10_si hq_so)
  have k_f11_un : f11 un = some (.inl (G.2.1 0, 1440, .inl (fun _ => iI 0))) := by rw [e_f11]; exact dw_keep k_f10_un (dw_neN k_f10_un hq_so)
  have k_f11_bu : f11 bu = some (.inl (G.2.1 0, 60, .inl (fun _ => iI 0))) := by rw [e_f11]; exact dw_keep k_f10_bu (dw_neN k_f10_bu hq_so)
  have k_f11_ma : f11 ma = some (.inl (G.2.1 0, 200, .inl (fun _ => iI 0))) := by rw [e_f11]; exact dw_keep k_f10_ma (dw_neN k_f10_ma hq_so)
  have k_f11_bt : f11 bt = some (.inl (G.2.1 0, 200, .inl (fun _ => iI 0))) := by rw [e_f11]; exact dw_keep k_f10_bt (dw_neN k_f10_bt hq_so)
  have k_f11_so : f11 so = some (.inl (G.2.1 0, 16, .inl (fun _ => iI 0))) := by rw [e_f11]; exact dw_up_self _ _ _
  refine pf_MD_25_MD X hnm hw k_f11_y (rfl) (rfl) d_MD_init_52 (fun H locs hw => ?_)
  obtain ⟨f12, e_f12⟩ : ∃ g9 : dw_M, g9 = dw_up f11 y (.inr (6, [.int (iI 0), .int (iI 0), .ref si, .ref un, .int (iI 0), .ref bu, .int (iI 0), .ref ma, .int (iI 0), .ref bt, .int (iI 0), .ref so, .int (iI 0), .null])) := ⟨_, rfl⟩
  rw [← e_f12] at hw
  have k_f12_si : f12 si = some (.inl (G.2.1 0, 24, .inl (fun _ => iI 0))) := by rw [e_f12]; exact dw_keep k_f11_si (dw_ne k_f11_si k_f11_y (by simp))
  have k_f12_un : f12 un = some (.inl (G.2.1 0, 1440, .inl (fun _ => iI 0))) := by rw [e_f12]; exact dw_keep k_f11_un (dw_ne k_f11_un k_f11_y (by simp))
  have k_f12_bu : f12 bu = some (.inl (G.2.1 0, 60, .inl (fun _ => iI 0))) := by rw [e_f12]; exact dw_keep k_f11_bu (dw_ne k_f11_bu k_f11_y (by simp))
  have k_f12_ma : f12 ma = some (.inl (G.2.1 0, 200, .inl (fun _ => iI 0))) := by rw [e_f12]; exact dw_keep k_f11_ma (dw_ne k_f11_ma k_f11_y (by simp))
  have k_f12_bt : f12 bt = some (.inl (G.2.1 0, 200, .inl (fun _ => iI 0))) := by rw [e_f12]; exact dw_keep k_f11_bt (dw_ne k_f11_bt k_f11_y (by simp))
  have k_f12_so : f12 so = some (.inl (G.2.1 0, 16, .inl (fun _ => iI 0))) := by rw [e_f12]; exact dw_keep k_f11_so (dw_ne k_f11_so k_f11_y (by simp))
  have k_f12_y : f12 y = some (.inr (6, [.int (iI 0), .int (iI 0), .ref si, .ref un, .int (iI 0), .ref bu, .int (iI 0), .ref ma, .int (iI 0), .ref bt, .int (iI 0), .ref so, .int (iI 0), .null])) := by rw [e_f12]; exact dw_up_self _ _ _
  refine lv_aload_n hx hb d_MD_init_55 rfl (lv_at hl 0 rfl) ?_
  refine lv_iconst (v := iI (4)) hx hb d_MD_init_56 rfl ?_
  refine na_int X hw (N := 4) (rfl) (by omega) (by show 0 + 1 + 1 + 1 + 1 + 1 + 1 + 1 ≤ 7; omega) (by show 0 + 24 + 1440 + 60 + 200 + 200 + 16 + 4 ≤ 1944; omega) d_MD_init_57 (fun co H hq_co hw => ?_)
  obtain ⟨f13, e_f13⟩ : ∃ g9 : dw_M, g9 = dw_up f12 co (.inl (G.2.1 0, 4, .inl (fun _ => iI 0))) := ⟨_, rfl⟩
  rw [← e_f13] at hw
  have k_f13_y : f13 y = some (.inr (6, [.int (iI 0), .int (iI 0), .ref si, .ref un, .int (iI 0), .ref bu, .int (iI 0), .ref ma, .int (iI 0), .ref bt, .int (iI 0), .ref so, .int (iI 0), .null])) := by rw [e_f13]; exact dw_keep k_f12_y (dw_neN k_f12_y hq_co)
  have k_f13_si : f13 si = some (.inl (G.2.1 0, 24, .inl (fun _ => iI 0))) := by rw [e_f13]; exact dw_keep k_f12_si (dw_neN k_f12_si hq_co)
  have k_f13_un : f13 un = some (.inl (G.2.1 0, 1440, .inl (fun _ => iI 0))) := by rw [e_f13]; exact dw_keep k_f12_un (dw_neN k_f12_un hq_co)
  have k_f13_bu : f13 bu = some (.inl (G.2.1 0, 60, .inl (fun _ => iI 0))) := by rw [e_f13]; exact dw_keep k_f12_bu (dw_neN k_f12_bu hq_co)
  have k_f13_ma : f13 ma = some (.inl (G.2.1 0, 200, .inl (fun _ => iI 0))) := by rw [e_f13]; exact dw_keep k_f12_ma (dw_neN k_f12_ma hq_co)
  have k_f13_bt : f13 bt = some (.inl (G.2.1 0, 200, .inl (fun _ => iI 0))) := by rw [e_f13]; exact dw_keep k_f12_bt (dw_neN k_f12_bt hq_co)
  have k_f13_so : f13 so = some (.inl (G.2.1 0, 16, .inl (fun _ => iI 0))) := by rw [e_f13]; exact dw_keep k_f12_so (dw_neN k_f12_so hq_co)
  have k_f13_co : f13 co = some (.inl (G.2.1 0, 4, .inl (fun _ => iI 0))) := by rw [e_f13]; exact dw_up_self _ _ _
  refine pf_MD_28_MD X hnm hw k_f13_y (rfl) (rfl) d_MD_init_59 (fun H locs hw => ?_)
  obtain ⟨f14, e_f14⟩ : ∃ g9 : dw_M, g9 = dw_up f13 y (.inr (6, [.int (iI 0), .int (iI 0), .ref si, .ref un, .int (iI 0), .ref bu, .int (iI 0), .ref ma, .int (iI 0), .ref bt, .int (iI 0), .ref so, .int (iI 0), .ref co])) := ⟨_, rfl⟩
  rw [← e_f14] at hw
  have k_f14_si : f14 si = some (.inl (G.2.1 0, 24, .inl (fun _ => iI 0))) := by rw [e_f14]; exact dw_keep k_f13_si (dw_ne k_f13_si k_f13_y (by simp))
  have k_f14_un : f14 un = some (.inl (G.2.1 0, 1440, .inl (fun _ => iI 0))) := by rw [e_f14]; exact dw_keep k_f13_un (dw_ne k_f13_un k_f13_y (by simp))
  have k_f14_bu : f14 bu = some (.inl (G.2.1 0, 60, .inl (fun _ => iI 0))) := by rw [e_f14]; exact dw_keep k_f13_bu (dw_ne k_f13_bu k_f13_y (by simp))
  have k_f14_ma : f14 ma = some (.inl (G.2.1 0, 200, .inl (fun _ => iI 0))) := by rw [e_f14]; exact dw_keep k_f13_ma (dw_ne k_f13_ma k_f13_y (by simp))
  have k_f14_bt : f14 bt = some (.inl (G.2.1 0, 200, .inl (fun _ => iI 0))) := by rw [e_f14]; exact dw_keep k_f13_bt (dw_ne k_f13_bt k_f13_y (by simp))
  have k_f14_so : f14 so = some (.inl (G.2.1 0, 16, .inl (fun _ => iI 0))) := by rw [e_f14]; exact dw_keep k_f13_so (dw_ne k_f13_so k_f13_y (by simp))
  have k_f14_co : f14 co = some (.inl (G.2.1 0, 4, .inl (fun _ => iI 0))) := by rw [e_f14]; exact dw_keep k_f13_co (dw_ne k_f13_co k_f13_y (by simp))
  have k_f14_y : f14 y = some (.inr (6, [.int (iI 0), .int (iI 0), .ref si, .ref un, .int (iI 0), .ref bu, .int (iI 0), .ref ma, .int (iI 0), .ref bt, .int (iI 0), .ref so, .int (iI 0), .ref co])) := by rw [e_f14]; exact dw_up_self _ _ _
  exact cn_vret hx hb hr hlk hw  (⟨rfl, [], [], si, un, bu, ma, bt, so, co, _, _, _, _, _, _, _, ⟨k_f14_y, k_f14_si, k_f14_un, k_f14_bu, k_f14_ma, k_f14_bt, k_f14_so, k_f14_co, ne_ma_bt⟩, ⟨by simp, fun i hi => by simp at hi⟩, ⟨rA.nil _ _, mem_nil⟩, ⟨rA.nil _ _, mem_nil⟩, rM.nil _, rA.nil _ _, ⟨by simp, fun i hi => by simp at hi⟩⟩) (Nat.le_refl _) (Nat.le_refl _) d_MD_init_62
