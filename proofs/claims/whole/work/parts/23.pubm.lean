theorem mdP_of {G : ct_G} {f : dw_M} {y : Nat} {th a : Int} {T Y : List (List Int)} {B Z M C : List Int} (h : mdL G f y th T Y B Z M C) : mdP G f y (th, a, T, Y, B, Z) := ⟨M, C, h⟩
set_option maxRecDepth 100000 in
set_option maxHeartbeats 4000000 in
theorem c_MD_unit (l : Launch) (G : ct_G) (f : dw_M) (sz : Nat) (y : Nat) (th : Int) (T Y : List (List Int)) (B Z M C : List Int) (u : Int) (hu : iR u) (hL : mdL G f y th T Y B Z M C) : cn l y_MD_unit w_MD_unit (1) (21) G f sz [.ref y, .int (iI u)] (fun v f' => v = some (.int (iI (sp_unit T Y B Z u).2.1)) ∧ mdP G f' y (sp_unit T Y B Z u)) (0) (0) := by
  refine cn_of (own := "TextDeskModel") (nm := "unit") (ds := "(I)I") (by decide) (Nat.le_of_ble_eq_true rfl) ?_
  intro p e s m args below meth c ls X hnm hr hlk hs0 hz hw hl
  have hx := X.1
  have hb := X.2.1
  have hl : lv_has ls 2 [(0, .ref y), (1, .int (iI u))] := hl
  obtain ⟨si, un, bu, ma, bt, so, co, gsi, gun, gbu, gma, gbt, gso, gco, hM, hT, hB, hZ, hMa, hC, hY⟩ := id hL
  have hTl := hT.1
  have hBl := hB.1.1
  have hZl := hZ.1.1
  have hYl := hY.1
  have hCl := hC.1
  obtain ⟨hu0, hu1⟩ := hu
  have el : (((B ++ [u]).length : Nat) : Int) = (B.length : Int) + 1 := by simp
  refine lv_aload_n hx hb d_MD_unit_0 rfl (lv_at hl 0 rfl) ?_
  refine lv_iload_n hx hb d_MD_unit_1 rfl (lv_at hl 1 rfl) ?_
  refine lv_ldc (v := iI (65536)) hx hb X.own (X.hts _ mw_697) d_MD_unit_2 ?_
  refine cs_MD_61 X hz hw hl.1 (c_MD_out l G f _ u 65536 ⟨by omega, by omega⟩ ⟨by omega, by omega⟩) ⟨Nat.le_of_ble_eq_true rfl, Nat.le_of_ble_eq_true rfl⟩ ⟨by show 0 + 0 ≤ 0; omega, by show 0 + 0 ≤ 0; omega⟩ (Nat.le_of_ble_eq_true rfl) d_MD_unit_4 (fun v f9 H locs hp hw hsz9 hkp9 hdm9 => ?_)
  obtain ⟨rfl, hfe⟩ := hp
  rw [hfe] at hw
  refine W.eq (g2 := F0 m 7 ls [.int (iI (b2 (decide (u < 0 ∨ 65536 ≤ u)))), .ref y]) rfl ?_
  have hb1 := b2_01 (decide (u < 0 ∨ 65536 ≤ u))
  refine di_if_eq (tgt := 14) hx hb d_MD_unit_7 (by decide) ⟨by omega, by omega⟩ (fun bq7 => ?_) (fun bq7 => ?_)
  · have hu2 := of_decide_eq_false (b2_0 (by omega) : decide (u < 0 ∨ 65536 ≤ u) = false)
    refine lv_aload_n hx hb d_MD_unit_14 rfl (lv_at hl 0 rfl) ?_
    refine gf_MD_68_MD X hw hM.1 d_MD_unit_15 ?_
    refine lv_bipush (v := iI (60)) hx hb d_MD_unit_18 rfl ?_
    refine di_icmp_ne (tgt := 27) hx hb d_MD_unit_20 (by decide) ⟨by omega, by omega⟩ ⟨by omega, by omega⟩ (fun bq20 => ?_) (fun bq20 => ?_)
    · refine lv_iconst (v := iI (0)) hx hb d_MD_unit_27 rfl ?_
      refine pf_MD_31_MD X hw hM.1 rfl rfl d_MD_unit_28 (fun H locs hw => ?_)
      obtain ⟨f1, e_f1⟩ : ∃ g9 : dw_M, g9 = dw_up f y (.inr (6, [.int (iI 0), .int (iI ((T.length : Int))), .ref si, .ref un, .int (iI ((B.length : Int))), .ref bu, .int (iI ((M.length : Int))), .ref ma, .int (iI ((Z.length : Int))), .ref bt, .int (iI ((Y.length : Int))), .ref so, .int (iI ((C.length : Int))), .ref co])) := ⟨_, rfl⟩
      rw [← e_f1] at hw
      have hM_f1 : mdS G f1 y 0 (T.length : Int) (B.length : Int) (M.length : Int) (Z.length : Int) (Y.length : Int) (C.length : Int) si un bu ma bt so co gsi gun gbu gma gbt gso gco := by rw [e_f1]; exact hM.obj 0 (T.length : Int) (B.length : Int) (M.length : Int) (Z.length : Int) (Y.length : Int) (C.length : Int)
      refine lv_aload_n hx hb d_MD_unit_31 rfl (lv_at hl 0 rfl) ?_
      refine gf_MD_31_MD X hw hM_f1.1 d_MD_unit_32 ?_
      refine di_if_le (tgt := 40) hx hb d_MD_unit_35 (by decide) ⟨by decide, by decide⟩ (fun _ => ?_) (fun q9 => absurd q9 (by decide))
      refine lv_aload_n hx hb d_MD_unit_40 rfl (lv_at hl 0 rfl) ?_
      refine gf_MD_16_MD X hw hM_f1.1 d_MD_unit_41 ?_
      refine lv_aload_n hx hb d_MD_unit_44 rfl (lv_at hl 0 rfl) ?_
      refine gf_MD_68_MD X hw hM_f1.1 d_MD_unit_45 ?_
      refine lv_iload_n hx hb d_MD_unit_48 rfl (lv_at hl 1 rfl) ?_
      refine dw_iast hx hb X.K hw 0 hM_f1.2.2.2.1 rfl (i := (B.length : Int)) (by omega) (by omega) (by omega) d_MD_unit_49 (fun H locs hw => ?_)
      obtain ⟨f2, e_f2⟩ : ∃ g9 : dw_M, g9 = dw_up f1 bu (.inl (G.2.1 0, 60, .inl (upd gbu ((B.length : Int)).toNat (iI (u))))) := ⟨_, rfl⟩
      rw [← e_f2] at hw
      have hM_f2 : mdS G f2 y 0 (T.length : Int) (B.length : Int) (M.length : Int) (Z.length : Int) (Y.length : Int) (C.length : Int) si un bu ma bt so co gsi gun (upd gbu ((B.length : Int)).toNat (iI (u))) gma gbt gso gco := by rw [e_f2]; exact hM_f1.w_bu _
      refine lv_aload_n hx hb d_MD_unit_50 rfl (lv_at hl 0 rfl) ?_
      refine lv_dup hx hb d_MD_unit_51 rfl ?_
      refine gf_MD_68_MD X hw hM_f2.1 d_MD_unit_52 ?_
      refine lv_iconst (v := iI (1)) hx hb d_MD_unit_55 rfl ?_
      refine di_add hx hb d_MD_unit_56 ?_
      refine pf_MD_68_MD X hw hM_f2.1 rfl rfl d_MD_unit_57 (fun H locs hw => ?_)
      obtain ⟨f3, e_f3⟩ : ∃ g9 : dw_M, g9 = dw_up f2 y (.inr (6, [.int (iI 0), .int (iI ((T.length : Int))), .ref si, .ref un, .int (iI ((B.length : Int) + 1)), .ref bu, .int (iI ((M.length : Int))), .ref ma, .int (iI ((Z.length : Int))), .ref bt, .int (iI ((Y.length : Int))), .ref so, .int (iI ((C.length : Int))), .ref co])) := ⟨_, rfl⟩
      rw [← e_f3] at hw
      have hM_f3 : mdS G f3 y 0 (T.length : Int) ((B.length : Int) + 1) (M.length : Int) (Z.length : Int) (Y.length : Int) (C.length : Int) si un bu ma bt so co gsi gun (upd gbu ((B.length : Int)).toNat (iI (u))) gma gbt gso gco := by rw [e_f3]; exact hM_f2.obj 0 (T.length : Int) ((B.length : Int) + 1) (M.length : Int) (Z.length : Int) (Y.length : Int) (C.length : Int)
      refine lv_aload_n hx hb d_MD_unit_60 rfl (lv_at hl 0 rfl) ?_
      refine gf_MD_68_MD X hw hM_f3.1 d_MD_unit_61 ?_
      have e9 : sp_unit T Y B Z u = (0, (B.length : Int) + 1, T, Y, B ++ [u], Z) := by rw [sp_unit, if_neg (by omega), if_neg (by omega)]
      exact cn_iret hx hb hr hlk hw  (⟨by rw [e9], by rw [e9]; exact mdP_of (M := M) (C := C) ⟨si, un, bu, ma, bt, so, co, _, _, _, _, _, _, _, (by rw [el]; exact hM_f3), hT, ⟨by rw [Int.toNat_natCast]; exact hB.1.snoc (by omega) u, mem_app hB.2 (mem_one (by omega))⟩, hZ, hMa, hC, hY⟩⟩) (Nat.le_refl _) (Nat.le_refl _) d_MD_unit_64
    · refine lv_iconst (v := iI (2)) hx hb d_MD_unit_23 rfl ?_
      refine lv_goto (tgt := 28) hx hb d_MD_unit_24 (by decide) ?_
      refine pf_MD_31_MD X hw hM.1 rfl rfl d_MD_unit_28 (fun H locs hw => ?_)
      obtain ⟨f4, e_f4⟩ : ∃ g9 : dw_M, g9 = dw_up f y (.inr (6, [.int (iI 2), .int (iI ((T.length : Int))), .ref si, .ref un, .int (iI ((B.length : Int))), .ref bu, .int (iI ((M.length : Int))), .ref ma, .int (iI ((Z.length : Int))), .ref bt, .int (iI ((Y.length : Int))), .ref so, .int (iI ((C.length : Int))), .ref co])) := ⟨_, rfl⟩
      rw [← e_f4] at hw
      have hM_f4 : mdS G f4 y 2 (T.length : Int) (B.length : Int) (M.length : Int) (Z.length : Int) (Y.length : Int) (C.length : Int) si un bu ma bt so co gsi gun gbu gma gbt gso gco := by rw [e_f4]; exact hM.obj 2 (T.length : Int) (B.length : Int) (M.length : Int) (Z.length : Int) (Y.length : Int) (C.length : Int)
      refine lv_aload_n hx hb d_MD_unit_31 rfl (lv_at hl 0 rfl) ?_
      refine gf_MD_31_MD X hw hM_f4.1 d_MD_unit_32 ?_
      refine di_if_le (tgt := 40) hx hb d_MD_unit_35 (by decide) ⟨by decide, by decide⟩ (fun q9 => absurd q9 (by decide)) (fun _ => ?_)
      refine lv_iconst (v := iI (0)) hx hb d_MD_unit_38 rfl ?_
      have e9 : sp_unit T Y B Z u = (2, 0, T, Y, B, Z) := by rw [sp_unit, if_neg (by omega), if_pos (by omega)]
      exact cn_iret hx hb hr hlk hw  (⟨by rw [e9], by rw [e9]; exact mdP_of (M := M) (C := C) ⟨si, un, bu, ma, bt, so, co, _, _, _, _, _, _, _, hM_f4, hT, hB, hZ, hMa, hC, hY⟩⟩) (Nat.le_refl _) (Nat.le_refl _) d_MD_unit_39
  · have hu2 := of_decide_eq_true (b2_1 (by omega) : decide (u < 0 ∨ 65536 ≤ u) = true)
    refine lv_iconst (v := iI (1)) hx hb d_MD_unit_10 rfl ?_
    refine lv_goto (tgt := 28) hx hb d_MD_unit_11 (by decide) ?_
    refine pf_MD_31_MD X hw hM.1 rfl rfl d_MD_unit_28 (fun H locs hw => ?_)
    obtain ⟨f5, e_f5⟩ : ∃ g9 : dw_M, g9 = dw_up f y (.inr (6, [.int (iI 1), .int (iI ((T.length : Int))), .ref si, .ref un, .int (iI ((B.length : Int))), .ref bu, .int (iI ((M.length : Int))), .ref ma, .int (iI ((Z.length : Int))), .ref bt, .int (iI ((Y.length : Int))), .ref so, .int (iI ((C.length : Int))), .ref co])) := ⟨_, rfl⟩
    rw [← e_f5] at hw
    have hM_f5 : mdS G f5 y 1 (T.length : Int) (B.length : Int) (M.length : Int) (Z.length : Int) (Y.length : Int) (C.length : Int) si un bu ma bt so co gsi gun gbu gma gbt gso gco := by rw [e_f5]; exact hM.obj 1 (T.length : Int) (B.length : Int) (M.length : Int) (Z.length : Int) (Y.length : Int) (C.length : Int)
    refine lv_aload_n hx hb d_MD_unit_31 rfl (lv_at hl 0 rfl) ?_
    refine gf_MD_31_MD X hw hM_f5.1 d_MD_unit_32 ?_
    refine di_if_le (tgt := 40) hx hb d_MD_unit_35 (by decide) ⟨by decide, by decide⟩ (fun q9 => absurd q9 (by decide)) (fun _ => ?_)
    refine lv_iconst (v := iI (0)) hx hb d_MD_unit_38 rfl ?_
    have e9 : sp_unit T Y B Z u = (1, 0, T, Y, B, Z) := by rw [sp_unit, if_pos (by omega)]
    exact cn_iret hx hb hr hlk hw  (⟨by rw [e9], by rw [e9]; exact mdP_of (M := M) (C := C) ⟨si, un, bu, ma, bt, so, co, _, _, _, _, _, _, _, hM_f5, hT, hB, hZ, hMa, hC, hY⟩⟩) (Nat.le_refl _) (Nat.le_refl _) d_MD_unit_39
set_option maxRecDepth 100000 in
set_option maxHeartbeats 4000000 in
theorem c_MD_type (l : Launch) (G : ct_G) (f : dw_M) (sz : Nat) (y : Nat) (th : Int) (T Y : List (List Int)) (B Z M C : List Int) (u : Int) (hu : iR u) (hL : mdL G f y th T Y B Z M C) : cn l y_MD_type w_MD_type (1) (21) G f sz [.ref y, .int (iI u)] (fun v f' => v = some (.int (iI (sp_type T Y B Z u).2.1)) ∧ mdP G f' y (sp_type T Y B Z u)) (0) (0) := by
  refine cn_of (own := "TextDeskModel") (nm := "type") (ds := "(I)I") (by decide) (Nat.le_of_ble_eq_true rfl) ?_
  intro p e s m args below meth c ls X hnm hr hlk hs0 hz hw hl
  have hx := X.1
  have hb := X.2.1
  have hl : lv_has ls 2 [(0, .ref y), (1, .int (iI u))] := hl
  obtain ⟨si, un, bu, ma, bt, so, co, gsi, gun, gbu, gma, gbt, gso, gco, hM, hT, hB, hZ, hMa, hC, hY⟩ := id hL
  have hTl := hT.1
  have hBl := hB.1.1
  have hZl := hZ.1.1
  have hYl := hY.1
  have hCl := hC.1
  obtain ⟨hu0, hu1⟩ := hu
  have el : (((Z ++ [u]).length : Nat) : Int) = (Z.length : Int) + 1 := by simp
  refine lv_aload_n hx hb d_MD_type_0 rfl (lv_at hl 0 rfl) ?_
  refine lv_iload_n hx hb d_MD_type_1 rfl (lv_at hl 1 rfl) ?_
  refine lv_sipush (v := iI (256)) hx hb d_MD_type_2 rfl ?_
  refine cs_MD_61 X hz hw hl.1 (c_MD_out l G f _ u 256 ⟨by omega, by omega⟩ ⟨by omega, by omega⟩) ⟨Nat.le_of_ble_eq_true rfl, Nat.le_of_ble_eq_true rfl⟩ ⟨by show 0 + 0 ≤ 0; omega, by show 0 + 0 ≤ 0; omega⟩ (Nat.le_of_ble_eq_true rfl) d_MD_type_5 (fun v f9 H locs hp hw hsz9 hkp9 hdm9 => ?_)
  obtain ⟨rfl, hfe⟩ := hp
  rw [hfe] at hw
  refine W.eq (g2 := F0 m 8 ls [.int (iI (b2 (decide (u < 0 ∨ 256 ≤ u)))), .ref y]) rfl ?_
  have hb1 := b2_01 (decide (u < 0 ∨ 256 ≤ u))
  refine di_if_eq (tgt := 15) hx hb d_MD_type_8 (by decide) ⟨by omega, by omega⟩ (fun bq8 => ?_) (fun bq8 => ?_)
  · have hu2 := of_decide_eq_false (b2_0 (by omega) : decide (u < 0 ∨ 256 ≤ u) = false)
    refine lv_aload_n hx hb d_MD_type_15 rfl (lv_at hl 0 rfl) ?_
    refine gf_MD_112_MD X hw hM.1 d_MD_type_16 ?_
    refine lv_sipush (v := iI (200)) hx hb d_MD_type_19 rfl ?_
    refine di_icmp_ne (tgt := 29) hx hb d_MD_type_22 (by decide) ⟨by omega, by omega⟩ ⟨by omega, by omega⟩ (fun bq22 => ?_) (fun bq22 => ?_)
    · refine lv_iconst (v := iI (0)) hx hb d_MD_type_29 rfl ?_
      refine pf_MD_31_MD X hw hM.1 rfl rfl d_MD_type_30 (fun H locs hw => ?_)
      obtain ⟨f1, e_f1⟩ : ∃ g9 : dw_M, g9 = dw_up f y (.inr (6, [.int (iI 0), .int (iI ((T.length : Int))), .ref si, .ref un, .int (iI ((B.length : Int))), .ref bu, .int (iI ((M.length : Int))), .ref ma, .int (iI ((Z.length : Int))), .ref bt, .int (iI ((Y.length : Int))), .ref so, .int (iI ((C.length : Int))), .ref co])) := ⟨_, rfl⟩
      rw [← e_f1] at hw
      have hM_f1 : mdS G f1 y 0 (T.length : Int) (B.length : Int) (M.length : Int) (Z.length : Int) (Y.length : Int) (C.length : Int) si un bu ma bt so co gsi gun gbu gma gbt gso gco := by rw [e_f1]; exact hM.obj 0 (T.length : Int) (B.length : Int) (M.length : Int) (Z.length : Int) (Y.length : Int) (C.length : Int)
      refine lv_aload_n hx hb d_MD_type_33 rfl (lv_at hl 0 rfl) ?_
      refine gf_MD_31_MD X hw hM_f1.1 d_MD_type_34 ?_
      refine di_if_le (tgt := 42) hx hb d_MD_type_37 (by decide) ⟨by decide, by decide⟩ (fun _ => ?_) (fun q9 => absurd q9 (by decide))
      refine lv_aload_n hx hb d_MD_type_42 rfl (lv_at hl 0 rfl) ?_
      refine gf_MD_22_MD X hw hM_f1.1 d_MD_type_43 ?_
      refine lv_aload_n hx hb d_MD_type_46 rfl (lv_at hl 0 rfl) ?_
      refine gf_MD_112_MD X hw hM_f1.1 d_MD_type_47 ?_
      refine lv_iload_n hx hb d_MD_type_50 rfl (lv_at hl 1 rfl) ?_
      refine dw_iast hx hb X.K hw 0 hM_f1.2.2.2.2.2.1 rfl (i := (Z.length : Int)) (by omega) (by omega) (by omega) d_MD_type_51 (fun H locs hw => ?_)
      obtain ⟨f2, e_f2⟩ : ∃ g9 : dw_M, g9 = dw_up f1 bt (.inl (G.2.1 0, 200, .inl (upd gbt ((Z.length : Int)).toNat (iI (u))))) := ⟨_, rfl⟩
      rw [← e_f2] at hw
      have hM_f2 : mdS G f2 y 0 (T.length : Int) (B.length : Int) (M.length : Int) (Z.length : Int) (Y.length : Int) (C.length : Int) si un bu ma bt so co gsi gun gbu gma (upd gbt ((Z.length : Int)).toNat (iI (u))) gso gco := by rw [e_f2]; exact hM_f1.w_bt _
      refine lv_aload_n hx hb d_MD_type_52 rfl (lv_at hl 0 rfl) ?_
      refine lv_dup hx hb d_MD_type_53 rfl ?_
      refine gf_MD_112_MD X hw hM_f2.1 d_MD_type_54 ?_
      refine lv_iconst (v := iI (1)) hx hb d_MD_type_57 rfl ?_
      refine di_add hx hb d_MD_type_58 ?_
      refine pf_MD_112_MD X hw hM_f2.1 rfl rfl d_MD_type_59 (fun H locs hw => ?_)
      obtain ⟨f3, e_f3⟩ : ∃ g9 : dw_M, g9 = dw_up f2 y (.inr (6, [.int (iI 0), .int (iI ((T.length : Int))), .ref si, .ref un, .int (iI ((B.length : Int))), .ref bu, .int (iI ((M.length : Int))), .ref ma, .int (iI ((Z.length : Int) + 1)), .ref bt, .int (iI ((Y.length : Int))), .ref so, .int (iI ((C.length : Int))), .ref co])) := ⟨_, rfl⟩
      rw [← e_f3] at hw
      have hM_f3 : mdS G f3 y 0 (T.length : Int) (B.length : Int) (M.length : Int) ((Z.length : Int) + 1) (Y.length : Int) (C.length : Int) si un bu ma bt so co gsi gun gbu gma (upd gbt ((Z.length : Int)).toNat (iI (u))) gso gco := by rw [e_f3]; exact hM_f2.obj 0 (T.length : Int) (B.length : Int) (M.length : Int) ((Z.length : Int) + 1) (Y.length : Int) (C.length : Int)
      refine lv_aload_n hx hb d_MD_type_62 rfl (lv_at hl 0 rfl) ?_
      refine gf_MD_112_MD X hw hM_f3.1 d_MD_type_63 ?_
      have e9 : sp_type T Y B Z u = (0, (Z.length : Int) + 1, T, Y, B, Z ++ [u]) := by rw [sp_type, if_neg (by omega), if_neg (by omega)]
      exact cn_iret hx hb hr hlk hw  (⟨by rw [e9], by rw [e9]; exact mdP_of (M := M) (C := C) ⟨si, un, bu, ma, bt, so, co, _, _, _, _, _, _, _, (by rw [el]; exact hM_f3), hT, hB, ⟨by rw [Int.toNat_natCast]; exact hZ.1.snoc (by omega) u, mem_app hZ.2 (mem_one (by omega))⟩, hMa, hC, hY⟩⟩) (Nat.le_refl _) (Nat.le_refl _) d_MD_type_66
    · refine lv_iconst (v := iI (2)) hx hb d_MD_type_25 rfl ?_
      refine lv_goto (tgt := 30) hx hb d_MD_type_26 (by decide) ?_
      refine pf_MD_31_MD X hw hM.1 rfl rfl d_MD_type_30 (fun H locs hw => ?_)
      obtain ⟨f4, e_f4⟩ : ∃ g9 : dw_M, g9 = dw_up f y (.inr (6, [.int (iI 2), .int (iI ((T.length : Int))), .ref si, .ref un, .int (iI ((B.length : Int))), .ref bu, .int (iI ((M.length : Int))), .ref ma, .int (iI ((Z.length : Int))), .ref bt, .int (iI ((Y.length : Int))), .ref so, .int (iI ((C.length : Int))), .ref co])) := ⟨_, rfl⟩
      rw [← e_f4] at hw
      have hM_f4 : mdS G f4 y 2 (T.length : Int) (B.length : Int) (M.length : Int) (Z.length : Int) (Y.length : Int) (C.length : Int) si un bu ma bt so co gsi gun gbu gma gbt gso gco := by rw [e_f4]; exact hM.obj 2 (T.length : Int) (B.length : Int) (M.length : Int) (Z.length : Int) (Y.length : Int) (C.length : Int)
      refine lv_aload_n hx hb d_MD_type_33 rfl (lv_at hl 0 rfl) ?_
      refine gf_MD_31_MD X hw hM_f4.1 d_MD_type_34 ?_
      refine di_if_le (tgt := 42) hx hb d_MD_type_37 (by decide) ⟨by decide, by decide⟩ (fun q9 => absurd q9 (by decide)) (fun _ => ?_)
      refine lv_iconst (v := iI (0)) hx hb d_MD_type_40 rfl ?_
      have e9 : sp_type T Y B Z u = (2, 0, T, Y, B, Z) := by rw [sp_type, if_neg (by omega), if_pos (by omega)]
      exact cn_iret hx hb hr hlk hw  (⟨by rw [e9], by rw [e9]; exact mdP_of (M := M) (C := C) ⟨si, un, bu, ma, bt, so, co, _, _, _, _, _, _, _, hM_f4, hT, hB, hZ, hMa, hC, hY⟩⟩) (Nat.le_refl _) (Nat.le_refl _) d_MD_type_41
  · have hu2 := of_decide_eq_true (b2_1 (by omega) : decide (u < 0 ∨ 256 ≤ u) = true)
    refine lv_iconst (v := iI (1)) hx hb d_MD_type_11 rfl ?_
    refine lv_goto (tgt := 30) hx hb d_MD_type_12 (by decide) ?_
    refine pf_MD_31_MD X hw hM.1 rfl rfl d_MD_type_30 (fun H locs hw => ?_)
    obtain ⟨f5, e_f5⟩ : ∃ g9 : dw_M, g9 = dw_up f y (.inr (6, [.int (iI 1), .int (iI ((T.length : Int))), .ref si, .ref un, .int (iI ((B.length : Int))), .ref bu, .int (iI ((M.length : Int))), .ref ma, .int (iI ((Z.length : Int))), .ref bt, .int (iI ((Y.length : Int))), .ref so, .int (iI ((C.length : Int))), .ref co])) := ⟨_, rfl⟩
    rw [← e_f5] at hw
    have hM_f5 : mdS G f5 y 1 (T.length : Int) (B.length : Int) (M.length : Int) (Z.length : Int) (Y.length : Int) (C.length : Int) si un bu ma bt so co gsi gun gbu gma gbt gso gco := by rw [e_f5]; exact hM.obj 1 (T.length : Int) (B.length : Int) (M.length : Int) (Z.length : Int) (Y.length : Int) (C.length : Int)
    refine lv_aload_n hx hb d_MD_type_33 rfl (lv_at hl 0 rfl) ?_
    refine gf_MD_31_MD X hw hM_f5.1 d_MD_type_34 ?_
    refine di_if_le (tgt := 42) hx hb d_MD_type_37 (by decide) ⟨by decide, by decide⟩ (fun q9 => absurd q9 (by decide)) (fun _ => ?_)
    refine lv_iconst (v := iI (0)) hx hb d_MD_type_40 rfl ?_
    have e9 : sp_type T Y B Z u = (1, 0, T, Y, B, Z) := by rw [sp_type, if_pos (by omega)]
    exact cn_iret hx hb hr hlk hw  (⟨by rw [e9], by rw [e9]; exact mdP_of (M := M) (C := C) ⟨si, un, bu, ma, bt, so, co, _, _, _, _, _, _, _, hM_f5, hT, hB, hZ, hMa, hC, hY⟩⟩) (Nat.le_refl _) (Nat.le_refl _) d_MD_type_41
set_option maxRecDepth 100000 in
set_option maxHeartbeats 4000000 in
theorem c_MD_built (l : Launch) (G : ct_G) (f : dw_M) (sz : Nat) (y : Nat) (th : Int) (T Y : List (List Int)) (B Z M C : List Int) (k : Int) (hk : iR k) (hL : mdL G f y th T Y B Z M C) : cn l y_MD_built w_MD_built (0) (0) G f sz [.ref y, .int (iI k)] (fun v f' => v = some (.int (iI (sp_built T Y B Z k).2.1)) ∧ mdP G f' y (sp_built T Y B Z k)) (0) (0) := by
  refine cn_of (own := "TextDeskModel") (nm := "built") (ds := "(I)I") (by decide) (Nat.le_of_ble_eq_true rfl) ?_
  intro p e s m args below meth c ls X hnm hr hlk hs0 hz hw hl
  have hx := X.1
  have hb := X.2.1
  have hl : lv_has ls 2 [(0, .ref y), (1, .int (iI k))] := hl
  obtain ⟨si, un, bu, ma, bt, so, co, gsi, gun, gbu, gma, gbt, gso, gco, hM, hT, hB, hZ, hMa, hC, hY⟩ := id hL
  have hTl := hT.1
  have hBl := hB.1.1
  have hZl := hZ.1.1
  have hYl := hY.1
  have hCl := hC.1
  obtain ⟨hk0, hk1⟩ := hk
  refine lv_aload_n hx hb d_MD_built_0 rfl (lv_at hl 0 rfl) ?_
  refine lv_iload_n hx hb d_MD_built_1 rfl (lv_at hl 1 rfl) ?_
  refine lv_iconst (v := iI (-1)) hx hb d_MD_built_2 rfl ?_
  refine di_icmp_lt (tgt := 14) hx hb d_MD_built_3 (by decide) ⟨by omega, by omega⟩ ⟨by omega, by omega⟩ (fun bq3 => ?_) (fun bq3 => ?_)
  · refine lv_iconst (v := iI (1)) hx hb d_MD_built_14 rfl ?_
    refine lv_goto (tgt := 19) hx hb d_MD_built_15 (by decide) ?_
    refine pf_MD_31_MD X hw hM.1 rfl rfl d_MD_built_19 (fun H locs hw => ?_)
    obtain ⟨f1, e_f1⟩ : ∃ g9 : dw_M, g9 = dw_up f y (.inr (6, [.int (iI 1), .int (iI ((T.length : Int))), .ref si, .ref un, .int (iI ((B.length : Int))), .ref bu, .int (iI ((M.length : Int))), .ref ma, .int (iI ((Z.length : Int))), .ref bt, .int (iI ((Y.length : Int))), .ref so, .int (iI ((C.length : Int))), .ref co])) := ⟨_, rfl⟩
    rw [← e_f1] at hw
    have hM_f1 : mdS G f1 y 1 (T.length : Int) (B.length : Int) (M.length : Int) (Z.length : Int) (Y.length : Int) (C.length : Int) si un bu ma bt so co gsi gun gbu gma gbt gso gco := by rw [e_f1]; exact hM.obj 1 (T.length : Int) (B.length : Int) (M.length : Int) (Z.length : Int) (Y.length : Int) (C.length : Int)
    refine lv_aload_n hx hb d_MD_built_22 rfl (lv_at hl 0 rfl) ?_
    refine gf_MD_31_MD X hw hM_f1.1 d_MD_built_23 ?_
    refine di_if_le (tgt := 31) hx hb d_MD_built_26 (by decide) ⟨by decide, by decide⟩ (fun q9 => absurd q9 (by decide)) (fun _ => ?_)
    refine lv_iconst (v := iI (0)) hx hb d_MD_built_29 rfl ?_
    have e9 : sp_built T Y B Z k = (1, 0, T, Y, B, Z) := by rw [sp_built, if_pos (by omega)]
    exact cn_iret hx hb hr hlk hw  (⟨by rw [e9], by rw [e9]; exact mdP_of (M := M) (C := C) ⟨si, un, bu, ma, bt, so, co, _, _, _, _, _, _, _, hM_f1, hT, hB, hZ, hMa, hC, hY⟩⟩) (Nat.le_refl _) (Nat.le_refl _) d_MD_built_30
  · refine lv_iload_n hx hb d_MD_built_6 rfl (lv_at hl 1 rfl) ?_
    refine lv_aload_n hx hb d_MD_built_7 rfl (lv_at hl 0 rfl) ?_
    refine gf_MD_68_MD X hw hM.1 d_MD_built_8 ?_
    refine di_icmp_lt (tgt := 18) hx hb d_MD_built_11 (by decide) ⟨by omega, by omega⟩ ⟨by omega, by omega⟩ (fun bq11 => ?_) (fun bq11 => ?_)
    · refine lv_iconst (v := iI (0)) hx hb d_MD_built_18 rfl ?_
      refine pf_MD_31_MD X hw hM.1 rfl rfl d_MD_built_19 (fun H locs hw => ?_)
      obtain ⟨f2, e_f2⟩ : ∃ g9 : dw_M, g9 = dw_up f y (.inr (6, [.int (iI 0), .int (iI ((T.length : Int))), .ref si, .ref un, .int (iI ((B.length : Int))), .ref bu, .int (iI ((M.length : Int))), .ref ma, .int (iI ((Z.length : Int))), .ref bt, .int (iI ((Y.length : Int))), .ref so, .int (iI ((C.length : Int))), .ref co])) := ⟨_, rfl⟩
      rw [← e_f2] at hw
      have hM_f2 : mdS G f2 y 0 (T.length : Int) (B.length : Int) (M.length : Int) (Z.length : Int) (Y.length : Int) (C.length : Int) si un bu ma bt so co gsi gun gbu gma gbt gso gco := by rw [e_f2]; exact hM.obj 0 (T.length : Int) (B.length : Int) (M.length : Int) (Z.length : Int) (Y.length : Int) (C.length : Int)
      refine lv_aload_n hx hb d_MD_built_22 rfl (lv_at hl 0 rfl) ?_
      refine gf_MD_31_MD X hw hM_f2.1 d_MD_built_23 ?_
      refine di_if_le (tgt := 31) hx hb d_MD_built_26 (by decide) ⟨by decide, by decide⟩ (fun _ => ?_) (fun q9 => absurd q9 (by decide))
      refine lv_iload_n hx hb d_MD_built_31 rfl (lv_at hl 1 rfl) ?_
      refine di_if_ge (tgt := 42) hx hb d_MD_built_32 (by decide) ⟨by omega, by omega⟩ (fun bq32 => ?_) (fun bq32 => ?_)
      · refine lv_aload_n hx hb d_MD_built_42 rfl (lv_at hl 0 rfl) ?_
        refine gf_MD_16_MD X hw hM_f2.1 d_MD_built_43 ?_
        refine lv_iload_n hx hb d_MD_built_46 rfl (lv_at hl 1 rfl) ?_
        refine dw_iald hx hb X.K hw 0 hM_f2.2.2.2.1 rfl (i := k) (by omega) (by omega) (by omega) (hB.1.at (by omega) (by omega)) d_MD_built_47 ?_
        have e9 : sp_built T Y B Z k = (0, gt B k, T, Y, B, Z) := by rw [sp_built, if_neg (by omega), if_neg (by omega)]
        exact cn_iret hx hb hr hlk hw  (⟨by rw [e9], by rw [e9]; exact mdP_of (M := M) (C := C) ⟨si, un, bu, ma, bt, so, co, _, _, _, _, _, _, _, hM_f2, hT, hB, hZ, hMa, hC, hY⟩⟩) (Nat.le_refl _) (Nat.le_refl _) d_MD_built_48
      · refine lv_aload_n hx hb d_MD_built_35 rfl (lv_at hl 0 rfl) ?_
        refine gf_MD_68_MD X hw hM_f2.1 d_MD_built_36 ?_
        refine lv_goto (tgt := 48) hx hb d_MD_built_39 (by decide) ?_
        have e9 : sp_built T Y B Z k = (0, (B.length : Int), T, Y, B, Z) := by rw [sp_built, if_neg (by omega), if_pos (by omega)]
        exact cn_iret hx hb hr hlk hw  (⟨by rw [e9], by rw [e9]; exact mdP_of (M := M) (C := C) ⟨si, un, bu, ma, bt, so, co, _, _, _, _, _, _, _, hM_f2, hT, hB, hZ, hMa, hC, hY⟩⟩) (Nat.le_refl _) (Nat.le_refl _) d_MD_built_48
    · refine lv_iconst (v := iI (1)) hx hb d_MD_built_14 rfl ?_
      refine lv_goto (tgt := 19) hx hb d_MD_built_15 (by decide) ?_
      refine pf_MD_31_MD X hw hM.1 rfl rfl d_MD_built_19 (fun H locs hw => ?_)
      obtain ⟨f3, e_f3⟩ : ∃ g9 : dw_M, g9 = dw_up f y (.inr (6, [.int (iI 1), .int (iI ((T.length : Int))), .ref si, .ref un, .int (iI ((B.length : Int))), .ref bu, .int (iI ((M.length : Int))), .ref ma, .int (iI ((Z.length : Int))), .ref bt, .int (iI ((Y.length : Int))), .ref so, .int (iI ((C.length : Int))), .ref co])) := ⟨_, rfl⟩
      rw [← e_f3] at hw
      have hM_f3 : mdS G f3 y 1 (T.length : Int) (B.length : Int) (M.length : Int) (Z.length : Int) (Y.length : Int) (C.length : Int) si un bu ma bt so co gsi gun gbu gma gbt gso gco := by rw [e_f3]; exact hM.obj 1 (T.length : Int) (B.length : Int) (M.length : Int) (Z.length : Int) (Y.length : Int) (C.length : Int)
      refine lv_aload_n hx hb d_MD_built_22 rfl (lv_at hl 0 rfl) ?_
      refine gf_MD_31_MD X hw hM_f3.1 d_MD_built_23 ?_
      refine di_if_le (tgt := 31) hx hb d_MD_built_26 (by decide) ⟨by decide, by decide⟩ (fun q9 => absurd q9 (by decide)) (fun _ => ?_)
      refine lv_iconst (v := iI (0)) hx hb d_MD_built_29 rfl ?_
      have e9 : sp_built T Y B Z k = (1, 0, T, Y, B, Z) := by rw [sp_built, if_pos (by omega)]
      exact cn_iret hx hb hr hlk hw  (⟨by rw [e9], by rw [e9]; exact mdP_of (M := M) (C := C) ⟨si, un, bu, ma, bt, so, co, _, _, _, _, _, _, _, hM_f3, hT, hB, hZ, hMa, hC, hY⟩⟩) (Nat.le_refl _) (Nat.le_refl _) d_MD_built_30
set_option maxRecDepth 100000 in
set_option maxHeartbeats 4000000 in
theorem c_MD_octet (l : Launch) (G : ct_G) (f : dw_M) (sz : Nat) (y : Nat) (th : Int) (T Y : List (List Int)) (B Z M C : List Int) (k : Int) (hk : iR k) (hL : mdL G f y th T Y B Z M C) : cn l y_MD_octet w_MD_octet (0) (0) G f sz [.ref y, .int (iI k)] (fun v f' => v = some (.int (iI (sp_octet T Y B Z k).2.1)) ∧ mdP G f' y (sp_octet T Y B Z k)) (0) (0) := by
  refine cn_of (own := "TextDeskModel") (nm := "octet") (ds := "(I)I") (by decide) (Nat.le_of_ble_eq_true rfl) ?_
  intro p e s m args below meth c ls X hnm hr hlk hs0 hz hw hl
  have hx := X.1
  have hb := X.2.1
  have hl : lv_has ls 2 [(0, .ref y), (1, .int (iI k))] := hl
  obtain ⟨si, un, bu, ma, bt, so, co, gsi, gun, gbu, gma, gbt, gso, gco, hM, hT, hB, hZ, hMa, hC, hY⟩ := id hL
  have hTl := hT.1
  have hBl := hB.1.1
  have hZl := hZ.1.1
  have hYl := hY.1
  have hCl := hC.1
  obtain ⟨hk0, hk1⟩ := hk
  refine lv_aload_n hx hb d_MD_octet_0 rfl (lv_at hl 0 rfl) ?_
  refine lv_iload_n hx hb d_MD_octet_1 rfl (lv_at hl 1 rfl) ?_
  refine lv_iconst (v := iI (-1)) hx hb d_MD_octet_2 rfl ?_
  refine di_icmp_lt (tgt := 14) hx hb d_MD_octet_3 (by decide) ⟨by omega, by omega⟩ ⟨by omega, by omega⟩ (fun bq3 => ?_) (fun bq3 => ?_)
  · refine lv_iconst (v := iI (1)) hx hb d_MD_octet_14 rfl ?_
    refine lv_goto (tgt := 19) hx hb d_MD_octet_15 (by decide) ?_
    refine pf_MD_31_MD X hw hM.1 rfl rfl d_MD_octet_19 (fun H locs hw => ?_)
    obtain ⟨f1, e_f1⟩ : ∃ g9 : dw_M, g9 = dw_up f y (.inr (6, [.int (iI 1), .int (iI ((T.length : Int))), .ref si, .ref un, .int (iI ((B.length : Int))), .ref bu, .int (iI ((M.length : Int))), .ref ma, .int (iI ((Z.length : Int))), .ref bt, .int (iI ((Y.length : Int))), .ref so, .int (iI ((C.length : Int))), .ref co])) := ⟨_, rfl⟩
    rw [← e_f1] at hw
    have hM_f1 : mdS G f1 y 1 (T.length : Int) (B.length : Int) (M.length : Int) (Z.length : Int) (Y.length : Int) (C.length : Int) si un bu ma bt so co gsi gun gbu gma gbt gso gco := by rw [e_f1]; exact hM.obj 1 (T.length : Int) (B.length : Int) (M.length : Int) (Z.length : Int) (Y.length : Int) (C.length : Int)
    refine lv_aload_n hx hb d_MD_octet_22 rfl (lv_at hl 0 rfl) ?_
    refine gf_MD_31_MD X hw hM_f1.1 d_MD_octet_23 ?_
    refine di_if_le (tgt := 31) hx hb d_MD_octet_26 (by decide) ⟨by decide, by decide⟩ (fun q9 => absurd q9 (by decide)) (fun _ => ?_)
    refine lv_iconst (v := iI (0)) hx hb d_MD_octet_29 rfl ?_
    have e9 : sp_octet T Y B Z k = (1, 0, T, Y, B, Z) := by rw [sp_octet, if_pos (by omega)]
    exact cn_iret hx hb hr hlk hw  (⟨by rw [e9], by rw [e9]; exact mdP_of (M := M) (C := C) ⟨si, un, bu, ma, bt, so, co, _, _, _, _, _, _, _, hM_f1, hT, hB, hZ, hMa, hC, hY⟩⟩) (Nat.le_refl _) (Nat.le_refl _) d_MD_octet_30
  · refine lv_iload_n hx hb d_MD_octet_6 rfl (lv_at hl 1 rfl) ?_
    refine lv_aload_n hx hb d_MD_octet_7 rfl (lv_at hl 0 rfl) ?_
    refine gf_MD_112_MD X hw hM.1 d_MD_octet_8 ?_
    refine di_icmp_lt (tgt := 18) hx hb d_MD_octet_11 (by decide) ⟨by omega, by omega⟩ ⟨by omega, by omega⟩ (fun bq11 => ?_) (fun bq11 => ?_)
    · refine lv_iconst (v := iI (0)) hx hb d_MD_octet_18 rfl ?_
      refine pf_MD_31_MD X hw hM.1 rfl rfl d_MD_octet_19 (fun H locs hw => ?_)
      obtain ⟨f2, e_f2⟩ : ∃ g9 : dw_M, g9 = dw_up f y (.inr (6, [.int (iI 0), .int (iI ((T.length : Int))), .ref si, .ref un, .int (iI ((B.length : Int))), .ref bu, .int (iI ((M.length : Int))), .ref ma, .int (iI ((Z.length : Int))), .ref bt, .int (iI ((Y.length : Int))), .ref so, .int (iI ((C.length : Int))), .ref co])) := ⟨_, rfl⟩
      rw [← e_f2] at hw
      have hM_f2 : mdS G f2 y 0 (T.length : Int) (B.length : Int) (M.length : Int) (Z.length : Int) (Y.length : Int) (C.length : Int) si un bu ma bt so co gsi gun gbu gma gbt gso gco := by rw [e_f2]; exact hM.obj 0 (T.length : Int) (B.length : Int) (M.length : Int) (Z.length : Int) (Y.length : Int) (C.length : Int)
      refine lv_aload_n hx hb d_MD_octet_22 rfl (lv_at hl 0 rfl) ?_
      refine gf_MD_31_MD X hw hM_f2.1 d_MD_octet_23 ?_
      refine di_if_le (tgt := 31) hx hb d_MD_octet_26 (by decide) ⟨by decide, by decide⟩ (fun _ => ?_) (fun q9 => absurd q9 (by decide))
      refine lv_iload_n hx hb d_MD_octet_31 rfl (lv_at hl 1 rfl) ?_
      refine di_if_ge (tgt := 42) hx hb d_MD_octet_32 (by decide) ⟨by omega, by omega⟩ (fun bq32 => ?_) (fun bq32 => ?_)
      · refine lv_aload_n hx hb d_MD_octet_42 rfl (lv_at hl 0 rfl) ?_
        refine gf_MD_22_MD X hw hM_f2.1 d_MD_octet_43 ?_
        refine lv_iload_n hx hb d_MD_octet_46 rfl (lv_at hl 1 rfl) ?_
        refine dw_iald hx hb X.K hw 0 hM_f2.2.2.2.2.2.1 rfl (i := k) (by omega) (by omega) (by omega) (hZ.1.at (by omega) (by omega)) d_MD_octet_47 ?_
        have e9 : sp_octet T Y B Z k = (0, gt Z k, T, Y, B, Z) := by rw [sp_octet, if_neg (by omega), if_neg (by omega)]
        exact cn_iret hx hb hr hlk hw  (⟨by rw [e9], by rw [e9]; exact mdP_of (M := M) (C := C) ⟨si, un, bu, ma, bt, so, co, _, _, _, _, _, _, _, hM_f2, hT, hB, hZ, hMa, hC, hY⟩⟩) (Nat.le_refl _) (Nat.le_refl _) d_MD_octet_48
      · refine lv_aload_n hx hb d_MD_octet_35 rfl (lv_at hl 0 rfl) ?_
        refine gf_MD_112_MD X hw hM_f2.1 d_MD_octet_36 ?_
        refine lv_goto (tgt := 48) hx hb d_MD_octet_39 (by decide) ?_
        have e9 : sp_octet T Y B Z k = (0, (Z.length : Int), T, Y, B, Z) := by rw [sp_octet, if_neg (by omega), if_pos (by omega)]
        exact cn_iret hx hb hr hlk hw  (⟨by rw [e9], by rw [e9]; exact mdP_of (M := M) (C := C) ⟨si, un, bu, ma, bt, so, co, _, _, _, _, _, _, _, hM_f2, hT, hB, hZ, hMa, hC, hY⟩⟩) (Nat.le_refl _) (Nat.le_refl _) d_MD_octet_48
    · refine lv_iconst (v := iI (1)) hx hb d_MD_octet_14 rfl ?_
      refine lv_goto (tgt := 19) hx hb d_MD_octet_15 (by decide) ?_
      refine pf_MD_31_MD X hw hM.1 rfl rfl d_MD_octet_19 (fun H locs hw => ?_)
      obtain ⟨f3, e_f3⟩ : ∃ g9 : dw_M, g9 = dw_up f y (.inr (6, [.int (iI 1), .int (iI ((T.length : Int))), .ref si, .ref un, .int (iI ((B.length : Int))), .ref bu, .int (iI ((M.length : Int))), .ref ma, .int (iI ((Z.length : Int))), .ref bt, .int (iI ((Y.length : Int))), .ref so, .int (iI ((C.length : Int))), .ref co])) := ⟨_, rfl⟩
      rw [← e_f3] at hw
      have hM_f3 : mdS G f3 y 1 (T.length : Int) (B.length : Int) (M.length : Int) (Z.length : Int) (Y.length : Int) (C.length : Int) si un bu ma bt so co gsi gun gbu gma gbt gso gco := by rw [e_f3]; exact hM.obj 1 (T.length : Int) (B.length : Int) (M.length : Int) (Z.length : Int) (Y.length : Int) (C.length : Int)
      refine lv_aload_n hx hb d_MD_octet_22 rfl (lv_at hl 0 rfl) ?_
      refine gf_MD_31_MD X hw hM_f3.1 d_MD_octet_23 ?_
      refine di_if_le (tgt := 31) hx hb d_MD_octet_26 (by decide) ⟨by decide, by decide⟩ (fun q9 => absurd q9 (by decide)) (fun _ => ?_)
      refine lv_iconst (v := iI (0)) hx hb d_MD_octet_29 rfl ?_
      have e9 : sp_octet T Y B Z k = (1, 0, T, Y, B, Z) := by rw [sp_octet, if_pos (by omega)]
      exact cn_iret hx hb hr hlk hw  (⟨by rw [e9], by rw [e9]; exact mdP_of (M := M) (C := C) ⟨si, un, bu, ma, bt, so, co, _, _, _, _, _, _, _, hM_f3, hT, hB, hZ, hMa, hC, hY⟩⟩) (Nat.le_refl _) (Nat.le_refl _) d_MD_octet_30
set_option maxRecDepth 100000 in
set_option maxHeartbeats 4000000 in
theorem c_MD_take (l : Launch) (G : ct_G) (f : dw_M) (sz : Nat) (y : Nat) (th : Int) (T Y : List (List Int)) (B Z M C : List Int) (hL : mdL G f y th T Y B Z M C) : cn l y_MD_take w_MD_take (1) (21) G f sz [.ref y] (fun v f' => v = some (.int (iI (sp_take T Y B Z).2.1)) ∧ mdP G f' y (sp_take T Y B Z)) (0) (0) := by
  refine cn_of (own := "TextDeskModel") (nm := "take") (ds := "()I") (by decide) (Nat.le_of_ble_eq_true rfl) ?_
  intro p e s m args below meth c ls X hnm hr hlk hs0 hz hw hl
  have hx := X.1
  have hb := X.2.1
  have hl : lv_has ls 2 [(0, .ref y)] := hl
  obtain ⟨si, un, bu, ma, bt, so, co, gsi, gun, gbu, gma, gbt, gso, gco, hM, hT, hB, hZ, hMa, hC, hY⟩ := id hL
  have hTl := hT.1
  have hBl := hB.1.1
  have hZl := hZ.1.1
  have hYl := hY.1
  have hCl := hC.1
  refine lv_aload_n hx hb d_MD_take_0 rfl (lv_at hl 0 rfl) ?_
  refine lv_aload_n hx hb d_MD_take_1 rfl (lv_at hl 0 rfl) ?_
  refine gf_MD_58_MD X hw hM.1 d_MD_take_2 ?_
  refine lv_bipush (v := iI (24)) hx hb d_MD_take_5 rfl ?_
  refine di_icmp_ne (tgt := 14) hx hb d_MD_take_7 (by decide) ⟨by omega, by omega⟩ ⟨by omega, by omega⟩ (fun bq7 => ?_) (fun bq7 => ?_)
  · refine lv_iconst (v := iI (0)) hx hb d_MD_take_14 rfl ?_
    refine pf_MD_31_MD X hw hM.1 rfl rfl d_MD_take_15 (fun H locs hw => ?_)
    obtain ⟨f1, e_f1⟩ : ∃ g9 : dw_M, g9 = dw_up f y (.inr (6, [.int (iI 0), .int (iI ((T.length : Int))), .ref si, .ref un, .int (iI ((B.length : Int))), .ref bu, .int (iI ((M.length : Int))), .ref ma, .int (iI ((Z.length : Int))), .ref bt, .int (iI ((Y.length : Int))), .ref so, .int (iI ((C.length : Int))), .ref co])) := ⟨_, rfl⟩
    rw [← e_f1] at hw
    have hM_f1 : mdS G f1 y 0 (T.length : Int) (B.length : Int) (M.length : Int) (Z.length : Int) (Y.length : Int) (C.length : Int) si un bu ma bt so co gsi gun gbu gma gbt gso gco := by rw [e_f1]; exact hM.obj 0 (T.length : Int) (B.length : Int) (M.length : Int) (Z.length : Int) (Y.length : Int) (C.length : Int)
    refine lv_aload_n hx hb d_MD_take_18 rfl (lv_at hl 0 rfl) ?_
    refine gf_MD_31_MD X hw hM_f1.1 d_MD_take_19 ?_
    refine di_if_le (tgt := 27) hx hb d_MD_take_22 (by decide) ⟨by decide, by decide⟩ (fun _ => ?_) (fun q9 => absurd q9 (by decide))
    refine lv_aload_n hx hb d_MD_take_27 rfl (lv_at hl 0 rfl) ?_
    refine lv_iconst (v := iI (0)) hx hb d_MD_take_28 rfl ?_
    refine pf_MD_55_MD X hw hM_f1.1 rfl rfl d_MD_take_29 (fun H locs hw => ?_)
    obtain ⟨f2, e_f2⟩ : ∃ g9 : dw_M, g9 = dw_up f1 y (.inr (6, [.int (iI 0), .int (iI ((T.length : Int))), .ref si, .ref un, .int (iI ((B.length : Int))), .ref bu, .int (iI 0), .ref ma, .int (iI ((Z.length : Int))), .ref bt, .int (iI ((Y.length : Int))), .ref so, .int (iI ((C.length : Int))), .ref co])) := ⟨_, rfl⟩
    rw [← e_f2] at hw
    have hM_f2 : mdS G f2 y 0 (T.length : Int) (B.length : Int) 0 (Z.length : Int) (Y.length : Int) (C.length : Int) si un bu ma bt so co gsi gun gbu gma gbt gso gco := by rw [e_f2]; exact hM_f1.obj 0 (T.length : Int) (B.length : Int) 0 (Z.length : Int) (Y.length : Int) (C.length : Int)
    refine lv_iconst (v := iI (0)) hx hb d_MD_take_32 rfl ?_
    refine lv_istore_n (lv' := [(1, .int (iI 0)), (0, .ref y)]) hx hb d_MD_take_33 rfl hl (by decide) rfl (fun ls hl => ?_)
    have loop : ∀ (N : Nat) (k : Int) (Mk : List Int) (f1 : dw_M) (H : Heap) (locs : List Loc) (ls : Array Slot), ((B.length : Int) - k).toNat < N → 0 ≤ k → (k ≤ (B.length : Int) ∨ k = 0) → Mk = sbl B 0 k → mdL G f1 y 0 T Y B Z Mk C → dw G.1 dk_cl (dw_A f sz) s.heap f1 H locs → lv_has ls 2 [(1, .int (iI k)), (0, .ref y)] → W p l e { frames := 1, locals := 21, cells := 0, slots := 0 } s m args below meth c H locs (0) (0) (MQ below (ct_Q G f sz (fun v f' => v = some (.int (iI (sp_take T Y B Z).2.1)) ∧ mdP G f' y (sp_take T Y B Z))) args s (0) (0) (dw_A f sz)) (F0 m 34 ls []) := by
      intro N
      induction N with
      | zero => intros; omega
      | succ N ih =>
        intro k Mk f1 H locs ls hN hk0 hst hMk hL1 hw hl
        obtain ⟨si, un, bu, ma, bt, so, co, gsi, gun, gbu, gma, gbt, gso, gco, hM, hT, hB, hZ, hMa, hC, hY⟩ := id hL1
        refine lv_iload_n hx hb d_MD_take_34 rfl (lv_at hl 0 rfl) ?_
        refine lv_aload_n hx hb d_MD_take_35 rfl (lv_at hl 1 rfl) ?_
        refine gf_MD_68_MD X hw hM.1 d_MD_take_36 ?_
        refine di_icmp_ge (tgt := 58) hx hb d_MD_take_39 (by decide) ⟨by omega, by omega⟩ ⟨by omega, by omega⟩ (fun bq39 => ?_) (fun bq39 => ?_)
        · have hMB : Mk = B := by rw [hMk]; exact (sbl_stop (by omega) (by omega) hst).trans (sbl_all B)
          rw [hMB] at hM hMa
          refine lv_aload_n hx hb d_MD_take_58 rfl (lv_at hl 1 rfl) ?_
          refine lv_iconst (v := iI (0)) hx hb d_MD_take_59 rfl ?_
          refine pf_MD_68_MD X hw hM.1 rfl rfl d_MD_take_60 (fun H locs hw => ?_)
          obtain ⟨f3, e_f3⟩ : ∃ g9 : dw_M, g9 = dw_up f1 y (.inr (6, [.int (iI 0), .int (iI ((T.length : Int))), .ref si, .ref un, .int (iI 0), .ref bu, .int (iI ((B.length : Int))), .ref ma, .int (iI ((Z.length : Int))), .ref bt, .int (iI ((Y.length : Int))), .ref so, .int (iI ((C.length : Int))), .ref co])) := ⟨_, rfl⟩
          rw [← e_f3] at hw
          have hM_f3 : mdS G f3 y 0 (T.length : Int) 0 (B.length : Int) (Z.length : Int) (Y.length : Int) (C.length : Int) si un bu ma bt so co gsi gun gbu gma gbt gso gco := by rw [e_f3]; exact hM.obj 0 (T.length : Int) 0 (B.length : Int) (Z.length : Int) (Y.length : Int) (C.length : Int)
          refine lv_aload_n hx hb d_MD_take_63 rfl (lv_at hl 1 rfl) ?_
          refine cs_MD_78 X hz hw hl.1 hM_f3.1 (c_MD_addMade l G f3 _ y 0 T Y [] Z B C (by omega) (by omega) hB.2 ⟨si, un, bu, ma, bt, so, co, _, _, _, _, _, _, _, hM_f3, hT, ⟨rA.nil _ _, mem_nil⟩, hZ, hMa, hC, hY⟩) ⟨Nat.le_of_ble_eq_true rfl, Nat.le_of_ble_eq_true rfl⟩ ⟨by show 0 + 0 ≤ 0; omega, by show 0 + 0 ≤ 0; omega⟩ (Nat.le_of_ble_eq_true rfl) d_MD_take_64 (fun v f9 H locs hp hw hsz9 hkp9 hdm9 => ?_)
          obtain ⟨rfl, hL_f9⟩ := hp
          refine W.eq (g2 := F0 m 67 ls [.int (iI ((T.length : Int)))]) rfl ?_
          obtain ⟨si, un, bu, ma, bt, so, co, gsi, gun, gbu, gma, gbt, gso, gco, hM, hT, hB, hZ, hMa, hC, hY⟩ := id hL_f9
          have e9 : sp_take T Y B Z = (0, (T.length : Int), T ++ [B], Y, [], Z) := by rw [sp_take, if_neg (by omega)]
          exact cn_iret hx hb hr hlk hw  (⟨by rw [e9], by rw [e9]; exact mdP_of (M := B) (C := C) ⟨si, un, bu, ma, bt, so, co, _, _, _, _, _, _, _, hM, hT, hB, hZ, hMa, hC, hY⟩⟩) (Nat.le_refl _) (Nat.le_refl _) d_MD_take_67
        · refine lv_aload_n hx hb d_MD_take_42 rfl (lv_at hl 1 rfl) ?_
          refine lv_aload_n hx hb d_MD_take_43 rfl (lv_at hl 1 rfl) ?_
          refine gf_MD_16_MD X hw hM.1 d_MD_take_44 ?_
          refine lv_iload_n hx hb d_MD_take_47 rfl (lv_at hl 0 rfl) ?_
          refine dw_iald hx hb X.K hw 0 hM.2.2.2.1 rfl (i := k) (by omega) (by omega) (by omega) (hB.1.at (by omega) (by omega)) d_MD_take_48 ?_
          refine cs_MD_64 X hz hw hl.1 hM.1 (c_MD_make l G f1 _ y 0 T Y B Z Mk C (gt B k) (by rw [hMk]; have := sbl_len B 0 k; omega) ⟨si, un, bu, ma, bt, so, co, _, _, _, _, _, _, _, hM, hT, hB, hZ, hMa, hC, hY⟩) ⟨Nat.le_of_ble_eq_true rfl, Nat.le_of_ble_eq_true rfl⟩ ⟨by show 0 + 0 ≤ 0; omega, by show 0 + 0 ≤ 0; omega⟩ (Nat.le_of_ble_eq_true rfl) d_MD_take_49 (fun v f2 H locs hp hw hsz9 hkp9 hdm9 => ?_)
          obtain ⟨rfl, hL_f2⟩ := hp
          refine W.eq (g2 := F0 m 52 ls []) rfl ?_
          obtain ⟨si, un, bu, ma, bt, so, co, gsi, gun, gbu, gma, gbt, gso, gco, hM, hT, hB, hZ, hMa, hC, hY⟩ := id hL_f2
          refine lv_iinc (v := iI (k + 1)) (lv' := [(1, .int (iI (k + 1))), (0, .ref y)]) hx hb d_MD_take_52 hl (k := 0) rfl (iI_add _ _) (by decide) rfl (fun ls hl => ?_)
          refine lv_goto (tgt := 34) hx hb d_MD_take_55 (by decide) ?_
          exact ih (k + 1) (Mk ++ [gt B k]) _ _ _ _ (by omega) (by omega) (Or.inl (by omega)) (by rw [hMk, sbl_snoc (by omega) (by omega) (by omega), gt_in (by omega) (by omega)]) (hL_f2) hw (lv_sub hl [0, 1] rfl)
    exact loop (((B.length : Int) - 0).toNat + 1) (0) ([]) _ _ _ _ (by omega) (by omega) (Or.inr rfl) ((sbl_nil (Int.le_refl _) (Int.le_refl _)).symm) (⟨si, un, bu, ma, bt, so, co, _, _, _, _, _, _, _, hM_f2, hT, hB, hZ, (rM.nil _), hC, hY⟩) hw (lv_sub hl [0, 1] rfl)
  · refine lv_iconst (v := iI (1)) hx hb d_MD_take_10 rfl ?_
    refine lv_goto (tgt := 15) hx hb d_MD_take_11 (by decide) ?_
    refine pf_MD_31_MD X hw hM.1 rfl rfl d_MD_take_15 (fun H locs hw => ?_)
    obtain ⟨f4, e_f4⟩ : ∃ g9 : dw_M, g9 = dw_up f y (.inr (6, [.int (iI 1), .int (iI ((T.length : Int))), .ref si, .ref un, .int (iI ((B.length : Int))), .ref bu, .int (iI ((M.length : Int))), .ref ma, .int (iI ((Z.length : Int))), .ref bt, .int (iI ((Y.length : Int))), .ref so, .int (iI ((C.length : Int))), .ref co])) := ⟨_, rfl⟩
    rw [← e_f4] at hw
    have hM_f4 : mdS G f4 y 1 (T.length : Int) (B.length : Int) (M.length : Int) (Z.length : Int) (Y.length : Int) (C.length : Int) si un bu ma bt so co gsi gun gbu gma gbt gso gco := by rw [e_f4]; exact hM.obj 1 (T.length : Int) (B.length : Int) (M.length : Int) (Z.length : Int) (Y.length : Int) (C.length : Int)
    refine lv_aload_n hx hb d_MD_take_18 rfl (lv_at hl 0 rfl) ?_
    refine gf_MD_31_MD X hw hM_f4.1 d_MD_take_19 ?_
    refine di_if_le (tgt := 27) hx hb d_MD_take_22 (by decide) ⟨by decide, by decide⟩ (fun q9 => absurd q9 (by decide)) (fun _ => ?_)
    refine lv_iconst (v := iI (0)) hx hb d_MD_take_25 rfl ?_
    have e9 : sp_take T Y B Z = (1, 0, T, Y, B, Z) := by rw [sp_take, if_pos (by omega)]
    exact cn_iret hx hb hr hlk hw  (⟨by rw [e9], by rw [e9]; exact mdP_of (M := M) (C := C) ⟨si, un, bu, ma, bt, so, co, _, _, _, _, _, _, _, hM_f4, hT, hB, hZ, hMa, hC, hY⟩⟩) (Nat.le_refl _) (Nat.le_refl _) d_MD_take_26
set_option maxRecDepth 100000 in
set_option maxHeartbeats 4000000 in
theorem c_MD_join (l : Launch) (G : ct_G) (f : dw_M) (sz : Nat) (y : Nat) (th : Int) (T Y : List (List Int)) (B Z M C : List Int) (ka : Int) (kb : Int) (hka : iR ka) (hkb : iR kb) (hL : mdL G f y th T Y B Z M C) : cn l y_MD_join w_MD_join (2) (46) G f sz [.ref y, .int (iI ka), .int (iI kb)] (fun v f' => v = some (.int (iI (sp_join T Y B Z ka kb).2.1)) ∧ mdP G f' y (sp_join T Y B Z ka kb)) (0) (0) := by
  refine cn_of (own := "TextDeskModel") (nm := "join") (ds := "(II)I") (by decide) (Nat.le_of_ble_eq_true rfl) ?_
  intro p e s m args below meth c ls X hnm hr hlk hs0 hz hw hl
  have hx := X.1
  have hb := X.2.1
  have hl : lv_has ls 3 [(0, .ref y), (1, .int (iI ka)), (2, .int (iI kb))] := hl
  obtain ⟨si, un, bu, ma, bt, so, co, gsi, gun, gbu, gma, gbt, gso, gco, hM, hT, hB, hZ, hMa, hC, hY⟩ := id hL
  have hTl := hT.1
  have hBl := hB.1.1
  have hZl := hZ.1.1
  have hYl := hY.1
  have hCl := hC.1
  obtain ⟨hka0, hka1⟩ := hka
  obtain ⟨hkb0, hkb1⟩ := hkb
  refine lv_aload_n hx hb d_MD_join_0 rfl (lv_at hl 0 rfl) ?_
  refine lv_aload_n hx hb d_MD_join_1 rfl (lv_at hl 0 rfl) ?_
  refine lv_iload_n hx hb d_MD_join_2 rfl (lv_at hl 1 rfl) ?_
  refine cs_MD_71 X hz hw hl.1 hM.1 (c_MD_isText l G f _ y th T Y B Z M C ka ⟨by omega, by omega⟩ ⟨si, un, bu, ma, bt, so, co, _, _, _, _, _, _, _, hM, hT, hB, hZ, hMa, hC, hY⟩) ⟨Nat.le_of_ble_eq_true rfl, Nat.le_of_ble_eq_true rfl⟩ ⟨by show 0 + 0 ≤ 0; omega, by show 0 + 0 ≤ 0; omega⟩ (Nat.le_of_ble_eq_true rfl) d_MD_join_3 (fun v f9 H locs hp hw hsz9 hkp9 hdm9 => ?_)
  obtain ⟨rfl, hfe⟩ := hp
  rw [hfe] at hw
  refine W.eq (g2 := F0 m 6 ls [.int (iI (b2 (decide (isT T ka)))), .ref y]) rfl ?_
  have hbt0 := b2_01 (decide (isT T ka))
  refine di_if_eq (tgt := 17) hx hb d_MD_join_6 (by decide) ⟨by omega, by omega⟩ (fun bq6 => ?_) (fun bq6 => ?_)
  · have nT : ¬ isT T ka := of_decide_eq_false (b2_0 (by omega))
    refine lv_iconst (v := iI (1)) hx hb d_MD_join_17 rfl ?_
    refine lv_goto (tgt := 53) hx hb d_MD_join_18 (by decide) ?_
    refine pf_MD_31_MD X hw hM.1 rfl rfl d_MD_join_53 (fun H locs hw => ?_)
    obtain ⟨f1, e_f1⟩ : ∃ g9 : dw_M, g9 = dw_up f y (.inr (6, [.int (iI 1), .int (iI ((T.length : Int))), .ref si, .ref un, .int (iI ((B.length : Int))), .ref bu, .int (iI ((M.length : Int))), .ref ma, .int (iI ((Z.length : Int))), .ref bt, .int (iI ((Y.length : Int))), .ref so, .int (iI ((C.length : Int))), .ref co])) := ⟨_, rfl⟩
    rw [← e_f1] at hw
    have hM_f1 : mdS G f1 y 1 (T.length : Int) (B.length : Int) (M.length : Int) (Z.length : Int) (Y.length : Int) (C.length : Int) si un bu ma bt so co gsi gun gbu gma gbt gso gco := by rw [e_f1]; exact hM.obj 1 (T.length : Int) (B.length : Int) (M.length : Int) (Z.length : Int) (Y.length : Int) (C.length : Int)
    refine lv_aload_n hx hb d_MD_join_56 rfl (lv_at hl 0 rfl) ?_
    refine gf_MD_31_MD X hw hM_f1.1 d_MD_join_57 ?_
    refine di_if_le (tgt := 65) hx hb d_MD_join_60 (by decide) ⟨by decide, by decide⟩ (fun q9 => absurd q9 (by decide)) (fun _ => ?_)
    refine lv_iconst (v := iI (0)) hx hb d_MD_join_63 rfl ?_
    have e9 : sp_join T Y B Z ka kb = (1, 0, T, Y, B, Z) := by rw [sp_join, if_pos (fun q => nT q.1)]
    exact cn_iret hx hb hr hlk hw  (⟨by rw [e9], by rw [e9]; exact mdP_of (M := M) (C := C) ⟨si, un, bu, ma, bt, so, co, _, _, _, _, _, _, _, hM_f1, hT, hB, hZ, hMa, hC, hY⟩⟩) (Nat.le_refl _) (Nat.le_refl _) d_MD_join_64
  · have hT0 : isT T ka := of_decide_eq_true (b2_1 (by omega))
    have hT0a := hT0.1
    have hT0b := hT0.2
    have hT0l := hT.len ka
    refine lv_aload_n hx hb d_MD_join_9 rfl (lv_at hl 0 rfl) ?_
    refine lv_iload_n hx hb d_MD_join_10 rfl (lv_at hl 2 rfl) ?_
    refine cs_MD_71 X hz hw hl.1 hM.1 (c_MD_isText l G f _ y th T Y B Z M C kb ⟨by omega, by omega⟩ ⟨si, un, bu, ma, bt, so, co, _, _, _, _, _, _, _, hM, hT, hB, hZ, hMa, hC, hY⟩) ⟨Nat.le_of_ble_eq_true rfl, Nat.le_of_ble_eq_true rfl⟩ ⟨by show 0 + 0 ≤ 0; omega, by show 0 + 0 ≤ 0; omega⟩ (Nat.le_of_ble_eq_true rfl) d_MD_join_11 (fun v f9 H locs hp hw hsz9 hkp9 hdm9 => ?_)
    obtain ⟨rfl, hfe⟩ := hp
    rw [hfe] at hw
    refine W.eq (g2 := F0 m 14 ls [.int (iI (b2 (decide (isT T kb)))), .ref y]) rfl ?_
    have hbt1 := b2_01 (decide (isT T kb))
    refine di_if_ne (tgt := 21) hx hb d_MD_join_14 (by decide) ⟨by omega, by omega⟩ (fun bq14 => ?_) (fun bq14 => ?_)
    · have hT1 : isT T kb := of_decide_eq_true (b2_1 (by omega))
      have hT1a := hT1.1
      have hT1b := hT1.2
      have hT1l := hT.len kb
      refine lv_aload_n hx hb d_MD_join_21 rfl (lv_at hl 0 rfl) ?_
      refine gf_MD_58_MD X hw hM.1 d_MD_join_22 ?_
      refine lv_bipush (v := iI (24)) hx hb d_MD_join_25 rfl ?_
      refine di_icmp_eq (tgt := 48) hx hb d_MD_join_27 (by decide) ⟨by omega, by omega⟩ ⟨by omega, by omega⟩ (fun bq27 => ?_) (fun bq27 => ?_)
      · refine lv_iconst (v := iI (2)) hx hb d_MD_join_48 rfl ?_
        refine lv_goto (tgt := 53) hx hb d_MD_join_49 (by decide) ?_
        refine pf_MD_31_MD X hw hM.1 rfl rfl d_MD_join_53 (fun H locs hw => ?_)
        obtain ⟨f2, e_f2⟩ : ∃ g9 : dw_M, g9 = dw_up f y (.inr (6, [.int (iI 2), .int (iI ((T.length : Int))), .ref si, .ref un, .int (iI ((B.length : Int))), .ref bu, .int (iI ((M.length : Int))), .ref ma, .int (iI ((Z.length : Int))), .ref bt, .int (iI ((Y.length : Int))), .ref so, .int (iI ((C.length : Int))), .ref co])) := ⟨_, rfl⟩
        rw [← e_f2] at hw
        have hM_f2 : mdS G f2 y 2 (T.length : Int) (B.length : Int) (M.length : Int) (Z.length : Int) (Y.length : Int) (C.length : Int) si un bu ma bt so co gsi gun gbu gma gbt gso gco := by rw [e_f2]; exact hM.obj 2 (T.length : Int) (B.length : Int) (M.length : Int) (Z.length : Int) (Y.length : Int) (C.length : Int)
        refine lv_aload_n hx hb d_MD_join_56 rfl (lv_at hl 0 rfl) ?_
        refine gf_MD_31_MD X hw hM_f2.1 d_MD_join_57 ?_
        refine di_if_le (tgt := 65) hx hb d_MD_join_60 (by decide) ⟨by decide, by decide⟩ (fun q9 => absurd q9 (by decide)) (fun _ => ?_)
        refine lv_iconst (v := iI (0)) hx hb d_MD_join_63 rfl ?_
        have e9 : sp_join T Y B Z ka kb = (2, 0, T, Y, B, Z) := by rw [sp_join, if_neg (fun q => q ⟨hT0, hT1⟩), if_pos (by omega)]
        exact cn_iret hx hb hr hlk hw  (⟨by rw [e9], by rw [e9]; exact mdP_of (M := M) (C := C) ⟨si, un, bu, ma, bt, so, co, _, _, _, _, _, _, _, hM_f2, hT, hB, hZ, hMa, hC, hY⟩⟩) (Nat.le_refl _) (Nat.le_refl _) d_MD_join_64
      · refine lv_aload_n hx hb d_MD_join_30 rfl (lv_at hl 0 rfl) ?_
        refine gf_MD_7_MD X hw hM.1 d_MD_join_31 ?_
        refine lv_iload_n hx hb d_MD_join_34 rfl (lv_at hl 1 rfl) ?_
        refine dw_iald hx hb X.K hw 0 hM.2.1 rfl (i := ka) (by omega) (by omega) (by omega) (hT.sz hT0) d_MD_join_35 ?_
        refine lv_aload_n hx hb d_MD_join_36 rfl (lv_at hl 0 rfl) ?_
        refine gf_MD_7_MD X hw hM.1 d_MD_join_37 ?_
        refine lv_iload_n hx hb d_MD_join_40 rfl (lv_at hl 2 rfl) ?_
        refine dw_iald hx hb X.K hw 0 hM.2.1 rfl (i := kb) (by omega) (by omega) (by omega) (hT.sz hT1) d_MD_join_41 ?_
        refine di_add hx hb d_MD_join_42 ?_
        refine lv_bipush (v := iI (60)) hx hb d_MD_join_43 rfl ?_
        refine di_icmp_le (tgt := 52) hx hb d_MD_join_45 (by decide) ⟨by omega, by omega⟩ ⟨by omega, by omega⟩ (fun bq45 => ?_) (fun bq45 => ?_)
        · refine lv_iconst (v := iI (0)) hx hb d_MD_join_52 rfl ?_
          refine pf_MD_31_MD X hw hM.1 rfl rfl d_MD_join_53 (fun H locs hw => ?_)
          obtain ⟨f3, e_f3⟩ : ∃ g9 : dw_M, g9 = dw_up f y (.inr (6, [.int (iI 0), .int (iI ((T.length : Int))), .ref si, .ref un, .int (iI ((B.length : Int))), .ref bu, .int (iI ((M.length : Int))), .ref ma, .int (iI ((Z.length : Int))), .ref bt, .int (iI ((Y.length : Int))), .ref so, .int (iI ((C.length : Int))), .ref co])) := ⟨_, rfl⟩
          rw [← e_f3] at hw
          have hM_f3 : mdS G f3 y 0 (T.length : Int) (B.length : Int) (M.length : Int) (Z.length : Int) (Y.length : Int) (C.length : Int) si un bu ma bt so co gsi gun gbu gma gbt gso gco := by rw [e_f3]; exact hM.obj 0 (T.length : Int) (B.length : Int) (M.length : Int) (Z.length : Int) (Y.length : Int) (C.length : Int)
          refine lv_aload_n hx hb d_MD_join_56 rfl (lv_at hl 0 rfl) ?_
          refine gf_MD_31_MD X hw hM_f3.1 d_MD_join_57 ?_
          refine di_if_le (tgt := 65) hx hb d_MD_join_60 (by decide) ⟨by decide, by decide⟩ (fun _ => ?_) (fun q9 => absurd q9 (by decide))
          refine lv_aload_n hx hb d_MD_join_65 rfl (lv_at hl 0 rfl) ?_
          refine lv_iconst (v := iI (0)) hx hb d_MD_join_66 rfl ?_
          refine pf_MD_55_MD X hw hM_f3.1 rfl rfl d_MD_join_67 (fun H locs hw => ?_)
          obtain ⟨f4, e_f4⟩ : ∃ g9 : dw_M, g9 = dw_up f3 y (.inr (6, [.int (iI 0), .int (iI ((T.length : Int))), .ref si, .ref un, .int (iI ((B.length : Int))), .ref bu, .int (iI 0), .ref ma, .int (iI ((Z.length : Int))), .ref bt, .int (iI ((Y.length : Int))), .ref so, .int (iI ((C.length : Int))), .ref co])) := ⟨_, rfl⟩
          rw [← e_f4] at hw
          have hM_f4 : mdS G f4 y 0 (T.length : Int) (B.length : Int) 0 (Z.length : Int) (Y.length : Int) (C.length : Int) si un bu ma bt so co gsi gun gbu gma gbt gso gco := by rw [e_f4]; exact hM_f3.obj 0 (T.length : Int) (B.length : Int) 0 (Z.length : Int) (Y.length : Int) (C.length : Int)
          refine lv_aload_n hx hb d_MD_join_70 rfl (lv_at hl 0 rfl) ?_
          refine lv_iload_n hx hb d_MD_join_71 rfl (lv_at hl 1 rfl) ?_
          refine lv_iconst (v := iI (0)) hx hb d_MD_join_72 rfl ?_
          refine lv_aload_n hx hb d_MD_join_73 rfl (lv_at hl 0 rfl) ?_
          refine gf_MD_7_MD X hw hM_f4.1 d_MD_join_74 ?_
          refine lv_iload_n hx hb d_MD_join_77 rfl (lv_at hl 1 rfl) ?_
          refine dw_iald hx hb X.K hw 0 hM_f4.2.1 rfl (i := ka) (by omega) (by omega) (by omega) (hT.sz hT0) d_MD_join_78 ?_
          refine cs_MD_74 X hz hw hl.1 hM_f4.1 (c_MD_makePart l G f4 _ y 0 T Y B Z [] C ka 0 ((tt T ka).length : Int) hT0 (by omega) (by simp) ⟨si, un, bu, ma, bt, so, co, _, _, _, _, _, _, _, hM_f4, hT, hB, hZ, (rM.nil _), hC, hY⟩) ⟨Nat.le_of_ble_eq_true rfl, Nat.le_of_ble_eq_true rfl⟩ ⟨by show 0 + 0 ≤ 0; omega, by show 0 + 0 ≤ 0; omega⟩ (Nat.le_of_ble_eq_true rfl) d_MD_join_79 (fun v f7 H locs hp hw hsz9 hkp9 hdm9 => ?_)
          obtain ⟨rfl, hL_f7⟩ := hp
          refine W.eq (g2 := F0 m 82 ls []) rfl ?_
          obtain ⟨si, un, bu, ma, bt, so, co, gsi, gun, gbu, gma, gbt, gso, gco, hM, hT, hB, hZ, hMa, hC, hY⟩ := id hL_f7
          refine lv_aload_n hx hb d_MD_join_82 rfl (lv_at hl 0 rfl) ?_
          refine lv_iload_n hx hb d_MD_join_83 rfl (lv_at hl 2 rfl) ?_
          refine lv_iconst (v := iI (0)) hx hb d_MD_join_84 rfl ?_
          refine lv_aload_n hx hb d_MD_join_85 rfl (lv_at hl 0 rfl) ?_
          refine gf_MD_7_MD X hw hM.1 d_MD_join_86 ?_
          refine lv_iload_n hx hb d_MD_join_89 rfl (lv_at hl 2 rfl) ?_
          refine dw_iald hx hb X.K hw 0 hM.2.1 rfl (i := kb) (by omega) (by omega) (by omega) (hT.sz hT1) d_MD_join_90 ?_
          refine cs_MD_74 X hz hw hl.1 hM.1 (c_MD_makePart l G f7 _ y 0 T Y B Z ([] ++ sbl (tt T ka) 0 ((tt T ka).length : Int)) C kb 0 ((tt T kb).length : Int) hT1 (by omega) (by rw [sbl_all]; simp; omega) ⟨si, un, bu, ma, bt, so, co, _, _, _, _, _, _, _, hM, hT, hB, hZ, hMa, hC, hY⟩) ⟨Nat.le_of_ble_eq_true rfl, Nat.le_of_ble_eq_true rfl⟩ ⟨by show 0 + 0 ≤ 0; omega, by show 0 + 0 ≤ 0; omega⟩ (Nat.le_of_ble_eq_true rfl) d_MD_join_91 (fun v f8 H locs hp hw hsz9 hkp9 hdm9 => ?_)
          obtain ⟨rfl, hL_f8⟩ := hp
          refine W.eq (g2 := F0 m 94 ls []) rfl ?_
          obtain ⟨si, un, bu, ma, bt, so, co, gsi, gun, gbu, gma, gbt, gso, gco, hM, hT, hB, hZ, hMa, hC, hY⟩ := id hL_f8
          refine lv_aload_n hx hb d_MD_join_94 rfl (lv_at hl 0 rfl) ?_
          rw [sbl_all, sbl_all, List.nil_append] at hM hMa
          refine cs_MD_78 X hz hw hl.1 hM.1 (c_MD_addMade l G f8 _ y 0 T Y B Z (tt T ka ++ tt T kb) C (by omega) (by simp; omega) (mem_app (hT.rng ka) (hT.rng kb)) ⟨si, un, bu, ma, bt, so, co, _, _, _, _, _, _, _, hM, hT, hB, hZ, hMa, hC, hY⟩) ⟨Nat.le_of_ble_eq_true rfl, Nat.le_of_ble_eq_true rfl⟩ ⟨by show 0 + 0 ≤ 0; omega, by show 0 + 0 ≤ 0; omega⟩ (Nat.le_of_ble_eq_true rfl) d_MD_join_95 (fun v f9 H locs hp hw hsz9 hkp9 hdm9 => ?_)
          obtain ⟨rfl, hL_f9⟩ := hp
          refine W.eq (g2 := F0 m 98 ls [.int (iI ((T.length : Int)))]) rfl ?_
          obtain ⟨si, un, bu, ma, bt, so, co, gsi, gun, gbu, gma, gbt, gso, gco, hM, hT, hB, hZ, hMa, hC, hY⟩ := id hL_f9
          have e9 : sp_join T Y B Z ka kb = (0, (T.length : Int), T ++ [tt T ka ++ tt T kb], Y, B, Z) := by rw [sp_join, if_neg (fun q => q ⟨hT0, hT1⟩), if_neg (by omega)]
          exact cn_iret hx hb hr hlk hw  (⟨by rw [e9], by rw [e9]; exact mdP_of (M := (tt T ka ++ tt T kb)) (C := C) ⟨si, un, bu, ma, bt, so, co, _, _, _, _, _, _, _, hM, hT, hB, hZ, hMa, hC, hY⟩⟩) (Nat.le_refl _) (Nat.le_refl _) d_MD_join_98
        · refine lv_iconst (v := iI (2)) hx hb d_MD_join_48 rfl ?_
          refine lv_goto (tgt := 53) hx hb d_MD_join_49 (by decide) ?_
          refine pf_MD_31_MD X hw hM.1 rfl rfl d_MD_join_53 (fun H locs hw => ?_)
          obtain ⟨f5, e_f5⟩ : ∃ g9 : dw_M, g9 = dw_up f y (.inr (6, [.int (iI 2), .int (iI ((T.length : Int))), .ref si, .ref un, .int (iI ((B.length : Int))), .ref bu, .int (iI ((M.length : Int))), .ref ma, .int (iI ((Z.length : Int))), .ref bt, .int (iI ((Y.length : Int))), .ref so, .int (iI ((C.length : Int))), .ref co])) := ⟨_, rfl⟩
          rw [← e_f5] at hw
          have hM_f5 : mdS G f5 y 2 (T.length : Int) (B.length : Int) (M.length : Int) (Z.length : Int) (Y.length : Int) (C.length : Int) si un bu ma bt so co gsi gun gbu gma gbt gso gco := by rw [e_f5]; exact hM.obj 2 (T.length : Int) (B.length : Int) (M.length : Int) (Z.length : Int) (Y.length : Int) (C.length : Int)
          refine lv_aload_n hx hb d_MD_join_56 rfl (lv_at hl 0 rfl) ?_
          refine gf_MD_31_MD X hw hM_f5.1 d_MD_join_57 ?_
          refine di_if_le (tgt := 65) hx hb d_MD_join_60 (by decide) ⟨by decide, by decide⟩ (fun q9 => absurd q9 (by decide)) (fun _ => ?_)
          refine lv_iconst (v := iI (0)) hx hb d_MD_join_63 rfl ?_
          have e9 : sp_join T Y B Z ka kb = (2, 0, T, Y, B, Z) := by rw [sp_join, if_neg (fun q => q ⟨hT0, hT1⟩), if_pos (by omega)]
          exact cn_iret hx hb hr hlk hw  (⟨by rw [e9], by rw [e9]; exact mdP_of (M := M) (C := C) ⟨si, un, bu, ma, bt, so, co, _, _, _, _, _, _, _, hM_f5, hT, hB, hZ, hMa, hC, hY⟩⟩) (Nat.le_refl _) (Nat.le_refl _) d_MD_join_64
    · have nT : ¬ isT T kb := of_decide_eq_false (b2_0 (by omega))
      refine lv_iconst (v := iI (1)) hx hb d_MD_join_17 rfl ?_
      refine lv_goto (tgt := 53) hx hb d_MD_join_18 (by decide) ?_
      refine pf_MD_31_MD X hw hM.1 rfl rfl d_MD_join_53 (fun H locs hw => ?_)
      obtain ⟨f6, e_f6⟩ : ∃ g9 : dw_M, g9 = dw_up f y (.inr (6, [.int (iI 1), .int (iI ((T.length : Int))), .ref si, .ref un, .int (iI ((B.length : Int))), .ref bu, .int (iI ((M.length : Int))), .ref ma, .int (iI ((Z.length : Int))), .ref bt, .int (iI ((Y.length : Int))), .ref so, .int (iI ((C.length : Int))), .ref co])) := ⟨_, rfl⟩
      rw [← e_f6] at hw
      have hM_f6 : mdS G f6 y 1 (T.length : Int) (B.length : Int) (M.length : Int) (Z.length : Int) (Y.length : Int) (C.length : Int) si un bu ma bt so co gsi gun gbu gma gbt gso gco := by rw [e_f6]; exact hM.obj 1 (T.length : Int) (B.length : Int) (M.length : Int) (Z.length : Int) (Y.length : Int) (C.length : Int)
      refine lv_aload_n hx hb d_MD_join_56 rfl (lv_at hl 0 rfl) ?_
      refine gf_MD_31_MD X hw hM_f6.1 d_MD_join_57 ?_
      refine di_if_le (tgt := 65) hx hb d_MD_join_60 (by decide) ⟨by decide, by decide⟩ (fun q9 => absurd q9 (by decide)) (fun _ => ?_)
      refine lv_iconst (v := iI (0)) hx hb d_MD_join_63 rfl ?_
      have e9 : sp_join T Y B Z ka kb = (1, 0, T, Y, B, Z) := by rw [sp_join, if_pos (fun q => nT q.2)]
      exact cn_iret hx hb hr hlk hw  (⟨by rw [e9], by rw [e9]; exact mdP_of (M := M) (C := C) ⟨si, un, bu, ma, bt, so, co, _, _, _, _, _, _, _, hM_f6, hT, hB, hZ, hMa, hC, hY⟩⟩) (Nat.le_refl _) (Nat.le_refl _) d_MD_join_64
set_option maxRecDepth 100000 in
set_option maxHeartbeats 4000000 in
theorem c_MD_part (l : Launch) (G : ct_G) (f : dw_M) (sz : Nat) (y : Nat) (th : Int) (T Y : List (List Int)) (B Z M C : List Int) (k : Int) (fr : Int) (to : Int) (hk : iR k) (hfr : iR fr) (hto : iR to) (hL : mdL G f y th T Y B Z M C) : cn l y_MD_part w_MD_part (2) (46) G f sz [.ref y, .int (iI k), .int (iI fr), .int (iI to)] (fun v f' => v = some (.int (iI (sp_part T Y B Z k fr to).2.1)) ∧ mdP G f' y (sp_part T Y B Z k fr to)) (0) (0) := by
  refine cn_of (own := "TextDeskModel") (nm := "part") (ds := "(III)I") (by decide) (Nat.le_of_ble_eq_true rfl) ?_
  intro p e s m args below meth c ls X hnm hr hlk hs0 hz hw hl
  have hx := X.1
  have hb := X.2.1
  have hl : lv_has ls 4 [(0, .ref y), (1, .int (iI k)), (2, .int (iI fr)), (3, .int (iI to))] := hl
  obtain ⟨si, un, bu, ma, bt, so, co, gsi, gun, gbu, gma, gbt, gso, gco, hM, hT, hB, hZ, hMa, hC, hY⟩ := id hL
  have hTl := hT.1
  have hBl := hB.1.1
  have hZl := hZ.1.1
  have hYl := hY.1
  have hCl := hC.1
  obtain ⟨hk0, hk1⟩ := hk
  obtain ⟨hfr0, hfr1⟩ := hfr
  obtain ⟨hto0, hto1⟩ := hto
  refine lv_aload_n hx hb d_MD_part_0 rfl (lv_at hl 0 rfl) ?_
  refine lv_aload_n hx hb d_MD_part_1 rfl (lv_at hl 0 rfl) ?_
  refine lv_iload_n hx hb d_MD_part_2 rfl (lv_at hl 1 rfl) ?_
  refine cs_MD_71 X hz hw hl.1 hM.1 (c_MD_isText l G f _ y th T Y B Z M C k ⟨by omega, by omega⟩ ⟨si, un, bu, ma, bt, so, co, _, _, _, _, _, _, _, hM, hT, hB, hZ, hMa, hC, hY⟩) ⟨Nat.le_of_ble_eq_true rfl, Nat.le_of_ble_eq_true rfl⟩ ⟨by show 0 + 0 ≤ 0; omega, by show 0 + 0 ≤ 0; omega⟩ (Nat.le_of_ble_eq_true rfl) d_MD_part_3 (fun v f9 H locs hp hw hsz9 hkp9 hdm9 => ?_)
  obtain ⟨rfl, hfe⟩ := hp
  rw [hfe] at hw
  refine W.eq (g2 := F0 m 6 ls [.int (iI (b2 (decide (isT T k)))), .ref y]) rfl ?_
  have hbt0 := b2_01 (decide (isT T k))
  refine di_if_ne (tgt := 13) hx hb d_MD_part_6 (by decide) ⟨by omega, by omega⟩ (fun bq6 => ?_) (fun bq6 => ?_)
  · have hT0 : isT T k := of_decide_eq_true (b2_1 (by omega))
    have hT0a := hT0.1
    have hT0b := hT0.2
    have hT0l := hT.len k
    refine lv_iload_n hx hb d_MD_part_13 rfl (lv_at hl 2 rfl) ?_
    refine di_if_lt (tgt := 32) hx hb d_MD_part_14 (by decide) ⟨by omega, by omega⟩ (fun bq14 => ?_) (fun bq14 => ?_)
    · refine lv_iconst (v := iI (2)) hx hb d_MD_part_32 rfl ?_
      refine lv_goto (tgt := 50) hx hb d_MD_part_33 (by decide) ?_
      refine pf_MD_31_MD X hw hM.1 rfl rfl d_MD_part_50 (fun H locs hw => ?_)
      obtain ⟨f1, e_f1⟩ : ∃ g9 : dw_M, g9 = dw_up f y (.inr (6, [.int (iI 2), .int (iI ((T.length : Int))), .ref si, .ref un, .int (iI ((B.length : Int))), .ref bu, .int (iI ((M.length : Int))), .ref ma, .int (iI ((Z.length : Int))), .ref bt, .int (iI ((Y.length : Int))), .ref so, .int (iI ((C.length : Int))), .ref co])) := ⟨_, rfl⟩
      rw [← e_f1] at hw
      have hM_f1 : mdS G f1 y 2 (T.length : Int) (B.length : Int) (M.length : Int) (Z.length : Int) (Y.length : Int) (C.length : Int) si un bu ma bt so co gsi gun gbu gma gbt gso gco := by rw [e_f1]; exact hM.obj 2 (T.length : Int) (B.length : Int) (M.length : Int) (Z.length : Int) (Y.length : Int) (C.length : Int)
      refine lv_aload_n hx hb d_MD_part_53 rfl (lv_at hl 0 rfl) ?_
      refine gf_MD_31_MD X hw hM_f1.1 d_MD_part_54 ?_
      refine di_if_le (tgt := 62) hx hb d_MD_part_57 (by decide) ⟨by decide, by decide⟩ (fun q9 => absurd q9 (by decide)) (fun _ => ?_)
      refine lv_iconst (v := iI (0)) hx hb d_MD_part_60 rfl ?_
      have e9 : sp_part T Y B Z k fr to = (2, 0, T, Y, B, Z) := by rw [sp_part, if_neg (fun q => q hT0), if_pos (by omega)]
      exact cn_iret hx hb hr hlk hw  (⟨by rw [e9], by rw [e9]; exact mdP_of (M := M) (C := C) ⟨si, un, bu, ma, bt, so, co, _, _, _, _, _, _, _, hM_f1, hT, hB, hZ, hMa, hC, hY⟩⟩) (Nat.le_refl _) (Nat.le_refl _) d_MD_part_61
    · refine lv_iload_n hx hb d_MD_part_17 rfl (lv_at hl 2 rfl) ?_
      refine lv_iload_n hx hb d_MD_part_18 rfl (lv_at hl 3 rfl) ?_
      refine di_icmp_gt (tgt := 32) hx hb d_MD_part_19 (by decide) ⟨by omega, by omega⟩ ⟨by omega, by omega⟩ (fun bq19 => ?_) (fun bq19 => ?_)
      · refine lv_iconst (v := iI (2)) hx hb d_MD_part_32 rfl ?_
        refine lv_goto (tgt := 50) hx hb d_MD_part_33 (by decide) ?_
        refine pf_MD_31_MD X hw hM.1 rfl rfl d_MD_part_50 (fun H locs hw => ?_)
        obtain ⟨f2, e_f2⟩ : ∃ g9 : dw_M, g9 = dw_up f y (.inr (6, [.int (iI 2), .int (iI ((T.length : Int))), .ref si, .ref un, .int (iI ((B.length : Int))), .ref bu, .int (iI ((M.length : Int))), .ref ma, .int (iI ((Z.length : Int))), .ref bt, .int (iI ((Y.length : Int))), .ref so, .int (iI ((C.length : Int))), .ref co])) := ⟨_, rfl⟩
        rw [← e_f2] at hw
        have hM_f2 : mdS G f2 y 2 (T.length : Int) (B.length : Int) (M.length : Int) (Z.length : Int) (Y.length : Int) (C.length : Int) si un bu ma bt so co gsi gun gbu gma gbt gso gco := by rw [e_f2]; exact hM.obj 2 (T.length : Int) (B.length : Int) (M.length : Int) (Z.length : Int) (Y.length : Int) (C.length : Int)
        refine lv_aload_n hx hb d_MD_part_53 rfl (lv_at hl 0 rfl) ?_
        refine gf_MD_31_MD X hw hM_f2.1 d_MD_part_54 ?_
        refine di_if_le (tgt := 62) hx hb d_MD_part_57 (by decide) ⟨by decide, by decide⟩ (fun q9 => absurd q9 (by decide)) (fun _ => ?_)
        refine lv_iconst (v := iI (0)) hx hb d_MD_part_60 rfl ?_
        have e9 : sp_part T Y B Z k fr to = (2, 0, T, Y, B, Z) := by rw [sp_part, if_neg (fun q => q hT0), if_pos (by omega)]
        exact cn_iret hx hb hr hlk hw  (⟨by rw [e9], by rw [e9]; exact mdP_of (M := M) (C := C) ⟨si, un, bu, ma, bt, so, co, _, _, _, _, _, _, _, hM_f2, hT, hB, hZ, hMa, hC, hY⟩⟩) (Nat.le_refl _) (Nat.le_refl _) d_MD_part_61
      · refine lv_iload_n hx hb d_MD_part_22 rfl (lv_at hl 3 rfl) ?_
        refine lv_aload_n hx hb d_MD_part_23 rfl (lv_at hl 0 rfl) ?_
        refine gf_MD_7_MD X hw hM.1 d_MD_part_24 ?_
        refine lv_iload_n hx hb d_MD_part_27 rfl (lv_at hl 1 rfl) ?_
        refine dw_iald hx hb X.K hw 0 hM.2.1 rfl (i := k) (by omega) (by omega) (by omega) (hT.sz hT0) d_MD_part_28 ?_
        refine di_icmp_le (tgt := 36) hx hb d_MD_part_29 (by decide) ⟨by omega, by omega⟩ ⟨by omega, by omega⟩ (fun bq29 => ?_) (fun bq29 => ?_)
        · refine lv_aload_n hx hb d_MD_part_36 rfl (lv_at hl 0 rfl) ?_
          refine gf_MD_58_MD X hw hM.1 d_MD_part_37 ?_
          refine lv_bipush (v := iI (24)) hx hb d_MD_part_40 rfl ?_
          refine di_icmp_ne (tgt := 49) hx hb d_MD_part_42 (by decide) ⟨by omega, by omega⟩ ⟨by omega, by omega⟩ (fun bq42 => ?_) (fun bq42 => ?_)
          · refine lv_iconst (v := iI (0)) hx hb d_MD_part_49 rfl ?_
            refine pf_MD_31_MD X hw hM.1 rfl rfl d_MD_part_50 (fun H locs hw => ?_)
            obtain ⟨f3, e_f3⟩ : ∃ g9 : dw_M, g9 = dw_up f y (.inr (6, [.int (iI 0), .int (iI ((T.length : Int))), .ref si, .ref un, .int (iI ((B.length : Int))), .ref bu, .int (iI ((M.length : Int))), .ref ma, .int (iI ((Z.length : Int))), .ref bt, .int (iI ((Y.length : Int))), .ref so, .int (iI ((C.length : Int))), .ref co])) := ⟨_, rfl⟩
            rw [← e_f3] at hw
            have hM_f3 : mdS G f3 y 0 (T.length : Int) (B.length : Int) (M.length : Int) (Z.length : Int) (Y.length : Int) (C.length : Int) si un bu ma bt so co gsi gun gbu gma gbt gso gco := by rw [e_f3]; exact hM.obj 0 (T.length : Int) (B.length : Int) (M.length : Int) (Z.length : Int) (Y.length : Int) (C.length : Int)
            refine lv_aload_n hx hb d_MD_part_53 rfl (lv_at hl 0 rfl) ?_
            refine gf_MD_31_MD X hw hM_f3.1 d_MD_part_54 ?_
            refine di_if_le (tgt := 62) hx hb d_MD_part_57 (by decide) ⟨by decide, by decide⟩ (fun _ => ?_) (fun q9 => absurd q9 (by decide))
            refine lv_aload_n hx hb d_MD_part_62 rfl (lv_at hl 0 rfl) ?_
            refine lv_iconst (v := iI (0)) hx hb d_MD_part_63 rfl ?_
            refine pf_MD_55_MD X hw hM_f3.1 rfl rfl d_MD_part_64 (fun H locs hw => ?_)
            obtain ⟨f4, e_f4⟩ : ∃ g9 : dw_M, g9 = dw_up f3 y (.inr (6, [.int (iI 0), .int (iI ((T.length : Int))), .ref si, .ref un, .int (iI ((B.length : Int))), .ref bu, .int (iI 0), .ref ma, .int (iI ((Z.length : Int))), .ref bt, .int (iI ((Y.length : Int))), .ref so, .int (iI ((C.length : Int))), .ref co])) := ⟨_, rfl⟩
            rw [← e_f4] at hw
            have hM_f4 : mdS G f4 y 0 (T.length : Int) (B.length : Int) 0 (Z.length : Int) (Y.length : Int) (C.length : Int) si un bu ma bt so co gsi gun gbu gma gbt gso gco := by rw [e_f4]; exact hM_f3.obj 0 (T.length : Int) (B.length : Int) 0 (Z.length : Int) (Y.length : Int) (C.length : Int)
            refine lv_aload_n hx hb d_MD_part_67 rfl (lv_at hl 0 rfl) ?_
            refine lv_iload_n hx hb d_MD_part_68 rfl (lv_at hl 1 rfl) ?_
            refine lv_iload_n hx hb d_MD_part_69 rfl (lv_at hl 2 rfl) ?_
            refine lv_iload_n hx hb d_MD_part_70 rfl (lv_at hl 3 rfl) ?_
            refine cs_MD_74 X hz hw hl.1 hM_f4.1 (c_MD_makePart l G f4 _ y 0 T Y B Z [] C k fr to hT0 (by omega) (by simp) ⟨si, un, bu, ma, bt, so, co, _, _, _, _, _, _, _, hM_f4, hT, hB, hZ, (rM.nil _), hC, hY⟩) ⟨Nat.le_of_ble_eq_true rfl, Nat.le_of_ble_eq_true rfl⟩ ⟨by show 0 + 0 ≤ 0; omega, by show 0 + 0 ≤ 0; omega⟩ (Nat.le_of_ble_eq_true rfl) d_MD_part_71 (fun v f7 H locs hp hw hsz9 hkp9 hdm9 => ?_)
            obtain ⟨rfl, hL_f7⟩ := hp
            refine W.eq (g2 := F0 m 74 ls []) rfl ?_
            obtain ⟨si, un, bu, ma, bt, so, co, gsi, gun, gbu, gma, gbt, gso, gco, hM, hT, hB, hZ, hMa, hC, hY⟩ := id hL_f7
            refine lv_aload_n hx hb d_MD_part_74 rfl (lv_at hl 0 rfl) ?_
            rw [List.nil_append] at hM hMa
            have hsl := sbl_len (tt T k) fr to
            refine cs_MD_78 X hz hw hl.1 hM.1 (c_MD_addMade l G f7 _ y 0 T Y B Z (sbl (tt T k) fr to) C (by omega) (by omega) (fun u h => hT.rng k u (sbl_mem h)) ⟨si, un, bu, ma, bt, so, co, _, _, _, _, _, _, _, hM, hT, hB, hZ, hMa, hC, hY⟩) ⟨Nat.le_of_ble_eq_true rfl, Nat.le_of_ble_eq_true rfl⟩ ⟨by show 0 + 0 ≤ 0; omega, by show 0 + 0 ≤ 0; omega⟩ (Nat.le_of_ble_eq_true rfl) d_MD_part_75 (fun v f9 H locs hp hw hsz9 hkp9 hdm9 => ?_)
            obtain ⟨rfl, hL_f9⟩ := hp
            refine W.eq (g2 := F0 m 78 ls [.int (iI ((T.length : Int)))]) rfl ?_
            obtain ⟨si, un, bu, ma, bt, so, co, gsi, gun, gbu, gma, gbt, gso, gco, hM, hT, hB, hZ, hMa, hC, hY⟩ := id hL_f9
            have e9 : sp_part T Y B Z k fr to = (0, (T.length : Int), T ++ [sbl (tt T k) fr to], Y, B, Z) := by rw [sp_part, if_neg (fun q => q hT0), if_neg (by omega), if_neg (by omega)]
            exact cn_iret hx hb hr hlk hw  (⟨by rw [e9], by rw [e9]; exact mdP_of (M := (sbl (tt T k) fr to)) (C := C) ⟨si, un, bu, ma, bt, so, co, _, _, _, _, _, _, _, hM, hT, hB, hZ, hMa, hC, hY⟩⟩) (Nat.le_refl _) (Nat.le_refl _) d_MD_part_78
          · refine lv_iconst (v := iI (3)) hx hb d_MD_part_45 rfl ?_
            refine lv_goto (tgt := 50) hx hb d_MD_part_46 (by decide) ?_
            refine pf_MD_31_MD X hw hM.1 rfl rfl d_MD_part_50 (fun H locs hw => ?_)
            obtain ⟨f5, e_f5⟩ : ∃ g9 : dw_M, g9 = dw_up f y (.inr (6, [.int (iI 3), .int (iI ((T.length : Int))), .ref si, .ref un, .int (iI ((B.length : Int))), .ref bu, .int (iI ((M.length : Int))), .ref ma, .int (iI ((Z.length : Int))), .ref bt, .int (iI ((Y.length : Int))), .ref so, .int (iI ((C.length : Int))), .ref co])) := ⟨_, rfl⟩
            rw [← e_f5] at hw
            have hM_f5 : mdS G f5 y 3 (T.length : Int) (B.length : Int) (M.length : Int) (Z.length : Int) (Y.length : Int) (C.length : Int) si un bu ma bt so co gsi gun gbu gma gbt gso gco := by rw [e_f5]; exact hM.obj 3 (T.length : Int) (B.length : Int) (M.length : Int) (Z.length : Int) (Y.length : Int) (C.length : Int)
            refine lv_aload_n hx hb d_MD_part_53 rfl (lv_at hl 0 rfl) ?_
            refine gf_MD_31_MD X hw hM_f5.1 d_MD_part_54 ?_
            refine di_if_le (tgt := 62) hx hb d_MD_part_57 (by decide) ⟨by decide, by decide⟩ (fun q9 => absurd q9 (by decide)) (fun _ => ?_)
            refine lv_iconst (v := iI (0)) hx hb d_MD_part_60 rfl ?_
            have e9 : sp_part T Y B Z k fr to = (3, 0, T, Y, B, Z) := by rw [sp_part, if_neg (fun q => q hT0), if_neg (by omega), if_pos (by omega)]
            exact cn_iret hx hb hr hlk hw  (⟨by rw [e9], by rw [e9]; exact mdP_of (M := M) (C := C) ⟨si, un, bu, ma, bt, so, co, _, _, _, _, _, _, _, hM_f5, hT, hB, hZ, hMa, hC, hY⟩⟩) (Nat.le_refl _) (Nat.le_refl _) d_MD_part_61
        · refine lv_iconst (v := iI (2)) hx hb d_MD_part_32 rfl ?_
          refine lv_goto (tgt := 50) hx hb d_MD_part_33 (by decide) ?_
          refine pf_MD_31_MD X hw hM.1 rfl rfl d_MD_part_50 (fun H locs hw => ?_)
          obtain ⟨f6, e_f6⟩ : ∃ g9 : dw_M, g9 = dw_up f y (.inr (6, [.int (iI 2), .int (iI ((T.length : Int))), .ref si, .ref un, .int (iI ((B.length : Int))), .ref bu, .int (iI ((M.length : Int))), .ref ma, .int (iI ((Z.length : Int))), .ref bt, .int (iI ((Y.length : Int))), .ref so, .int (iI ((C.length : Int))), .ref co])) := ⟨_, rfl⟩
          rw [← e_f6] at hw
          have hM_f6 : mdS G f6 y 2 (T.length : Int) (B.length : Int) (M.length : Int) (Z.length : Int) (Y.length : Int) (C.length : Int) si un bu ma bt so co gsi gun gbu gma gbt gso gco := by rw [e_f6]; exact hM.obj 2 (T.length : Int) (B.length : Int) (M.length : Int) (Z.length : Int) (Y.length : Int) (C.length : Int)
          refine lv_aload_n hx hb d_MD_part_53 rfl (lv_at hl 0 rfl) ?_
          refine gf_MD_31_MD X hw hM_f6.1 d_MD_part_54 ?_
          refine di_if_le (tgt := 62) hx hb d_MD_part_57 (by decide) ⟨by decide, by decide⟩ (fun q9 => absurd q9 (by decide)) (fun _ => ?_)
          refine lv_iconst (v := iI (0)) hx hb d_MD_part_60 rfl ?_
          have e9 : sp_part T Y B Z k fr to = (2, 0, T, Y, B, Z) := by rw [sp_part, if_neg (fun q => q hT0), if_pos (by omega)]
          exact cn_iret hx hb hr hlk hw  (⟨by rw [e9], by rw [e9]; exact mdP_of (M := M) (C := C) ⟨si, un, bu, ma, bt, so, co, _, _, _, _, _, _, _, hM_f6, hT, hB, hZ, hMa, hC, hY⟩⟩) (Nat.le_refl _) (Nat.le_refl _) d_MD_part_61
  · have nT : ¬ isT T k := of_decide_eq_false (b2_0 (by omega))
    refine lv_iconst (v := iI (1)) hx hb d_MD_part_9 rfl ?_
    refine lv_goto (tgt := 50) hx hb d_MD_part_10 (by decide) ?_
    refine pf_MD_31_MD X hw hM.1 rfl rfl d_MD_part_50 (fun H locs hw => ?_)
    obtain ⟨f7, e_f7⟩ : ∃ g9 : dw_M, g9 = dw_up f y (.inr (6, [.int (iI 1), .int (iI ((T.length : Int))), .ref si, .ref un, .int (iI ((B.length : Int))), .ref bu, .int (iI ((M.length : Int))), .ref ma, .int (iI ((Z.length : Int))), .ref bt, .int (iI ((Y.length : Int))), .ref so, .int (iI ((C.length : Int))), .ref co])) := ⟨_, rfl⟩
    rw [← e_f7] at hw
    have hM_f7 : mdS G f7 y 1 (T.length : Int) (B.length : Int) (M.length : Int) (Z.length : Int) (Y.length : Int) (C.length : Int) si un bu ma bt so co gsi gun gbu gma gbt gso gco := by rw [e_f7]; exact hM.obj 1 (T.length : Int) (B.length : Int) (M.length : Int) (Z.length : Int) (Y.length : Int) (C.length : Int)
    refine lv_aload_n hx hb d_MD_part_53 rfl (lv_at hl 0 rfl) ?_
    refine gf_MD_31_MD X hw hM_f7.1 d_MD_part_54 ?_
    refine di_if_le (tgt := 62) hx hb d_MD_part_57 (by decide) ⟨by decide, by decide⟩ (fun q9 => absurd q9 (by decide)) (fun _ => ?_)
    refine lv_iconst (v := iI (0)) hx hb d_MD_part_60 rfl ?_
    have e9 : sp_part T Y B Z k fr to = (1, 0, T, Y, B, Z) := by rw [sp_part, if_pos (fun q => nT q)]
    exact cn_iret hx hb hr hlk hw  (⟨by rw [e9], by rw [e9]; exact mdP_of (M := M) (C := C) ⟨si, un, bu, ma, bt, so, co, _, _, _, _, _, _, _, hM_f7, hT, hB, hZ, hMa, hC, hY⟩⟩) (Nat.le_refl _) (Nat.le_refl _) d_MD_part_61
set_option maxRecDepth 100000 in
set_option maxHeartbeats 4000000 in
theorem c_MD_at (l : Launch) (G : ct_G) (f : dw_M) (sz : Nat) (y : Nat) (th : Int) (T Y : List (List Int)) (B Z M C : List Int) (k : Int) (i : Int) (hk : iR k) (hi : iR i) (hL : mdL G f y th T Y B Z M C) : cn l y_MD_at w_MD_at (2) (42) G f sz [.ref y, .int (iI k), .int (iI i)] (fun v f' => v = some (.int (iI (sp_at T Y B Z k i).2.1)) ∧ mdP G f' y (sp_at T Y B Z k i)) (0) (0) := by
  refine cn_of (own := "TextDeskModel") (nm := "at") (ds := "(II)I") (by decide) (Nat.le_of_ble_eq_true rfl) ?_
  intro p e s m args below meth c ls X hnm hr hlk hs0 hz hw hl
  have hx := X.1
  have hb := X.2.1
  have hl : lv_has ls 3 [(0, .ref y), (1, .int (iI k)), (2, .int (iI i))] := hl
  obtain ⟨si, un, bu, ma, bt, so, co, gsi, gun, gbu, gma, gbt, gso, gco, hM, hT, hB, hZ, hMa, hC, hY⟩ := id hL
  have hTl := hT.1
  have hBl := hB.1.1
  have hZl := hZ.1.1
  have hYl := hY.1
  have hCl := hC.1
  obtain ⟨hk0, hk1⟩ := hk
  obtain ⟨hi0, hi1⟩ := hi
  refine lv_aload_n hx hb d_MD_at_0 rfl (lv_at hl 0 rfl) ?_
  refine lv_aload_n hx hb d_MD_at_1 rfl (lv_at hl 0 rfl) ?_
  refine lv_iload_n hx hb d_MD_at_2 rfl (lv_at hl 1 rfl) ?_
  refine cs_MD_71 X hz hw hl.1 hM.1 (c_MD_isText l G f _ y th T Y B Z M C k ⟨by omega, by omega⟩ ⟨si, un, bu, ma, bt, so, co, _, _, _, _, _, _, _, hM, hT, hB, hZ, hMa, hC, hY⟩) ⟨Nat.le_of_ble_eq_true rfl, Nat.le_of_ble_eq_true rfl⟩ ⟨by show 0 + 0 ≤ 0; omega, by show 0 + 0 ≤ 0; omega⟩ (Nat.le_of_ble_eq_true rfl) d_MD_at_3 (fun v f9 H locs hp hw hsz9 hkp9 hdm9 => ?_)
  obtain ⟨rfl, hfe⟩ := hp
  rw [hfe] at hw
  refine W.eq (g2 := F0 m 6 ls [.int (iI (b2 (decide (isT T k)))), .ref y]) rfl ?_
  have hbt0 := b2_01 (decide (isT T k))
  refine di_if_ne (tgt := 13) hx hb d_MD_at_6 (by decide) ⟨by omega, by omega⟩ (fun bq6 => ?_) (fun bq6 => ?_)
  · have hT0 : isT T k := of_decide_eq_true (b2_1 (by omega))
    have hT0a := hT0.1
    have hT0b := hT0.2
    have hT0l := hT.len k
    refine lv_iload_n hx hb d_MD_at_13 rfl (lv_at hl 2 rfl) ?_
    refine lv_iconst (v := iI (-1)) hx hb d_MD_at_14 rfl ?_
    refine di_icmp_lt (tgt := 28) hx hb d_MD_at_15 (by decide) ⟨by omega, by omega⟩ ⟨by omega, by omega⟩ (fun bq15 => ?_) (fun bq15 => ?_)
    · refine lv_iconst (v := iI (2)) hx hb d_MD_at_28 rfl ?_
      refine lv_goto (tgt := 33) hx hb d_MD_at_29 (by decide) ?_
      refine pf_MD_31_MD X hw hM.1 rfl rfl d_MD_at_33 (fun H locs hw => ?_)
      obtain ⟨f1, e_f1⟩ : ∃ g9 : dw_M, g9 = dw_up f y (.inr (6, [.int (iI 2), .int (iI ((T.length : Int))), .ref si, .ref un, .int (iI ((B.length : Int))), .ref bu, .int (iI ((M.length : Int))), .ref ma, .int (iI ((Z.length : Int))), .ref bt, .int (iI ((Y.length : Int))), .ref so, .int (iI ((C.length : Int))), .ref co])) := ⟨_, rfl⟩
      rw [← e_f1] at hw
      have hM_f1 : mdS G f1 y 2 (T.length : Int) (B.length : Int) (M.length : Int) (Z.length : Int) (Y.length : Int) (C.length : Int) si un bu ma bt so co gsi gun gbu gma gbt gso gco := by rw [e_f1]; exact hM.obj 2 (T.length : Int) (B.length : Int) (M.length : Int) (Z.length : Int) (Y.length : Int) (C.length : Int)
      refine lv_aload_n hx hb d_MD_at_36 rfl (lv_at hl 0 rfl) ?_
      refine gf_MD_31_MD X hw hM_f1.1 d_MD_at_37 ?_
      refine di_if_le (tgt := 45) hx hb d_MD_at_40 (by decide) ⟨by decide, by decide⟩ (fun q9 => absurd q9 (by decide)) (fun _ => ?_)
      refine lv_iconst (v := iI (0)) hx hb d_MD_at_43 rfl ?_
      have e9 : sp_at T Y B Z k i = (2, 0, T, Y, B, Z) := by rw [sp_at, if_neg (fun q => q hT0), if_pos (by omega)]
      exact cn_iret hx hb hr hlk hw  (⟨by rw [e9], by rw [e9]; exact mdP_of (M := M) (C := C) ⟨si, un, bu, ma, bt, so, co, _, _, _, _, _, _, _, hM_f1, hT, hB, hZ, hMa, hC, hY⟩⟩) (Nat.le_refl _) (Nat.le_refl _) d_MD_at_44
    · refine lv_iload_n hx hb d_MD_at_18 rfl (lv_at hl 2 rfl) ?_
      refine lv_aload_n hx hb d_MD_at_19 rfl (lv_at hl 0 rfl) ?_
      refine gf_MD_7_MD X hw hM.1 d_MD_at_20 ?_
      refine lv_iload_n hx hb d_MD_at_23 rfl (lv_at hl 1 rfl) ?_
      refine dw_iald hx hb X.K hw 0 hM.2.1 rfl (i := k) (by omega) (by omega) (by omega) (hT.sz hT0) d_MD_at_24 ?_
      refine di_icmp_lt (tgt := 32) hx hb d_MD_at_25 (by decide) ⟨by omega, by omega⟩ ⟨by omega, by omega⟩ (fun bq25 => ?_) (fun bq25 => ?_)
      · refine lv_iconst (v := iI (0)) hx hb d_MD_at_32 rfl ?_
        refine pf_MD_31_MD X hw hM.1 rfl rfl d_MD_at_33 (fun H locs hw => ?_)
        obtain ⟨f2, e_f2⟩ : ∃ g9 : dw_M, g9 = dw_up f y (.inr (6, [.int (iI 0), .int (iI ((T.length : Int))), .ref si, .ref un, .int (iI ((B.length : Int))), .ref bu, .int (iI ((M.length : Int))), .ref ma, .int (iI ((Z.length : Int))), .ref bt, .int (iI ((Y.length : Int))), .ref so, .int (iI ((C.length : Int))), .ref co])) := ⟨_, rfl⟩
        rw [← e_f2] at hw
        have hM_f2 : mdS G f2 y 0 (T.length : Int) (B.length : Int) (M.length : Int) (Z.length : Int) (Y.length : Int) (C.length : Int) si un bu ma bt so co gsi gun gbu gma gbt gso gco := by rw [e_f2]; exact hM.obj 0 (T.length : Int) (B.length : Int) (M.length : Int) (Z.length : Int) (Y.length : Int) (C.length : Int)
        refine lv_aload_n hx hb d_MD_at_36 rfl (lv_at hl 0 rfl) ?_
        refine gf_MD_31_MD X hw hM_f2.1 d_MD_at_37 ?_
        refine di_if_le (tgt := 45) hx hb d_MD_at_40 (by decide) ⟨by decide, by decide⟩ (fun _ => ?_) (fun q9 => absurd q9 (by decide))
        refine lv_iload_n hx hb d_MD_at_45 rfl (lv_at hl 2 rfl) ?_
        refine di_if_ge (tgt := 58) hx hb d_MD_at_46 (by decide) ⟨by omega, by omega⟩ (fun bq46 => ?_) (fun bq46 => ?_)
        · refine lv_aload_n hx hb d_MD_at_58 rfl (lv_at hl 0 rfl) ?_
          refine lv_iload_n hx hb d_MD_at_59 rfl (lv_at hl 1 rfl) ?_
          refine lv_iload_n hx hb d_MD_at_60 rfl (lv_at hl 2 rfl) ?_
          refine cs_MD_39 X hz hw hl.1 hM_f2.1 (c_MD_unitOf l G f2 _ y 0 T Y B Z M C k i hT0 ⟨by omega, by omega⟩ ⟨si, un, bu, ma, bt, so, co, _, _, _, _, _, _, _, hM_f2, hT, hB, hZ, hMa, hC, hY⟩) ⟨Nat.le_of_ble_eq_true rfl, Nat.le_of_ble_eq_true rfl⟩ ⟨by show 0 + 0 ≤ 0; omega, by show 0 + 0 ≤ 0; omega⟩ (Nat.le_of_ble_eq_true rfl) d_MD_at_61 (fun v f9 H locs hp hw hsz9 hkp9 hdm9 => ?_)
          obtain ⟨rfl, hfe⟩ := hp
          rw [hfe] at hw
          refine W.eq (g2 := F0 m 64 ls [.int (iI (gt (tt T k) i))]) rfl ?_
          have e9 : sp_at T Y B Z k i = (0, gt (tt T k) i, T, Y, B, Z) := by rw [sp_at, if_neg (fun q => q hT0), if_neg (by omega), if_neg (by omega)]
          exact cn_iret hx hb hr hlk hw  (⟨by rw [e9], by rw [e9]; exact mdP_of (M := M) (C := C) ⟨si, un, bu, ma, bt, so, co, _, _, _, _, _, _, _, hM_f2, hT, hB, hZ, hMa, hC, hY⟩⟩) (Nat.le_refl _) (Nat.le_refl _) d_MD_at_64
        · refine lv_aload_n hx hb d_MD_at_49 rfl (lv_at hl 0 rfl) ?_
          refine gf_MD_7_MD X hw hM_f2.1 d_MD_at_50 ?_
          refine lv_iload_n hx hb d_MD_at_53 rfl (lv_at hl 1 rfl) ?_
          refine dw_iald hx hb X.K hw 0 hM_f2.2.1 rfl (i := k) (by omega) (by omega) (by omega) (hT.sz hT0) d_MD_at_54 ?_
          refine lv_goto (tgt := 64) hx hb d_MD_at_55 (by decide) ?_
          have e9 : sp_at T Y B Z k i = (0, ((tt T k).length : Int), T, Y, B, Z) := by rw [sp_at, if_neg (fun q => q hT0), if_neg (by omega), if_pos (by omega)]
          exact cn_iret hx hb hr hlk hw  (⟨by rw [e9], by rw [e9]; exact mdP_of (M := M) (C := C) ⟨si, un, bu, ma, bt, so, co, _, _, _, _, _, _, _, hM_f2, hT, hB, hZ, hMa, hC, hY⟩⟩) (Nat.le_refl _) (Nat.le_refl _) d_MD_at_64
      · refine lv_iconst (v := iI (2)) hx hb d_MD_at_28 rfl ?_
        refine lv_goto (tgt := 33) hx hb d_MD_at_29 (by decide) ?_
        refine pf_MD_31_MD X hw hM.1 rfl rfl d_MD_at_33 (fun H locs hw => ?_)
        obtain ⟨f3, e_f3⟩ : ∃ g9 : dw_M, g9 = dw_up f y (.inr (6, [.int (iI 2), .int (iI ((T.length : Int))), .ref si, .ref un, .int (iI ((B.length : Int))), .ref bu, .int (iI ((M.length : Int))), .ref ma, .int (iI ((Z.length : Int))), .ref bt, .int (iI ((Y.length : Int))), .ref so, .int (iI ((C.length : Int))), .ref co])) := ⟨_, rfl⟩
        rw [← e_f3] at hw
        have hM_f3 : mdS G f3 y 2 (T.length : Int) (B.length : Int) (M.length : Int) (Z.length : Int) (Y.length : Int) (C.length : Int) si un bu ma bt so co gsi gun gbu gma gbt gso gco := by rw [e_f3]; exact hM.obj 2 (T.length : Int) (B.length : Int) (M.length : Int) (Z.length : Int) (Y.length : Int) (C.length : Int)
        refine lv_aload_n hx hb d_MD_at_36 rfl (lv_at hl 0 rfl) ?_
        refine gf_MD_31_MD X hw hM_f3.1 d_MD_at_37 ?_
        refine di_if_le (tgt := 45) hx hb d_MD_at_40 (by decide) ⟨by decide, by decide⟩ (fun q9 => absurd q9 (by decide)) (fun _ => ?_)
        refine lv_iconst (v := iI (0)) hx hb d_MD_at_43 rfl ?_
        have e9 : sp_at T Y B Z k i = (2, 0, T, Y, B, Z) := by rw [sp_at, if_neg (fun q => q hT0), if_pos (by omega)]
        exact cn_iret hx hb hr hlk hw  (⟨by rw [e9], by rw [e9]; exact mdP_of (M := M) (C := C) ⟨si, un, bu, ma, bt, so, co, _, _, _, _, _, _, _, hM_f3, hT, hB, hZ, hMa, hC, hY⟩⟩) (Nat.le_refl _) (Nat.le_refl _) d_MD_at_44
  · have nT : ¬ isT T k := of_decide_eq_false (b2_0 (by omega))
    refine lv_iconst (v := iI (1)) hx hb d_MD_at_9 rfl ?_
    refine lv_goto (tgt := 33) hx hb d_MD_at_10 (by decide) ?_
    refine pf_MD_31_MD X hw hM.1 rfl rfl d_MD_at_33 (fun H locs hw => ?_)
    obtain ⟨f4, e_f4⟩ : ∃ g9 : dw_M, g9 = dw_up f y (.inr (6, [.int (iI 1), .int (iI ((T.length : Int))), .ref si, .ref un, .int (iI ((B.length : Int))), .ref bu, .int (iI ((M.length : Int))), .ref ma, .int (iI ((Z.length : Int))), .ref bt, .int (iI ((Y.length : Int))), .ref so, .int (iI ((C.length : Int))), .ref co])) := ⟨_, rfl⟩
    rw [← e_f4] at hw
    have hM_f4 : mdS G f4 y 1 (T.length : Int) (B.length : Int) (M.length : Int) (Z.length : Int) (Y.length : Int) (C.length : Int) si un bu ma bt so co gsi gun gbu gma gbt gso gco := by rw [e_f4]; exact hM.obj 1 (T.length : Int) (B.length : Int) (M.length : Int) (Z.length : Int) (Y.length : Int) (C.length : Int)
    refine lv_aload_n hx hb d_MD_at_36 rfl (lv_at hl 0 rfl) ?_
    refine gf_MD_31_MD X hw hM_f4.1 d_MD_at_37 ?_
    refine di_if_le (tgt := 45) hx hb d_MD_at_40 (by decide) ⟨by decide, by decide⟩ (fun q9 => absurd q9 (by decide)) (fun _ => ?_)
    refine lv_iconst (v := iI (0)) hx hb d_MD_at_43 rfl ?_
    have e9 : sp_at T Y B Z k i = (1, 0, T, Y, B, Z) := by rw [sp_at, if_pos (fun q => nT q)]
    exact cn_iret hx hb hr hlk hw  (⟨by rw [e9], by rw [e9]; exact mdP_of (M := M) (C := C) ⟨si, un, bu, ma, bt, so, co, _, _, _, _, _, _, _, hM_f4, hT, hB, hZ, hMa, hC, hY⟩⟩) (Nat.le_refl _) (Nat.le_refl _) d_MD_at_44
set_option maxRecDepth 100000 in
set_option maxHeartbeats 4000000 in
theorem c_MD_clear (l : Launch) (G : ct_G) (f : dw_M) (sz : Nat) (y : Nat) (th : Int) (T Y : List (List Int)) (B Z M C : List Int) (hL : mdL G f y th T Y B Z M C) : cn l y_MD_clear w_MD_clear (0) (0) G f sz [.ref y] (fun v f' => v = none ∧ mdP G f' y (sp_clear B Z)) (0) (0) := by
  refine cn_of (own := "TextDeskModel") (nm := "clear") (ds := "()V") (by decide) (Nat.le_of_ble_eq_true rfl) ?_
  intro p e s m args below meth c ls X hnm hr hlk hs0 hz hw hl
  have hx := X.1
  have hb := X.2.1
  have hl : lv_has ls 1 [(0, .ref y)] := hl
  obtain ⟨si, un, bu, ma, bt, so, co, gsi, gun, gbu, gma, gbt, gso, gco, hM, hT, hB, hZ, hMa, hC, hY⟩ := id hL
  have hTl := hT.1
  have hBl := hB.1.1
  have hZl := hZ.1.1
  have hYl := hY.1
  have hCl := hC.1
  refine lv_aload_n hx hb d_MD_clear_0 rfl (lv_at hl 0 rfl) ?_
  refine lv_iconst (v := iI (0)) hx hb d_MD_clear_1 rfl ?_
  refine pf_MD_31_MD X hw hM.1 rfl rfl d_MD_clear_2 (fun H locs hw => ?_)
  obtain ⟨f1, e_f1⟩ : ∃ g9 : dw_M, g9 = dw_up f y (.inr (6, [.int (iI 0), .int (iI ((T.length : Int))), .ref si, .ref un, .int (iI ((B.length : Int))), .ref bu, .int (iI ((M.length : Int))), .ref ma, .int (iI ((Z.length : Int))), .ref bt, .int (iI ((Y.length : Int))), .ref so, .int (iI ((C.length : Int))), .ref co])) := ⟨_, rfl⟩
  rw [← e_f1] at hw
  have hM_f1 : mdS G f1 y 0 (T.length : Int) (B.length : Int) (M.length : Int) (Z.length : Int) (Y.length : Int) (C.length : Int) si un bu ma bt so co gsi gun gbu gma gbt gso gco := by rw [e_f1]; exact hM.obj 0 (T.length : Int) (B.length : Int) (M.length : Int) (Z.length : Int) (Y.length : Int) (C.length : Int)
  refine lv_aload_n hx hb d_MD_clear_5 rfl (lv_at hl 0 rfl) ?_
  refine lv_iconst (v := iI (0)) hx hb d_MD_clear_6 rfl ?_
  refine pf_MD_58_MD X hw hM_f1.1 rfl rfl d_MD_clear_7 (fun H locs hw => ?_)
  obtain ⟨f2, e_f2⟩ : ∃ g9 : dw_M, g9 = dw_up f1 y (.inr (6, [.int (iI 0), .int (iI 0), .ref si, .ref un, .int (iI ((B.length : Int))), .ref bu, .int (iI ((M.length : Int))), .ref ma, .int (iI ((Z.length : Int))), .ref bt, .int (iI ((Y.length : Int))), .ref so, .int (iI ((C.length : Int))), .ref co])) := ⟨_, rfl⟩
  rw [← e_f2] at hw
  have hM_f2 : mdS G f2 y 0 0 (B.length : Int) (M.length : Int) (Z.length : Int) (Y.length : Int) (C.length : Int) si un bu ma bt so co gsi gun gbu gma gbt gso gco := by rw [e_f2]; exact hM_f1.obj 0 0 (B.length : Int) (M.length : Int) (Z.length : Int) (Y.length : Int) (C.length : Int)
  refine lv_aload_n hx hb d_MD_clear_10 rfl (lv_at hl 0 rfl) ?_
  refine lv_iconst (v := iI (0)) hx hb d_MD_clear_11 rfl ?_
  refine pf_MD_96_MD X hw hM_f2.1 rfl rfl d_MD_clear_12 (fun H locs hw => ?_)
  obtain ⟨f3, e_f3⟩ : ∃ g9 : dw_M, g9 = dw_up f2 y (.inr (6, [.int (iI 0), .int (iI 0), .ref si, .ref un, .int (iI ((B.length : Int))), .ref bu, .int (iI ((M.length : Int))), .ref ma, .int (iI ((Z.length : Int))), .ref bt, .int (iI 0), .ref so, .int (iI ((C.length : Int))), .ref co])) := ⟨_, rfl⟩
  rw [← e_f3] at hw
  have hM_f3 : mdS G f3 y 0 0 (B.length : Int) (M.length : Int) (Z.length : Int) 0 (C.length : Int) si un bu ma bt so co gsi gun gbu gma gbt gso gco := by rw [e_f3]; exact hM_f2.obj 0 0 (B.length : Int) (M.length : Int) (Z.length : Int) 0 (C.length : Int)
  have e9 : sp_clear B Z = (0, 0, [], [], B, Z) := by rw [sp_clear]
  exact cn_vret hx hb hr hlk hw  (⟨rfl, by rw [e9]; exact mdP_of (M := M) (C := C) ⟨si, un, bu, ma, bt, so, co, _, _, _, _, _, _, _, hM_f3, ⟨by simp, fun i hi => by simp at hi⟩, hB, hZ, hMa, hC, ⟨by simp, fun i hi => by simp at hi⟩⟩⟩) (Nat.le_refl _) (Nat.le_refl _) d_MD_clear_15
