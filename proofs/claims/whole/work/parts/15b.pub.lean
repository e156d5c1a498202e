set_option maxRecDepth 100000 in
set_option maxHeartbeats 4000000 in
theorem c_DK_type (l : Launch) (hlT : l.stackTraces = false) (G : ct_G) (f : dw_M) (sz : Nat) (x : Nat) (T Y : List (List Int)) (B Z : List Int) (hI : dkI G f x T Y B Z) (u : Int) (hu : iR u) : ct l y_DK_type w_DK_type (8) (120) G f sz [.ref x, .int (iI u)] (fun v f' => v = some (.int (iI ((Z.length : Int) + 1))) ∧ (0 ≤ u ∧ u < 256) ∧ Z.length < 200 ∧ dkI G f' x T Y B (Z ++ [u])) (fun E f' => (E = "java/lang/IllegalArgumentException" ∧ ¬ (0 ≤ u ∧ u < 256) ∨ E = "java/lang/IllegalStateException" ∧ (0 ≤ u ∧ u < 256) ∧ Z.length = 200) ∧ dkI G f' x T Y B Z) (1) (6) := by
  refine ct_of (own := "TextDesk") (nm := "type") (ds := "(I)I") (by decide) (Nat.le_of_ble_eq_true rfl) ?_
  intro p e s m args below meth c ls X hnm hr hlk hnx hs0 hz hw hl
  have hx := X.1
  have hb := X.2.1
  have hl : lv_has ls 2 [(0, .ref x), (1, .int (iI u))] := hl
  have hG := X.E.ok
  obtain ⟨ta, sa, yr, dc, bu, dr, qy, qb, qd, gT, gS, c0, w0, D, sB, sZ, sD, hS⟩ := hI
  obtain ⟨hu1, hu2⟩ := hu
  have hZ := hS.2.2.2.2.2.2.2.1.1.len
  refine lv_iload_n hx hb d_DK_type_0 rfl (lv_at hl 1 rfl) ?_
  refine di_if_lt (tgt := 11) hx hb d_DK_type_1 (by decide) ⟨by omega, by omega⟩ (fun bq1 => ?_) (fun bq1 => ?_)
  · exact th_IAE X hlT hz (is := 156) (text := "no byte") (by decide +kernel) hw hl.1 hnx hlk (⟨Or.inl ⟨rfl, by omega⟩, hS.I⟩) ⟨by show 8 ≤ 8; omega, by show 120 ≤ 120; omega⟩ ⟨by show 0 + 1 ≤ 1; omega, by show 0 + 6 ≤ 6; omega⟩ ⟨by show 0 + 1 ≤ 1; omega, by show 0 + 6 ≤ 6; omega⟩ (Nat.le_of_ble_eq_true rfl) d_DK_type_11 d_DK_type_14 d_DK_type_15 d_DK_type_17 d_DK_type_20
  · refine lv_iload_n hx hb d_DK_type_4 rfl (lv_at hl 1 rfl) ?_
    refine lv_sipush (v := iI (256)) hx hb d_DK_type_5 rfl ?_
    refine di_icmp_lt (tgt := 21) hx hb d_DK_type_8 (by decide) ⟨by omega, by omega⟩ ⟨by omega, by omega⟩ (fun bq8 => ?_) (fun bq8 => ?_)
    · refine lv_aload_n hx hb d_DK_type_21 rfl (lv_at hl 0 rfl) ?_
      refine gf_DK_23_DK X hw hS.1 d_DK_type_22 ?_
      refine cs_DK_48 X hz hw hl.1 hS.2.2.2.2.2.2.2.1.1.choose_spec.1 (c_RW_isFull l G f _ yr qy 200 Z sZ hS.2.2.2.2.2.2.2.1.1) ⟨Nat.le_of_ble_eq_true rfl, Nat.le_of_ble_eq_true rfl⟩ ⟨by show 0 + 0 ≤ 1; omega, by show 0 + 0 ≤ 6; omega⟩ (Nat.le_of_ble_eq_true rfl) d_DK_type_25 (fun v f9 H locs hp hw hsz9 hkp9 hdm9 => ?_)
      obtain ⟨rfl, hfe⟩ := hp
      rw [hfe] at hw
      refine W.eq (g2 := F0 m 28 ls [.int (iI (if 200 ≤ Z.length then 1 else 0))]) rfl ?_
      have hful : (if 200 ≤ Z.length then (1 : Int) else 0) = 0 ∨ (if 200 ≤ Z.length then (1 : Int) else 0) = 1 := by split; exact Or.inr rfl; exact Or.inl rfl
      refine di_if_eq (tgt := 41) hx hb d_DK_type_28 (by decide) ⟨by omega, by omega⟩ (fun bq28 => ?_) (fun bq28 => ?_)
      · have hlt : Z.length < 200 := by
          rcases Nat.lt_or_ge Z.length 200 with q | q
          · exact q
          · rw [if_pos q] at bq28; omega
        refine lv_aload_n hx hb d_DK_type_41 rfl (lv_at hl 0 rfl) ?_
        refine gf_DK_23_DK X hw hS.1 d_DK_type_42 ?_
        refine lv_iload_n hx hb d_DK_type_45 rfl (lv_at hl 1 rfl) ?_
        refine cs_DK_57 X hz hw hl.1 hS.2.2.2.2.2.2.2.1.1.choose_spec.1 (c_RW_append l G f _ yr qy 200 Z sZ (u) hS.2.2.2.2.2.2.2.1.1) ⟨Nat.le_of_ble_eq_true rfl, Nat.le_of_ble_eq_true rfl⟩ ⟨by show 0 + 0 ≤ 1; omega, by show 0 + 0 ≤ 6; omega⟩ (Nat.le_of_ble_eq_true rfl) d_DK_type_46 (fun v f2 H locs hp hw hsz9 hkp9 hdm9 => ?_)
        obtain ⟨rfl, hr_f2, hk_f2⟩ := hp
        have hx_f2 := exo_row hG hS.2.2.2.2.2.2.2.1.1 hr_f2 hk_f2
        refine W.eq (g2 := F0 m 49 ls []) rfl ?_
        have hS_f2 := hS.byt hx_f2 hr_f2 (by rw [ap1, if_pos hlt]; exact mem_app hS.2.2.2.2.2.2.2.2.2.2 (mem_one ⟨by omega, by omega⟩))
        refine lv_aload_n hx hb d_DK_type_49 rfl (lv_at hl 0 rfl) ?_
        refine gf_DK_23_DK X hw hS_f2.1 d_DK_type_50 ?_
        refine cs_DK_60 X hz hw hl.1 hS_f2.2.2.2.2.2.2.2.1.1.choose_spec.1 (c_RW_size l G f2 _ yr qy 200 (ap1 200 Z (u)) (ap2 200 Z sZ) hS_f2.2.2.2.2.2.2.2.1.1) ⟨Nat.le_of_ble_eq_true rfl, Nat.le_of_ble_eq_true rfl⟩ ⟨by show 0 + 0 ≤ 1; omega, by show 0 + 0 ≤ 6; omega⟩ (Nat.le_of_ble_eq_true rfl) d_DK_type_53 (fun v f9 H locs hp hw hsz9 hkp9 hdm9 => ?_)
        obtain ⟨rfl, hfe⟩ := hp
        rw [hfe] at hw
        refine W.eq (g2 := F0 m 56 ls [.int (iI (((ap1 200 Z (u)).length : Int)))]) rfl ?_
        have he1 : ap1 200 Z u = Z ++ [u] := if_pos hlt
        exact ct_iret hx hb hr  hlk hw (⟨by rw [he1]; simp, by omega, hlt, by have h9 := hS_f2.I; rw [he1] at h9; exact h9⟩) (by omega) (by omega) d_DK_type_56
      · have hge : Z.length = 200 := by
          rcases Nat.lt_or_ge Z.length 200 with q | q
          · rw [if_neg (by omega)] at bq28; omega
          · omega
        exact th_ISE X hlT hz (is := 158) (text := "there is no room for a byte") (by decide +kernel) hw hl.1 hnx hlk (⟨Or.inr ⟨rfl, by omega, hge⟩, hS.I⟩) ⟨by show 8 ≤ 8; omega, by show 120 ≤ 120; omega⟩ ⟨by show 0 + 1 ≤ 1; omega, by show 0 + 6 ≤ 6; omega⟩ ⟨by show 0 + 1 ≤ 1; omega, by show 0 + 6 ≤ 6; omega⟩ (Nat.le_of_ble_eq_true rfl) d_DK_type_31 d_DK_type_34 d_DK_type_35 d_DK_type_37 d_DK_type_40
    · exact th_IAE X hlT hz (is := 156) (text := "no byte") (by decide +kernel) hw hl.1 hnx hlk (⟨Or.inl ⟨rfl, by omega⟩, hS.I⟩) ⟨by show 8 ≤ 8; omega, by show 120 ≤ 120; omega⟩ ⟨by show 0 + 1 ≤ 1; omega, by show 0 + 6 ≤ 6; omega⟩ ⟨by show 0 + 1 ≤ 1; omega, by show 0 + 6 ≤ 6; omega⟩ (Nat.le_of_ble_eq_true rfl) d_DK_type_11 d_DK_type_14 d_DK_type_15 d_DK_type_17 d_DK_type_20
set_option maxRecDepth 100000 in
set_option maxHeartbeats 4000000 in
theorem c_DK_insert (l : Launch) (hlT : l.stackTraces = false) (G : ct_G) (f : dw_M) (sz : Nat) (x : Nat) (T Y : List (List Int)) (B Z : List Int) (hI : dkI G f x T Y B Z) (p0 k : Int) (hp0 : iR p0) (hk : iR k) : ct l y_DK_insert w_DK_insert (43) (990) G f sz [.ref x, .int (iI p0), .int (iI k)] (fun v f' => v = some (.int (iI ((B.length : Int) + ((tt T k).length : Int)))) ∧ ((0 ≤ k ∧ k < (T.length : Int)) ∧ 0 ≤ p0 ∧ p0 ≤ (B.length : Int)) ∧ B.length + (tt T k).length ≤ 60 ∧ dkI G f' x T Y (sbl B 0 p0 ++ (tt T k ++ sbl B p0 (B.length : Int))) Z) (fun E f' => (E = "java/lang/IllegalArgumentException" ∧ ¬ ((0 ≤ k ∧ k < (T.length : Int)) ∧ 0 ≤ p0 ∧ p0 ≤ (B.length : Int)) ∨ E = "java/lang/IllegalStateException" ∧ ((0 ≤ k ∧ k < (T.length : Int)) ∧ 0 ≤ p0 ∧ p0 ≤ (B.length : Int)) ∧ ¬ (B.length + (tt T k).length ≤ 60)) ∧ dkI G f' x T Y B Z) (7) (160) := by
  refine ct_of (own := "TextDesk") (nm := "insert") (ds := "(II)I") (by decide) (Nat.le_of_ble_eq_true rfl) ?_
  intro p e s m args below meth c ls X hnm hr hlk hnx hs0 hz hw hl
  have hx := X.1
  have hb := X.2.1
  have hl : lv_has ls 4 [(0, .ref x), (1, .int (iI p0)), (2, .int (iI k))] := hl
  have hG := X.E.ok
  obtain ⟨ta, sa, yr, dc, bu, dr, qy, qb, qd, gT, gS, c0, w0, D, sB, sZ, sD, hS⟩ := hI
  obtain ⟨hp1, hp2⟩ := hp0
  have hB := hS.2.2.2.2.2.2.2.1.2.1.len
  have rB := hS.2.2.2.2.2.2.2.2.2.1
  refine lv_aload_n hx hb d_DK_insert_0 rfl (lv_at hl 0 rfl) ?_
  refine lv_iload_n hx hb d_DK_insert_1 rfl (lv_at hl 2 rfl) ?_
  refine cs_DK_64 X hz hw hl.1 hS.1 (c_DK_textNumbered l hlT G f _ (k) hk x ta sa yr dc bu dr qy qb qd gT gS c0 w0 T Y B Z D sB sZ sD hS) ⟨Nat.le_of_ble_eq_true rfl, Nat.le_of_ble_eq_true rfl⟩ ⟨by show 0 + 1 ≤ 7; omega, by show 0 + 6 ≤ 160; omega⟩ (Nat.le_of_ble_eq_true rfl) d_DK_insert_2 (fun E ce q9 f8 H locs hpx hw _ _ _ hce hcv hcl => ?_) (fun v f9 H locs hp hw hsz9 hkp9 hdm9 => ?_)
  · obtain ⟨rfl, hno, hfe⟩ := hpx
    rw [hfe] at hw
    exact ct_out hnx hlk hw (⟨Or.inl ⟨rfl, by omega⟩, hS.I⟩) hce hcv hcl (by omega) (by omega)
  obtain ⟨t1, rfl, hg_t1, hb_t1, hfe⟩ := hp
  rw [hfe] at hw
  have ht_t1 := hS.txt hb_t1.1 hb_t1.2 hg_t1
  have hl_t1 := ht_t1.len
  have hT_t1 := hS.2.2.2.2.1.1
  refine W.eq (g2 := F0 m 5 ls [.ref t1]) rfl ?_
  have hpt := pot_le f t1
  refine lv_astore_n (lv' := [(3, .ref t1), (0, .ref x), (1, .int (iI p0)), (2, .int (iI k))]) hx hb d_DK_insert_5 rfl hl (by decide) rfl (fun ls hl => ?_)
  refine lv_iload_n hx hb d_DK_insert_6 rfl (lv_at hl 2 rfl) ?_
  refine di_if_lt (tgt := 21) hx hb d_DK_insert_7 (by decide) ⟨by omega, by omega⟩ (fun bq7 => ?_) (fun bq7 => ?_)
  · exact th_IAE X hlT hz (is := 68) (text := "no such place") (by decide +kernel) hw hl.1 hnx hlk (⟨Or.inl ⟨rfl, by omega⟩, hS.I⟩) ⟨by show 8 ≤ 43; omega, by show 120 ≤ 990; omega⟩ ⟨by show 0 + 1 + 1 ≤ 7; omega, by show 0 + 6 + 6 ≤ 160; omega⟩ ⟨by show 0 + 1 + 1 ≤ 7; omega, by show 0 + 6 + 6 ≤ 160; omega⟩ (Nat.le_of_ble_eq_true rfl) d_DK_insert_21 d_DK_insert_24 d_DK_insert_25 d_DK_insert_27 d_DK_insert_30
  · refine lv_iload_n hx hb d_DK_insert_10 rfl (lv_at hl 2 rfl) ?_
    refine lv_aload_n hx hb d_DK_insert_11 rfl (lv_at hl 1 rfl) ?_
    refine gf_DK_34_DK X hw hS.1 d_DK_insert_12 ?_
    refine cs_DK_60 X hz hw hl.1 hS.2.2.2.2.2.2.2.1.2.1.choose_spec.1 (c_RW_size l G f _ bu qb 60 B sB hS.2.2.2.2.2.2.2.1.2.1) ⟨Nat.le_of_ble_eq_true rfl, Nat.le_of_ble_eq_true rfl⟩ ⟨by show 0 + 1 + 0 ≤ 7; omega, by show 0 + 6 + 0 ≤ 160; omega⟩ (Nat.le_of_ble_eq_true rfl) d_DK_insert_15 (fun v f9 H locs hp hw hsz9 hkp9 hdm9 => ?_)
    obtain ⟨rfl, hfe⟩ := hp
    rw [hfe] at hw
    refine W.eq (g2 := F0 m 18 ls [.int (iI ((B.length : Int))), .int (iI p0)]) rfl ?_
    refine di_icmp_le (tgt := 31) hx hb d_DK_insert_18 (by decide) ⟨by omega, by omega⟩ ⟨by omega, by omega⟩ (fun bq18 => ?_) (fun bq18 => ?_)
    · refine lv_aload_n hx hb d_DK_insert_31 rfl (lv_at hl 1 rfl) ?_
      refine gf_DK_37_DK X hw hS.1 d_DK_insert_32 ?_
      refine cs_DK_70 X hz hw hl.1 hS.2.2.2.2.2.2.2.1.2.2.choose_spec.1 (c_RW_drop l G f _ dr qd 60 D sD hS.2.2.2.2.2.2.2.1.2.2) ⟨Nat.le_of_ble_eq_true rfl, Nat.le_of_ble_eq_true rfl⟩ ⟨by show 0 + 1 + 0 ≤ 7; omega, by show 0 + 6 + 0 ≤ 160; omega⟩ (Nat.le_of_ble_eq_true rfl) d_DK_insert_35 (fun v f2 H locs hp hw hsz9 hkp9 hdm9 => ?_)
      obtain ⟨rfl, hr_f2, hk_f2⟩ := hp
      have hx_f2 := exo_row hG hS.2.2.2.2.2.2.2.1.2.2 hr_f2 (fun b h8 _ => hk_f2 b h8)
      refine W.eq (g2 := F0 m 38 ls []) rfl ?_
      have hS_f2 := hS.draft hx_f2 hr_f2
      have ht2 := hx_f2.2.1 _ _ _ ht_t1
      have hp2t := exo_pot hx_f2 ht_t1
      have hpb2 := rw_pot hS_f2.2.2.2.2.2.2.2.1.2.1
      refine lv_aload_n hx hb d_DK_insert_38 rfl (lv_at hl 1 rfl) ?_
      refine gf_DK_37_DK X hw hS_f2.1 d_DK_insert_39 ?_
      refine lv_aload_n hx hb d_DK_insert_42 rfl (lv_at hl 1 rfl) ?_
      refine gf_DK_34_DK X hw hS_f2.1 d_DK_insert_43 ?_
      refine lv_iconst (v := iI (0)) hx hb d_DK_insert_46 rfl ?_
      refine lv_iload_n hx hb d_DK_insert_47 rfl (lv_at hl 2 rfl) ?_
      have hrc_f3 := rc_le (pot f2 bu) (sbl B (0) (p0))
      refine cs_DK_73 X hz hw hl.1 hS_f2.2.2.2.2.2.2.2.1.2.2.choose_spec.1 (c_RW_appendRange l G f2 _ dr qd 60 bu [] B 0 (0) (p0) ⟨by omega, by omega⟩ ⟨by omega, by omega⟩ hS_f2.2.2.2.2.2.2.2.1.2.2 (Or.inr ⟨qb, 60, sB, hS_f2.2.2.2.2.2.2.2.1.2.1, hS_f2.2.2.2.2.2.2.2.2.1.1, hS_f2.2.2.2.2.2.2.2.2.1.2.2.2.1⟩)) ⟨Nat.le_of_ble_eq_true rfl, Nat.le_of_ble_eq_true rfl⟩ ⟨by show 0 + 1 + 4 * rc (pot f2 bu) (sbl B (0) (p0)) ≤ 7; omega, by show 0 + 6 + 140 * rc (pot f2 bu) (sbl B (0) (p0)) ≤ 160; omega⟩ (Nat.le_of_ble_eq_true rfl) d_DK_insert_48 (fun v f3 H locs hp hw hsz9 hkp9 hdm9 => ?_)
      obtain ⟨rfl, hr_f3, hx_f3, hp_f3⟩ := hp
      refine W.eq (g2 := F0 m 51 ls []) rfl ?_
      have hS_f3 := hS_f2.draft hx_f3 hr_f3
      have ht3 := hx_f3.2.1 _ _ _ ht2
      have hp3t := exo_pot hx_f3 ht2
      refine lv_aload_n hx hb d_DK_insert_51 rfl (lv_at hl 1 rfl) ?_
      refine gf_DK_37_DK X hw hS_f3.1 d_DK_insert_52 ?_
      refine lv_aload_n hx hb d_DK_insert_55 rfl (lv_at hl 0 rfl) ?_
      refine lv_iconst (v := iI (0)) hx hb d_DK_insert_56 rfl ?_
      refine lv_aload_n hx hb d_DK_insert_57 rfl (lv_at hl 0 rfl) ?_
      refine st_DK_77 X hz hw hl.1 ht3 ⟨Nat.le_of_ble_eq_true rfl, Nat.le_of_ble_eq_true rfl⟩ ⟨by show 0 + 1 + 4 * rc (pot f2 bu) (sbl B (0) (p0)) ≤ 7; omega, by show 0 + 6 + 140 * rc (pot f2 bu) (sbl B (0) (p0)) ≤ 160; omega⟩ (Nat.le_of_ble_eq_true rfl) d_DK_insert_58 (fun H locs hw => ?_)
      refine W.eq (g2 := F0 m 61 ls [.int (iI (((tt T k).length : Int))), .int (iI 0), .ref t1, .ref dr]) rfl ?_
      have hrc_f4 := rc_le (pot f3 t1) (sbl (tt T k) (0) (((tt T k).length : Int)))
      refine cs_DK_73 X hz hw hl.1 hS_f3.2.2.2.2.2.2.2.1.2.2.choose_spec.1 (c_RW_appendRange l G f3 _ dr qd 60 t1 (apl1 60 [] (sbl B (0) (p0))) (tt T k) (apl2 60 [] (sbl B (0) (p0)) 0) (0) (((tt T k).length : Int)) ⟨by omega, by omega⟩ ⟨by omega, by omega⟩ hS_f3.2.2.2.2.2.2.2.1.2.2 (Or.inl ⟨k.toNat, by omega, ht3⟩)) ⟨Nat.le_of_ble_eq_true rfl, Nat.le_of_ble_eq_true rfl⟩ ⟨by show 0 + 1 + 4 * rc (pot f2 bu) (sbl B (0) (p0)) + 4 * rc (pot f3 t1) (sbl (tt T k) (0) (((tt T k).length : Int))) ≤ 7; omega, by show 0 + 6 + 140 * rc (pot f2 bu) (sbl B (0) (p0)) + 140 * rc (pot f3 t1) (sbl (tt T k) (0) (((tt T k).length : Int))) ≤ 160; omega⟩ (Nat.le_of_ble_eq_true rfl) d_DK_insert_61 (fun v f4 H locs hp hw hsz9 hkp9 hdm9 => ?_)
      obtain ⟨rfl, hr_f4, hx_f4, hp_f4⟩ := hp
      refine W.eq (g2 := F0 m 64 ls []) rfl ?_
      have hS_f4 := hS_f3.draft hx_f4 hr_f4
      have hpb4 := rw_pot hS_f4.2.2.2.2.2.2.2.1.2.1
      refine lv_aload_n hx hb d_DK_insert_64 rfl (lv_at hl 1 rfl) ?_
      refine gf_DK_37_DK X hw hS_f4.1 d_DK_insert_65 ?_
      refine lv_aload_n hx hb d_DK_insert_68 rfl (lv_at hl 1 rfl) ?_
      refine gf_DK_34_DK X hw hS_f4.1 d_DK_insert_69 ?_
      refine lv_iload_n hx hb d_DK_insert_72 rfl (lv_at hl 2 rfl) ?_
      refine lv_aload_n hx hb d_DK_insert_73 rfl (lv_at hl 1 rfl) ?_
      refine gf_DK_34_DK X hw hS_f4.1 d_DK_insert_74 ?_
      refine cs_DK_60 X hz hw hl.1 hS_f4.2.2.2.2.2.2.2.1.2.1.choose_spec.1 (c_RW_size l G f4 _ bu qb 60 B sB hS_f4.2.2.2.2.2.2.2.1.2.1) ⟨Nat.le_of_ble_eq_true rfl, Nat.le_of_ble_eq_true rfl⟩ ⟨by show 0 + 1 + 4 * rc (pot f2 bu) (sbl B (0) (p0)) + 4 * rc (pot f3 t1) (sbl (tt T k) (0) (((tt T k).length : Int))) + 0 ≤ 7; omega, by show 0 + 6 + 140 * rc (pot f2 bu) (sbl B (0) (p0)) + 140 * rc (pot f3 t1) (sbl (tt T k) (0) (((tt T k).length : Int))) + 0 ≤ 160; omega⟩ (Nat.le_of_ble_eq_true rfl) d_DK_insert_77 (fun v f9 H locs hp hw hsz9 hkp9 hdm9 => ?_)
      obtain ⟨rfl, hfe⟩ := hp
      rw [hfe] at hw
      refine W.eq (g2 := F0 m 80 ls [.int (iI ((B.length : Int))), .int (iI p0), .ref bu, .ref dr]) rfl ?_
      have hrc_f5 := rc_le (pot f4 bu) (sbl B (p0) ((B.length : Int)))
      refine cs_DK_73 X hz hw hl.1 hS_f4.2.2.2.2.2.2.2.1.2.2.choose_spec.1 (c_RW_appendRange l G f4 _ dr qd 60 bu (apl1 60 (apl1 60 [] (sbl B (0) (p0))) (sbl (tt T k) (0) (((tt T k).length : Int)))) B (apl2 60 (apl1 60 [] (sbl B (0) (p0))) (sbl (tt T k) (0) (((tt T k).length : Int))) (apl2 60 [] (sbl B (0) (p0)) 0)) (p0) ((B.length : Int)) ⟨by omega, by omega⟩ ⟨by omega, by omega⟩ hS_f4.2.2.2.2.2.2.2.1.2.2 (Or.inr ⟨qb, 60, sB, hS_f4.2.2.2.2.2.2.2.1.2.1, hS_f4.2.2.2.2.2.2.2.2.1.1, hS_f4.2.2.2.2.2.2.2.2.1.2.2.2.1⟩)) ⟨Nat.le_of_ble_eq_true rfl, Nat.le_of_ble_eq_true rfl⟩ ⟨by show 0 + 1 + 4 * rc (pot f2 bu) (sbl B (0) (p0)) + 4 * rc (pot f3 t1) (sbl (tt T k) (0) (((tt T k).length : Int))) + 4 * rc (pot f4 bu) (sbl B (p0) ((B.length : Int))) ≤ 7; omega, by show 0 + 6 + 140 * rc (pot f2 bu) (sbl B (0) (p0)) + 140 * rc (pot f3 t1) (sbl (tt T k) (0) (((tt T k).length : Int))) + 140 * rc (pot f4 bu) (sbl B (p0) ((B.length : Int))) ≤ 160; omega⟩ (Nat.le_of_ble_eq_true rfl) d_DK_insert_80 (fun v f5 H locs hp hw hsz9 hkp9 hdm9 => ?_)
      obtain ⟨rfl, hr_f5, hx_f5, hp_f5⟩ := hp
      refine W.eq (g2 := F0 m 83 ls []) rfl ?_
      have hS_f5 := hS_f4.draft hx_f5 hr_f5
      rw [sbl_all, apl_app1 (apl1_len (by simp)), apl_app2 (apl1_len (by simp)), apl_app1 (by simp), apl_app2 (by simp)] at hS_f5
      have hcl : (sbl B 0 p0 ++ (tt T k ++ sbl B p0 (B.length : Int))).length = B.length + (tt T k).length := by simp only [sbl, List.length_append, List.length_drop, List.length_take]; omega
      refine lv_aload_n hx hb d_DK_insert_83 rfl (lv_at hl 1 rfl) ?_
      refine cs_DK_78 X hz hw hl.1 hS_f5.1 (c_DK_refuseSpilledDraft l hlT G f5 _ x ta sa yr dc bu dr qy qb qd gT gS c0 w0 T Y B Z (apl1 60 [] (sbl B 0 p0 ++ (tt T k ++ sbl B p0 (B.length : Int)))) sB sZ (apl2 60 [] (sbl B 0 p0 ++ (tt T k ++ sbl B p0 (B.length : Int))) 0) hS_f5 (apl2_01 (Or.inl rfl))) ⟨Nat.le_of_ble_eq_true rfl, Nat.le_of_ble_eq_true rfl⟩ ⟨by show 0 + 1 + 4 * rc (pot f2 bu) (sbl B (0) (p0)) + 4 * rc (pot f3 t1) (sbl (tt T k) (0) (((tt T k).length : Int))) + 4 * rc (pot f4 bu) (sbl B (p0) ((B.length : Int))) + 1 ≤ 7; omega, by show 0 + 6 + 140 * rc (pot f2 bu) (sbl B (0) (p0)) + 140 * rc (pot f3 t1) (sbl (tt T k) (0) (((tt T k).length : Int))) + 140 * rc (pot f4 bu) (sbl B (p0) ((B.length : Int))) + 6 ≤ 160; omega⟩ (Nat.le_of_ble_eq_true rfl) d_DK_insert_84 (fun E ce q9 f8 H locs hpx hw _ _ _ hce hcv hcl => ?_) (fun v f9 H locs hp hw hsz9 hkp9 hdm9 => ?_)
      · obtain ⟨rfl, hsp, hfe⟩ := hpx
        rw [hfe] at hw
        exact ct_out hnx hlk hw (⟨Or.inr ⟨rfl, by omega, fun q => by rw [apl2_0.mpr (by omega)] at hsp; cases hsp⟩, hS_f5.I⟩) hce hcv hcl (by omega) (by omega)
      obtain ⟨rfl, hsp, hfe⟩ := hp
      rw [hfe] at hw
      have hfit := apl2_0.mp hsp
      rw [apl1_fit (show ([] : List Int).length + (sbl B 0 p0 ++ (tt T k ++ sbl B p0 (B.length : Int))).length ≤ 60 by simpa using hfit), List.nil_append] at hS_f5
      refine W.eq (g2 := F0 m 87 ls []) rfl ?_
      refine lv_aload_n hx hb d_DK_insert_87 rfl (lv_at hl 1 rfl) ?_
      refine cs_DK_81 X hz hw hl.1 hS_f5.1 (c_DK_makeDraftTheBuilder l G f5 _ x ta sa yr dc bu dr qy qb qd gT gS c0 w0 T Y B Z (sbl B 0 p0 ++ (tt T k ++ sbl B p0 (B.length : Int))) sB sZ (apl2 60 [] (sbl B 0 p0 ++ (tt T k ++ sbl B p0 (B.length : Int))) 0) hS_f5 (mem_app (fun u h => rB u (sbl_mem h)) (mem_app ht_t1.rng (fun u h => rB u (sbl_mem h))))) ⟨Nat.le_of_ble_eq_true rfl, Nat.le_of_ble_eq_true rfl⟩ ⟨by show 0 + 1 + 4 * rc (pot f2 bu) (sbl B (0) (p0)) + 4 * rc (pot f3 t1) (sbl (tt T k) (0) (((tt T k).length : Int))) + 4 * rc (pot f4 bu) (sbl B (p0) ((B.length : Int))) + 1 + 0 ≤ 7; omega, by show 0 + 6 + 140 * rc (pot f2 bu) (sbl B (0) (p0)) + 140 * rc (pot f3 t1) (sbl (tt T k) (0) (((tt T k).length : Int))) + 140 * rc (pot f4 bu) (sbl B (p0) ((B.length : Int))) + 6 + 0 ≤ 160; omega⟩ (Nat.le_of_ble_eq_true rfl) d_DK_insert_88 (fun v f6 H locs hp hw hsz9 hkp9 hdm9 => ?_)
      obtain ⟨rfl, hS_f6⟩ := hp
      refine W.eq (g2 := F0 m 91 ls []) rfl ?_
      refine lv_aload_n hx hb d_DK_insert_91 rfl (lv_at hl 1 rfl) ?_
      refine gf_DK_34_DK X hw hS_f6.1 d_DK_insert_92 ?_
      refine cs_DK_60 X hz hw hl.1 hS_f6.2.2.2.2.2.2.2.1.2.1.choose_spec.1 (c_RW_size l G f6 _ dr qd 60 (sbl B 0 p0 ++ (tt T k ++ sbl B p0 (B.length : Int))) (apl2 60 [] (sbl B 0 p0 ++ (tt T k ++ sbl B p0 (B.length : Int))) 0) hS_f6.2.2.2.2.2.2.2.1.2.1) ⟨Nat.le_of_ble_eq_true rfl, Nat.le_of_ble_eq_true rfl⟩ ⟨by show 0 + 1 + 4 * rc (pot f2 bu) (sbl B (0) (p0)) + 4 * rc (pot f3 t1) (sbl (tt T k) (0) (((tt T k).length : Int))) + 4 * rc (pot f4 bu) (sbl B (p0) ((B.length : Int))) + 1 + 0 ≤ 7; omega, by show 0 + 6 + 140 * rc (pot f2 bu) (sbl B (0) (p0)) + 140 * rc (pot f3 t1) (sbl (tt T k) (0) (((tt T k).length : Int))) + 140 * rc (pot f4 bu) (sbl B (p0) ((B.length : Int))) + 6 + 0 ≤ 160; omega⟩ (Nat.le_of_ble_eq_true rfl) d_DK_insert_95 (fun v f9 H locs hp hw hsz9 hkp9 hdm9 => ?_)
      obtain ⟨rfl, hfe⟩ := hp
      rw [hfe] at hw
      refine W.eq (g2 := F0 m 98 ls [.int (iI (((sbl B 0 p0 ++ (tt T k ++ sbl B p0 (B.length : Int))).length : Int)))]) rfl ?_
      exact ct_iret hx hb hr  hlk hw (⟨by rw [hcl]; simp, by omega, by omega, hS_f6.I⟩) (by omega) (by omega) d_DK_insert_98
    · exact th_IAE X hlT hz (is := 68) (text := "no such place") (by decide +kernel) hw hl.1 hnx hlk (⟨Or.inl ⟨rfl, by omega⟩, hS.I⟩) ⟨by show 8 ≤ 43; omega, by show 120 ≤ 990; omega⟩ ⟨by show 0 + 1 + 1 ≤ 7; omega, by show 0 + 6 + 6 ≤ 160; omega⟩ ⟨by show 0 + 1 + 1 ≤ 7; omega, by show 0 + 6 + 6 ≤ 160; omega⟩ (Nat.le_of_ble_eq_true rfl) d_DK_insert_21 d_DK_insert_24 d_DK_insert_25 d_DK_insert_27 d_DK_insert_30
set_option maxRecDepth 100000 in
set_option maxHeartbeats 4000000 in
theorem c_DK_delete (l : Launch) (hlT : l.stackTraces = false) (G : ct_G) (f : dw_M) (sz : Nat) (x : Nat) (T Y : List (List Int)) (B Z : List Int) (hI : dkI G f x T Y B Z) (fr to : Int) (hfr : iR fr) (hto : iR to) : ct l y_DK_delete w_DK_delete (43) (990) G f sz [.ref x, .int (iI fr), .int (iI to)] (fun v f' => v = none ∧ (0 ≤ fr ∧ fr ≤ to ∧ to ≤ (B.length : Int)) ∧ dkI G f' x T Y (sbl B 0 fr ++ sbl B to (B.length : Int)) Z) (fun E f' => E = "java/lang/IndexOutOfBoundsException" ∧ ¬ (0 ≤ fr ∧ fr ≤ to ∧ to ≤ (B.length : Int)) ∧ dkI G f' x T Y B Z) (1) (6) := by
  refine ct_of (own := "TextDesk") (nm := "delete") (ds := "(II)V") (by decide) (Nat.le_of_ble_eq_true rfl) ?_
  intro p e s m args below meth c ls X hnm hr hlk hnx hs0 hz hw hl
  have hx := X.1
  have hb := X.2.1
  have hl : lv_has ls 3 [(0, .ref x), (1, .int (iI fr)), (2, .int (iI to))] := hl
  have hG := X.E.ok
  obtain ⟨ta, sa, yr, dc, bu, dr, qy, qb, qd, gT, gS, c0, w0, D, sB, sZ, sD, hS⟩ := hI
  have hB := hS.2.2.2.2.2.2.2.1.2.1.len
  have rB := hS.2.2.2.2.2.2.2.2.2.1
  refine lv_iload_n hx hb d_DK_delete_0 rfl (lv_at hl 1 rfl) ?_
  refine lv_iload_n hx hb d_DK_delete_1 rfl (lv_at hl 2 rfl) ?_
  refine lv_aload_n hx hb d_DK_delete_2 rfl (lv_at hl 0 rfl) ?_
  refine gf_DK_34_DK X hw hS.1 d_DK_delete_3 ?_
  refine cs_DK_60 X hz hw hl.1 hS.2.2.2.2.2.2.2.1.2.1.choose_spec.1 (c_RW_size l G f _ bu qb 60 B sB hS.2.2.2.2.2.2.2.1.2.1) ⟨Nat.le_of_ble_eq_true rfl, Nat.le_of_ble_eq_true rfl⟩ ⟨by show 0 + 0 ≤ 1; omega, by show 0 + 0 ≤ 6; omega⟩ (Nat.le_of_ble_eq_true rfl) d_DK_delete_6 (fun v f9 H locs hp hw hsz9 hkp9 hdm9 => ?_)
  obtain ⟨rfl, hfe⟩ := hp
  rw [hfe] at hw
  refine W.eq (g2 := F0 m 9 ls [.int (iI ((B.length : Int))), .int (iI to), .int (iI fr)]) rfl ?_
  refine cs_DK_84 X hz hw hl.1 (c_DK_refuseBadRange l hlT G f _ fr to (B.length : Int) hfr hto ⟨by omega, by omega⟩) ⟨Nat.le_of_ble_eq_true rfl, Nat.le_of_ble_eq_true rfl⟩ ⟨by show 0 + 1 ≤ 1; omega, by show 0 + 6 ≤ 6; omega⟩ (Nat.le_of_ble_eq_true rfl) d_DK_delete_9 (fun E ce q9 f8 H locs hpx hw _ _ _ hce hcv hcl => ?_) (fun v f9 H locs hp hw hsz9 hkp9 hdm9 => ?_)
  · obtain ⟨rfl, hno, hfe⟩ := hpx
    rw [hfe] at hw
    exact ct_out hnx hlk hw (⟨rfl, hno, hS.I⟩) hce hcv hcl (by omega) (by omega)
  obtain ⟨rfl, hrg, hfe⟩ := hp
  rw [hfe] at hw
  refine W.eq (g2 := F0 m 12 ls []) rfl ?_
  refine lv_aload_n hx hb d_DK_delete_12 rfl (lv_at hl 0 rfl) ?_
  refine gf_DK_37_DK X hw hS.1 d_DK_delete_13 ?_
  refine cs_DK_70 X hz hw hl.1 hS.2.2.2.2.2.2.2.1.2.2.choose_spec.1 (c_RW_drop l G f _ dr qd 60 D sD hS.2.2.2.2.2.2.2.1.2.2) ⟨Nat.le_of_ble_eq_true rfl, Nat.le_of_ble_eq_true rfl⟩ ⟨by show 0 + 1 + 0 ≤ 1; omega, by show 0 + 6 + 0 ≤ 6; omega⟩ (Nat.le_of_ble_eq_true rfl) d_DK_delete_16 (fun v f2 H locs hp hw hsz9 hkp9 hdm9 => ?_)
  obtain ⟨rfl, hr_f2, hk_f2⟩ := hp
  have hx_f2 := exo_row hG hS.2.2.2.2.2.2.2.1.2.2 hr_f2 (fun b h8 _ => hk_f2 b h8)
  refine W.eq (g2 := F0 m 19 ls []) rfl ?_
  have hS_f2 := hS.draft hx_f2 hr_f2
  have hpb2 := rw_pot hS_f2.2.2.2.2.2.2.2.1.2.1
  refine lv_aload_n hx hb d_DK_delete_19 rfl (lv_at hl 0 rfl) ?_
  refine gf_DK_37_DK X hw hS_f2.1 d_DK_delete_20 ?_
  refine lv_aload_n hx hb d_DK_delete_23 rfl (lv_at hl 0 rfl) ?_
  refine gf_DK_34_DK X hw hS_f2.1 d_DK_delete_24 ?_
  refine lv_iconst (v := iI (0)) hx hb d_DK_delete_27 rfl ?_
  refine lv_iload_n hx hb d_DK_delete_28 rfl (lv_at hl 1 rfl) ?_
  have hrc_f3 := rc_le (pot f2 bu) (sbl B (0) (fr))
  refine cs_DK_73 X hz hw hl.1 hS_f2.2.2.2.2.2.2.2.1.2.2.choose_spec.1 (c_RW_appendRange l G f2 _ dr qd 60 bu [] B 0 (0) (fr) ⟨by omega, by omega⟩ ⟨by omega, by omega⟩ hS_f2.2.2.2.2.2.2.2.1.2.2 (Or.inr ⟨qb, 60, sB, hS_f2.2.2.2.2.2.2.2.1.2.1, hS_f2.2.2.2.2.2.2.2.2.1.1, hS_f2.2.2.2.2.2.2.2.2.1.2.2.2.1⟩)) ⟨Nat.le_of_ble_eq_true rfl, Nat.le_of_ble_eq_true rfl⟩ ⟨by show 0 + 1 + 4 * rc (pot f2 bu) (sbl B (0) (fr)) ≤ 1; omega, by show 0 + 6 + 140 * rc (pot f2 bu) (sbl B (0) (fr)) ≤ 6; omega⟩ (Nat.le_of_ble_eq_true rfl) d_DK_delete_29 (fun v f3 H locs hp hw hsz9 hkp9 hdm9 => ?_)
  obtain ⟨rfl, hr_f3, hx_f3, hp_f3⟩ := hp
  refine W.eq (g2 := F0 m 32 ls []) rfl ?_
  have hS_f3 := hS_f2.draft hx_f3 hr_f3
  have hpb3 := rw_pot hS_f3.2.2.2.2.2.2.2.1.2.1
  refine lv_aload_n hx hb d_DK_delete_32 rfl (lv_at hl 0 rfl) ?_
  refine gf_DK_37_DK X hw hS_f3.1 d_DK_delete_33 ?_
  refine lv_aload_n hx hb d_DK_delete_36 rfl (lv_at hl 0 rfl) ?_
  refine gf_DK_34_DK X hw hS_f3.1 d_DK_delete_37 ?_
  refine lv_iload_n hx hb d_DK_delete_40 rfl (lv_at hl 2 rfl) ?_
  refine lv_aload_n hx hb d_DK_delete_41 rfl (lv_at hl 0 rfl) ?_
  refine gf_DK_34_DK X hw hS_f3.1 d_DK_delete_42 ?_
  refine cs_DK_60 X hz hw hl.1 hS_f3.2.2.2.2.2.2.2.1.2.1.choose_spec.1 (c_RW_size l G f3 _ bu qb 60 B sB hS_f3.2.2.2.2.2.2.2.1.2.1) ⟨Nat.le_of_ble_eq_true rfl, Nat.le_of_ble_eq_true rfl⟩ ⟨by show 0 + 1 + 4 * rc (pot f2 bu) (sbl B (0) (fr)) + 0 ≤ 1; omega, by show 0 + 6 + 140 * rc (pot f2 bu) (sbl B (0) (fr)) + 0 ≤ 6; omega⟩ (Nat.le_of_ble_eq_true rfl) d_DK_delete_45 (fun v f9 H locs hp hw hsz9 hkp9 hdm9 => ?_)
  obtain ⟨rfl, hfe⟩ := hp
  rw [hfe] at hw
  refine W.eq (g2 := F0 m 48 ls [.int (iI ((B.length : Int))), .int (iI to), .ref bu, .ref dr]) rfl ?_
  have hrc_f4 := rc_le (pot f3 bu) (sbl B (to) ((B.length : Int)))
  refine cs_DK_73 X hz hw hl.1 hS_f3.2.2.2.2.2.2.2.1.2.2.choose_spec.1 (c_RW_appendRange l G f3 _ dr qd 60 bu (apl1 60 [] (sbl B (0) (fr))) B (apl2 60 [] (sbl B (0) (fr)) 0) (to) ((B.length : Int)) ⟨by omega, by omega⟩ ⟨by omega, by omega⟩ hS_f3.2.2.2.2.2.2.2.1.2.2 (Or.inr ⟨qb, 60, sB, hS_f3.2.2.2.2.2.2.2.1.2.1, hS_f3.2.2.2.2.2.2.2.2.1.1, hS_f3.2.2.2.2.2.2.2.2.1.2.2.2.1⟩)) ⟨Nat.le_of_ble_eq_true rfl, Nat.le_of_ble_eq_true rfl⟩ ⟨by show 0 + 1 + 4 * rc (pot f2 bu) (sbl B (0) (fr)) + 4 * rc (pot f3 bu) (sbl B (to) ((B.length : Int))) ≤ 1; omega, by show 0 + 6 + 140 * rc (pot f2 bu) (sbl B (0) (fr)) + 140 * rc (pot f3 bu) (sbl B (to) ((B.length : Int))) ≤ 6; omega⟩ (Nat.le_of_ble_eq_true rfl) d_DK_delete_48 (fun v f4 H locs hp hw hsz9 hkp9 hdm9 => ?_)
  obtain ⟨rfl, hr_f4, hx_f4, hp_f4⟩ := hp
  refine W.eq (g2 := F0 m 51 ls []) rfl ?_
  have hS_f4 := hS_f3.draft hx_f4 hr_f4
  have hcl : (sbl B 0 fr ++ sbl B to (B.length : Int)).length ≤ 60 := by simp only [sbl, List.length_append, List.length_drop, List.length_take]; omega
  rw [apl_app1 (by simp), apl_app2 (by simp), apl1_fit (by simpa using hcl), List.nil_append] at hS_f4
  refine lv_aload_n hx hb d_DK_delete_51 rfl (lv_at hl 0 rfl) ?_
  refine cs_DK_81 X hz hw hl.1 hS_f4.1 (c_DK_makeDraftTheBuilder l G f4 _ x ta sa yr dc bu dr qy qb qd gT gS c0 w0 T Y B Z (sbl B 0 fr ++ sbl B to (B.length : Int)) sB sZ (apl2 60 [] (sbl B 0 fr ++ sbl B to (B.length : Int)) 0) hS_f4 (mem_app (fun u h => rB u (sbl_mem h)) (fun u h => rB u (sbl_mem h)))) ⟨Nat.le_of_ble_eq_true rfl, Nat.le_of_ble_eq_true rfl⟩ ⟨by show 0 + 1 + 4 * rc (pot f2 bu) (sbl B (0) (fr)) + 4 * rc (pot f3 bu) (sbl B (to) ((B.length : Int))) + 0 ≤ 1; omega, by show 0 + 6 + 140 * rc (pot f2 bu) (sbl B (0) (fr)) + 140 * rc (pot f3 bu) (sbl B (to) ((B.length : Int))) + 0 ≤ 6; omega⟩ (Nat.le_of_ble_eq_true rfl) d_DK_delete_52 (fun v f5 H locs hp hw hsz9 hkp9 hdm9 => ?_)
  obtain ⟨rfl, hS_f5⟩ := hp
  refine W.eq (g2 := F0 m 55 ls []) rfl ?_
  exact ct_vret hx hb hr  hlk hw (⟨rfl, hrg, hS_f5.I⟩) (by omega) (by omega) d_DK_delete_55
set_option maxRecDepth 100000 in
set_option maxHeartbeats 4000000 in
theorem c_DK_hash (l : Launch) (hlT : l.stackTraces = false) (G : ct_G) (f : dw_M) (sz : Nat) (x : Nat) (T Y : List (List Int)) (B Z : List Int) (hI : dkI G f x T Y B Z) (k : Int) (hk : iR k) : ct l y_DK_hash w_DK_hash (42) (970) G f sz [.ref x, .int (iI k)] (fun v f' => v = some (.int (iI (hsh (tt T k)))) ∧ (0 ≤ k ∧ k < (T.length : Int)) ∧ dkI G f' x T Y B Z) (fun E f' => E = "java/lang/IllegalArgumentException" ∧ ¬ (0 ≤ k ∧ k < (T.length : Int)) ∧ dkI G f' x T Y B Z) (5) (146) := by
  refine ct_of (own := "TextDesk") (nm := "hash") (ds := "(I)I") (by decide) (Nat.le_of_ble_eq_true rfl) ?_
  intro p e s m args below meth c ls X hnm hr hlk hnx hs0 hz hw hl
  have hx := X.1
  have hb := X.2.1
  have hl : lv_has ls 5 [(0, .ref x), (1, .int (iI k))] := hl
  have hG := X.E.ok
  obtain ⟨ta, sa, yr, dc, bu, dr, qy, qb, qd, gT, gS, c0, w0, D, sB, sZ, sD, hS⟩ := hI
  refine lv_aload_n hx hb d_DK_hash_0 rfl (lv_at hl 0 rfl) ?_
  refine lv_iload_n hx hb d_DK_hash_1 rfl (lv_at hl 1 rfl) ?_
  refine cs_DK_64 X hz hw hl.1 hS.1 (c_DK_textNumbered l hlT G f _ (k) hk x ta sa yr dc bu dr qy qb qd gT gS c0 w0 T Y B Z D sB sZ sD hS) ⟨Nat.le_of_ble_eq_true rfl, Nat.le_of_ble_eq_true rfl⟩ ⟨by show 0 + 1 ≤ 5; omega, by show 0 + 6 ≤ 146; omega⟩ (Nat.le_of_ble_eq_true rfl) d_DK_hash_2 (fun E ce q9 f8 H locs hpx hw _ _ _ hce hcv hcl => ?_) (fun v f9 H locs hp hw hsz9 hkp9 hdm9 => ?_)
  · obtain ⟨rfl, hno, hfe⟩ := hpx
    rw [hfe] at hw
    exact ct_out hnx hlk hw (⟨rfl, hno, hS.I⟩) hce hcv hcl (by omega) (by omega)
  obtain ⟨t1, rfl, hg_t1, hb_t1, hfe⟩ := hp
  rw [hfe] at hw
  have ht_t1 := hS.txt hb_t1.1 hb_t1.2 hg_t1
  have hl_t1 := ht_t1.len
  have hT_t1 := hS.2.2.2.2.1.1
  refine W.eq (g2 := F0 m 5 ls [.ref t1]) rfl ?_
  have hpt := pot_le f t1
  refine lv_astore_n (lv' := [(2, .ref t1), (0, .ref x), (1, .int (iI k))]) hx hb d_DK_hash_5 rfl hl (by decide) rfl (fun ls hl => ?_)
  refine lv_iconst (v := iI (0)) hx hb d_DK_hash_6 rfl ?_
  refine lv_istore_n (lv' := [(3, .int (iI 0)), (2, .ref t1), (0, .ref x), (1, .int (iI k))]) hx hb d_DK_hash_7 rfl hl (by decide) rfl (fun ls hl => ?_)
  refine lv_iconst (v := iI (0)) hx hb d_DK_hash_8 rfl ?_
  refine lv_istore (lv' := [(4, .int (iI 0)), (3, .int (iI 0)), (2, .ref t1), (0, .ref x), (1, .int (iI k))]) hx hb d_DK_hash_9 hl (by decide) rfl (fun ls hl => ?_)
  have loop : ∀ (N : Nat) (i : Int) (hv : Int) (ce : Nat) (sl : Nat) (f1 : dw_M) (H : Heap) (locs : List Loc) (ls : Array Slot), (((tt T k).length : Int) - i).toNat < N → 0 ≤ i → i ≤ ((tt T k).length : Int) → hv = hsh ((tt T k).take i.toNat) → exo G no1 f f1 → tx G k.toNat f1 t1 (tt T k) → ce + 4 * pot f1 t1 ≤ 5 → sl + 140 * pot f1 t1 ≤ 146 → dw G.1 dk_cl (dw_A f sz) s.heap f1 H locs → lv_has ls 5 [(4, .int (iI i)), (3, .int (iI hv)), (2, .ref t1)] → W p l e { frames := 42, locals := 970, cells := 5, slots := 146 } s m args below meth c H locs (ce) (sl) (vx_MQ below (ct_Q G f sz (fun v f' => v = some (.int (iI (hsh (tt T k)))) ∧ (0 ≤ k ∧ k < (T.length : Int)) ∧ dkI G f' x T Y B Z)) (ct_X G f sz (fun E f' => E = "java/lang/IllegalArgumentException" ∧ ¬ (0 ≤ k ∧ k < (T.length : Int)) ∧ dkI G f' x T Y B Z)) args s (5) (146) (dw_A f sz)) (F0 m 11 ls []) := by
    intro N
    induction N with
    | zero => intros; omega
    | succ N ih =>
      intro i hv ce sl f1 H locs ls hN hi0 hi1 hhv hx1 ht1 hce hsl hw hl
      refine lv_iload hx hb d_DK_hash_11 (lv_at hl 0 rfl) ?_
      refine lv_aload_n hx hb d_DK_hash_13 rfl (lv_at hl 2 rfl) ?_
      refine st_DK_77 X hz hw hl.1 ht1 ⟨Nat.le_of_ble_eq_true rfl, Nat.le_of_ble_eq_true rfl⟩ ⟨by show ce ≤ 5; omega, by show sl ≤ 146; omega⟩ (Nat.le_of_ble_eq_true rfl) d_DK_hash_14 (fun H locs hw => ?_)
      refine W.eq (g2 := F0 m 17 ls [.int (iI (((tt T k).length : Int))), .int (iI i)]) rfl ?_
      refine di_icmp_ge (tgt := 38) hx hb d_DK_hash_17 (by decide) ⟨by omega, by omega⟩ ⟨by omega, by omega⟩ (fun bq17 => ?_) (fun bq17 => ?_)
      · refine lv_iload_n hx hb d_DK_hash_38 rfl (lv_at hl 1 rfl) ?_
        exact ct_iret hx hb hr  hlk hw (⟨by rw [hhv, hsh_all (by omega)], hb_t1, (hS.read hx1).I⟩) (by omega) (by omega) d_DK_hash_39
      · refine lv_bipush (v := iI (31)) hx hb d_DK_hash_20 rfl ?_
        refine lv_iload_n hx hb d_DK_hash_22 rfl (lv_at hl 1 rfl) ?_
        refine di_mul hx hb d_DK_hash_23 ?_
        refine lv_aload_n hx hb d_DK_hash_24 rfl (lv_at hl 2 rfl) ?_
        refine lv_iload hx hb d_DK_hash_25 (lv_at hl 0 rfl) ?_
        refine sg_DK_122 X hz hw hl.1 (by omega : k.toNat ≤ 24) ht1 ⟨by omega, by omega⟩ ⟨Nat.le_of_ble_eq_true rfl, Nat.le_of_ble_eq_true rfl⟩ ⟨by show ce + 4 * pot f1 t1 ≤ 5; omega, by show sl + 140 * pot f1 t1 ≤ 146; omega⟩ (Nat.le_of_ble_eq_true rfl) d_DK_hash_27 (fun f2 H locs hx_f2 hp_f2 hw => ?_)
        refine W.eq (g2 := F0 m 30 ls [.int (iI (gt (tt T k) i)), .int (iI (31 * hv))]) rfl ?_
        refine di_add hx hb d_DK_hash_30 ?_
        refine lv_istore_n (lv' := [(3, .int (iI ((31 * hv) + (gt (tt T k) i)))), (4, .int (iI i)), (2, .ref t1)]) hx hb d_DK_hash_31 rfl hl (by decide) rfl (fun ls hl => ?_)
        refine lv_iinc (v := iI (i + 1)) (lv' := [(4, .int (iI (i + 1))), (3, .int (iI ((31 * hv) + (gt (tt T k) i)))), (2, .ref t1)]) hx hb d_DK_hash_32 hl (k := 1) rfl (iI_add _ _) (by decide) rfl (fun ls hl => ?_)
        refine lv_goto (tgt := 11) hx hb d_DK_hash_35 (by decide) ?_
        exact ih (i + 1) ((31 * hv) + (gt (tt T k) i)) (ce + 4 * pot f1 t1) (sl + 140 * pot f1 t1) _ _ _ _ (by omega) (by omega) (by omega) (by rw [hsh_snoc (by omega) (by omega), hhv]) (hx1.tr hx_f2) (hx_f2.2.1 _ _ _ ht1) (by omega) (by omega) hw (lv_sub hl [0, 1, 2] rfl)
  exact loop ((((tt T k).length : Int) - 0).toNat + 1) (0) (0) (1) (6) _ _ _ _ (by omega) (by omega) (by omega) (rfl) (exo.rf) (ht_t1) (by omega) (by omega) hw (lv_sub hl [0, 1, 2] rfl)
set_option maxRecDepth 100000 in
set_option maxHeartbeats 4000000 in
theorem c_DK_find (l : Launch) (hlT : l.stackTraces = false) (G : ct_G) (f : dw_M) (sz : Nat) (x : Nat) (T Y : List (List Int)) (B Z : List Int) (hI : dkI G f x T Y B Z) (a b fr lb : Int) (ha : iR a) (hb0 : iR b) (hfr : iR fr) (hlb : iR lb) : ct l y_DK_find w_DK_find (44) (1015) G f sz [.ref x, .int (iI a), .int (iI b), .int (iI fr), .int (iI lb)] (fun v f' => v = some (.int (iI (if lb = 0 then frst (tt T a) (tt T b) fr else last (tt T a) (tt T b) fr))) ∧ ((0 ≤ a ∧ a < (T.length : Int)) ∧ 0 ≤ b ∧ b < (T.length : Int)) ∧ dkI G f' x T Y B Z) (fun E f' => E = "java/lang/IllegalArgumentException" ∧ ¬ ((0 ≤ a ∧ a < (T.length : Int)) ∧ 0 ≤ b ∧ b < (T.length : Int)) ∧ dkI G f' x T Y B Z) (10) (292) := by
  refine ct_of (own := "TextDesk") (nm := "find") (ds := "(IIIZ)I") (by decide) (Nat.le_of_ble_eq_true rfl) ?_
  intro p e s m args below meth c ls X hnm hr hlk hnx hs0 hz hw hl
  have hx := X.1
  have hb := X.2.1
  have hl : lv_has ls 7 [(0, .ref x), (1, .int (iI a)), (2, .int (iI b)), (3, .int (iI fr)), (4, .int (iI lb))] := hl
  have hG := X.E.ok
  obtain ⟨ta, sa, yr, dc, bu, dr, qy, qb, qd, gT, gS, c0, w0, D, sB, sZ, sD, hS⟩ := hI
  obtain ⟨ha1, ha2⟩ := ha
  obtain ⟨hb1, hb2⟩ := hb0
  refine lv_aload_n hx hb d_DK_find_0 rfl (lv_at hl 0 rfl) ?_
  refine lv_iload_n hx hb d_DK_find_1 rfl (lv_at hl 1 rfl) ?_
  refine cs_DK_64 X hz hw hl.1 hS.1 (c_DK_textNumbered l hlT G f _ (a) ⟨by omega, by omega⟩ x ta sa yr dc bu dr qy qb qd gT gS c0 w0 T Y B Z D sB sZ sD hS) ⟨Nat.le_of_ble_eq_true rfl, Nat.le_of_ble_eq_true rfl⟩ ⟨by show 0 + 1 ≤ 10; omega, by show 0 + 6 ≤ 292; omega⟩ (Nat.le_of_ble_eq_true rfl) d_DK_find_2 (fun E ce q9 f8 H locs hpx hw _ _ _ hce hcv hcl => ?_) (fun v f9 H locs hp hw hsz9 hkp9 hdm9 => ?_)
  · obtain ⟨rfl, hno, hfe⟩ := hpx
    rw [hfe] at hw
    exact ct_out hnx hlk hw (⟨rfl, by omega, hS.I⟩) hce hcv hcl (by omega) (by omega)
  obtain ⟨t1, rfl, hg_t1, hb_t1, hfe⟩ := hp
  rw [hfe] at hw
  have ht_t1 := hS.txt hb_t1.1 hb_t1.2 hg_t1
  have hl_t1 := ht_t1.len
  have hT_t1 := hS.2.2.2.2.1.1
  refine W.eq (g2 := F0 m 5 ls [.ref t1]) rfl ?_
  refine lv_astore (lv' := [(5, .ref t1), (0, .ref x), (1, .int (iI a)), (2, .int (iI b)), (3, .int (iI fr)), (4, .int (iI lb))]) hx hb d_DK_find_5 hl (by decide) rfl (fun ls hl => ?_)
  refine lv_aload_n hx hb d_DK_find_7 rfl (lv_at hl 1 rfl) ?_
  refine lv_iload_n hx hb d_DK_find_8 rfl (lv_at hl 3 rfl) ?_
  refine cs_DK_64 X hz hw hl.1 hS.1 (c_DK_textNumbered l hlT G f _ (b) ⟨by omega, by omega⟩ x ta sa yr dc bu dr qy qb qd gT gS c0 w0 T Y B Z D sB sZ sD hS) ⟨Nat.le_of_ble_eq_true rfl, Nat.le_of_ble_eq_true rfl⟩ ⟨by show 0 + 1 + 1 ≤ 10; omega, by show 0 + 6 + 6 ≤ 292; omega⟩ (Nat.le_of_ble_eq_true rfl) d_DK_find_9 (fun E ce q9 f8 H locs hpx hw _ _ _ hce hcv hcl => ?_) (fun v f9 H locs hp hw hsz9 hkp9 hdm9 => ?_)
  · obtain ⟨rfl, hno, hfe⟩ := hpx
    rw [hfe] at hw
    exact ct_out hnx hlk hw (⟨rfl, by omega, hS.I⟩) hce hcv hcl (by omega) (by omega)
  obtain ⟨t2, rfl, hg_t2, hb_t2, hfe⟩ := hp
  rw [hfe] at hw
  have ht_t2 := hS.txt hb_t2.1 hb_t2.2 hg_t2
  have hl_t2 := ht_t2.len
  have hT_t2 := hS.2.2.2.2.1.1
  refine W.eq (g2 := F0 m 12 ls [.ref t2]) rfl ?_
  have hpt1 := pot_le f t1
  have hpt2 := pot_le f t2
  refine lv_astore (lv' := [(6, .ref t2), (5, .ref t1), (0, .ref x), (1, .int (iI a)), (2, .int (iI b)), (3, .int (iI fr)), (4, .int (iI lb))]) hx hb d_DK_find_12 hl (by decide) rfl (fun ls hl => ?_)
  refine lv_iload hx hb d_DK_find_14 (lv_at hl 6 rfl) ?_
  refine di_if_eq (tgt := 30) hx hb d_DK_find_16 (by decide) hlb (fun bq16 => ?_) (fun bq16 => ?_)
  · refine lv_aload hx hb d_DK_find_30 (lv_at hl 1 rfl) ?_
    refine lv_aload hx hb d_DK_find_32 (lv_at hl 0 rfl) ?_
    refine lv_iload_n hx hb d_DK_find_34 rfl (lv_at hl 5 rfl) ?_
    refine cs_DK_142 X hz hw hl.1 (c_DK_firstPlace l G f _ a.toNat b.toNat t1 t2 (tt T a) (tt T b) fr hfr (by omega) (by omega) ht_t1 ht_t2) ⟨Nat.le_of_ble_eq_true rfl, Nat.le_of_ble_eq_true rfl⟩ ⟨by show 0 + 1 + 1 + (4 * (pot f t1 + pot f t2)) ≤ 10; omega, by show 0 + 6 + 6 + (140 * (pot f t1 + pot f t2)) ≤ 292; omega⟩ (Nat.le_of_ble_eq_true rfl) d_DK_find_35 (fun v f2 H locs hp hw hsz9 hkp9 hdm9 => ?_)
    obtain ⟨rfl, hx2⟩ := hp
    refine W.eq (g2 := F0 m 38 ls [.int (iI (frst (tt T a) (tt T b) fr))]) rfl ?_
    exact ct_iret hx hb hr  hlk hw (⟨by rw [if_pos bq16], by omega, (hS.read hx2).I⟩) (by omega) (by omega) d_DK_find_38
  · refine lv_aload hx hb d_DK_find_19 (lv_at hl 1 rfl) ?_
    refine lv_aload hx hb d_DK_find_21 (lv_at hl 0 rfl) ?_
    refine lv_iload_n hx hb d_DK_find_23 rfl (lv_at hl 5 rfl) ?_
    refine cs_DK_138 X hz hw hl.1 (c_DK_lastPlace l G f _ a.toNat b.toNat t1 t2 (tt T a) (tt T b) fr hfr (by omega) (by omega) ht_t1 ht_t2) ⟨Nat.le_of_ble_eq_true rfl, Nat.le_of_ble_eq_true rfl⟩ ⟨by show 0 + 1 + 1 + (4 * (pot f t1 + pot f t2)) ≤ 10; omega, by show 0 + 6 + 6 + (140 * (pot f t1 + pot f t2)) ≤ 292; omega⟩ (Nat.le_of_ble_eq_true rfl) d_DK_find_24 (fun v f2 H locs hp hw hsz9 hkp9 hdm9 => ?_)
    obtain ⟨rfl, hx2⟩ := hp
    refine W.eq (g2 := F0 m 27 ls [.int (iI (last (tt T a) (tt T b) fr))]) rfl ?_
    refine lv_goto (tgt := 38) hx hb d_DK_find_27 (by decide) ?_
    exact ct_iret hx hb hr  hlk hw (⟨by rw [if_neg bq16], by omega, (hS.read hx2).I⟩) (by omega) (by omega) d_DK_find_38
