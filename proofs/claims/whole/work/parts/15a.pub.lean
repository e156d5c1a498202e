set_option maxRecDepth 100000 in
set_option maxHeartbeats 4000000 in
theorem c_DK_unit (l : Launch) (hlT : l.stackTraces = false) (G : ct_G) (f : dw_M) (sz : Nat) (x : Nat) (T Y : List (List Int)) (B Z : List Int) (hI : dkI G f x T Y B Z) (u : Int) (hu : iR u) : ct l y_DK_unit w_DK_unit (8) (120) G f sz [.ref x, .int (iI u)] (fun v f' => v = some (.int (iI ((B.length : Int) + 1))) ∧ (0 ≤ u ∧ u < 65536) ∧ B.length < 60 ∧ dkI G f' x T Y (B ++ [u]) Z) (fun E f' => (E = "java/lang/IllegalArgumentException" ∧ ¬ (0 ≤ u ∧ u < 65536) ∨ E = "java/lang/IllegalStateException" ∧ (0 ≤ u ∧ u < 65536) ∧ B.length = 60) ∧ dkI G f' x T Y B Z) (1) (6) := by
  refine ct_of (own := "TextDesk") (nm := "unit") (ds := "(I)I") (by decide) (Nat.le_of_ble_eq_true rfl) ?_
  intro p e s m args below meth c ls X hnm hr hlk hnx hs0 hz hw hl
  have hx := X.1
  have hb := X.2.1
  have hl : lv_has ls 2 [(0, .ref x), (1, .int (iI u))] := hl
  have hG := X.E.ok
  obtain ⟨ta, sa, yr, dc, bu, dr, qy, qb, qd, gT, gS, c0, w0, D, sB, sZ, sD, hS⟩ := hI
  obtain ⟨hu1, hu2⟩ := hu
  have hB := hS.2.2.2.2.2.2.2.1.2.1.len
  refine lv_iload_n hx hb d_DK_unit_0 rfl (lv_at hl 1 rfl) ?_
  refine di_if_lt (tgt := 10) hx hb d_DK_unit_1 (by decide) ⟨by omega, by omega⟩ (fun bq1 => ?_) (fun bq1 => ?_)
  · exact th_IAE X hlT hz (is := 43) (text := "no unit") (by decide +kernel) hw hl.1 hnx hlk (⟨Or.inl ⟨rfl, by omega⟩, hS.I⟩) ⟨by show 8 ≤ 8; omega, by show 120 ≤ 120; omega⟩ ⟨by show 0 + 1 ≤ 1; omega, by show 0 + 6 ≤ 6; omega⟩ ⟨by show 0 + 1 ≤ 1; omega, by show 0 + 6 ≤ 6; omega⟩ (Nat.le_of_ble_eq_true rfl) d_DK_unit_10 d_DK_unit_13 d_DK_unit_14 d_DK_unit_16 d_DK_unit_19
  · refine lv_iload_n hx hb d_DK_unit_4 rfl (lv_at hl 1 rfl) ?_
    refine lv_ldc (v := iI (65536)) hx hb X.own (X.hts _ mw_133) d_DK_unit_5 ?_
    refine di_icmp_lt (tgt := 20) hx hb d_DK_unit_7 (by decide) ⟨by omega, by omega⟩ ⟨by omega, by omega⟩ (fun bq7 => ?_) (fun bq7 => ?_)
    · refine lv_aload_n hx hb d_DK_unit_20 rfl (lv_at hl 0 rfl) ?_
      refine gf_DK_34_DK X hw hS.1 d_DK_unit_21 ?_
      refine cs_DK_48 X hz hw hl.1 hS.2.2.2.2.2.2.2.1.2.1.choose_spec.1 (c_RW_isFull l G f _ bu qb 60 B sB hS.2.2.2.2.2.2.2.1.2.1) ⟨Nat.le_of_ble_eq_true rfl, Nat.le_of_ble_eq_true rfl⟩ ⟨by show 0 + 0 ≤ 1; omega, by show 0 + 0 ≤ 6; omega⟩ (Nat.le_of_ble_eq_true rfl) d_DK_unit_24 (fun v f9 H locs hp hw hsz9 hkp9 hdm9 => ?_)
      obtain ⟨rfl, hfe⟩ := hp
      rw [hfe] at hw
      refine W.eq (g2 := F0 m 27 ls [.int (iI (if 60 ≤ B.length then 1 else 0))]) rfl ?_
      have hful : (if 60 ≤ B.length then (1 : Int) else 0) = 0 ∨ (if 60 ≤ B.length then (1 : Int) else 0) = 1 := by split; exact Or.inr rfl; exact Or.inl rfl
      refine di_if_eq (tgt := 40) hx hb d_DK_unit_27 (by decide) ⟨by omega, by omega⟩ (fun bq27 => ?_) (fun bq27 => ?_)
      · have hlt : B.length < 60 := by
          rcases Nat.lt_or_ge B.length 60 with q | q
          · exact q
          · rw [if_pos q] at bq27; omega
        refine lv_aload_n hx hb d_DK_unit_40 rfl (lv_at hl 0 rfl) ?_
        refine gf_DK_34_DK X hw hS.1 d_DK_unit_41 ?_
        refine lv_iload_n hx hb d_DK_unit_44 rfl (lv_at hl 1 rfl) ?_
        refine cs_DK_57 X hz hw hl.1 hS.2.2.2.2.2.2.2.1.2.1.choose_spec.1 (c_RW_append l G f _ bu qb 60 B sB (u) hS.2.2.2.2.2.2.2.1.2.1) ⟨Nat.le_of_ble_eq_true rfl, Nat.le_of_ble_eq_true rfl⟩ ⟨by show 0 + 0 ≤ 1; omega, by show 0 + 0 ≤ 6; omega⟩ (Nat.le_of_ble_eq_true rfl) d_DK_unit_45 (fun v f2 H locs hp hw hsz9 hkp9 hdm9 => ?_)
        obtain ⟨rfl, hr_f2, hk_f2⟩ := hp
        have hx_f2 := exo_row hG hS.2.2.2.2.2.2.2.1.2.1 hr_f2 hk_f2
        refine W.eq (g2 := F0 m 48 ls []) rfl ?_
        have hS_f2 := hS.bld hx_f2 hr_f2 (by rw [ap1, if_pos hlt]; exact mem_app hS.2.2.2.2.2.2.2.2.2.1 (mem_one ⟨by omega, by omega⟩))
        refine lv_aload_n hx hb d_DK_unit_48 rfl (lv_at hl 0 rfl) ?_
        refine gf_DK_34_DK X hw hS_f2.1 d_DK_unit_49 ?_
        refine cs_DK_60 X hz hw hl.1 hS_f2.2.2.2.2.2.2.2.1.2.1.choose_spec.1 (c_RW_size l G f2 _ bu qb 60 (ap1 60 B (u)) (ap2 60 B sB) hS_f2.2.2.2.2.2.2.2.1.2.1) ⟨Nat.le_of_ble_eq_true rfl, Nat.le_of_ble_eq_true rfl⟩ ⟨by show 0 + 0 ≤ 1; omega, by show 0 + 0 ≤ 6; omega⟩ (Nat.le_of_ble_eq_true rfl) d_DK_unit_52 (fun v f9 H locs hp hw hsz9 hkp9 hdm9 => ?_)
        obtain ⟨rfl, hfe⟩ := hp
        rw [hfe] at hw
        refine W.eq (g2 := F0 m 55 ls [.int (iI (((ap1 60 B (u)).length : Int)))]) rfl ?_
        have he1 : ap1 60 B u = B ++ [u] := if_pos hlt
        exact ct_iret hx hb hr  hlk hw (⟨by rw [he1]; simp, by omega, hlt, by have h9 := hS_f2.I; rw [he1] at h9; exact h9⟩) (by omega) (by omega) d_DK_unit_55
      · have hge : B.length = 60 := by
          rcases Nat.lt_or_ge B.length 60 with q | q
          · rw [if_neg (by omega)] at bq27; omega
          · omega
        exact th_ISE X hlT hz (is := 54) (text := "the builder is full") (by decide +kernel) hw hl.1 hnx hlk (⟨Or.inr ⟨rfl, by omega, hge⟩, hS.I⟩) ⟨by show 8 ≤ 8; omega, by show 120 ≤ 120; omega⟩ ⟨by show 0 + 1 ≤ 1; omega, by show 0 + 6 ≤ 6; omega⟩ ⟨by show 0 + 1 ≤ 1; omega, by show 0 + 6 ≤ 6; omega⟩ (Nat.le_of_ble_eq_true rfl) d_DK_unit_30 d_DK_unit_33 d_DK_unit_34 d_DK_unit_36 d_DK_unit_39
    · exact th_IAE X hlT hz (is := 43) (text := "no unit") (by decide +kernel) hw hl.1 hnx hlk (⟨Or.inl ⟨rfl, by omega⟩, hS.I⟩) ⟨by show 8 ≤ 8; omega, by show 120 ≤ 120; omega⟩ ⟨by show 0 + 1 ≤ 1; omega, by show 0 + 6 ≤ 6; omega⟩ ⟨by show 0 + 1 ≤ 1; omega, by show 0 + 6 ≤ 6; omega⟩ (Nat.le_of_ble_eq_true rfl) d_DK_unit_10 d_DK_unit_13 d_DK_unit_14 d_DK_unit_16 d_DK_unit_19
set_option maxRecDepth 100000 in
set_option maxHeartbeats 4000000 in
theorem c_DK_built (l : Launch) (hlT : l.stackTraces = false) (G : ct_G) (f : dw_M) (sz : Nat) (x : Nat) (T Y : List (List Int)) (B Z : List Int) (hI : dkI G f x T Y B Z) (k : Int) (hk : iR k) : ct l y_DK_built w_DK_built (43) (985) G f sz [.ref x, .int (iI k)] (fun v f' => v = some (.int (iI (if k = -1 then (B.length : Int) else gt B k))) ∧ (-1 ≤ k ∧ k < (B.length : Int)) ∧ dkI G f' x T Y B Z) (fun E f' => E = "java/lang/IndexOutOfBoundsException" ∧ ¬ (-1 ≤ k ∧ k < (B.length : Int)) ∧ dkI G f' x T Y B Z) (1) (6) := by
  refine ct_of (own := "TextDesk") (nm := "built") (ds := "(I)I") (by decide) (Nat.le_of_ble_eq_true rfl) ?_
  intro p e s m args below meth c ls X hnm hr hlk hnx hs0 hz hw hl
  have hx := X.1
  have hb := X.2.1
  have hl : lv_has ls 2 [(0, .ref x), (1, .int (iI k))] := hl
  have hG := X.E.ok
  obtain ⟨ta, sa, yr, dc, bu, dr, qy, qb, qd, gT, gS, c0, w0, D, sB, sZ, sD, hS⟩ := hI
  refine lv_aload_n hx hb d_DK_built_0 rfl (lv_at hl 0 rfl) ?_
  refine gf_DK_34_DK X hw hS.1 d_DK_built_1 ?_
  refine lv_iload_n hx hb d_DK_built_4 rfl (lv_at hl 1 rfl) ?_
  have hp0 : pot f bu = 0 := rw_pot hS.2.2.2.2.2.2.2.1.2.1
  refine cs_DK_96 X hz hw hl.1 (c_DK_sizeOrItem l hlT G f _ bu B k hk (fun u h => hS.2.2.2.2.2.2.2.2.2.1 u h) (Or.inr ⟨_, _, _, hS.2.2.2.2.2.2.2.1.2.1⟩)) ⟨Nat.le_of_ble_eq_true rfl, Nat.le_of_ble_eq_true rfl⟩ ⟨by show 0 + (4 * pot f bu + 1) ≤ 1; omega, by show 0 + (140 * pot f bu + 6) ≤ 6; omega⟩ (Nat.le_of_ble_eq_true rfl) d_DK_built_5 (fun E ce q9 f8 H locs hpx hw _ _ _ hce hcv hcl => ?_) (fun v f2 H locs hp hw hsz9 hkp9 hdm9 => ?_)
  · exact ct_out hnx hlk hw (⟨hpx.1, hpx.2.1, (hS.read hpx.2.2).I⟩) hce hcv hcl (by omega) (by omega)
  obtain ⟨rfl, hin, hx2⟩ := hp
  refine W.eq (g2 := F0 m 8 ls [.int (iI (if k = -1 then (B.length : Int) else gt B k))]) rfl ?_
  exact ct_iret hx hb hr  hlk hw (⟨rfl, hin, (hS.read hx2).I⟩) (by omega) (by omega) d_DK_built_8
set_option maxRecDepth 100000 in
set_option maxHeartbeats 4000000 in
theorem c_DK_octet (l : Launch) (hlT : l.stackTraces = false) (G : ct_G) (f : dw_M) (sz : Nat) (x : Nat) (T Y : List (List Int)) (B Z : List Int) (hI : dkI G f x T Y B Z) (k : Int) (hk : iR k) : ct l y_DK_octet w_DK_octet (43) (985) G f sz [.ref x, .int (iI k)] (fun v f' => v = some (.int (iI (if k = -1 then (Z.length : Int) else gt Z k))) ∧ (-1 ≤ k ∧ k < (Z.length : Int)) ∧ dkI G f' x T Y B Z) (fun E f' => E = "java/lang/IndexOutOfBoundsException" ∧ ¬ (-1 ≤ k ∧ k < (Z.length : Int)) ∧ dkI G f' x T Y B Z) (1) (6) := by
  refine ct_of (own := "TextDesk") (nm := "octet") (ds := "(I)I") (by decide) (Nat.le_of_ble_eq_true rfl) ?_
  intro p e s m args below meth c ls X hnm hr hlk hnx hs0 hz hw hl
  have hx := X.1
  have hb := X.2.1
  have hl : lv_has ls 2 [(0, .ref x), (1, .int (iI k))] := hl
  have hG := X.E.ok
  obtain ⟨ta, sa, yr, dc, bu, dr, qy, qb, qd, gT, gS, c0, w0, D, sB, sZ, sD, hS⟩ := hI
  refine lv_aload_n hx hb d_DK_octet_0 rfl (lv_at hl 0 rfl) ?_
  refine gf_DK_23_DK X hw hS.1 d_DK_octet_1 ?_
  refine lv_iload_n hx hb d_DK_octet_4 rfl (lv_at hl 1 rfl) ?_
  have hp0 : pot f yr = 0 := rw_pot hS.2.2.2.2.2.2.2.1.1
  refine cs_DK_96 X hz hw hl.1 (c_DK_sizeOrItem l hlT G f _ yr Z k hk (fun u h => by have h9 := hS.2.2.2.2.2.2.2.2.2.2 u h; omega) (Or.inr ⟨_, _, _, hS.2.2.2.2.2.2.2.1.1⟩)) ⟨Nat.le_of_ble_eq_true rfl, Nat.le_of_ble_eq_true rfl⟩ ⟨by show 0 + (4 * pot f yr + 1) ≤ 1; omega, by show 0 + (140 * pot f yr + 6) ≤ 6; omega⟩ (Nat.le_of_ble_eq_true rfl) d_DK_octet_5 (fun E ce q9 f8 H locs hpx hw _ _ _ hce hcv hcl => ?_) (fun v f2 H locs hp hw hsz9 hkp9 hdm9 => ?_)
  · exact ct_out hnx hlk hw (⟨hpx.1, hpx.2.1, (hS.read hpx.2.2).I⟩) hce hcv hcl (by omega) (by omega)
  obtain ⟨rfl, hin, hx2⟩ := hp
  refine W.eq (g2 := F0 m 8 ls [.int (iI (if k = -1 then (Z.length : Int) else gt Z k))]) rfl ?_
  exact ct_iret hx hb hr  hlk hw (⟨rfl, hin, (hS.read hx2).I⟩) (by omega) (by omega) d_DK_octet_8
set_option maxRecDepth 100000 in
set_option maxHeartbeats 4000000 in
theorem c_DK_take (l : Launch) (hlT : l.stackTraces = false) (G : ct_G) (f : dw_M) (sz : Nat) (x : Nat) (T Y : List (List Int)) (B Z : List Int) (hI : dkI G f x T Y B Z) : ct l y_DK_take w_DK_take (9) (145) G f sz [.ref x] (fun v f' => v = some (.int (iI (T.length : Int))) ∧ T.length < 24 ∧ dkI G f' x (T ++ [B]) Y [] Z) (fun E f' => E = "java/lang/IllegalStateException" ∧ T.length = 24 ∧ dkI G f' x T Y B Z) (3) (69) := by
  refine ct_of (own := "TextDesk") (nm := "take") (ds := "()I") (by decide) (Nat.le_of_ble_eq_true rfl) ?_
  intro p e s m args below meth c ls X hnm hr hlk hnx hs0 hz hw hl
  have hx := X.1
  have hb := X.2.1
  have hl : lv_has ls 2 [(0, .ref x)] := hl
  have hG := X.E.ok
  obtain ⟨ta, sa, yr, dc, bu, dr, qy, qb, qd, gT, gS, c0, w0, D, sB, sZ, sD, hS⟩ := hI
  have hB := hS.2.2.2.2.2.2.2.1.2.1.len
  refine lv_aload_n hx hb d_DK_take_0 rfl (lv_at hl 0 rfl) ?_
  refine lv_aload_n hx hb d_DK_take_1 rfl (lv_at hl 0 rfl) ?_
  refine gf_DK_34_DK X hw hS.1 d_DK_take_2 ?_
  refine cs_DK_100 X hz hw hl.1 (c_DK_textOf l G f _ bu qb 60 B sB (hS.2.2.2.2.2.2.2.2.2.1) (hB.1) hS.2.2.2.2.2.2.2.1.2.1) ⟨Nat.le_of_ble_eq_true rfl, Nat.le_of_ble_eq_true rfl⟩ ⟨by show 0 + 2 ≤ 3; omega, by show 0 + (3 + (B).length) ≤ 69; omega⟩ (Nat.le_of_ble_eq_true rfl) d_DK_take_5 (fun v f2 H locs hp hw hsz9 hkp9 hdm9 => ?_)
  obtain ⟨t1, rfl, hn_t1, hlf_t1, hm_t1⟩ := hp
  have hS_f2 := hS.more hm_t1
  refine W.eq (g2 := F0 m 8 ls [.ref t1, .ref x]) rfl ?_
  refine cs_DK_104 X hz hw hl.1 hS_f2.1 (c_DK_keepText l hlT G f2 _ t1 B x ta sa yr dc bu dr qy qb qd gT gS c0 w0 T Y B Z D sB sZ sD hS_f2 (fun _ => hlf_t1.tx T.length)) ⟨Nat.le_of_ble_eq_true rfl, Nat.le_of_ble_eq_true rfl⟩ ⟨by show 0 + 2 + 1 ≤ 3; omega, by show 0 + (3 + (B).length) + 6 ≤ 69; omega⟩ (Nat.le_of_ble_eq_true rfl) d_DK_take_8 (fun E ce q9 f8 H locs hpx hw _ _ _ hce hcv hcl => ?_) (fun v f3 H locs hp hw hsz9 hkp9 hdm9 => ?_)
  · obtain ⟨rfl, hfull, hfe⟩ := hpx
    rw [hfe] at hw
    exact ct_out hnx hlk hw (⟨rfl, hfull, hS_f2.I⟩) hce hcv hcl (by omega) (by omega)
  obtain ⟨rfl, hTl, hS_f3⟩ := hp
  refine W.eq (g2 := F0 m 11 ls [.int (iI ((T.length : Int)))]) rfl ?_
  refine lv_istore_n (lv' := [(1, .int (iI ((T.length : Int)))), (0, .ref x)]) hx hb d_DK_take_11 rfl hl (by decide) rfl (fun ls hl => ?_)
  refine lv_aload_n hx hb d_DK_take_12 rfl (lv_at hl 1 rfl) ?_
  refine gf_DK_34_DK X hw hS_f3.1 d_DK_take_13 ?_
  refine cs_DK_70 X hz hw hl.1 hS_f3.2.2.2.2.2.2.2.1.2.1.choose_spec.1 (c_RW_drop l G f3 _ bu qb 60 B sB hS_f3.2.2.2.2.2.2.2.1.2.1) ⟨Nat.le_of_ble_eq_true rfl, Nat.le_of_ble_eq_true rfl⟩ ⟨by show 0 + 2 + 1 + 0 ≤ 3; omega, by show 0 + (3 + (B).length) + 6 + 0 ≤ 69; omega⟩ (Nat.le_of_ble_eq_true rfl) d_DK_take_16 (fun v f4 H locs hp hw hsz9 hkp9 hdm9 => ?_)
  obtain ⟨rfl, hr_f4, hk_f4⟩ := hp
  have hx_f4 := exo_row hG hS_f3.2.2.2.2.2.2.2.1.2.1 hr_f4 (fun b h8 _ => hk_f4 b h8)
  refine W.eq (g2 := F0 m 19 ls []) rfl ?_
  have hS_f4 := hS_f3.bld hx_f4 hr_f4 mem_nil
  refine lv_iload_n hx hb d_DK_take_19 rfl (lv_at hl 0 rfl) ?_
  exact ct_iret hx hb hr  hlk hw (⟨rfl, hTl, hS_f4.I⟩) (by omega) (by omega) d_DK_take_20
set_option maxRecDepth 100000 in
set_option maxHeartbeats 4000000 in
theorem c_DK_join (l : Launch) (hlT : l.stackTraces = false) (G : ct_G) (f : dw_M) (sz : Nat) (x : Nat) (T Y : List (List Int)) (B Z : List Int) (hI : dkI G f x T Y B Z) (a b : Int) (ha : iR a) (hb0 : iR b) : ct l y_DK_join w_DK_join (9) (145) G f sz [.ref x, .int (iI a), .int (iI b)] (fun v f' => v = some (.int (iI (T.length : Int))) ∧ ((0 ≤ a ∧ a < (T.length : Int)) ∧ 0 ≤ b ∧ b < (T.length : Int)) ∧ (T.length < 24 ∧ (tt T a).length + (tt T b).length ≤ 60) ∧ dkI G f' x (T ++ [tt T a ++ tt T b]) Y B Z) (fun E f' => (E = "java/lang/IllegalArgumentException" ∧ ¬ ((0 ≤ a ∧ a < (T.length : Int)) ∧ 0 ≤ b ∧ b < (T.length : Int)) ∨ E = "java/lang/IllegalStateException" ∧ ((0 ≤ a ∧ a < (T.length : Int)) ∧ 0 ≤ b ∧ b < (T.length : Int)) ∧ ¬ (T.length < 24 ∧ (tt T a).length + (tt T b).length ≤ 60)) ∧ dkI G f' x T Y B Z) (4) (23) := by
  refine ct_of (own := "TextDesk") (nm := "join") (ds := "(II)I") (by decide) (Nat.le_of_ble_eq_true rfl) ?_
  intro p e s m args below meth c ls X hnm hr hlk hnx hs0 hz hw hl
  have hx := X.1
  have hb := X.2.1
  have hl : lv_has ls 5 [(0, .ref x), (1, .int (iI a)), (2, .int (iI b))] := hl
  have hG := X.E.ok
  obtain ⟨ta, sa, yr, dc, bu, dr, qy, qb, qd, gT, gS, c0, w0, D, sB, sZ, sD, hS⟩ := hI
  obtain ⟨ha1, ha2⟩ := ha
  obtain ⟨hb1, hb2⟩ := hb0
  refine lv_aload_n hx hb d_DK_join_0 rfl (lv_at hl 0 rfl) ?_
  refine lv_iload_n hx hb d_DK_join_1 rfl (lv_at hl 1 rfl) ?_
  refine cs_DK_64 X hz hw hl.1 hS.1 (c_DK_textNumbered l hlT G f _ (a) ⟨by omega, by omega⟩ x ta sa yr dc bu dr qy qb qd gT gS c0 w0 T Y B Z D sB sZ sD hS) ⟨Nat.le_of_ble_eq_true rfl, Nat.le_of_ble_eq_true rfl⟩ ⟨by show 0 + 1 ≤ 4; omega, by show 0 + 6 ≤ 23; omega⟩ (Nat.le_of_ble_eq_true rfl) d_DK_join_2 (fun E ce q9 f8 H locs hpx hw _ _ _ hce hcv hcl => ?_) (fun v f9 H locs hp hw hsz9 hkp9 hdm9 => ?_)
  · obtain ⟨rfl, hno, hfe⟩ := hpx
    rw [hfe] at hw
    exact ct_out hnx hlk hw (⟨Or.inl ⟨rfl, by omega⟩, hS.I⟩) hce hcv hcl (by omega) (by omega)
  obtain ⟨t1, rfl, hg_t1, hb_t1, hfe⟩ := hp
  rw [hfe] at hw
  have ht_t1 := hS.txt hb_t1.1 hb_t1.2 hg_t1
  have hl_t1 := ht_t1.len
  have hT_t1 := hS.2.2.2.2.1.1
  refine W.eq (g2 := F0 m 5 ls [.ref t1]) rfl ?_
  refine lv_astore_n (lv' := [(3, .ref t1), (0, .ref x), (1, .int (iI a)), (2, .int (iI b))]) hx hb d_DK_join_5 rfl hl (by decide) rfl (fun ls hl => ?_)
  refine lv_aload_n hx hb d_DK_join_6 rfl (lv_at hl 1 rfl) ?_
  refine lv_iload_n hx hb d_DK_join_7 rfl (lv_at hl 3 rfl) ?_
  refine cs_DK_64 X hz hw hl.1 hS.1 (c_DK_textNumbered l hlT G f _ (b) ⟨by omega, by omega⟩ x ta sa yr dc bu dr qy qb qd gT gS c0 w0 T Y B Z D sB sZ sD hS) ⟨Nat.le_of_ble_eq_true rfl, Nat.le_of_ble_eq_true rfl⟩ ⟨by show 0 + 1 + 1 ≤ 4; omega, by show 0 + 6 + 6 ≤ 23; omega⟩ (Nat.le_of_ble_eq_true rfl) d_DK_join_8 (fun E ce q9 f8 H locs hpx hw _ _ _ hce hcv hcl => ?_) (fun v f9 H locs hp hw hsz9 hkp9 hdm9 => ?_)
  · obtain ⟨rfl, hno, hfe⟩ := hpx
    rw [hfe] at hw
    exact ct_out hnx hlk hw (⟨Or.inl ⟨rfl, by omega⟩, hS.I⟩) hce hcv hcl (by omega) (by omega)
  obtain ⟨t2, rfl, hg_t2, hb_t2, hfe⟩ := hp
  rw [hfe] at hw
  have ht_t2 := hS.txt hb_t2.1 hb_t2.2 hg_t2
  have hl_t2 := ht_t2.len
  have hT_t2 := hS.2.2.2.2.1.1
  refine W.eq (g2 := F0 m 11 ls [.ref t2]) rfl ?_
  refine lv_astore (lv' := [(4, .ref t2), (3, .ref t1), (0, .ref x), (1, .int (iI a)), (2, .int (iI b))]) hx hb d_DK_join_11 hl (by decide) rfl (fun ls hl => ?_)
  refine lv_aload_n hx hb d_DK_join_13 rfl (lv_at hl 1 rfl) ?_
  refine st_DK_77 X hz hw hl.1 ht_t1 ⟨Nat.le_of_ble_eq_true rfl, Nat.le_of_ble_eq_true rfl⟩ ⟨by show 0 + 1 + 1 ≤ 4; omega, by show 0 + 6 + 6 ≤ 23; omega⟩ (Nat.le_of_ble_eq_true rfl) d_DK_join_14 (fun H locs hw => ?_)
  refine W.eq (g2 := F0 m 17 ls [.int (iI (((tt T a).length : Int)))]) rfl ?_
  refine lv_aload hx hb d_DK_join_17 (lv_at hl 0 rfl) ?_
  refine st_DK_77 X hz hw hl.1 ht_t2 ⟨Nat.le_of_ble_eq_true rfl, Nat.le_of_ble_eq_true rfl⟩ ⟨by show 0 + 1 + 1 ≤ 4; omega, by show 0 + 6 + 6 ≤ 23; omega⟩ (Nat.le_of_ble_eq_true rfl) d_DK_join_19 (fun H locs hw => ?_)
  refine W.eq (g2 := F0 m 22 ls [.int (iI (((tt T b).length : Int))), .int (iI (((tt T a).length : Int)))]) rfl ?_
  refine di_add hx hb d_DK_join_22 ?_
  refine lv_bipush (v := iI (60)) hx hb d_DK_join_23 rfl ?_
  refine di_icmp_le (tgt := 38) hx hb d_DK_join_25 (by decide) ⟨by omega, by omega⟩ ⟨by omega, by omega⟩ (fun bq25 => ?_) (fun bq25 => ?_)
  · refine lv_aload_n hx hb d_DK_join_38 rfl (lv_at hl 2 rfl) ?_
    refine lv_aload_n hx hb d_DK_join_39 rfl (lv_at hl 1 rfl) ?_
    refine lv_aload hx hb d_DK_join_40 (lv_at hl 0 rfl) ?_
    refine cs_DK_110 X hz hw hl.1 (c_DK_joined l G f _ t1 t2 (T.length - 1) (tt T a) (tt T b) (ht_t1.up (by omega)) (ht_t2.up (by omega)) (by omega)) ⟨Nat.le_of_ble_eq_true rfl, Nat.le_of_ble_eq_true rfl⟩ ⟨by show 0 + 1 + 1 + 1 ≤ 4; omega, by show 0 + 6 + 6 + 5 ≤ 23; omega⟩ (Nat.le_of_ble_eq_true rfl) d_DK_join_42 (fun v f2 H locs hp hw hsz9 hkp9 hdm9 => ?_)
    obtain ⟨t3, rfl, ht3, hm3⟩ := hp
    have hS_f2 := hS.more hm3
    have ht3 : tx G T.length f2 t3 (tt T a ++ tt T b) := by have h9 := ht3; rw [show T.length - 1 + 1 = T.length by omega] at h9; exact h9
    refine W.eq (g2 := F0 m 45 ls [.ref t3, .ref x]) rfl ?_
    refine cs_DK_104 X hz hw hl.1 hS_f2.1 (c_DK_keepText l hlT G f2 _ t3 (tt T a ++ tt T b) x ta sa yr dc bu dr qy qb qd gT gS c0 w0 T Y B Z D sB sZ sD hS_f2 (fun _ => ht3)) ⟨Nat.le_of_ble_eq_true rfl, Nat.le_of_ble_eq_true rfl⟩ ⟨by show 0 + 1 + 1 + 1 + 1 ≤ 4; omega, by show 0 + 6 + 6 + 5 + 6 ≤ 23; omega⟩ (Nat.le_of_ble_eq_true rfl) d_DK_join_45 (fun E ce q9 f8 H locs hpx hw _ _ _ hce hcv hcl => ?_) (fun v f3 H locs hp hw hsz9 hkp9 hdm9 => ?_)
    · obtain ⟨rfl, hfull, hfe⟩ := hpx
      rw [hfe] at hw
      exact ct_out hnx hlk hw (⟨Or.inr ⟨rfl, by omega, by omega⟩, hS_f2.I⟩) hce hcv hcl (by omega) (by omega)
    obtain ⟨rfl, hTl, hS_f3⟩ := hp
    refine W.eq (g2 := F0 m 48 ls [.int (iI ((T.length : Int)))]) rfl ?_
    exact ct_iret hx hb hr  hlk hw (⟨rfl, by omega, by omega, hS_f3.I⟩) (by omega) (by omega) d_DK_join_48
  · exact th_ISE X hlT hz (is := 108) (text := "the text would be too long") (by decide +kernel) hw hl.1 hnx hlk (⟨Or.inr ⟨rfl, by omega, by omega⟩, hS.I⟩) ⟨by show 8 ≤ 9; omega, by show 120 ≤ 145; omega⟩ ⟨by show 0 + 1 + 1 + 1 ≤ 4; omega, by show 0 + 6 + 6 + 6 ≤ 23; omega⟩ ⟨by show 0 + 1 + 1 + 1 ≤ 4; omega, by show 0 + 6 + 6 + 6 ≤ 23; omega⟩ (Nat.le_of_ble_eq_true rfl) d_DK_join_28 d_DK_join_31 d_DK_join_32 d_DK_join_34 d_DK_join_37
set_option maxRecDepth 100000 in
set_option maxHeartbeats 4000000 in
theorem c_DK_keepRange (l : Launch) (hlT : l.stackTraces = false) (G : ct_G) (f : dw_M) (sz : Nat) (x : Nat) (T Y : List (List Int)) (B Z : List Int) (hI : dkI G f x T Y B Z) (t d : Nat) (us : List Int) (fr to : Int) (hfr : iR fr) (hto : iR to) (hd : d ≤ 24) (ht : tx G d f t us) : ct l y_DK_keepRange w_DK_keepRange (43) (990) G f sz [.ref x, .ref t, .int (iI fr), .int (iI to)] (fun v f' => v = some (.int (iI (T.length : Int))) ∧ T.length < 24 ∧ dkI G f' x (T ++ [sbl us fr to]) Y B Z) (fun E f' => E = "java/lang/IllegalStateException" ∧ T.length = 24 ∧ dkI G f' x T Y B Z) (4 * pot f t + 3) (140 * pot f t + 69) := by
  refine ct_of (own := "TextDesk") (nm := "keepRange") (ds := "(LTextDesk$Text;II)I") (by decide) (Nat.le_of_ble_eq_true rfl) ?_
  intro p e s m args below meth c ls X hnm hr hlk hnx hs0 hz hw hl
  have hx := X.1
  have hb := X.2.1
  have hl : lv_has ls 4 [(0, .ref x), (1, .ref t), (2, .int (iI fr)), (3, .int (iI to))] := hl
  have hG := X.E.ok
  obtain ⟨ta, sa, yr, dc, bu, dr, qy, qb, qd, gT, gS, c0, w0, D, sB, sZ, sD, hS⟩ := hI
  have hlen := ht.len
  have hsl := sbl_len us fr to
  refine lv_aload_n hx hb d_DK_keepRange_0 rfl (lv_at hl 0 rfl) ?_
  refine gf_DK_37_DK X hw hS.1 d_DK_keepRange_1 ?_
  refine cs_DK_70 X hz hw hl.1 hS.2.2.2.2.2.2.2.1.2.2.choose_spec.1 (c_RW_drop l G f _ dr qd 60 D sD hS.2.2.2.2.2.2.2.1.2.2) ⟨Nat.le_of_ble_eq_true rfl, Nat.le_of_ble_eq_true rfl⟩ ⟨by show 0 + 0 ≤ 4 * pot f t + 3; omega, by show 0 + 0 ≤ 140 * pot f t + 69; omega⟩ (Nat.le_of_ble_eq_true rfl) d_DK_keepRange_4 (fun v f2 H locs hp hw hsz9 hkp9 hdm9 => ?_)
  obtain ⟨rfl, hr_f2, hk_f2⟩ := hp
  have hx_f2 := exo_row hG hS.2.2.2.2.2.2.2.1.2.2 hr_f2 (fun b h8 _ => hk_f2 b h8)
  refine W.eq (g2 := F0 m 7 ls []) rfl ?_
  have hS_f2 := hS.draft hx_f2 hr_f2
  have ht2 := hx_f2.2.1 _ _ _ ht
  have hp2 := exo_pot hx_f2 ht
  refine lv_aload_n hx hb d_DK_keepRange_7 rfl (lv_at hl 0 rfl) ?_
  refine gf_DK_37_DK X hw hS_f2.1 d_DK_keepRange_8 ?_
  refine lv_aload_n hx hb d_DK_keepRange_11 rfl (lv_at hl 1 rfl) ?_
  refine lv_iload_n hx hb d_DK_keepRange_12 rfl (lv_at hl 2 rfl) ?_
  refine lv_iload_n hx hb d_DK_keepRange_13 rfl (lv_at hl 3 rfl) ?_
  have hrc_f3 := rc_le (pot f2 t) (sbl us (fr) (to))
  refine cs_DK_73 X hz hw hl.1 hS_f2.2.2.2.2.2.2.2.1.2.2.choose_spec.1 (c_RW_appendRange l G f2 _ dr qd 60 t [] us 0 (fr) (to) hfr hto hS_f2.2.2.2.2.2.2.2.1.2.2 (Or.inl ⟨d, hd, ht2⟩)) ⟨Nat.le_of_ble_eq_true rfl, Nat.le_of_ble_eq_true rfl⟩ ⟨by show 0 + 4 * rc (pot f2 t) (sbl us (fr) (to)) ≤ 4 * pot f t + 3; omega, by show 0 + 140 * rc (pot f2 t) (sbl us (fr) (to)) ≤ 140 * pot f t + 69; omega⟩ (Nat.le_of_ble_eq_true rfl) d_DK_keepRange_14 (fun v f3 H locs hp hw hsz9 hkp9 hdm9 => ?_)
  obtain ⟨rfl, hr_f3, hx_f3, hp_f3⟩ := hp
  refine W.eq (g2 := F0 m 17 ls []) rfl ?_
  have hS_f3 := hS_f2.draft hx_f3 hr_f3
  have he1 : apl1 60 [] (sbl us fr to) = sbl us fr to := apl1_fit (by simp; omega)
  rw [he1] at hS_f3
  refine lv_aload_n hx hb d_DK_keepRange_17 rfl (lv_at hl 0 rfl) ?_
  refine lv_aload_n hx hb d_DK_keepRange_18 rfl (lv_at hl 0 rfl) ?_
  refine gf_DK_37_DK X hw hS_f3.1 d_DK_keepRange_19 ?_
  refine cs_DK_100 X hz hw hl.1 (c_DK_textOf l G f3 _ dr qd 60 (sbl us fr to) (apl2 60 [] (sbl us (fr) (to)) 0) (fun u h => ht.rng u (sbl_mem h)) (by omega) hS_f3.2.2.2.2.2.2.2.1.2.2) ⟨Nat.le_of_ble_eq_true rfl, Nat.le_of_ble_eq_true rfl⟩ ⟨by show 0 + 4 * rc (pot f2 t) (sbl us (fr) (to)) + 2 ≤ 4 * pot f t + 3; omega, by show 0 + 140 * rc (pot f2 t) (sbl us (fr) (to)) + (3 + (sbl us fr to).length) ≤ 140 * pot f t + 69; omega⟩ (Nat.le_of_ble_eq_true rfl) d_DK_keepRange_22 (fun v f4 H locs hp hw hsz9 hkp9 hdm9 => ?_)
  obtain ⟨t1, rfl, hn_t1, hlf_t1, hm_t1⟩ := hp
  have hS_f4 := hS_f3.more hm_t1
  refine W.eq (g2 := F0 m 25 ls [.ref t1, .ref x]) rfl ?_
  refine cs_DK_104 X hz hw hl.1 hS_f4.1 (c_DK_keepText l hlT G f4 _ t1 (sbl us fr to) x ta sa yr dc bu dr qy qb qd gT gS c0 w0 T Y B Z (sbl us fr to) sB sZ (apl2 60 [] (sbl us (fr) (to)) 0) hS_f4 (fun _ => hlf_t1.tx T.length)) ⟨Nat.le_of_ble_eq_true rfl, Nat.le_of_ble_eq_true rfl⟩ ⟨by show 0 + 4 * rc (pot f2 t) (sbl us (fr) (to)) + 2 + 1 ≤ 4 * pot f t + 3; omega, by show 0 + 140 * rc (pot f2 t) (sbl us (fr) (to)) + (3 + (sbl us fr to).length) + 6 ≤ 140 * pot f t + 69; omega⟩ (Nat.le_of_ble_eq_true rfl) d_DK_keepRange_25 (fun E ce q9 f8 H locs hpx hw _ _ _ hce hcv hcl => ?_) (fun v f5 H locs hp hw hsz9 hkp9 hdm9 => ?_)
  · obtain ⟨rfl, hfull, hfe⟩ := hpx
    rw [hfe] at hw
    exact ct_out hnx hlk hw (⟨rfl, hfull, hS_f4.I⟩) hce hcv hcl (by omega) (by omega)
  obtain ⟨rfl, hTl, hS_f5⟩ := hp
  refine W.eq (g2 := F0 m 28 ls [.int (iI ((T.length : Int)))]) rfl ?_
  exact ct_iret hx hb hr  hlk hw (⟨rfl, hTl, hS_f5.I⟩) (by omega) (by omega) d_DK_keepRange_28
set_option maxRecDepth 100000 in
set_option maxHeartbeats 4000000 in
theorem c_DK_part (l : Launch) (hlT : l.stackTraces = false) (G : ct_G) (f : dw_M) (sz : Nat) (x : Nat) (T Y : List (List Int)) (B Z : List Int) (hI : dkI G f x T Y B Z) (k fr to : Int) (hk : iR k) (hfr : iR fr) (hto : iR to) : ct l y_DK_part w_DK_part (44) (1015) G f sz [.ref x, .int (iI k), .int (iI fr), .int (iI to)] (fun v f' => v = some (.int (iI (T.length : Int))) ∧ (0 ≤ k ∧ k < (T.length : Int)) ∧ (0 ≤ fr ∧ fr ≤ to ∧ to ≤ ((tt T k).length : Int)) ∧ T.length < 24 ∧ dkI G f' x (T ++ [sbl (tt T k) fr to]) Y B Z) (fun E f' => (E = "java/lang/IllegalArgumentException" ∧ ¬ (0 ≤ k ∧ k < (T.length : Int)) ∨ E = "java/lang/IndexOutOfBoundsException" ∧ (0 ≤ k ∧ k < (T.length : Int)) ∧ ¬ (0 ≤ fr ∧ fr ≤ to ∧ to ≤ ((tt T k).length : Int)) ∨ E = "java/lang/IllegalStateException" ∧ (0 ≤ k ∧ k < (T.length : Int)) ∧ (0 ≤ fr ∧ fr ≤ to ∧ to ≤ ((tt T k).length : Int)) ∧ T.length = 24) ∧ dkI G f' x T Y B Z) (9) (221) := by
  refine ct_of (own := "TextDesk") (nm := "part") (ds := "(III)I") (by decide) (Nat.le_of_ble_eq_true rfl) ?_
  intro p e s m args below meth c ls X hnm hr hlk hnx hs0 hz hw hl
  have hx := X.1
  have hb := X.2.1
  have hl : lv_has ls 5 [(0, .ref x), (1, .int (iI k)), (2, .int (iI fr)), (3, .int (iI to))] := hl
  have hG := X.E.ok
  obtain ⟨ta, sa, yr, dc, bu, dr, qy, qb, qd, gT, gS, c0, w0, D, sB, sZ, sD, hS⟩ := hI
  refine lv_aload_n hx hb d_DK_part_0 rfl (lv_at hl 0 rfl) ?_
  refine lv_iload_n hx hb d_DK_part_1 rfl (lv_at hl 1 rfl) ?_
  refine cs_DK_64 X hz hw hl.1 hS.1 (c_DK_textNumbered l hlT G f _ (k) hk x ta sa yr dc bu dr qy qb qd gT gS c0 w0 T Y B Z D sB sZ sD hS) ⟨Nat.le_of_ble_eq_true rfl, Nat.le_of_ble_eq_true rfl⟩ ⟨by show 0 + 1 ≤ 9; omega, by show 0 + 6 ≤ 221; omega⟩ (Nat.le_of_ble_eq_true rfl) d_DK_part_2 (fun E ce q9 f8 H locs hpx hw _ _ _ hce hcv hcl => ?_) (fun v f9 H locs hp hw hsz9 hkp9 hdm9 => ?_)
  · obtain ⟨rfl, hno, hfe⟩ := hpx
    rw [hfe] at hw
    exact ct_out hnx hlk hw (⟨Or.inl ⟨rfl, hno⟩, hS.I⟩) hce hcv hcl (by omega) (by omega)
  obtain ⟨t1, rfl, hg_t1, hb_t1, hfe⟩ := hp
  rw [hfe] at hw
  have ht_t1 := hS.txt hb_t1.1 hb_t1.2 hg_t1
  have hl_t1 := ht_t1.len
  have hT_t1 := hS.2.2.2.2.1.1
  refine W.eq (g2 := F0 m 5 ls [.ref t1]) rfl ?_
  have hpt := pot_le f t1
  refine lv_astore (lv' := [(4, .ref t1), (0, .ref x), (1, .int (iI k)), (2, .int (iI fr)), (3, .int (iI to))]) hx hb d_DK_part_5 hl (by decide) rfl (fun ls hl => ?_)
  refine lv_iload_n hx hb d_DK_part_7 rfl (lv_at hl 3 rfl) ?_
  refine lv_iload_n hx hb d_DK_part_8 rfl (lv_at hl 4 rfl) ?_
  refine lv_aload hx hb d_DK_part_9 (lv_at hl 0 rfl) ?_
  refine st_DK_77 X hz hw hl.1 ht_t1 ⟨Nat.le_of_ble_eq_true rfl, Nat.le_of_ble_eq_true rfl⟩ ⟨by show 0 + 1 ≤ 9; omega, by show 0 + 6 ≤ 221; omega⟩ (Nat.le_of_ble_eq_true rfl) d_DK_part_11 (fun H locs hw => ?_)
  refine W.eq (g2 := F0 m 14 ls [.int (iI (((tt T k).length : Int))), .int (iI to), .int (iI fr)]) rfl ?_
  refine cs_DK_84 X hz hw hl.1 (c_DK_refuseBadRange l hlT G f _ fr to ((tt T k).length : Int) hfr hto ⟨by omega, by omega⟩) ⟨Nat.le_of_ble_eq_true rfl, Nat.le_of_ble_eq_true rfl⟩ ⟨by show 0 + 1 + 1 ≤ 9; omega, by show 0 + 6 + 6 ≤ 221; omega⟩ (Nat.le_of_ble_eq_true rfl) d_DK_part_14 (fun E ce q9 f8 H locs hpx hw _ _ _ hce hcv hcl => ?_) (fun v f9 H locs hp hw hsz9 hkp9 hdm9 => ?_)
  · obtain ⟨rfl, hno, hfe⟩ := hpx
    rw [hfe] at hw
    exact ct_out hnx hlk hw (⟨Or.inr (Or.inl ⟨rfl, hb_t1, hno⟩), hS.I⟩) hce hcv hcl (by omega) (by omega)
  obtain ⟨rfl, hrg, hfe⟩ := hp
  rw [hfe] at hw
  refine W.eq (g2 := F0 m 17 ls []) rfl ?_
  refine lv_aload_n hx hb d_DK_part_17 rfl (lv_at hl 1 rfl) ?_
  refine lv_aload hx hb d_DK_part_18 (lv_at hl 0 rfl) ?_
  refine lv_iload_n hx hb d_DK_part_20 rfl (lv_at hl 3 rfl) ?_
  refine lv_iload_n hx hb d_DK_part_21 rfl (lv_at hl 4 rfl) ?_
  refine cs_DK_114 X hz hw hl.1 hS.1 (c_DK_keepRange l hlT G f _ x T Y B Z hS.I t1 k.toNat (tt T k) fr to hfr hto (by omega) ht_t1) ⟨Nat.le_of_ble_eq_true rfl, Nat.le_of_ble_eq_true rfl⟩ ⟨by show 0 + 1 + 1 + (4 * pot f t1 + 3) ≤ 9; omega, by show 0 + 6 + 6 + (140 * pot f t1 + 69) ≤ 221; omega⟩ (Nat.le_of_ble_eq_true rfl) d_DK_part_22 (fun E ce q9 f8 H locs hpx hw _ _ _ hce hcv hcl => ?_) (fun v f2 H locs hp hw hsz9 hkp9 hdm9 => ?_)
  · obtain ⟨rfl, hfull, hI8⟩ := hpx
    exact ct_out hnx hlk hw (⟨Or.inr (Or.inr ⟨rfl, hb_t1, hrg, hfull⟩), hI8⟩) hce hcv hcl (by omega) (by omega)
  obtain ⟨rfl, hTl, hI2⟩ := hp
  refine W.eq (g2 := F0 m 25 ls [.int (iI ((T.length : Int)))]) rfl ?_
  exact ct_iret hx hb hr  hlk hw (⟨rfl, hb_t1, hrg, hTl, hI2⟩) (by omega) (by omega) d_DK_part_25
set_option maxRecDepth 100000 in
set_option maxHeartbeats 4000000 in
theorem c_DK_at (l : Launch) (hlT : l.stackTraces = false) (G : ct_G) (f : dw_M) (sz : Nat) (x : Nat) (T Y : List (List Int)) (B Z : List Int) (hI : dkI G f x T Y B Z) (k i : Int) (hk : iR k) (hi : iR i) : ct l y_DK_at w_DK_at (43) (985) G f sz [.ref x, .int (iI k), .int (iI i)] (fun v f' => v = some (.int (iI (if i = -1 then ((tt T k).length : Int) else gt (tt T k) i))) ∧ (0 ≤ k ∧ k < (T.length : Int)) ∧ (-1 ≤ i ∧ i < ((tt T k).length : Int)) ∧ dkI G f' x T Y B Z) (fun E f' => (E = "java/lang/IllegalArgumentException" ∧ ¬ (0 ≤ k ∧ k < (T.length : Int)) ∨ E = "java/lang/IndexOutOfBoundsException" ∧ (0 ≤ k ∧ k < (T.length : Int)) ∧ ¬ (-1 ≤ i ∧ i < ((tt T k).length : Int))) ∧ dkI G f' x T Y B Z) (6) (152) := by
  refine ct_of (own := "TextDesk") (nm := "at") (ds := "(II)I") (by decide) (Nat.le_of_ble_eq_true rfl) ?_
  intro p e s m args below meth c ls X hnm hr hlk hnx hs0 hz hw hl
  have hx := X.1
  have hb := X.2.1
  have hl : lv_has ls 3 [(0, .ref x), (1, .int (iI k)), (2, .int (iI i))] := hl
  have hG := X.E.ok
  obtain ⟨ta, sa, yr, dc, bu, dr, qy, qb, qd, gT, gS, c0, w0, D, sB, sZ, sD, hS⟩ := hI
  refine lv_aload_n hx hb d_DK_at_0 rfl (lv_at hl 0 rfl) ?_
  refine lv_iload_n hx hb d_DK_at_1 rfl (lv_at hl 1 rfl) ?_
  refine cs_DK_64 X hz hw hl.1 hS.1 (c_DK_textNumbered l hlT G f _ (k) hk x ta sa yr dc bu dr qy qb qd gT gS c0 w0 T Y B Z D sB sZ sD hS) ⟨Nat.le_of_ble_eq_true rfl, Nat.le_of_ble_eq_true rfl⟩ ⟨by show 0 + 1 ≤ 6; omega, by show 0 + 6 ≤ 152; omega⟩ (Nat.le_of_ble_eq_true rfl) d_DK_at_2 (fun E ce q9 f8 H locs hpx hw _ _ _ hce hcv hcl => ?_) (fun v f9 H locs hp hw hsz9 hkp9 hdm9 => ?_)
  · obtain ⟨rfl, hno, hfe⟩ := hpx
    rw [hfe] at hw
    exact ct_out hnx hlk hw (⟨Or.inl ⟨rfl, hno⟩, hS.I⟩) hce hcv hcl (by omega) (by omega)
  obtain ⟨t1, rfl, hg_t1, hb_t1, hfe⟩ := hp
  rw [hfe] at hw
  have ht_t1 := hS.txt hb_t1.1 hb_t1.2 hg_t1
  have hl_t1 := ht_t1.len
  have hT_t1 := hS.2.2.2.2.1.1
  refine W.eq (g2 := F0 m 5 ls [.ref t1]) rfl ?_
  have hpt := pot_le f t1
  refine lv_iload_n hx hb d_DK_at_5 rfl (lv_at hl 2 rfl) ?_
  refine cs_DK_96 X hz hw hl.1 (c_DK_sizeOrItem l hlT G f _ t1 (tt T k) i hi ht_t1.rng (Or.inl ⟨_, by omega, ht_t1⟩)) ⟨Nat.le_of_ble_eq_true rfl, Nat.le_of_ble_eq_true rfl⟩ ⟨by show 0 + 1 + (4 * pot f t1 + 1) ≤ 6; omega, by show 0 + 6 + (140 * pot f t1 + 6) ≤ 152; omega⟩ (Nat.le_of_ble_eq_true rfl) d_DK_at_6 (fun E ce q9 f8 H locs hpx hw _ _ _ hce hcv hcl => ?_) (fun v f2 H locs hp hw hsz9 hkp9 hdm9 => ?_)
  · exact ct_out hnx hlk hw (⟨Or.inr ⟨hpx.1, hb_t1, hpx.2.1⟩, (hS.read hpx.2.2).I⟩) hce hcv hcl (by omega) (by omega)
  obtain ⟨rfl, hin, hx2⟩ := hp
  refine W.eq (g2 := F0 m 9 ls [.int (iI (if i = -1 then ((tt T k).length : Int) else gt (tt T k) i))]) rfl ?_
  exact ct_iret hx hb hr  hlk hw (⟨rfl, hb_t1, hin, (hS.read hx2).I⟩) (by omega) (by omega) d_DK_at_9
set_option maxRecDepth 100000 in
set_option maxHeartbeats 4000000 in
theorem c_DK_narrow (l : Launch) (hlT : l.stackTraces = false) (G : ct_G) (f : dw_M) (sz : Nat) (x : Nat) (T Y : List (List Int)) (B Z : List Int) (hI : dkI G f x T Y B Z) (k : Int) (hk : iR k) : ct l y_DK_narrow w_DK_narrow (9) (145) G f sz [.ref x, .int (iI k)] (fun v f' => v = some (.int (iI (nar (tt T k)))) ∧ (0 ≤ k ∧ k < (T.length : Int)) ∧ dkI G f' x T Y B Z) (fun E f' => E = "java/lang/IllegalArgumentException" ∧ ¬ (0 ≤ k ∧ k < (T.length : Int)) ∧ dkI G f' x T Y B Z) (1) (6) := by
  refine ct_of (own := "TextDesk") (nm := "narrow") (ds := "(I)Z") (by decide) (Nat.le_of_ble_eq_true rfl) ?_
  intro p e s m args below meth c ls X hnm hr hlk hnx hs0 hz hw hl
  have hx := X.1
  have hb := X.2.1
  have hl : lv_has ls 2 [(0, .ref x), (1, .int (iI k))] := hl
  have hG := X.E.ok
  obtain ⟨ta, sa, yr, dc, bu, dr, qy, qb, qd, gT, gS, c0, w0, D, sB, sZ, sD, hS⟩ := hI
  refine lv_aload_n hx hb d_DK_narrow_0 rfl (lv_at hl 0 rfl) ?_
  refine lv_iload_n hx hb d_DK_narrow_1 rfl (lv_at hl 1 rfl) ?_
  refine cs_DK_64 X hz hw hl.1 hS.1 (c_DK_textNumbered l hlT G f _ (k) hk x ta sa yr dc bu dr qy qb qd gT gS c0 w0 T Y B Z D sB sZ sD hS) ⟨Nat.le_of_ble_eq_true rfl, Nat.le_of_ble_eq_true rfl⟩ ⟨by show 0 + 1 ≤ 1; omega, by show 0 + 6 ≤ 6; omega⟩ (Nat.le_of_ble_eq_true rfl) d_DK_narrow_2 (fun E ce q9 f8 H locs hpx hw _ _ _ hce hcv hcl => ?_) (fun v f9 H locs hp hw hsz9 hkp9 hdm9 => ?_)
  · obtain ⟨rfl, hno, hfe⟩ := hpx
    rw [hfe] at hw
    exact ct_out hnx hlk hw (⟨rfl, hno, hS.I⟩) hce hcv hcl (by omega) (by omega)
  obtain ⟨t1, rfl, hg_t1, hb_t1, hfe⟩ := hp
  rw [hfe] at hw
  have ht_t1 := hS.txt hb_t1.1 hb_t1.2 hg_t1
  have hl_t1 := ht_t1.len
  have hT_t1 := hS.2.2.2.2.1.1
  refine W.eq (g2 := F0 m 5 ls [.ref t1]) rfl ?_
  refine st_DK_131 X hz hw hl.1 ht_t1 ⟨Nat.le_of_ble_eq_true rfl, Nat.le_of_ble_eq_true rfl⟩ ⟨by show 0 + 1 ≤ 1; omega, by show 0 + 6 ≤ 6; omega⟩ (Nat.le_of_ble_eq_true rfl) d_DK_narrow_5 (fun H locs hw => ?_)
  refine W.eq (g2 := F0 m 8 ls [.int (iI (nar (tt T k)))]) rfl ?_
  exact ct_zret hx hb hr (b01 (nar_01 _)) hlk hw (⟨rfl, hb_t1, hS.I⟩) (by omega) (by omega) d_DK_narrow_8
set_option maxRecDepth 100000 in
set_option maxHeartbeats 4000000 in
theorem c_DK_compare (l : Launch) (hlT : l.stackTraces = false) (G : ct_G) (f : dw_M) (sz : Nat) (x : Nat) (T Y : List (List Int)) (B Z : List Int) (hI : dkI G f x T Y B Z) (a b : Int) (ha : iR a) (hb0 : iR b) : ct l y_DK_compare w_DK_compare (43) (990) G f sz [.ref x, .int (iI a), .int (iI b)] (fun v f' => v = some (.int (iI (dif (tt T a) (tt T b)))) ∧ ((0 ≤ a ∧ a < (T.length : Int)) ∧ 0 ≤ b ∧ b < (T.length : Int)) ∧ dkI G f' x T Y B Z) (fun E f' => E = "java/lang/IllegalArgumentException" ∧ ¬ ((0 ≤ a ∧ a < (T.length : Int)) ∧ 0 ≤ b ∧ b < (T.length : Int)) ∧ dkI G f' x T Y B Z) (10) (292) := by
  refine ct_of (own := "TextDesk") (nm := "compare") (ds := "(II)I") (by decide) (Nat.le_of_ble_eq_true rfl) ?_
  intro p e s m args below meth c ls X hnm hr hlk hnx hs0 hz hw hl
  have hx := X.1
  have hb := X.2.1
  have hl : lv_has ls 3 [(0, .ref x), (1, .int (iI a)), (2, .int (iI b))] := hl
  have hG := X.E.ok
  obtain ⟨ta, sa, yr, dc, bu, dr, qy, qb, qd, gT, gS, c0, w0, D, sB, sZ, sD, hS⟩ := hI
  obtain ⟨ha1, ha2⟩ := ha
  obtain ⟨hb1, hb2⟩ := hb0
  refine lv_aload_n hx hb d_DK_compare_0 rfl (lv_at hl 0 rfl) ?_
  refine lv_iload_n hx hb d_DK_compare_1 rfl (lv_at hl 1 rfl) ?_
  refine cs_DK_64 X hz hw hl.1 hS.1 (c_DK_textNumbered l hlT G f _ (a) ⟨by omega, by omega⟩ x ta sa yr dc bu dr qy qb qd gT gS c0 w0 T Y B Z D sB sZ sD hS) ⟨Nat.le_of_ble_eq_true rfl, Nat.le_of_ble_eq_true rfl⟩ ⟨by show 0 + 1 ≤ 10; omega, by show 0 + 6 ≤ 292; omega⟩ (Nat.le_of_ble_eq_true rfl) d_DK_compare_2 (fun E ce q9 f8 H locs hpx hw _ _ _ hce hcv hcl => ?_) (fun v f9 H locs hp hw hsz9 hkp9 hdm9 => ?_)
  · obtain ⟨rfl, hno, hfe⟩ := hpx
    rw [hfe] at hw
    exact ct_out hnx hlk hw (⟨rfl, by omega, hS.I⟩) hce hcv hcl (by omega) (by omega)
  obtain ⟨t1, rfl, hg_t1, hb_t1, hfe⟩ := hp
  rw [hfe] at hw
  have ht_t1 := hS.txt hb_t1.1 hb_t1.2 hg_t1
  have hl_t1 := ht_t1.len
  have hT_t1 := hS.2.2.2.2.1.1
  refine W.eq (g2 := F0 m 5 ls [.ref t1]) rfl ?_
  refine lv_aload_n hx hb d_DK_compare_5 rfl (lv_at hl 0 rfl) ?_
  refine lv_iload_n hx hb d_DK_compare_6 rfl (lv_at hl 2 rfl) ?_
  refine cs_DK_64 X hz hw hl.1 hS.1 (c_DK_textNumbered l hlT G f _ (b) ⟨by omega, by omega⟩ x ta sa yr dc bu dr qy qb qd gT gS c0 w0 T Y B Z D sB sZ sD hS) ⟨Nat.le_of_ble_eq_true rfl, Nat.le_of_ble_eq_true rfl⟩ ⟨by show 0 + 1 + 1 ≤ 10; omega, by show 0 + 6 + 6 ≤ 292; omega⟩ (Nat.le_of_ble_eq_true rfl) d_DK_compare_7 (fun E ce q9 f8 H locs hpx hw _ _ _ hce hcv hcl => ?_) (fun v f9 H locs hp hw hsz9 hkp9 hdm9 => ?_)
  · obtain ⟨rfl, hno, hfe⟩ := hpx
    rw [hfe] at hw
    exact ct_out hnx hlk hw (⟨rfl, by omega, hS.I⟩) hce hcv hcl (by omega) (by omega)
  obtain ⟨t2, rfl, hg_t2, hb_t2, hfe⟩ := hp
  rw [hfe] at hw
  have ht_t2 := hS.txt hb_t2.1 hb_t2.2 hg_t2
  have hl_t2 := ht_t2.len
  have hT_t2 := hS.2.2.2.2.1.1
  refine W.eq (g2 := F0 m 10 ls [.ref t2, .ref t1]) rfl ?_
  have hpt1 := pot_le f t1
  have hpt2 := pot_le f t2
  refine cs_DK_134 X hz hw hl.1 (c_DK_difference l G f _ a.toNat b.toNat t1 t2 (tt T a) (tt T b) (by omega) (by omega) ht_t1 ht_t2) ⟨Nat.le_of_ble_eq_true rfl, Nat.le_of_ble_eq_true rfl⟩ ⟨by show 0 + 1 + 1 + (4 * pot f t1 + 4 * pot f t2) ≤ 10; omega, by show 0 + 6 + 6 + (140 * pot f t1 + 140 * pot f t2) ≤ 292; omega⟩ (Nat.le_of_ble_eq_true rfl) d_DK_compare_10 (fun v f2 H locs hp hw hsz9 hkp9 hdm9 => ?_)
  obtain ⟨rfl, hx2⟩ := hp
  refine W.eq (g2 := F0 m 13 ls [.int (iI (dif (tt T a) (tt T b)))]) rfl ?_
  exact ct_iret hx hb hr  hlk hw (⟨rfl, by omega, (hS.read hx2).I⟩) (by omega) (by omega) d_DK_compare_13
