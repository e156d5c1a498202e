set_option maxRecDepth 100000 in
set_option maxHeartbeats 4000000 in
theorem c_DK_strip (l : Launch) (hlT : l.stackTraces = false) (G : ct_G) (f : dw_M) (sz : Nat) (x : Nat) (T Y : List (List Int)) (B Z : List Int) (hI : dkI G f x T Y B Z) (k : Int) (hk : iR k) : ct l y_DK_strip w_DK_strip (44) (1015) G f sz [.ref x, .int (iI k)] (fun v f' => v = some (.int (iI (T.length : Int))) ∧ (0 ≤ k ∧ k < (T.length : Int)) ∧ T.length < 24 ∧ ∃ R, stp (tt T k) R ∧ dkI G f' x (T ++ [R]) Y B Z) (fun E f' => (E = "java/lang/IllegalArgumentException" ∧ ¬ (0 ≤ k ∧ k < (T.length : Int)) ∨ E = "java/lang/IllegalStateException" ∧ (0 ≤ k ∧ k < (T.length : Int)) ∧ T.length = 24) ∧ dkI G f' x T Y B Z) (8) (215) := by
  refine ct_of (own := "TextDesk") (nm := "strip") (ds := "(I)I") (by decide) (Nat.le_of_ble_eq_true rfl) ?_
  intro p e s m args below meth c ls X hnm hr hlk hnx hs0 hz hw hl
  have hx := X.1
  have hb := X.2.1
  have hl : lv_has ls 5 [(0, .ref x), (1, .int (iI k))] := hl
  have hG := X.E.ok
  obtain ⟨ta, sa, yr, dc, bu, dr, qy, qb, qd, gT, gS, c0, w0, D, sB, sZ, sD, hS⟩ := hI
  refine lv_aload_n hx hb d_DK_strip_0 rfl (lv_at hl 0 rfl) ?_
  refine lv_iload_n hx hb d_DK_strip_1 rfl (lv_at hl 1 rfl) ?_
  refine cs_DK_64 X hz hw hl.1 hS.1 (c_DK_textNumbered l hlT G f _ (k) hk x ta sa yr dc bu dr qy qb qd gT gS c0 w0 T Y B Z D sB sZ sD hS) ⟨Nat.le_of_ble_eq_true rfl, Nat.le_of_ble_eq_true rfl⟩ ⟨by show 0 + 1 ≤ 8; omega, by show 0 + 6 ≤ 215; omega⟩ (Nat.le_of_ble_eq_true rfl) d_DK_strip_2 (fun E ce q9 f8 H locs hpx hw _ _ _ hce hcv hcl => ?_) (fun v f9 H locs hp hw hsz9 hkp9 hdm9 => ?_)
  · obtain ⟨rfl, hno, hfe⟩ := hpx
    rw [hfe] at hw
    exact ct_out hnx hlk hw (⟨Or.inl ⟨rfl, hno⟩, hS.I⟩) hce hcv hcl (by omega) (by omega)
  obtain ⟨t1, rfl, hg_t1, hb_t1, hfe⟩ := hp
  rw [hfe] at hw
  have ht_t1 := hS.txt hb_t1.1 hb_t1.2 hg_t1
  have hl_t1 := ht_t1.len
  have hT_t1 := hS.2.2.2.2.1.1
  refine W.eq (g2 := F0 m 5 ls [.ref t1]) rfl ?_
  have hpt := pot_le f t1
  refine lv_astore_n (lv' := [(2, .ref t1), (0, .ref x), (1, .int (iI k))]) hx hb d_DK_strip_5 rfl hl (by decide) rfl (fun ls hl => ?_)
  refine lv_iconst (v := iI (0)) hx hb d_DK_strip_6 rfl ?_
  refine lv_istore_n (lv' := [(3, .int (iI 0)), (2, .ref t1), (0, .ref x), (1, .int (iI k))]) hx hb d_DK_strip_7 rfl hl (by decide) rfl (fun ls hl => ?_)
  have fin63 : ∀ (fr : Int) (to : Int) (ce : Nat) (sl : Nat) (f1 : dw_M) (H : Heap) (locs : List Loc) (ls : Array Slot), 0 ≤ fr → fr ≤ ((tt T k).length : Int) → fr ≤ to → to ≤ ((tt T k).length : Int) → (∀ j : Int, 0 ≤ j → j < fr → gt (tt T k) j ≤ 32) → (∀ j : Int, to ≤ j → j < ((tt T k).length : Int) → gt (tt T k) j ≤ 32) → (fr < to ∧ 32 < gt (tt T k) fr ∧ 32 < gt (tt T k) (to - 1) ∨ to ≤ fr) → exo G no1 f f1 → tx G k.toNat f1 t1 (tt T k) → ce + 4 * pot f1 t1 ≤ 5 → sl + 140 * pot f1 t1 ≤ 146 → dw G.1 dk_cl (dw_A f sz) s.heap f1 H locs → lv_has ls 5 [(0, .ref x), (2, .ref t1), (3, .int (iI fr)), (4, .int (iI to))] → W p l e { frames := 44, locals := 1015, cells := 8, slots := 215 } s m args below meth c H locs (ce) (sl) (vx_MQ below (ct_Q G f sz (fun v f' => v = some (.int (iI (T.length : Int))) ∧ (0 ≤ k ∧ k < (T.length : Int)) ∧ T.length < 24 ∧ ∃ R, stp (tt T k) R ∧ dkI G f' x (T ++ [R]) Y B Z)) (ct_X G f sz (fun E f' => (E = "java/lang/IllegalArgumentException" ∧ ¬ (0 ≤ k ∧ k < (T.length : Int)) ∨ E = "java/lang/IllegalStateException" ∧ (0 ≤ k ∧ k < (T.length : Int)) ∧ T.length = 24) ∧ dkI G f' x T Y B Z)) args s (8) (215) (dw_A f sz)) (F0 m 63 ls []) := by
    intro fr to ce sl f1 H locs ls hfr0 hfr1 hto0 hto1 hlow hup hbo hx1 ht1 hce hsl hw hl
    refine lv_aload_n hx hb d_DK_strip_63 rfl (lv_at hl 0 rfl) ?_
    refine lv_aload_n hx hb d_DK_strip_64 rfl (lv_at hl 1 rfl) ?_
    refine lv_iload_n hx hb d_DK_strip_65 rfl (lv_at hl 2 rfl) ?_
    refine lv_iload hx hb d_DK_strip_66 (lv_at hl 3 rfl) ?_
    have hS1 := hS.read hx1
    refine cs_DK_114 X hz hw hl.1 hS1.1 (c_DK_keepRange l hlT G f1 _ x T Y B Z hS1.I t1 k.toNat (tt T k) fr to ⟨by omega, by omega⟩ ⟨by omega, by omega⟩ (by omega) ht1) ⟨Nat.le_of_ble_eq_true rfl, Nat.le_of_ble_eq_true rfl⟩ ⟨by show ce + (4 * pot f1 t1 + 3) ≤ 8; omega, by show sl + (140 * pot f1 t1 + 69) ≤ 215; omega⟩ (Nat.le_of_ble_eq_true rfl) d_DK_strip_68 (fun E ce q9 f8 H locs hpx hw _ _ _ hce hcv hcl => ?_) (fun v f2 H locs hp hw hsz9 hkp9 hdm9 => ?_)
    · obtain ⟨rfl, hfull, hI8⟩ := hpx
      exact ct_out hnx hlk hw (⟨Or.inr ⟨rfl, hb_t1, hfull⟩, hI8⟩) hce hcv hcl (by omega) (by omega)
    obtain ⟨rfl, hTl, hI2⟩ := hp
    refine W.eq (g2 := F0 m 71 ls [.int (iI ((T.length : Int)))]) rfl ?_
    exact ct_iret hx hb hr  hlk hw (⟨rfl, hb_t1, hTl, _, ⟨fr, to, by omega, rfl, hlow, hup, hbo⟩, hI2⟩) (by omega) (by omega) d_DK_strip_71
  have fin32 : ∀ (fr : Int) (ce : Nat) (sl : Nat) (f1 : dw_M) (H : Heap) (locs : List Loc) (ls : Array Slot), 0 ≤ fr → fr ≤ ((tt T k).length : Int) → (∀ j : Int, 0 ≤ j → j < fr → gt (tt T k) j ≤ 32) → (fr = ((tt T k).length : Int) ∨ 32 < gt (tt T k) fr) → exo G no1 f f1 → tx G k.toNat f1 t1 (tt T k) → ce + 4 * pot f1 t1 ≤ 5 → sl + 140 * pot f1 t1 ≤ 146 → dw G.1 dk_cl (dw_A f sz) s.heap f1 H locs → lv_has ls 5 [(0, .ref x), (2, .ref t1), (3, .int (iI fr))] → W p l e { frames := 44, locals := 1015, cells := 8, slots := 215 } s m args below meth c H locs (ce) (sl) (vx_MQ below (ct_Q G f sz (fun v f' => v = some (.int (iI (T.length : Int))) ∧ (0 ≤ k ∧ k < (T.length : Int)) ∧ T.length < 24 ∧ ∃ R, stp (tt T k) R ∧ dkI G f' x (T ++ [R]) Y B Z)) (ct_X G f sz (fun E f' => (E = "java/lang/IllegalArgumentException" ∧ ¬ (0 ≤ k ∧ k < (T.length : Int)) ∨ E = "java/lang/IllegalStateException" ∧ (0 ≤ k ∧ k < (T.length : Int)) ∧ T.length = 24) ∧ dkI G f' x T Y B Z)) args s (8) (215) (dw_A f sz)) (F0 m 32 ls []) := by
    intro fr ce sl f1 H locs ls hfr0 hfr1 hlow hat hx1 ht1 hce hsl hw hl
    refine lv_aload_n hx hb d_DK_strip_32 rfl (lv_at hl 1 rfl) ?_
    refine st_DK_77 X hz hw hl.1 ht1 ⟨Nat.le_of_ble_eq_true rfl, Nat.le_of_ble_eq_true rfl⟩ ⟨by show ce ≤ 8; omega, by show sl ≤ 215; omega⟩ (Nat.le_of_ble_eq_true rfl) d_DK_strip_33 (fun H locs hw => ?_)
    refine W.eq (g2 := F0 m 36 ls [.int (iI (((tt T k).length : Int)))]) rfl ?_
    refine lv_istore (lv' := [(4, .int (iI (((tt T k).length : Int)))), (0, .ref x), (2, .ref t1), (3, .int (iI fr))]) hx hb d_DK_strip_36 hl (by decide) rfl (fun ls hl => ?_)
    have loop2 : ∀ (N : Nat) (to : Int) (ce : Nat) (sl : Nat) (f1 : dw_M) (H : Heap) (locs : List Loc) (ls : Array Slot), (to + 1).toNat < N → fr ≤ to → to ≤ ((tt T k).length : Int) → (∀ j : Int, to ≤ j → j < ((tt T k).length : Int) → gt (tt T k) j ≤ 32) → exo G no1 f f1 → tx G k.toNat f1 t1 (tt T k) → ce + 4 * pot f1 t1 ≤ 5 → sl + 140 * pot f1 t1 ≤ 146 → dw G.1 dk_cl (dw_A f sz) s.heap f1 H locs → lv_has ls 5 [(4, .int (iI to)), (0, .ref x), (2, .ref t1), (3, .int (iI fr))] → W p l e { frames := 44, locals := 1015, cells := 8, slots := 215 } s m args below meth c H locs (ce) (sl) (vx_MQ below (ct_Q G f sz (fun v f' => v = some (.int (iI (T.length : Int))) ∧ (0 ≤ k ∧ k < (T.length : Int)) ∧ T.length < 24 ∧ ∃ R, stp (tt T k) R ∧ dkI G f' x (T ++ [R]) Y B Z)) (ct_X G f sz (fun E f' => (E = "java/lang/IllegalArgumentException" ∧ ¬ (0 ≤ k ∧ k < (T.length : Int)) ∨ E = "java/lang/IllegalStateException" ∧ (0 ≤ k ∧ k < (T.length : Int)) ∧ T.length = 24) ∧ dkI G f' x T Y B Z)) args s (8) (215) (dw_A f sz)) (F0 m 38 ls []) := by
      intro N
      induction N with
      | zero => intros; omega
      | succ N ih =>
        intro to ce sl f1 H locs ls hN hto0 hto1 hup hx1 ht1 hce hsl hw hl
        refine lv_iload hx hb d_DK_strip_38 (lv_at hl 0 rfl) ?_
        refine lv_iload_n hx hb d_DK_strip_40 rfl (lv_at hl 3 rfl) ?_
        refine di_icmp_le (tgt := 63) hx hb d_DK_strip_41 (by decide) ⟨by omega, by omega⟩ ⟨by omega, by omega⟩ (fun bq41 => ?_) (fun bq41 => ?_)
        · exact fin63 (fr) (to) (ce) (sl) _ _ _ _ (by omega) (by omega) (by omega) (by omega) (hlow) (hup) (Or.inr (by omega)) (hx1) (ht1) (hce) (hsl) hw (lv_sub hl [1, 2, 3, 0] rfl)
        · refine lv_aload_n hx hb d_DK_strip_44 rfl (lv_at hl 2 rfl) ?_
          refine lv_iload hx hb d_DK_strip_45 (lv_at hl 0 rfl) ?_
          refine lv_iconst (v := iI (1)) hx hb d_DK_strip_47 rfl ?_
          refine di_sub hx hb d_DK_strip_48 ?_
          refine sg_DK_122 X hz hw hl.1 (by omega : k.toNat ≤ 24) ht1 ⟨by omega, by omega⟩ ⟨Nat.le_of_ble_eq_true rfl, Nat.le_of_ble_eq_true rfl⟩ ⟨by show ce + 4 * pot f1 t1 ≤ 8; omega, by show sl + 140 * pot f1 t1 ≤ 215; omega⟩ (Nat.le_of_ble_eq_true rfl) d_DK_strip_49 (fun f2 H locs hx_f2 hp_f2 hw => ?_)
          refine W.eq (g2 := F0 m 52 ls [.int (iI (gt (tt T k) (to - 1)))]) rfl ?_
          have hr1 := gt_rng ht1.rng (to - 1)
          refine lv_bipush (v := iI (32)) hx hb d_DK_strip_52 rfl ?_
          refine di_icmp_gt (tgt := 63) hx hb d_DK_strip_54 (by decide) ⟨by omega, by omega⟩ ⟨by omega, by omega⟩ (fun bq54 => ?_) (fun bq54 => ?_)
          · exact fin63 (fr) (to) (ce + 4 * pot f1 t1) (sl + 140 * pot f1 t1) _ _ _ _ (by omega) (by omega) (by omega) (by omega) (hlow) (hup) (Or.inl ⟨by omega, by rcases hat with q | q; omega; exact q, by omega⟩) (hx1.tr hx_f2) (hx_f2.2.1 _ _ _ ht1) (by omega) (by omega) hw (lv_sub hl [1, 2, 3, 0] rfl)
          · refine lv_iinc (v := iI (to + (-1))) (lv' := [(4, .int (iI (to + (-1)))), (0, .ref x), (2, .ref t1), (3, .int (iI fr))]) hx hb d_DK_strip_57 hl (k := 0) rfl (iI_add _ _) (by decide) rfl (fun ls hl => ?_)
            refine lv_goto (tgt := 38) hx hb d_DK_strip_60 (by decide) ?_
            exact ih (to + (-1)) (ce + 4 * pot f1 t1) (sl + 140 * pot f1 t1) _ _ _ _ (by omega) (by omega) (by omega) (fun j h1 h2 => by
              by_cases e : j = to - 1
              · rw [e]; omega
              · exact hup j (by omega) h2) (hx1.tr hx_f2) (hx_f2.2.1 _ _ _ ht1) (by omega) (by omega) hw (lv_sub hl [0, 1, 2, 3] rfl)
    exact loop2 ((((tt T k).length : Int) + 1).toNat + 1) (((tt T k).length : Int)) (ce) (sl) _ _ _ _ (by omega) (by omega) (by omega) (fun j h1 h2 => by omega) (hx1) (ht1) (hce) (hsl) hw (lv_sub hl [0, 1, 2, 3] rfl)
  have loop1 : ∀ (N : Nat) (fr : Int) (ce : Nat) (sl : Nat) (f1 : dw_M) (H : Heap) (locs : List Loc) (ls : Array Slot), (((tt T k).length : Int) - fr).toNat < N → 0 ≤ fr → fr ≤ ((tt T k).length : Int) → (∀ j : Int, 0 ≤ j → j < fr → gt (tt T k) j ≤ 32) → exo G no1 f f1 → tx G k.toNat f1 t1 (tt T k) → ce + 4 * pot f1 t1 ≤ 5 → sl + 140 * pot f1 t1 ≤ 146 → dw G.1 dk_cl (dw_A f sz) s.heap f1 H locs → lv_has ls 5 [(3, .int (iI fr)), (0, .ref x), (2, .ref t1)] → W p l e { frames := 44, locals := 1015, cells := 8, slots := 215 } s m args below meth c H locs (ce) (sl) (vx_MQ below (ct_Q G f sz (fun v f' => v = some (.int (iI (T.length : Int))) ∧ (0 ≤ k ∧ k < (T.length : Int)) ∧ T.length < 24 ∧ ∃ R, stp (tt T k) R ∧ dkI G f' x (T ++ [R]) Y B Z)) (ct_X G f sz (fun E f' => (E = "java/lang/IllegalArgumentException" ∧ ¬ (0 ≤ k ∧ k < (T.length : Int)) ∨ E = "java/lang/IllegalStateException" ∧ (0 ≤ k ∧ k < (T.length : Int)) ∧ T.length = 24) ∧ dkI G f' x T Y B Z)) args s (8) (215) (dw_A f sz)) (F0 m 8 ls []) := by
    intro N
    induction N with
    | zero => intros; omega
    | succ N ih =>
      intro fr ce sl f1 H locs ls hN hfr0 hfr1 hlow hx1 ht1 hce hsl hw hl
      refine lv_iload_n hx hb d_DK_strip_8 rfl (lv_at hl 0 rfl) ?_
      refine lv_aload_n hx hb d_DK_strip_9 rfl (lv_at hl 2 rfl) ?_
      refine st_DK_77 X hz hw hl.1 ht1 ⟨Nat.le_of_ble_eq_true rfl, Nat.le_of_ble_eq_true rfl⟩ ⟨by show ce ≤ 8; omega, by show sl ≤ 215; omega⟩ (Nat.le_of_ble_eq_true rfl) d_DK_strip_10 (fun H locs hw => ?_)
      refine W.eq (g2 := F0 m 13 ls [.int (iI (((tt T k).length : Int))), .int (iI fr)]) rfl ?_
      refine di_icmp_ge (tgt := 32) hx hb d_DK_strip_13 (by decide) ⟨by omega, by omega⟩ ⟨by omega, by omega⟩ (fun bq13 => ?_) (fun bq13 => ?_)
      · exact fin32 (fr) (ce) (sl) _ _ _ _ (by omega) (by omega) (hlow) (Or.inl (by omega)) (hx1) (ht1) (hce) (hsl) hw (lv_sub hl [1, 2, 0] rfl)
      · refine lv_aload_n hx hb d_DK_strip_16 rfl (lv_at hl 2 rfl) ?_
        refine lv_iload_n hx hb d_DK_strip_17 rfl (lv_at hl 0 rfl) ?_
        refine sg_DK_122 X hz hw hl.1 (by omega : k.toNat ≤ 24) ht1 ⟨by omega, by omega⟩ ⟨Nat.le_of_ble_eq_true rfl, Nat.le_of_ble_eq_true rfl⟩ ⟨by show ce + 4 * pot f1 t1 ≤ 8; omega, by show sl + 140 * pot f1 t1 ≤ 215; omega⟩ (Nat.le_of_ble_eq_true rfl) d_DK_strip_18 (fun f2 H locs hx_f2 hp_f2 hw => ?_)
        refine W.eq (g2 := F0 m 21 ls [.int (iI (gt (tt T k) fr))]) rfl ?_
        have hr1 := gt_rng ht1.rng fr
        refine lv_bipush (v := iI (32)) hx hb d_DK_strip_21 rfl ?_
        refine di_icmp_gt (tgt := 32) hx hb d_DK_strip_23 (by decide) ⟨by omega, by omega⟩ ⟨by omega, by omega⟩ (fun bq23 => ?_) (fun bq23 => ?_)
        · exact fin32 (fr) (ce + 4 * pot f1 t1) (sl + 140 * pot f1 t1) _ _ _ _ (by omega) (by omega) (hlow) (Or.inr (by omega)) (hx1.tr hx_f2) (hx_f2.2.1 _ _ _ ht1) (by omega) (by omega) hw (lv_sub hl [1, 2, 0] rfl)
        · refine lv_iinc (v := iI (fr + 1)) (lv' := [(3, .int (iI (fr + 1))), (0, .ref x), (2, .ref t1)]) hx hb d_DK_strip_26 hl (k := 0) rfl (iI_add _ _) (by decide) rfl (fun ls hl => ?_)
          refine lv_goto (tgt := 8) hx hb d_DK_strip_29 (by decide) ?_
          exact ih (fr + 1) (ce + 4 * pot f1 t1) (sl + 140 * pot f1 t1) _ _ _ _ (by omega) (by omega) (by omega) (fun j h1 h2 => by
            by_cases e : j = fr
            · rw [e]; omega
            · exact hlow j h1 (by omega)) (hx1.tr hx_f2) (hx_f2.2.1 _ _ _ ht1) (by omega) (by omega) hw (lv_sub hl [0, 1, 2] rfl)
  exact loop1 ((((tt T k).length : Int) - 0).toNat + 1) (0) (1) (6) _ _ _ _ (by omega) (by omega) (by omega) (fun j h1 h2 => by omega) (exo.rf) (ht_t1) (by omega) (by omega) hw (lv_sub hl [0, 2, 1] rfl)
set_option maxRecDepth 100000 in
set_option maxHeartbeats 4000000 in
theorem c_DK_character (l : Launch) (hlT : l.stackTraces = false) (G : ct_G) (f : dw_M) (sz : Nat) (x : Nat) (T Y : List (List Int)) (B Z : List Int) (hI : dkI G f x T Y B Z) (k i : Int) (hk : iR k) (hi : iR i) : ct l y_DK_character w_DK_character (44) (1015) G f sz [.ref x, .int (iI k), .int (iI i)] (fun v f' => v = some (.int (iI (if i = -1 then ((chs (tt T k)).length : Int) else gt (chs (tt T k)) i))) ∧ (0 ≤ k ∧ k < (T.length : Int)) ∧ (-1 ≤ i ∧ i < ((chs (tt T k)).length : Int)) ∧ dkI G f' x T Y B Z) (fun E f' => (E = "java/lang/IllegalArgumentException" ∧ ¬ (0 ≤ k ∧ k < (T.length : Int)) ∨ E = "java/lang/IndexOutOfBoundsException" ∧ (0 ≤ k ∧ k < (T.length : Int)) ∧ ¬ (-1 ≤ i ∧ i < ((chs (tt T k)).length : Int))) ∧ dkI G f' x T Y B Z) (6) (152) := by
  refine ct_of (own := "TextDesk") (nm := "character") (ds := "(II)I") (by decide) (Nat.le_of_ble_eq_true rfl) ?_
  intro p e s m args below meth c ls X hnm hr hlk hnx hs0 hz hw hl
  have hx := X.1
  have hb := X.2.1
  have hl : lv_has ls 7 [(0, .ref x), (1, .int (iI k)), (2, .int (iI i))] := hl
  have hG := X.E.ok
  obtain ⟨ta, sa, yr, dc, bu, dr, qy, qb, qd, gT, gS, c0, w0, D, sB, sZ, sD, hS⟩ := hI
  obtain ⟨hi1, hi2⟩ := hi
  refine lv_aload_n hx hb d_DK_character_0 rfl (lv_at hl 0 rfl) ?_
  refine lv_iload_n hx hb d_DK_character_1 rfl (lv_at hl 1 rfl) ?_
  refine cs_DK_64 X hz hw hl.1 hS.1 (c_DK_textNumbered l hlT G f _ (k) hk x ta sa yr dc bu dr qy qb qd gT gS c0 w0 T Y B Z D sB sZ sD hS) ⟨Nat.le_of_ble_eq_true rfl, Nat.le_of_ble_eq_true rfl⟩ ⟨by show 0 + 1 ≤ 6; omega, by show 0 + 6 ≤ 152; omega⟩ (Nat.le_of_ble_eq_true rfl) d_DK_character_2 (fun E ce q9 f8 H locs hpx hw _ _ _ hce hcv hcl => ?_) (fun v f9 H locs hp hw hsz9 hkp9 hdm9 => ?_)
  · obtain ⟨rfl, hno, hfe⟩ := hpx
    rw [hfe] at hw
    exact ct_out hnx hlk hw (⟨Or.inl ⟨rfl, hno⟩, hS.I⟩) hce hcv hcl (by omega) (by omega)
  obtain ⟨t1, rfl, hg_t1, hb_t1, hfe⟩ := hp
  rw [hfe] at hw
  have ht_t1 := hS.txt hb_t1.1 hb_t1.2 hg_t1
  have hl_t1 := ht_t1.len
  have hT_t1 := hS.2.2.2.2.1.1
  refine W.eq (g2 := F0 m 5 ls [.ref t1]) rfl ?_
  have hpt := pot_le f t1
  refine lv_astore_n (lv' := [(3, .ref t1), (0, .ref x), (1, .int (iI k)), (2, .int (iI i))]) hx hb d_DK_character_5 rfl hl (by decide) rfl (fun ls hl => ?_)
  refine lv_iconst (v := iI (0)) hx hb d_DK_character_6 rfl ?_
  refine lv_istore (lv' := [(4, .int (iI 0)), (3, .ref t1), (0, .ref x), (1, .int (iI k)), (2, .int (iI i))]) hx hb d_DK_character_7 hl (by decide) rfl (fun ls hl => ?_)
  refine lv_iconst (v := iI (0)) hx hb d_DK_character_9 rfl ?_
  refine lv_istore (lv' := [(5, .int (iI 0)), (4, .int (iI 0)), (3, .ref t1), (0, .ref x), (1, .int (iI k)), (2, .int (iI i))]) hx hb d_DK_character_10 hl (by decide) rfl (fun ls hl => ?_)
  have loop : ∀ (N : Nat) (pl : Int) (n : Int) (acc : List Int) (fu : Nat) (ce : Nat) (sl : Nat) (f1 : dw_M) (H : Heap) (locs : List Loc) (ls : Array Slot), (((tt T k).length : Int) + 2 - pl).toNat < N → 0 ≤ pl → ((tt T k).length : Int) - pl < (fu : Int) + 1 → chs (tt T k) = acc ++ chl (tt T k) (fu + 1) pl → (acc.length : Int) = n → pl ≤ ((tt T k).length : Int) + 1 → n ≤ pl → ¬ (0 ≤ i ∧ i < n) → exo G no1 f f1 → tx G k.toNat f1 t1 (tt T k) → ce + 4 * pot f1 t1 ≤ 5 → sl + 140 * pot f1 t1 ≤ 146 → dw G.1 dk_cl (dw_A f sz) s.heap f1 H locs → lv_has ls 7 [(5, .int (iI pl)), (4, .int (iI n)), (0, .ref x), (2, .int (iI i)), (3, .ref t1)] → W p l e { frames := 44, locals := 1015, cells := 6, slots := 152 } s m args below meth c H locs (ce) (sl) (vx_MQ below (ct_Q G f sz (fun v f' => v = some (.int (iI (if i = -1 then ((chs (tt T k)).length : Int) else gt (chs (tt T k)) i))) ∧ (0 ≤ k ∧ k < (T.length : Int)) ∧ (-1 ≤ i ∧ i < ((chs (tt T k)).length : Int)) ∧ dkI G f' x T Y B Z)) (ct_X G f sz (fun E f' => (E = "java/lang/IllegalArgumentException" ∧ ¬ (0 ≤ k ∧ k < (T.length : Int)) ∨ E = "java/lang/IndexOutOfBoundsException" ∧ (0 ≤ k ∧ k < (T.length : Int)) ∧ ¬ (-1 ≤ i ∧ i < ((chs (tt T k)).length : Int))) ∧ dkI G f' x T Y B Z)) args s (6) (152) (dw_A f sz)) (F0 m 12 ls []) := by
    intro N
    induction N with
    | zero => intros; omega
    | succ N ih =>
      intro pl n acc fu ce sl f1 H locs ls hN hp0 hfu hspl hlen1 hpl hnb hni hx1 ht1 hce hsl hw hl
      refine lv_iload hx hb d_DK_character_12 (lv_at hl 0 rfl) ?_
      refine lv_aload_n hx hb d_DK_character_14 rfl (lv_at hl 4 rfl) ?_
      refine st_DK_77 X hz hw hl.1 ht1 ⟨Nat.le_of_ble_eq_true rfl, Nat.le_of_ble_eq_true rfl⟩ ⟨by show ce ≤ 6; omega, by show sl ≤ 152; omega⟩ (Nat.le_of_ble_eq_true rfl) d_DK_character_15 (fun H locs hw => ?_)
      refine W.eq (g2 := F0 m 18 ls [.int (iI (((tt T k).length : Int))), .int (iI pl)]) rfl ?_
      refine di_icmp_ge (tgt := 57) hx hb d_DK_character_18 (by decide) ⟨by omega, by omega⟩ ⟨by omega, by omega⟩ (fun bq18 => ?_) (fun bq18 => ?_)
      · have hnil : chl (tt T k) (fu + 1) pl = [] := by rw [chl, if_pos (by omega)]
        have hcnt : ((chs (tt T k)).length : Int) = n := by rw [hspl, hnil, List.append_nil]; exact hlen1
        refine lv_iload_n hx hb d_DK_character_57 rfl (lv_at hl 3 rfl) ?_
        refine lv_iconst (v := iI (-1)) hx hb d_DK_character_58 rfl ?_
        refine di_icmp_eq (tgt := 72) hx hb d_DK_character_59 (by decide) ⟨by omega, by omega⟩ ⟨by omega, by omega⟩ (fun bq59 => ?_) (fun bq59 => ?_)
        · refine lv_iload hx hb d_DK_character_72 (lv_at hl 1 rfl) ?_
          exact ct_iret hx hb hr  hlk hw (⟨by rw [if_pos bq59, hcnt], hb_t1, by omega, (hS.read hx1).I⟩) (by omega) (by omega) d_DK_character_74
        · exact th_IOB X hlT hz (is := 128) (text := "no such character") (by decide +kernel) hw hl.1 hnx hlk (⟨Or.inr ⟨rfl, hb_t1, by omega⟩, (hS.read hx1).I⟩) ⟨by show 8 ≤ 44; omega, by show 120 ≤ 1015; omega⟩ ⟨by show ce + 1 ≤ 6; omega, by show sl + 6 ≤ 152; omega⟩ ⟨by show ce + 1 ≤ 6; omega, by show sl + 6 ≤ 152; omega⟩ (Nat.le_of_ble_eq_true rfl) d_DK_character_62 d_DK_character_65 d_DK_character_66 d_DK_character_68 d_DK_character_71
      · have hstep : chl (tt T k) (fu + 1) pl = chr (tt T k) pl :: chl (tt T k) fu (if 65536 ≤ chr (tt T k) pl then pl + 2 else pl + 1) := by rw [chl, if_neg (by omega)]
        have hcr := chr_rng ht1.rng pl
        refine lv_aload_n hx hb d_DK_character_21 rfl (lv_at hl 4 rfl) ?_
        refine lv_iload hx hb d_DK_character_22 (lv_at hl 0 rfl) ?_
        refine cs_DK_123 X hz hw hl.1 (c_DK_characterAt l G f1 _ t1 (tt T k) pl ⟨by omega, by omega⟩ ht1.rng (Or.inl ⟨_, by omega, ht1⟩)) ⟨Nat.le_of_ble_eq_true rfl, Nat.le_of_ble_eq_true rfl⟩ ⟨by show ce + 4 * pot f1 t1 ≤ 6; omega, by show sl + 140 * pot f1 t1 ≤ 152; omega⟩ (Nat.le_of_ble_eq_true rfl) d_DK_character_24 (fun v f2 H locs hp hw hsz9 hkp9 hdm9 => ?_)
        obtain ⟨rfl, hx_f2, hp_f2⟩ := hp
        refine W.eq (g2 := F0 m 27 ls [.int (iI (chr (tt T k) pl))]) rfl ?_
        refine lv_istore (lv' := [(6, .int (iI (chr (tt T k) pl))), (5, .int (iI pl)), (4, .int (iI n)), (0, .ref x), (2, .int (iI i)), (3, .ref t1)]) hx hb d_DK_character_27 hl (by decide) rfl (fun ls hl => ?_)
        refine lv_iload hx hb d_DK_character_29 (lv_at hl 2 rfl) ?_
        refine lv_iload_n hx hb d_DK_character_31 rfl (lv_at hl 4 rfl) ?_
        refine di_icmp_ne (tgt := 38) hx hb d_DK_character_32 (by decide) ⟨by omega, by omega⟩ ⟨by omega, by omega⟩ (fun bq32 => ?_) (fun bq32 => ?_)
        · refine lv_iinc (v := iI (n + 1)) (lv' := [(4, .int (iI (n + 1))), (6, .int (iI (chr (tt T k) pl))), (5, .int (iI pl)), (0, .ref x), (2, .int (iI i)), (3, .ref t1)]) hx hb d_DK_character_38 hl (k := 2) rfl (iI_add _ _) (by decide) rfl (fun ls hl => ?_)
          refine lv_iload hx hb d_DK_character_41 (lv_at hl 1 rfl) ?_
          refine lv_ldc (v := iI (65536)) hx hb X.own (X.hts _ mw_133) d_DK_character_43 ?_
          refine di_icmp_lt (tgt := 51) hx hb d_DK_character_45 (by decide) ⟨by omega, by omega⟩ ⟨by omega, by omega⟩ (fun bq45 => ?_) (fun bq45 => ?_)
          · refine lv_iinc (v := iI (pl + 1)) (lv' := [(5, .int (iI (pl + 1))), (4, .int (iI (n + 1))), (6, .int (iI (chr (tt T k) pl))), (0, .ref x), (2, .int (iI i)), (3, .ref t1)]) hx hb d_DK_character_51 hl (k := 2) rfl (iI_add _ _) (by decide) rfl (fun ls hl => ?_)
            refine lv_goto (tgt := 12) hx hb d_DK_character_54 (by decide) ?_
            have hspl2 : chs (tt T k) = (acc ++ [chr (tt T k) pl]) ++ chl (tt T k) fu (pl + 1) := by rw [hspl, hstep, if_neg (by omega), List.append_assoc]; rfl
            obtain ⟨fu2, rfl⟩ : ∃ z, fu = z + 1 := ⟨fu - 1, by omega⟩
            exact ih (pl + 1) (n + 1) (acc ++ [chr (tt T k) pl]) (fu2) (ce + 4 * pot f1 t1) (sl + 140 * pot f1 t1) _ _ _ _ (by omega) (by omega) (by omega) (hspl2) (by rw [List.length_append]; simp; omega) (by omega) (by omega) (by omega) (hx1.tr hx_f2) (hx_f2.2.1 _ _ _ ht1) (by omega) (by omega) hw (lv_sub hl [0, 1, 3, 4, 5] rfl)
          · refine lv_iinc (v := iI (pl + 1)) (lv' := [(5, .int (iI (pl + 1))), (4, .int (iI (n + 1))), (6, .int (iI (chr (tt T k) pl))), (0, .ref x), (2, .int (iI i)), (3, .ref t1)]) hx hb d_DK_character_48 hl (k := 2) rfl (iI_add _ _) (by decide) rfl (fun ls hl => ?_)
            refine lv_iinc (v := iI (pl + 1 + 1)) (lv' := [(5, .int (iI (pl + 1 + 1))), (4, .int (iI (n + 1))), (6, .int (iI (chr (tt T k) pl))), (0, .ref x), (2, .int (iI i)), (3, .ref t1)]) hx hb d_DK_character_51 hl (k := 0) rfl (iI_add _ _) (by decide) rfl (fun ls hl => ?_)
            refine lv_goto (tgt := 12) hx hb d_DK_character_54 (by decide) ?_
            have hspl2 : chs (tt T k) = (acc ++ [chr (tt T k) pl]) ++ chl (tt T k) fu (pl + 1 + 1) := by rw [hspl, hstep, if_pos (by omega), List.append_assoc, show pl + 2 = pl + 1 + 1 by omega]; rfl
            obtain ⟨fu2, rfl⟩ : ∃ z, fu = z + 1 := ⟨fu - 1, by omega⟩
            exact ih (pl + 1 + 1) (n + 1) (acc ++ [chr (tt T k) pl]) (fu2) (ce + 4 * pot f1 t1) (sl + 140 * pot f1 t1) _ _ _ _ (by omega) (by omega) (by omega) (hspl2) (by rw [List.length_append]; simp; omega) (by omega) (by omega) (by omega) (hx1.tr hx_f2) (hx_f2.2.1 _ _ _ ht1) (by omega) (by omega) hw (lv_sub hl [0, 1, 3, 4, 5] rfl)
        · have hgt : gt (chs (tt T k)) i = chr (tt T k) pl ∧ i < ((chs (tt T k)).length : Int) := by
            have h8 : i = (acc.length : Int) := by omega
            rw [hspl, hstep, h8]
            refine ⟨?_, by rw [List.length_append]; simp; omega⟩
            rw [gt_in (by omega) (by rw [List.length_append]; simp; omega), Int.toNat_natCast, List.getD_eq_getElem?_getD, List.getElem?_append_right (Nat.le_refl _)]
            simp
          refine lv_iload hx hb d_DK_character_35 (lv_at hl 0 rfl) ?_
          exact ct_iret hx hb hr  hlk hw (⟨by rw [if_neg (by omega), hgt.1], hb_t1, by omega, (hS.read (hx1.tr hx_f2)).I⟩) (by omega) (by omega) d_DK_character_37
  exact loop ((((tt T k).length : Int) + 2 - 0).toNat + 1) (0) (0) ([]) ((tt T k).length) (1) (6) _ _ _ _ (by omega) (by omega) (by omega) (rfl) (rfl) (by omega) (by omega) (by omega) (exo.rf) (ht_t1) (by omega) (by omega) hw (lv_sub hl [0, 1, 3, 5, 2] rfl)
