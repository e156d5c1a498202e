/-- a row or a text that isn't the row r with the array q -/
def sqx (G : ct_G) (r q : Nat) (f : dw_M) (b : Nat) (us : List Int) : Prop := (∃ d, d ≤ 24 ∧ tx G d f b us) ∨ ∃ q' n' sp', rw G f b q' n' us sp' ∧ b ≠ r ∧ q' ≠ q
theorem sqx.sq {G : ct_G} {r q : Nat} {f : dw_M} {b : Nat} {us : List Int} (h : sqx G r q f b us) : sq G f b us := by
  rcases h with h | ⟨q', n', sp', h, -⟩
  · exact Or.inl h
  · exact Or.inr ⟨q', n', sp', h⟩
theorem sqx.go {G : ct_G} {r q : Nat} {f f' : dw_M} {b : Nat} {us : List Int} (h : sqx G r q f b us) (hx : exo G (fun a => a = r ∨ a = q) f f') (hrw : (∃ n u sp, rw G f r q n u sp) := by first | exact ⟨_, _, _, by assumption⟩) : sqx G r q f' b us := by
  rcases h with ⟨d, hd, h⟩ | ⟨q', n', sp', h, h1, h2⟩
  · exact Or.inl ⟨d, hd, hx.2.1 _ _ _ h⟩
  · obtain ⟨n, u, sp, g, k1, k2, -⟩ := hrw
    obtain ⟨g', k3, k4, k5⟩ := h
    refine Or.inr ⟨q', n', sp', hx.rw ⟨g', k3, k4, k5⟩ (fun z => ?_) (fun z => ?_), h1, h2⟩
    · rcases z with z | z
      · exact h1 z
      · exact dw_ne k3 k2 (by simp) z
    · rcases z with z | z
      · exact dw_ne k4 k1 (by simp) z
      · exact h2 z
theorem sqx.pot {G : ct_G} {r q : Nat} {f f' : dw_M} {b : Nat} {us : List Int} (h : sqx G r q f b us) {S : Nat → Prop} (hx : exo G S f f') : pot f' b ≤ pot f b := by
  rcases h with ⟨d, hd, h⟩ | ⟨q', n', sp', ⟨g, h, -⟩, -⟩
  · exact exo_pot hx h
  · exact hx.2.2.1 b _ h
theorem sq.go {G : ct_G} {f f' : dw_M} {b : Nat} {us : List Int} (h : sq G f b us) (hx : exo G no1 f f') : sq G f' b us := by
  rcases h with ⟨d, hd, h⟩ | ⟨q', n', sp', h⟩
  · exact Or.inl ⟨d, hd, hx.2.1 _ _ _ h⟩
  · exact Or.inr ⟨q', n', sp', hx.rw h (fun z => z.elim) (fun z => z.elim)⟩
set_option maxRecDepth 100000 in
set_option maxHeartbeats 4000000 in
theorem c_DK_isHigh (l : Launch) (G : ct_G) (f : dw_M) (sz : Nat) (u : Int) (hu : iR u) : cn l y_DK_isHigh w_DK_isHigh (0) (0) G f sz [.int (iI u)] (fun v f' => v = some (.int (iI (b2 (hi u)))) ∧ f' = f) (0) (0) := by
  refine cn_of (own := "TextDesk") (nm := "isHigh") (ds := "(I)Z") (by decide) (Nat.le_of_ble_eq_true rfl) ?_
  intro p e s m args below meth c ls X hnm hr hlk hs0 hz hw hl
  have hx := X.1
  have hb := X.2.1
  have hl : lv_has ls 1 [(0, .int (iI u))] := hl
  obtain ⟨hu1, hu2⟩ := hu
  refine lv_iload_n hx hb d_DK_isHigh_0 rfl (lv_at hl 0 rfl) ?_
  refine lv_ldc (v := iI (55296)) hx hb X.own (X.hts _ mw_106) d_DK_isHigh_1 ?_
  refine di_icmp_lt (tgt := 16) hx hb d_DK_isHigh_3 (by decide) ⟨by omega, by omega⟩ ⟨by omega, by omega⟩ (fun bq3 => ?_) (fun bq3 => ?_)
  · refine lv_iconst (v := iI (0)) hx hb d_DK_isHigh_16 rfl ?_
    exact cn_zret hx hb hr hlk hw rfl (⟨by have h9 : hi u = false := decide_eq_false (by omega); rw [h9]; rfl, rfl⟩) (Nat.le_refl _) (Nat.le_refl _) d_DK_isHigh_17
  · refine lv_iload_n hx hb d_DK_isHigh_6 rfl (lv_at hl 0 rfl) ?_
    refine lv_ldc (v := iI (56320)) hx hb X.own (X.hts _ mw_107) d_DK_isHigh_7 ?_
    refine di_icmp_ge (tgt := 16) hx hb d_DK_isHigh_9 (by decide) ⟨by omega, by omega⟩ ⟨by omega, by omega⟩ (fun bq9 => ?_) (fun bq9 => ?_)
    · refine lv_iconst (v := iI (0)) hx hb d_DK_isHigh_16 rfl ?_
      exact cn_zret hx hb hr hlk hw rfl (⟨by have h9 : hi u = false := decide_eq_false (by omega); rw [h9]; rfl, rfl⟩) (Nat.le_refl _) (Nat.le_refl _) d_DK_isHigh_17
    · refine lv_iconst (v := iI (1)) hx hb d_DK_isHigh_12 rfl ?_
      refine lv_goto (tgt := 17) hx hb d_DK_isHigh_13 (by decide) ?_
      exact cn_zret hx hb hr hlk hw rfl (⟨by have h9 : hi u = true := decide_eq_true (by omega); rw [h9]; rfl, rfl⟩) (Nat.le_refl _) (Nat.le_refl _) d_DK_isHigh_17
set_option maxRecDepth 100000 in
set_option maxHeartbeats 4000000 in
theorem c_DK_isLow (l : Launch) (G : ct_G) (f : dw_M) (sz : Nat) (u : Int) (hu : iR u) : cn l y_DK_isLow w_DK_isLow (0) (0) G f sz [.int (iI u)] (fun v f' => v = some (.int (iI (b2 (lw u)))) ∧ f' = f) (0) (0) := by
  refine cn_of (own := "TextDesk") (nm := "isLow") (ds := "(I)Z") (by decide) (Nat.le_of_ble_eq_true rfl) ?_
  intro p e s m args below meth c ls X hnm hr hlk hs0 hz hw hl
  have hx := X.1
  have hb := X.2.1
  have hl : lv_has ls 1 [(0, .int (iI u))] := hl
  obtain ⟨hu1, hu2⟩ := hu
  refine lv_iload_n hx hb d_DK_isLow_0 rfl (lv_at hl 0 rfl) ?_
  refine lv_ldc (v := iI (56320)) hx hb X.own (X.hts _ mw_107) d_DK_isLow_1 ?_
  refine di_icmp_lt (tgt := 16) hx hb d_DK_isLow_3 (by decide) ⟨by omega, by omega⟩ ⟨by omega, by omega⟩ (fun bq3 => ?_) (fun bq3 => ?_)
  · refine lv_iconst (v := iI (0)) hx hb d_DK_isLow_16 rfl ?_
    exact cn_zret hx hb hr hlk hw rfl (⟨by have h9 : lw u = false := decide_eq_false (by omega); rw [h9]; rfl, rfl⟩) (Nat.le_refl _) (Nat.le_refl _) d_DK_isLow_17
  · refine lv_iload_n hx hb d_DK_isLow_6 rfl (lv_at hl 0 rfl) ?_
    refine lv_ldc (v := iI (57344)) hx hb X.own (X.hts _ mw_111) d_DK_isLow_7 ?_
    refine di_icmp_ge (tgt := 16) hx hb d_DK_isLow_9 (by decide) ⟨by omega, by omega⟩ ⟨by omega, by omega⟩ (fun bq9 => ?_) (fun bq9 => ?_)
    · refine lv_iconst (v := iI (0)) hx hb d_DK_isLow_16 rfl ?_
      exact cn_zret hx hb hr hlk hw rfl (⟨by have h9 : lw u = false := decide_eq_false (by omega); rw [h9]; rfl, rfl⟩) (Nat.le_refl _) (Nat.le_refl _) d_DK_isLow_17
    · refine lv_iconst (v := iI (1)) hx hb d_DK_isLow_12 rfl ?_
      refine lv_goto (tgt := 17) hx hb d_DK_isLow_13 (by decide) ?_
      exact cn_zret hx hb hr hlk hw rfl (⟨by have h9 : lw u = true := decide_eq_true (by omega); rw [h9]; rfl, rfl⟩) (Nat.le_refl _) (Nat.le_refl _) d_DK_isLow_17
set_option maxRecDepth 100000 in
set_option maxHeartbeats 4000000 in
theorem c_RW_appendRange (l : Launch) (G : ct_G) (f : dw_M) (sz : Nat) (r q n b : Nat) (u us : List Int) (sp fr to : Int) (hfr : iR fr) (hto : iR to) (hrw : rw G f r q n u sp) (hsq : sqx G r q f b us) : cn l y_RW_appendRange w_RW_appendRange (42) (960) G f sz [.ref r, .ref b, .int (iI fr), .int (iI to)] (fun v f' => v = none ∧ rw G f' r q n (apl1 n u (sbl us fr to)) (apl2 n u (sbl us fr to) sp) ∧ exo G (fun a => a = r ∨ a = q) f f' ∧ rc (pot f b) (sbl us fr to) + pot f' b ≤ pot f b) (4 * rc (pot f b) (sbl us fr to)) (140 * rc (pot f b) (sbl us fr to)) := by
  refine cn_of (own := "TextDesk$Row") (nm := "appendRange") (ds := "(LTextDesk$Sequence;II)V") (by decide) (Nat.le_of_ble_eq_true rfl) ?_
  intro p e s m args below meth c ls X hnm hr hlk hs0 hz hw hl
  have hx := X.1
  have hb := X.2.1
  have hl : lv_has ls 6 [(0, .ref r), (1, .ref b), (2, .int (iI fr)), (3, .int (iI to))] := hl
  have hG := X.E.ok
  obtain ⟨hfr1, hfr2⟩ := hfr
  obtain ⟨hto1, hto2⟩ := hto
  have hlen := hsq.sq.len
  obtain ⟨hul, hn⟩ := hrw.len
  refine lv_iload_n hx hb d_RW_appendRange_0 rfl (lv_at hl 3 rfl) ?_
  refine lv_aload_n hx hb d_RW_appendRange_1 rfl (lv_at hl 1 rfl) ?_
  refine sq_RW_29 X hz hw hl.1 hsq.sq.w ⟨Nat.le_of_ble_eq_true rfl, Nat.le_of_ble_eq_true rfl⟩ ⟨by show 0 ≤ 4 * rc (pot f b) (sbl us fr to); omega, by show 0 ≤ 140 * rc (pot f b) (sbl us fr to); omega⟩ (Nat.le_of_ble_eq_true rfl) d_RW_appendRange_2 (fun H locs hw => ?_)
  refine W.eq (g2 := F0 m 5 ls [.int (iI ((us.length : Int))), .int (iI to)]) rfl ?_
  obtain ⟨en, hen⟩ : ∃ en : Int, en = if (us.length : Int) < to then (us.length : Int) else to := ⟨_, rfl⟩
  have hen1 : en ≤ (us.length : Int) := by rw [hen]; split <;> omega
  have hen2 : -2147483648 ≤ en := by rw [hen]; split <;> omega
  refine di_min X hl.1 mw_249 ⟨by omega, by omega⟩ ⟨by omega, by omega⟩ (z := en) (hen.symm) (Nat.le_of_ble_eq_true rfl) (Nat.le_of_ble_eq_true rfl) (by show 0 ≤ 4 * rc (pot f b) (sbl us fr to); omega) (by show 0 ≤ 140 * rc (pot f b) (sbl us fr to); omega) d_RW_appendRange_5 ?_
  refine lv_istore (lv' := [(4, .int (iI en)), (0, .ref r), (1, .ref b), (2, .int (iI fr)), (3, .int (iI to))]) hx hb d_RW_appendRange_8 hl (by decide) rfl (fun ls hl => ?_)
  refine lv_iload_n hx hb d_RW_appendRange_10 rfl (lv_at hl 3 rfl) ?_
  refine lv_iconst (v := iI (0)) hx hb d_RW_appendRange_11 rfl ?_
  obtain ⟨lo, hlo⟩ : ∃ lo : Int, lo = if fr < 0 then 0 else fr := ⟨_, rfl⟩
  have hlo1 : 0 ≤ lo ∧ lo < 2147483648 := by rw [hlo]; split <;> omega
  refine di_max X hl.1 mw_38 ⟨by omega, by omega⟩ ⟨by omega, by omega⟩ (z := lo) (hlo.symm) (Nat.le_of_ble_eq_true rfl) (Nat.le_of_ble_eq_true rfl) (by show 0 ≤ 4 * rc (pot f b) (sbl us fr to); omega) (by show 0 ≤ 140 * rc (pot f b) (sbl us fr to); omega) d_RW_appendRange_12 ?_
  have hsne : lo < en → sbl us lo en = sbl us fr to := fun q => sbl_end hlo hen (by omega) (Or.inl (Int.le_refl _)) (Int.le_refl _)
  refine lv_istore (lv' := [(5, .int (iI lo)), (4, .int (iI en)), (0, .ref r), (1, .ref b), (2, .int (iI fr)), (3, .int (iI to))]) hx hb d_RW_appendRange_15 hl (by decide) rfl (fun ls hl => ?_)
  have loop : ∀ (N : Nat) (k : Int) (ce : Nat) (sl : Nat) (f1 : dw_M) (H : Heap) (locs : List Loc) (ls : Array Slot), (en - k).toNat < N → lo ≤ k → (k ≤ en ∨ k = lo) → rw G f1 r q n (apl1 n u (sbl us lo k)) (apl2 n u (sbl us lo k) sp) → exo G (fun a => a = r ∨ a = q) f f1 → sqx G r q f1 b us → pot f1 b ≤ pot f b → ce + 4 * pot f1 b ≤ 4 * pot f b → sl + 140 * pot f1 b ≤ 140 * pot f b → (k = lo → ce = 0 ∧ sl = 0) → (lo < k → pot f1 b = 0) → dw G.1 dk_cl (dw_A f sz) s.heap f1 H locs → lv_has ls 6 [(5, .int (iI k)), (4, .int (iI en)), (0, .ref r), (1, .ref b)] → W p l e { frames := 42, locals := 960, cells := 4 * rc (pot f b) (sbl us fr to), slots := 140 * rc (pot f b) (sbl us fr to) } s m args below meth c H locs (ce) (sl) (MQ below (ct_Q G f sz (fun v f' => v = none ∧ rw G f' r q n (apl1 n u (sbl us fr to)) (apl2 n u (sbl us fr to) sp) ∧ exo G (fun a => a = r ∨ a = q) f f' ∧ rc (pot f b) (sbl us fr to) + pot f' b ≤ pot f b)) args s (4 * rc (pot f b) (sbl us fr to)) (140 * rc (pot f b) (sbl us fr to)) (dw_A f sz)) (F0 m 17 ls []) := by
    intro N
    induction N with
    | zero => intros; omega
    | succ N ih =>
      intro k ce sl f1 H locs ls hN hk1 hk2 hrw1 hx1 hsq1 hpo hce hsl hc0 hc1 hw hl
      refine lv_iload hx hb d_RW_appendRange_17 (lv_at hl 0 rfl) ?_
      refine lv_iload hx hb d_RW_appendRange_19 (lv_at hl 1 rfl) ?_
      refine di_icmp_ge (tgt := 40) hx hb d_RW_appendRange_21 (by decide) ⟨by omega, by omega⟩ ⟨by omega, by omega⟩ (fun bq21 => ?_) (fun bq21 => ?_)
      · have hse := sbl_end hlo hen hk1 hk2 (by omega)
        have hrcv : rc (pot f b) (sbl us fr to) = 0 ∧ k = lo ∨ rc (pot f b) (sbl us fr to) = pot f b ∧ lo < k := by
          rw [← hse]
          rcases (show k = lo ∨ lo < k by omega) with q | q
          · exact Or.inl ⟨by rw [q, sbl_nil (Int.le_refl _) hlo1.1]; rfl, q⟩
          · exact Or.inr ⟨if_neg (by rw [sbl_length (by omega) (by omega)]; omega), q⟩
        exact cn_vret hx hb hr hlk hw  (⟨rfl, by rw [← hse]; exact hrw1, hx1, by omega⟩) (by omega) (by omega) d_RW_appendRange_40
      · have hrcx : rc (pot f b) (sbl us fr to) = pot f b := if_neg (by rw [← hsne (by omega), sbl_length (by omega) (by omega)]; omega)
        refine lv_aload_n hx hb d_RW_appendRange_24 rfl (lv_at hl 2 rfl) ?_
        refine lv_aload_n hx hb d_RW_appendRange_25 rfl (lv_at hl 3 rfl) ?_
        refine lv_iload hx hb d_RW_appendRange_26 (lv_at hl 0 rfl) ?_
        refine sg_RW_35 X hz hw hl.1 hsq1.sq ⟨by omega, by omega⟩ ⟨Nat.le_of_ble_eq_true rfl, Nat.le_of_ble_eq_true rfl⟩ ⟨by show ce + 4 * pot f1 b ≤ 4 * rc (pot f b) (sbl us fr to); omega, by show sl + 140 * pot f1 b ≤ 140 * rc (pot f b) (sbl us fr to); omega⟩ (Nat.le_of_ble_eq_true rfl) d_RW_appendRange_28 (fun f2 H locs hx_f2 hp_f2 hw => ?_)
        refine W.eq (g2 := F0 m 31 ls [.int (iI (gt us k)), .ref r]) rfl ?_
        have hgk : gt us k = us.getD k.toNat 0 := gt_in (by omega) (by omega)
        have hrw2 := hx_f2.rw hrw1 (fun z => z.elim) (fun z => z.elim)
        refine cs_RW_39 X hz hw hl.1 hrw2.choose_spec.1 (c_RW_append l G f2 _ r q n _ _ (gt us k) hrw2) ⟨Nat.le_of_ble_eq_true rfl, Nat.le_of_ble_eq_true rfl⟩ ⟨by show ce + 4 * pot f1 b + 0 ≤ 4 * rc (pot f b) (sbl us fr to); omega, by show sl + 140 * pot f1 b + 0 ≤ 140 * rc (pot f b) (sbl us fr to); omega⟩ (Nat.le_of_ble_eq_true rfl) d_RW_appendRange_31 (fun v f3 H locs hp hw hsz9 hkp9 hdm9 => ?_)
        obtain ⟨rfl, hrw3, hk3⟩ := hp
        have hx3 := exo_row hG hrw2 hrw3 hk3
        have hsq2 := hsq1.go (hx_f2.mono (fun _ z => z.elim))
        have hp3 : pot f3 b ≤ pot f2 b := hsq2.pot hx3
        rw [apl1_snoc _ hul, apl2_snoc _ hul, hgk, ← sbl_snoc (by omega) (by omega) (by omega)] at hrw3
        refine W.eq (g2 := F0 m 34 ls []) rfl ?_
        refine lv_iinc (v := iI (k + 1)) (lv' := [(5, .int (iI (k + 1))), (4, .int (iI en)), (0, .ref r), (1, .ref b)]) hx hb d_RW_appendRange_34 hl (k := 0) rfl (iI_add _ _) (by decide) rfl (fun ls hl => ?_)
        refine lv_goto (tgt := 17) hx hb d_RW_appendRange_37 (by decide) ?_
        exact ih (k + 1) (ce + 4 * pot f1 b) (sl + 140 * pot f1 b) _ _ _ _ (by omega) (by omega) (by omega) (hrw3) ((hx1.tr (hx_f2.mono (fun _ z => z.elim))).tr hx3) (hsq2.go hx3) (by omega) (by omega) (by omega) (by omega) (by omega) hw (lv_sub hl [0, 1, 2, 3] rfl)
  exact loop ((en - lo).toNat + 1) (lo) (0) (0) _ _ _ _ (by omega) (Int.le_refl _) (Or.inr rfl) (by rw [sbl_nil (Int.le_refl _) hlo1.1, apl1_nil, apl2_nil hul]; exact hrw) (exo.rf) (hsq) (by omega) (by omega) (by omega) (by omega) (by omega) hw (lv_sub hl [0, 1, 2, 3] rfl)
set_option maxRecDepth 100000 in
set_option maxHeartbeats 4000000 in
theorem c_DK_isPair (l : Launch) (G : ct_G) (f : dw_M) (sz : Nat) (u0 u1 : Int) (h0 : iR u0) (h1 : iR u1) : cn l y_DK_isPair w_DK_isPair (1) (30) G f sz [.int (iI u0), .int (iI u1)] (fun v f' => v = some (.int (iI (b2 (hi u0 && lw u1)))) ∧ f' = f) (0) (0) := by
  refine cn_of (own := "TextDesk") (nm := "isPair") (ds := "(II)Z") (by decide) (Nat.le_of_ble_eq_true rfl) ?_
  intro p e s m args below meth c ls X hnm hr hlk hs0 hz hw hl
  have hx := X.1
  have hb := X.2.1
  have hl : lv_has ls 2 [(0, .int (iI u0)), (1, .int (iI u1))] := hl
  refine lv_iload_n hx hb d_DK_isPair_0 rfl (lv_at hl 0 rfl) ?_
  refine cs_DK_204 X hz hw hl.1 (c_DK_isHigh l G f _ u0 h0) ⟨Nat.le_of_ble_eq_true rfl, Nat.le_of_ble_eq_true rfl⟩ ⟨by show 0 + 0 ≤ 0; omega, by show 0 + 0 ≤ 0; omega⟩ (Nat.le_of_ble_eq_true rfl) d_DK_isPair_1 (fun v f9 H locs hp hw hsz9 hkp9 hdm9 => ?_)
  obtain ⟨rfl, hfe⟩ := hp
  rw [hfe] at hw
  refine W.eq (g2 := F0 m 4 ls [.int (iI (b2 (hi u0)))]) rfl ?_
  have hb1 := b2_01 (hi u0)
  refine di_if_eq (tgt := 18) hx hb d_DK_isPair_4 (by decide) ⟨by omega, by omega⟩ (fun bq4 => ?_) (fun bq4 => ?_)
  · refine lv_iconst (v := iI (0)) hx hb d_DK_isPair_18 rfl ?_
    exact cn_zret hx hb hr hlk hw rfl (⟨by rw [b2_0 bq4]; rfl, rfl⟩) (Nat.le_refl _) (Nat.le_refl _) d_DK_isPair_19
  · refine lv_iload_n hx hb d_DK_isPair_7 rfl (lv_at hl 1 rfl) ?_
    refine cs_DK_208 X hz hw hl.1 (c_DK_isLow l G f _ u1 h1) ⟨Nat.le_of_ble_eq_true rfl, Nat.le_of_ble_eq_true rfl⟩ ⟨by show 0 + 0 ≤ 0; omega, by show 0 + 0 ≤ 0; omega⟩ (Nat.le_of_ble_eq_true rfl) d_DK_isPair_8 (fun v f9 H locs hp hw hsz9 hkp9 hdm9 => ?_)
    obtain ⟨rfl, hfe⟩ := hp
    rw [hfe] at hw
    refine W.eq (g2 := F0 m 11 ls [.int (iI (b2 (lw u1)))]) rfl ?_
    have hb2 := b2_01 (lw u1)
    refine di_if_eq (tgt := 18) hx hb d_DK_isPair_11 (by decide) ⟨by omega, by omega⟩ (fun bq11 => ?_) (fun bq11 => ?_)
    · refine lv_iconst (v := iI (0)) hx hb d_DK_isPair_18 rfl ?_
      exact cn_zret hx hb hr hlk hw rfl (⟨by rw [b2_0 bq11, Bool.and_false]; rfl, rfl⟩) (Nat.le_refl _) (Nat.le_refl _) d_DK_isPair_19
    · refine lv_iconst (v := iI (1)) hx hb d_DK_isPair_14 rfl ?_
      refine lv_goto (tgt := 19) hx hb d_DK_isPair_15 (by decide) ?_
      exact cn_zret hx hb hr hlk hw rfl (⟨by rw [b2_1 bq4, b2_1 bq11]; rfl, rfl⟩) (Nat.le_refl _) (Nat.le_refl _) d_DK_isPair_19
set_option maxRecDepth 100000 in
set_option maxHeartbeats 4000000 in
theorem c_DK_characterAt (l : Launch) (G : ct_G) (f : dw_M) (sz : Nat) (b : Nat) (us : List Int) (k : Int) (hk : -2147483648 ≤ k ∧ k < 2147483647) (hus : ∀ u ∈ us, 0 ≤ u ∧ u < 65536) (hsq : sq G f b us) : cn l y_DK_characterAt w_DK_characterAt (43) (985) G f sz [.ref b, .int (iI k)] (fun v f' => v = some (.int (iI (chr us k))) ∧ exo G no1 f f' ∧ pot f' b = 0) (4 * pot f b) (140 * pot f b) := by
  refine cn_of (own := "TextDesk") (nm := "characterAt") (ds := "(LTextDesk$Sequence;I)I") (by decide) (Nat.le_of_ble_eq_true rfl) ?_
  intro p e s m args below meth c ls X hnm hr hlk hs0 hz hw hl
  have hx := X.1
  have hb := X.2.1
  have hl : lv_has ls 4 [(0, .ref b), (1, .int (iI k))] := hl
  have hr1 := gt_rng hus k
  have hr2 := gt_rng hus (k + 1)
  refine lv_aload_n hx hb d_DK_characterAt_0 rfl (lv_at hl 0 rfl) ?_
  refine lv_iload_n hx hb d_DK_characterAt_1 rfl (lv_at hl 1 rfl) ?_
  refine sg_DK_185 X hz hw hl.1 hsq ⟨by omega, by omega⟩ ⟨Nat.le_of_ble_eq_true rfl, Nat.le_of_ble_eq_true rfl⟩ ⟨by show 0 + 4 * pot f b ≤ 4 * pot f b; omega, by show 0 + 140 * pot f b ≤ 140 * pot f b; omega⟩ (Nat.le_of_ble_eq_true rfl) d_DK_characterAt_2 (fun f2 H locs hx_f2 hp_f2 hw => ?_)
  refine W.eq (g2 := F0 m 5 ls [.int (iI (gt us k))]) rfl ?_
  refine lv_istore_n (lv' := [(2, .int (iI (gt us k))), (0, .ref b), (1, .int (iI k))]) hx hb d_DK_characterAt_5 rfl hl (by decide) rfl (fun ls hl => ?_)
  refine lv_aload_n hx hb d_DK_characterAt_6 rfl (lv_at hl 1 rfl) ?_
  refine lv_iload_n hx hb d_DK_characterAt_7 rfl (lv_at hl 2 rfl) ?_
  refine lv_iconst (v := iI (1)) hx hb d_DK_characterAt_8 rfl ?_
  refine di_add hx hb d_DK_characterAt_9 ?_
  refine sg_DK_185 X hz hw hl.1 (hsq.go hx_f2) ⟨by omega, by omega⟩ ⟨Nat.le_of_ble_eq_true rfl, Nat.le_of_ble_eq_true rfl⟩ ⟨by show 0 + 4 * pot f b + 4 * pot f2 b ≤ 4 * pot f b; omega, by show 0 + 140 * pot f b + 140 * pot f2 b ≤ 140 * pot f b; omega⟩ (Nat.le_of_ble_eq_true rfl) d_DK_characterAt_10 (fun f3 H locs hx_f3 hp_f3 hw => ?_)
  refine W.eq (g2 := F0 m 13 ls [.int (iI (gt us (k + 1)))]) rfl ?_
  refine lv_istore_n (lv' := [(3, .int (iI (gt us (k + 1)))), (2, .int (iI (gt us k))), (0, .ref b), (1, .int (iI k))]) hx hb d_DK_characterAt_13 rfl hl (by decide) rfl (fun ls hl => ?_)
  refine lv_iload_n hx hb d_DK_characterAt_14 rfl (lv_at hl 1 rfl) ?_
  refine lv_iload_n hx hb d_DK_characterAt_15 rfl (lv_at hl 0 rfl) ?_
  refine cs_DK_92 X hz hw hl.1 (c_DK_isPair l G f3 _ (gt us k) (gt us (k + 1)) ⟨by omega, by omega⟩ ⟨by omega, by omega⟩) ⟨Nat.le_of_ble_eq_true rfl, Nat.le_of_ble_eq_true rfl⟩ ⟨by show 0 + 4 * pot f b + 4 * pot f2 b + 0 ≤ 4 * pot f b; omega, by show 0 + 140 * pot f b + 140 * pot f2 b + 0 ≤ 140 * pot f b; omega⟩ (Nat.le_of_ble_eq_true rfl) d_DK_characterAt_16 (fun v f9 H locs hp hw hsz9 hkp9 hdm9 => ?_)
  obtain ⟨rfl, hfe⟩ := hp
  rw [hfe] at hw
  refine W.eq (g2 := F0 m 19 ls [.int (iI (b2 (pr us k)))]) rfl ?_
  have hb1 := b2_01 (pr us k)
  refine di_if_ne (tgt := 24) hx hb d_DK_characterAt_19 (by decide) ⟨by omega, by omega⟩ (fun bq19 => ?_) (fun bq19 => ?_)
  · refine lv_ldc (v := iI (65536)) hx hb X.own (X.hts _ mw_133) d_DK_characterAt_24 ?_
    refine lv_iload_n hx hb d_DK_characterAt_26 rfl (lv_at hl 1 rfl) ?_
    refine lv_ldc (v := iI (55296)) hx hb X.own (X.hts _ mw_106) d_DK_characterAt_27 ?_
    refine di_sub hx hb d_DK_characterAt_29 ?_
    refine lv_sipush (v := iI (1024)) hx hb d_DK_characterAt_30 rfl ?_
    refine di_mul hx hb d_DK_characterAt_33 ?_
    refine di_add hx hb d_DK_characterAt_34 ?_
    refine lv_iload_n hx hb d_DK_characterAt_35 rfl (lv_at hl 0 rfl) ?_
    refine di_add hx hb d_DK_characterAt_36 ?_
    refine lv_ldc (v := iI (56320)) hx hb X.own (X.hts _ mw_107) d_DK_characterAt_37 ?_
    refine di_sub hx hb d_DK_characterAt_39 ?_
    exact cn_iret hx hb hr hlk hw  (⟨by rw [chr, if_pos (b2_1 bq19)], hx_f2.tr hx_f3, by omega⟩) (by omega) (by omega) d_DK_characterAt_40
  · refine lv_iload_n hx hb d_DK_characterAt_22 rfl (lv_at hl 1 rfl) ?_
    exact cn_iret hx hb hr hlk hw  (⟨by rw [chr, if_neg (by rw [b2_0 bq19]; decide)], hx_f2.tr hx_f3, by omega⟩) (by omega) (by omega) d_DK_characterAt_23
set_option maxRecDepth 100000 in
set_option maxHeartbeats 4000000 in
theorem c_DK_difference (l : Launch) (G : ct_G) (f : dw_M) (sz : Nat) (d e0 a b : Nat) (ua ub : List Int) (hd : d ≤ 24) (he0 : e0 ≤ 24) (hta : tx G d f a ua) (htb : tx G e0 f b ub) : cn l y_DK_difference w_DK_difference (42) (960) G f sz [.ref a, .ref b] (fun v f' => v = some (.int (iI (dif ua ub))) ∧ exo G no1 f f') (4 * pot f a + 4 * pot f b) (140 * pot f a + 140 * pot f b) := by
  refine cn_of (own := "TextDesk") (nm := "difference") (ds := "(LTextDesk$Text;LTextDesk$Text;)I") (by decide) (Nat.le_of_ble_eq_true rfl) ?_
  intro p e s m args below meth c ls X hnm hr hlk hs0 hz hw hl
  have hx := X.1
  have hb := X.2.1
  have hl : lv_has ls 4 [(0, .ref a), (1, .ref b)] := hl
  have hla := hta.len
  have hlb := htb.len
  refine lv_aload_n hx hb d_DK_difference_0 rfl (lv_at hl 0 rfl) ?_
  refine st_DK_77 X hz hw hl.1 hta ⟨Nat.le_of_ble_eq_true rfl, Nat.le_of_ble_eq_true rfl⟩ ⟨by show 0 ≤ 4 * pot f a + 4 * pot f b; omega, by show 0 ≤ 140 * pot f a + 140 * pot f b; omega⟩ (Nat.le_of_ble_eq_true rfl) d_DK_difference_1 (fun H locs hw => ?_)
  refine W.eq (g2 := F0 m 4 ls [.int (iI ((ua.length : Int)))]) rfl ?_
  refine lv_aload_n hx hb d_DK_difference_4 rfl (lv_at hl 1 rfl) ?_
  refine st_DK_77 X hz hw hl.1 htb ⟨Nat.le_of_ble_eq_true rfl, Nat.le_of_ble_eq_true rfl⟩ ⟨by show 0 ≤ 4 * pot f a + 4 * pot f b; omega, by show 0 ≤ 140 * pot f a + 140 * pot f b; omega⟩ (Nat.le_of_ble_eq_true rfl) d_DK_difference_5 (fun H locs hw => ?_)
  refine W.eq (g2 := F0 m 8 ls [.int (iI ((ub.length : Int))), .int (iI ((ua.length : Int)))]) rfl ?_
  obtain ⟨en, hen⟩ : ∃ en : Int, en = if (ub.length : Int) < (ua.length : Int) then (ub.length : Int) else (ua.length : Int) := ⟨_, rfl⟩
  have hen1 : en ≤ (ua.length : Int) ∧ en ≤ (ub.length : Int) ∧ (en = (ua.length : Int) ∨ en = (ub.length : Int)) := by rw [hen]; split <;> omega
  refine di_min X hl.1 mw_500 ⟨by omega, by omega⟩ ⟨by omega, by omega⟩ (z := en) (hen.symm) (Nat.le_of_ble_eq_true rfl) (Nat.le_of_ble_eq_true rfl) (by show 0 ≤ 4 * pot f a + 4 * pot f b; omega) (by show 0 ≤ 140 * pot f a + 140 * pot f b; omega) d_DK_difference_8 ?_
  refine lv_istore_n (lv' := [(2, .int (iI en)), (0, .ref a), (1, .ref b)]) hx hb d_DK_difference_11 rfl hl (by decide) rfl (fun ls hl => ?_)
  refine lv_iconst (v := iI (0)) hx hb d_DK_difference_12 rfl ?_
  refine lv_istore_n (lv' := [(3, .int (iI 0)), (2, .int (iI en)), (0, .ref a), (1, .ref b)]) hx hb d_DK_difference_13 rfl hl (by decide) rfl (fun ls hl => ?_)
  have loop : ∀ (N : Nat) (k : Int) (ce : Nat) (sl : Nat) (f1 : dw_M) (H : Heap) (locs : List Loc) (ls : Array Slot), (en - k).toNat < N → 0 ≤ k → k ≤ en → (∀ j : Nat, (j : Int) < k → gt ua j = gt ub j) → exo G no1 f f1 → tx G d f1 a ua → tx G e0 f1 b ub → ce + (4 * pot f1 a + 4 * pot f1 b) ≤ 4 * pot f a + 4 * pot f b → sl + (140 * pot f1 a + 140 * pot f1 b) ≤ 140 * pot f a + 140 * pot f b → dw G.1 dk_cl (dw_A f sz) s.heap f1 H locs → lv_has ls 4 [(3, .int (iI k)), (2, .int (iI en)), (0, .ref a), (1, .ref b)] → W p l e { frames := 42, locals := 960, cells := 4 * pot f a + 4 * pot f b, slots := 140 * pot f a + 140 * pot f b } s m args below meth c H locs (ce) (sl) (MQ below (ct_Q G f sz (fun v f' => v = some (.int (iI (dif ua ub))) ∧ exo G no1 f f')) args s (4 * pot f a + 4 * pot f b) (140 * pot f a + 140 * pot f b) (dw_A f sz)) (F0 m 14 ls []) := by
    intro N
    induction N with
    | zero => intros; omega
    | succ N ih =>
      intro k ce sl f1 H locs ls hN hk0 hk1 hall hx1 hta1 htb1 hce hsl hw hl
      refine lv_iload_n hx hb d_DK_difference_14 rfl (lv_at hl 0 rfl) ?_
      refine lv_iload_n hx hb d_DK_difference_15 rfl (lv_at hl 1 rfl) ?_
      refine di_icmp_ge (tgt := 50) hx hb d_DK_difference_16 (by decide) ⟨by omega, by omega⟩ ⟨by omega, by omega⟩ (fun bq16 => ?_) (fun bq16 => ?_)
      · refine lv_aload_n hx hb d_DK_difference_50 rfl (lv_at hl 2 rfl) ?_
        refine st_DK_77 X hz hw hl.1 hta1 ⟨Nat.le_of_ble_eq_true rfl, Nat.le_of_ble_eq_true rfl⟩ ⟨by show ce ≤ 4 * pot f a + 4 * pot f b; omega, by show sl ≤ 140 * pot f a + 140 * pot f b; omega⟩ (Nat.le_of_ble_eq_true rfl) d_DK_difference_51 (fun H locs hw => ?_)
        refine W.eq (g2 := F0 m 54 ls [.int (iI ((ua.length : Int)))]) rfl ?_
        refine lv_aload_n hx hb d_DK_difference_54 rfl (lv_at hl 3 rfl) ?_
        refine st_DK_77 X hz hw hl.1 htb1 ⟨Nat.le_of_ble_eq_true rfl, Nat.le_of_ble_eq_true rfl⟩ ⟨by show ce ≤ 4 * pot f a + 4 * pot f b; omega, by show sl ≤ 140 * pot f a + 140 * pot f b; omega⟩ (Nat.le_of_ble_eq_true rfl) d_DK_difference_55 (fun H locs hw => ?_)
        refine W.eq (g2 := F0 m 58 ls [.int (iI ((ub.length : Int))), .int (iI ((ua.length : Int)))]) rfl ?_
        refine di_sub hx hb d_DK_difference_58 ?_
        exact cn_iret hx hb hr hlk hw  (⟨by rw [(dif_eq ua ub k.toNat (by omega) (by omega) (fun j hj => hall j (by omega))).2 (by omega)], hx1⟩) (by omega) (by omega) d_DK_difference_59
      · refine lv_aload_n hx hb d_DK_difference_19 rfl (lv_at hl 2 rfl) ?_
        refine lv_iload_n hx hb d_DK_difference_20 rfl (lv_at hl 0 rfl) ?_
        have hra := gt_rng hta1.rng k
        have hrb := gt_rng htb1.rng k
        refine sg_DK_122 X hz hw hl.1 hd hta1 ⟨by omega, by omega⟩ ⟨Nat.le_of_ble_eq_true rfl, Nat.le_of_ble_eq_true rfl⟩ ⟨by show ce + 4 * pot f1 a ≤ 4 * pot f a + 4 * pot f b; omega, by show sl + 140 * pot f1 a ≤ 140 * pot f a + 140 * pot f b; omega⟩ (Nat.le_of_ble_eq_true rfl) d_DK_difference_21 (fun f2 H locs hx_f2 hp_f2 hw => ?_)
        refine W.eq (g2 := F0 m 24 ls [.int (iI (gt ua k))]) rfl ?_
        have hpb2 := exo_pot hx_f2 htb1
        have htbf2 := hx_f2.2.1 _ _ _ htb1
        have htaf2 := hx_f2.2.1 _ _ _ hta1
        refine lv_aload_n hx hb d_DK_difference_24 rfl (lv_at hl 3 rfl) ?_
        refine lv_iload_n hx hb d_DK_difference_25 rfl (lv_at hl 0 rfl) ?_
        refine sg_DK_122 X hz hw hl.1 he0 htbf2 ⟨by omega, by omega⟩ ⟨Nat.le_of_ble_eq_true rfl, Nat.le_of_ble_eq_true rfl⟩ ⟨by show ce + 4 * pot f1 a + 4 * pot f2 b ≤ 4 * pot f a + 4 * pot f b; omega, by show sl + 140 * pot f1 a + 140 * pot f2 b ≤ 140 * pot f a + 140 * pot f b; omega⟩ (Nat.le_of_ble_eq_true rfl) d_DK_difference_26 (fun f3 H locs hx_f3 hp_f3 hw => ?_)
        refine W.eq (g2 := F0 m 29 ls [.int (iI (gt ub k)), .int (iI (gt ua k))]) rfl ?_
        have hpa2 := exo_pot hx_f3 htaf2
        have htb4 := hx_f3.2.1 _ _ _ htbf2
        have hta4 := hx_f3.2.1 _ _ _ htaf2
        refine di_icmp_eq (tgt := 44) hx hb d_DK_difference_29 (by decide) ⟨by omega, by omega⟩ ⟨by omega, by omega⟩ (fun bq29 => ?_) (fun bq29 => ?_)
        · refine lv_iinc (v := iI (k + 1)) (lv' := [(3, .int (iI (k + 1))), (2, .int (iI en)), (0, .ref a), (1, .ref b)]) hx hb d_DK_difference_44 hl (k := 0) rfl (iI_add _ _) (by decide) rfl (fun ls hl => ?_)
          refine lv_goto (tgt := 14) hx hb d_DK_difference_47 (by decide) ?_
          exact ih (k + 1) (ce + 4 * pot f1 a + 4 * pot f2 b) (sl + 140 * pot f1 a + 140 * pot f2 b) _ _ _ _ (by omega) (by omega) (by omega) (fun j hj => by
            by_cases e : (j : Int) = k
            · rw [e]; exact bq29
            · exact hall j (by omega)) ((hx1.tr hx_f2).tr hx_f3) (hta4) (htb4) (by omega) (by omega) hw (lv_sub hl [0, 1, 2, 3] rfl)
        · refine lv_aload_n hx hb d_DK_difference_32 rfl (lv_at hl 2 rfl) ?_
          refine lv_iload_n hx hb d_DK_difference_33 rfl (lv_at hl 0 rfl) ?_
          refine sg_DK_122 X hz hw hl.1 hd hta4 ⟨by omega, by omega⟩ ⟨Nat.le_of_ble_eq_true rfl, Nat.le_of_ble_eq_true rfl⟩ ⟨by show ce + 4 * pot f1 a + 4 * pot f2 b + 4 * pot f3 a ≤ 4 * pot f a + 4 * pot f b; omega, by show sl + 140 * pot f1 a + 140 * pot f2 b + 140 * pot f3 a ≤ 140 * pot f a + 140 * pot f b; omega⟩ (Nat.le_of_ble_eq_true rfl) d_DK_difference_34 (fun f4 H locs hx_f4 hp_f4 hw => ?_)
          refine W.eq (g2 := F0 m 37 ls [.int (iI (gt ua k))]) rfl ?_
          have hpb4 := exo_pot hx_f4 htb4
          have htbf4 := hx_f4.2.1 _ _ _ htb4
          have htaf4 := hx_f4.2.1 _ _ _ hta4
          refine lv_aload_n hx hb d_DK_difference_37 rfl (lv_at hl 3 rfl) ?_
          refine lv_iload_n hx hb d_DK_difference_38 rfl (lv_at hl 0 rfl) ?_
          refine sg_DK_122 X hz hw hl.1 he0 htbf4 ⟨by omega, by omega⟩ ⟨Nat.le_of_ble_eq_true rfl, Nat.le_of_ble_eq_true rfl⟩ ⟨by show ce + 4 * pot f1 a + 4 * pot f2 b + 4 * pot f3 a + 4 * pot f4 b ≤ 4 * pot f a + 4 * pot f b; omega, by show sl + 140 * pot f1 a + 140 * pot f2 b + 140 * pot f3 a + 140 * pot f4 b ≤ 140 * pot f a + 140 * pot f b; omega⟩ (Nat.le_of_ble_eq_true rfl) d_DK_difference_39 (fun f5 H locs hx_f5 hp_f5 hw => ?_)
          refine W.eq (g2 := F0 m 42 ls [.int (iI (gt ub k)), .int (iI (gt ua k))]) rfl ?_
          have hpa4 := exo_pot hx_f5 htaf4
          have htb6 := hx_f5.2.1 _ _ _ htbf4
          have hta6 := hx_f5.2.1 _ _ _ htaf4
          refine di_sub hx hb d_DK_difference_42 ?_
          have hkk : ((k.toNat : Nat) : Int) = k := by omega
          have hde := (dif_eq ua ub k.toNat (by omega) (by omega) (fun j hj => hall j (by omega))).1 (by omega) (by omega) (by rw [hkk]; exact bq29)
          rw [hkk] at hde
          exact cn_iret hx hb hr hlk hw  (⟨by rw [hde], (((hx1.tr hx_f2).tr hx_f3).tr hx_f4).tr hx_f5⟩) (by omega) (by omega) d_DK_difference_43
  exact loop ((en - 0).toNat + 1) (0) (0) (0) _ _ _ _ (by omega) (by omega) (by omega) (fun j hj => by omega) (exo.rf) (hta) (htb) (by omega) (by omega) hw (lv_sub hl [0, 1, 2, 3] rfl)

