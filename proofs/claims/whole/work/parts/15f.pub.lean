/-- the bytes of a character in UTF-8 -/
def utf (c : Int) : List Int := if c < 128 then [c] else if c < 2048 then [192 + c / 64, 128 + c % 64] else if c < 65536 then [224 + c / 4096, 128 + c / 64 % 64, 128 + c % 64] else [240 + c / 262144, 128 + c / 4096 % 64, 128 + c / 64 % 64, 128 + c % 64]
def ecd (e c : Int) : List Int := if e = 0 then utf (if hi c = true ∨ lw c = true then 63 else c) else if e = 1 then (if c = 0 then [192, 128] else utf c) else if e = 2 then [c / 256, c % 256] else if e = 3 then [c % 256, c / 256] else [if c < 256 then c else 63]
def ecc (us : List Int) (e k : Int) : Int := if e = 0 ∨ e = 4 then chr us k else gt us k
/-- the bytes of a text from place k on -/
def ecl (us : List Int) (e : Int) : Nat → Int → List Int
  | 0, _ => []
  | m + 1, k => if (us.length : Int) ≤ k then [] else ecd e (ecc us e k) ++ ecl us e m (if 65536 ≤ ecc us e k then k + 2 else k + 1)
def enc (us : List Int) (e : Int) : List Int := ecl us e (us.length + 1) 0
theorem utf_rng {c : Int} (h0 : 0 ≤ c) (h1 : c < 1114112) : ∀ z ∈ utf c, 0 ≤ z ∧ z < 256 := by
  intro z hz
  unfold utf at hz
  split at hz
  · simp at hz; omega
  · split at hz
    · simp at hz; rcases hz with h | h <;> omega
    · split at hz
      · simp at hz; rcases hz with h | h | h <;> omega
      · simp at hz; rcases hz with h | h | h | h <;> omega
theorem utf_len (c : Int) : (utf c).length ≤ 4 ∧ (c < 65536 → (utf c).length ≤ 3) := by
  unfold utf
  split
  · simp
  · split
    · simp
    · split
      · simp
      · simp; omega
theorem ecd_rng {e c : Int} (he : 0 ≤ e ∧ e ≤ 4) (h0 : 0 ≤ c) (h1 : c < 1114112) (h2 : e ≠ 0 → e ≠ 4 → c < 65536) : ∀ z ∈ ecd e c, 0 ≤ z ∧ z < 256 := by
  intro z hz
  unfold ecd at hz
  split at hz
  · refine utf_rng ?_ ?_ z hz <;> split <;> omega
  · split at hz
    · split at hz
      · simp at hz; omega
      · exact utf_rng h0 h1 z hz
    · split at hz
      · simp at hz; rcases hz with h | h <;> omega
      · split at hz
        · simp at hz; rcases hz with h | h <;> omega
        · simp at hz; split at hz <;> omega
theorem ecc_rng {us : List Int} (h : ∀ u ∈ us, 0 ≤ u ∧ u < 65536) (e : Int) {k : Int} (h0 : 0 ≤ k) (h1 : k < (us.length : Int)) : 0 ≤ ecc us e k ∧ ecc us e k < 1114112 ∧ (e ≠ 0 → e ≠ 4 → ecc us e k < 65536) := by
  unfold ecc
  have h2 := chr_rng h k
  have h3 := chr_in h h0 h1
  have h4 := gt_rng h k
  have h5 := h _ (getD_mem (us := us) (k := k.toNat) (by omega))
  rw [← gt_in h0 h1] at h5
  split
  · omega
  · exact ⟨by omega, by omega, fun _ _ => by omega⟩
theorem ecl_all {us : List Int} (hu : ∀ u ∈ us, 0 ≤ u ∧ u < 65536) {e : Int} (he : 0 ≤ e ∧ e ≤ 4) : ∀ (m : Nat) (k : Int), 0 ≤ k → ((ecl us e m k).length : Int) ≤ 3 * (if (us.length : Int) ≤ k then 0 else (us.length : Int) - k) ∧ ∀ z ∈ ecl us e m k, 0 ≤ z ∧ z < 256
  | 0, k, h0 => ⟨by unfold ecl; simp; split <;> omega, fun z h => absurd h List.not_mem_nil⟩
  | m + 1, k, h0 => by
    unfold ecl
    by_cases h1 : (us.length : Int) ≤ k
    · rw [if_pos h1, if_pos h1]
      exact ⟨by simp, fun z h => absurd h List.not_mem_nil⟩
    · rw [if_neg h1, if_neg h1]
      have hr := ecc_rng hu e h0 (by omega : k < (us.length : Int))
      have h2 := ecd_rng he hr.1 hr.2.1 hr.2.2
      have hl : (ecd e (ecc us e k)).length ≤ (if 65536 ≤ ecc us e k then 4 else 3) := by
        have h7 := utf_len (if hi (ecc us e k) = true ∨ lw (ecc us e k) = true then 63 else ecc us e k)
        have h8 := utf_len (ecc us e k)
        unfold ecd
        by_cases e0 : e = 0
        · rw [if_pos e0]
          by_cases h6 : 65536 ≤ ecc us e k
          · rw [if_pos h6]
            exact h7.1
          · rw [if_neg h6]
            refine h7.2 ?_
            split <;> omega
        · rw [if_neg e0]
          split
          · split
            · simp; split <;> omega
            · split
              · exact h8.1
              · exact h8.2 (by omega)
          · split
            · simp; split <;> omega
            · split
              · simp; split <;> omega
              · simp; split <;> omega
      by_cases h5 : 65536 ≤ ecc us e k
      · rw [if_pos h5]
        rw [if_pos h5] at hl
        have ih := ecl_all hu he m (k + 2) (by omega)
        have hk1 : k + 1 < (us.length : Int) := by
          unfold ecc at h5
          split at h5
          · by_cases hp : pr us k = true
            · have h6 := pr_hi hp
              by_cases h9 : k + 1 < (us.length : Int)
              · exact h9
              · rw [gt_out (us := us) (k := k + 1) (by omega)] at h6
                omega
            · unfold chr at h5
              rw [if_neg hp] at h5
              have := gt_rng hu k
              omega
          · have := gt_rng hu k
            omega
        refine ⟨?_, mem_app h2 ih.2⟩
        have h9 := ih.1
        rw [List.length_append]
        split at h9 <;> omega
      · rw [if_neg h5]
        rw [if_neg h5] at hl
        have ih := ecl_all hu he m (k + 1) (by omega)
        refine ⟨?_, mem_app h2 ih.2⟩
        have h9 := ih.1
        rw [List.length_append]
        split at h9 <;> omega
theorem enc_all {us : List Int} (hu : ∀ u ∈ us, 0 ≤ u ∧ u < 65536) (hl : us.length ≤ 60) {e : Int} (he : 0 ≤ e ∧ e ≤ 4) : (enc us e).length ≤ 180 ∧ ∀ z ∈ enc us e, 0 ≤ z ∧ z < 256 := by
  have h := ecl_all hu he (us.length + 1) 0 (by omega)
  refine ⟨?_, h.2⟩
  have h1 := h.1
  unfold enc
  split at h1 <;> omega
set_option maxRecDepth 100000 in
set_option maxHeartbeats 4000000 in
theorem c_DC_init (l : Launch) (G : ct_G) (f : dw_M) (sz : Nat) (a : Nat) : cn l y_DC_init w_DC_init (1) (20) G f sz [.ref a] (fun v f' => v = none ∧ f' = f) (0) (0) := by
  refine cn_of (own := "TextDesk$Decoder") (nm := "<init>") (ds := "()V") (by decide) (Nat.le_of_ble_eq_true rfl) ?_
  intro p e s m args below meth c ls X hnm hr hlk hs0 hz hw hl
  have hx := X.1
  have hb := X.2.1
  have hl : lv_has ls 1 [(0, .ref a)] := hl
  refine lv_aload_n hx hb d_DC_init_0 rfl (lv_at hl 0 rfl) ?_
  refine di_obj X hl.1 mw_57 (Nat.le_of_ble_eq_true rfl) (Nat.le_of_ble_eq_true rfl) d_DC_init_1 ?_
  exact cn_vret hx hb hr hlk hw  (⟨rfl, rfl⟩) (Nat.le_refl _) (Nat.le_refl _) d_DC_init_4
set_option maxRecDepth 100000 in
set_option maxHeartbeats 4000000 in
theorem c_DK_init (l : Launch) (G : ct_G) (f : dw_M) (sz : Nat) (x : Nat) (h0 : f x = some (.inr (5, [.null, .null, .null, .null, .null, .null]))) : cn l y_DK_init w_DK_init (3) (71) G f sz [.ref x] (fun v f' => v = none ∧ dkI G f' x [] [] [] [] ∧ ∀ b, b ≠ x → (f b).isSome → f' b = f b) (9) (371) := by
  refine cn_of (own := "TextDesk") (nm := "<init>") (ds := "()V") (by decide) (Nat.le_of_ble_eq_true rfl) ?_
  intro p e s m args below meth c ls X hnm hr hlk hs0 hz hw hl
  have hx := X.1
  have hb := X.2.1
  have hl : lv_has ls 1 [(0, .ref x)] := hl
  have hG := X.E.ok
  have kp_f : ∀ b, b ≠ x → (f b).isSome → f b = f b := fun b _ _ => rfl
  refine lv_aload_n hx hb d_DK_init_0 rfl (lv_at hl 0 rfl) ?_
  refine di_obj X hl.1 mw_24 (Nat.le_of_ble_eq_true rfl) (Nat.le_of_ble_eq_true rfl) d_DK_init_1 ?_
  refine lv_aload_n hx hb d_DK_init_4 rfl (lv_at hl 0 rfl) ?_
  refine lv_bipush (v := iI (24)) hx hb d_DK_init_5 rfl ?_
  refine nq_DK_9 X hw (N := 24) rfl (by omega) (by show 0 + 1 ≤ 9; omega) (by show 0 + 24 ≤ 371; omega) d_DK_init_7 (fun ta H hq_ta hw => ?_)
  obtain ⟨f1, e_f1⟩ : ∃ g9 : dw_M, g9 = dw_up f ta (.inl (G.2.1 3, 24, .inr (.inr (.inr (.inr (fun _ => none)))))) := ⟨_, rfl⟩
  rw [← e_f1] at hw
  have k_f1_x : f1 x = some (.inr (5, [.null, .null, .null, .null, .null, .null])) := by rw [e_f1]; exact dw_keep h0 (dw_neN h0 hq_ta)
  have k_f1_ta : f1 ta = some (.inl (G.2.1 3, 24, .inr (.inr (.inr (.inr (fun _ => none)))))) := by rw [e_f1]; exact dw_up_self _ _ _
  have kp_f1 : ∀ b, b ≠ x → (f b).isSome → f1 b = f b := fun b h7 h8 => by rw [e_f1]; exact (dw_up_ne _ _ (fun q => by subst q; rw [kp_f _ h7 h8] at hq_ta; rw [hq_ta] at h8; cases h8)).trans (kp_f b h7 h8)
  refine pf_DK_11_DK X hnm hw k_f1_x (rfl) (rfl) d_DK_init_10 (fun H locs hw => ?_)
  obtain ⟨f2, e_f2⟩ : ∃ g9 : dw_M, g9 = dw_up f1 x (.inr (5, [.ref ta, .null, .null, .null, .null, .null])) := ⟨_, rfl⟩
  rw [← e_f2] at hw
  have k_f2_ta : f2 ta = some (.inl (G.2.1 3, 24, .inr (.inr (.inr (.inr (fun _ => none)))))) := by rw [e_f2]; exact dw_keep k_f1_ta (dw_ne k_f1_ta k_f1_x (by simp))
  have k_f2_x : f2 x = some (.inr (5, [.ref ta, .null, .null, .null, .null, .null])) := by rw [e_f2]; exact dw_up_self _ _ _
  have kp_f2 : ∀ b, b ≠ x → (f b).isSome → f2 b = f b := fun b h7 h8 => by rw [e_f2]; exact (dw_up_ne _ _ h7).trans (kp_f1 b h7 h8)
  refine lv_aload_n hx hb d_DK_init_13 rfl (lv_at hl 0 rfl) ?_
  refine lv_bipush (v := iI (16)) hx hb d_DK_init_14 rfl ?_
  refine nq_DK_9 X hw (N := 16) rfl (by omega) (by show 0 + 1 + 1 ≤ 9; omega) (by show 0 + 24 + 16 ≤ 371; omega) d_DK_init_16 (fun sa H hq_sa hw => ?_)
  obtain ⟨f3, e_f3⟩ : ∃ g9 : dw_M, g9 = dw_up f2 sa (.inl (G.2.1 3, 16, .inr (.inr (.inr (.inr (fun _ => none)))))) := ⟨_, rfl⟩
  rw [← e_f3] at hw
  have k_f3_x : f3 x = some (.inr (5, [.ref ta, .null, .null, .null, .null, .null])) := by rw [e_f3]; exact dw_keep k_f2_x (dw_neN k_f2_x hq_sa)
  have k_f3_ta : f3 ta = some (.inl (G.2.1 3, 24, .inr (.inr (.inr (.inr (fun _ => none)))))) := by rw [e_f3]; exact dw_keep k_f2_ta (dw_neN k_f2_ta hq_sa)
  have k_f3_sa : f3 sa = some (.inl (G.2.1 3, 16, .inr (.inr (.inr (.inr (fun _ => none)))))) := by rw [e_f3]; exact dw_up_self _ _ _
  have kp_f3 : ∀ b, b ≠ x → (f b).isSome → f3 b = f b := fun b h7 h8 => by rw [e_f3]; exact (dw_up_ne _ _ (fun q => by subst q; rw [kp_f2 _ h7 h8] at hq_sa; rw [hq_sa] at h8; cases h8)).trans (kp_f2 b h7 h8)
  have ne_ta_sa : ta ≠ sa := dw_neN k_f2_ta hq_sa
  refine pf_DK_15_DK X hnm hw k_f3_x (rfl) (rfl) d_DK_init_19 (fun H locs hw => ?_)
  obtain ⟨f4, e_f4⟩ : ∃ g9 : dw_M, g9 = dw_up f3 x (.inr (5, [.ref ta, .ref sa, .null, .null, .null, .null])) := ⟨_, rfl⟩
  rw [← e_f4] at hw
  have k_f4_ta : f4 ta = some (.inl (G.2.1 3, 24, .inr (.inr (.inr (.inr (fun _ => none)))))) := by rw [e_f4]; exact dw_keep k_f3_ta (dw_ne k_f3_ta k_f3_x (by simp))
  have k_f4_sa : f4 sa = some (.inl (G.2.1 3, 16, .inr (.inr (.inr (.inr (fun _ => none)))))) := by rw [e_f4]; exact dw_keep k_f3_sa (dw_ne k_f3_sa k_f3_x (by simp))
  have k_f4_x : f4 x = some (.inr (5, [.ref ta, .ref sa, .null, .null, .null, .null])) := by rw [e_f4]; exact dw_up_self _ _ _
  have kp_f4 : ∀ b, b ≠ x → (f b).isSome → f4 b = f b := fun b h7 h8 => by rw [e_f4]; exact (dw_up_ne _ _ h7).trans (kp_f3 b h7 h8)
  refine lv_aload_n hx hb d_DK_init_22 rfl (lv_at hl 0 rfl) ?_
  refine nw_DK_18 X hw (by show 0 + 1 + 1 + 1 ≤ 9; omega) (by show 0 + 24 + 16 + 3 ≤ 371; omega) d_DK_init_23 (fun yr H hq_yr hw => ?_)
  obtain ⟨f5, e_f5⟩ : ∃ g9 : dw_M, g9 = dw_up f4 yr (.inr (4, [.null, .int (iI 0), .int (iI 0)])) := ⟨_, rfl⟩
  rw [← e_f5] at hw
  have k_f5_x : f5 x = some (.inr (5, [.ref ta, .ref sa, .null, .null, .null, .null])) := by rw [e_f5]; exact dw_keep k_f4_x (dw_neN k_f4_x hq_yr)
  have k_f5_ta : f5 ta = some (.inl (G.2.1 3, 24, .inr (.inr (.inr (.inr (fun _ => none)))))) := by rw [e_f5]; exact dw_keep k_f4_ta (dw_neN k_f4_ta hq_yr)
  have k_f5_sa : f5 sa = some (.inl (G.2.1 3, 16, .inr (.inr (.inr (.inr (fun _ => none)))))) := by rw [e_f5]; exact dw_keep k_f4_sa (dw_neN k_f4_sa hq_yr)
  have k_f5_yr : f5 yr = some (.inr (4, [.null, .int (iI 0), .int (iI 0)])) := by rw [e_f5]; exact dw_up_self _ _ _
  have kp_f5 : ∀ b, b ≠ x → (f b).isSome → f5 b = f b := fun b h7 h8 => by rw [e_f5]; exact (dw_up_ne _ _ (fun q => by subst q; rw [kp_f4 _ h7 h8] at hq_yr; rw [hq_yr] at h8; cases h8)).trans (kp_f4 b h7 h8)
  have nn_yr : f yr = none := by
    cases h9 : f yr with
    | none => rfl
    | some z9 => exact absurd (kp_f4 yr (fun q => by subst q; rw [k_f4_x] at hq_yr; cases hq_yr) (by rw [h9]; rfl)) (by rw [hq_yr, h9]; exact fun q => by cases q)
  refine lv_dup hx hb d_DK_init_26 rfl ?_
  refine lv_sipush (v := iI (200)) hx hb d_DK_init_27 rfl ?_
  refine cs_DK_20 X hz hw hl.1 (c_RW_init l G f5 _ yr 200 (by omega) k_f5_yr) ⟨Nat.le_of_ble_eq_true rfl, Nat.le_of_ble_eq_true rfl⟩ ⟨by show 0 + 1 + 1 + 1 + 1 ≤ 9; omega, by show 0 + 24 + 16 + 3 + 200 ≤ 371; omega⟩ (Nat.le_of_ble_eq_true rfl) d_DK_init_30 (fun v f6 H locs hp hw hsz9 hkp9 hdm9 => ?_)
  obtain ⟨rfl, qy, hq_qy, ⟨g_qy, hc_qy, hd_qy, -⟩, hk_qy⟩ := hp
  refine W.eq (g2 := F0 m 33 ls [.ref yr, .ref x]) rfl ?_
  have k_f6_x : f6 x = some (.inr (5, [.ref ta, .ref sa, .null, .null, .null, .null])) := by rw [hk_qy x (dw_ne k_f5_x k_f5_yr (by simp)) (dw_neN k_f5_x hq_qy)]; exact k_f5_x
  have k_f6_ta : f6 ta = some (.inl (G.2.1 3, 24, .inr (.inr (.inr (.inr (fun _ => none)))))) := by rw [hk_qy ta (dw_ne k_f5_ta k_f5_yr (by simp)) (dw_neN k_f5_ta hq_qy)]; exact k_f5_ta
  have k_f6_sa : f6 sa = some (.inl (G.2.1 3, 16, .inr (.inr (.inr (.inr (fun _ => none)))))) := by rw [hk_qy sa (dw_ne k_f5_sa k_f5_yr (by simp)) (dw_neN k_f5_sa hq_qy)]; exact k_f5_sa
  have k_f6_yr : f6 yr = some (.inr (4, [.ref qy, .int (iI 0), .int (iI 0)])) := hc_qy
  have k_f6_qy : f6 qy = some (.inl (G.2.1 0, 200, .inl g_qy)) := hd_qy
  have kp_f6 : ∀ b, b ≠ x → (f b).isSome → f6 b = f b := fun b h7 h8 => by
    have h9 := kp_f5 b h7 h8
    rw [hk_qy b (fun q => by subst q; rw [nn_yr] at h8; cases h8) (fun q => by subst q; rw [hq_qy] at h9; rw [← h9] at h8; cases h8)]; exact h9
  refine pf_DK_23_DK X hnm hw k_f6_x (rfl) (rfl) d_DK_init_33 (fun H locs hw => ?_)
  obtain ⟨f7, e_f7⟩ : ∃ g9 : dw_M, g9 = dw_up f6 x (.inr (5, [.ref ta, .ref sa, .ref yr, .null, .null, .null])) := ⟨_, rfl⟩
  rw [← e_f7] at hw
  have k_f7_ta : f7 ta = some (.inl (G.2.1 3, 24, .inr (.inr (.inr (.inr (fun _ => none)))))) := by rw [e_f7]; exact dw_keep k_f6_ta (dw_ne k_f6_ta k_f6_x (by simp))
  have k_f7_sa : f7 sa = some (.inl (G.2.1 3, 16, .inr (.inr (.inr (.inr (fun _ => none)))))) := by rw [e_f7]; exact dw_keep k_f6_sa (dw_ne k_f6_sa k_f6_x (by simp))
  have k_f7_yr : f7 yr = some (.inr (4, [.ref qy, .int (iI 0), .int (iI 0)])) := by rw [e_f7]; exact dw_keep k_f6_yr (dw_ne k_f6_yr k_f6_x (by simp))
  have k_f7_qy : f7 qy = some (.inl (G.2.1 0, 200, .inl g_qy)) := by rw [e_f7]; exact dw_keep k_f6_qy (dw_ne k_f6_qy k_f6_x (by simp))
  have k_f7_x : f7 x = some (.inr (5, [.ref ta, .ref sa, .ref yr, .null, .null, .null])) := by rw [e_f7]; exact dw_up_self _ _ _
  have kp_f7 : ∀ b, b ≠ x → (f b).isSome → f7 b = f b := fun b h7 h8 => by rw [e_f7]; exact (dw_up_ne _ _ h7).trans (kp_f6 b h7 h8)
  refine lv_aload_n hx hb d_DK_init_36 rfl (lv_at hl 0 rfl) ?_
  refine nw_DK_27 X hw (by show 0 + 1 + 1 + 1 + 1 + 1 ≤ 9; omega) (by show 0 + 24 + 16 + 3 + 200 + 2 ≤ 371; omega) d_DK_init_37 (fun dc H hq_dc hw => ?_)
  obtain ⟨f8, e_f8⟩ : ∃ g9 : dw_M, g9 = dw_up f7 dc (.inr (0, [.int (iI 0), .int (iI 0)])) := ⟨_, rfl⟩
  rw [← e_f8] at hw
  have k_f8_x : f8 x = some (.inr (5, [.ref ta, .ref sa, .ref yr, .null, .null, .null])) := by rw [e_f8]; exact dw_keep k_f7_x (dw_neN k_f7_x hq_dc)
  have k_f8_ta : f8 ta = some (.inl (G.2.1 3, 24, .inr (.inr (.inr (.inr (fun _ => none)))))) := by rw [e_f8]; exact dw_keep k_f7_ta (dw_neN k_f7_ta hq_dc)
  have k_f8_sa : f8 sa = some (.inl (G.2.1 3, 16, .inr (.inr (.inr (.inr (fun _ => none)))))) := by rw [e_f8]; exact dw_keep k_f7_sa (dw_neN k_f7_sa hq_dc)
  have k_f8_yr : f8 yr = some (.inr (4, [.ref qy, .int (iI 0), .int (iI 0)])) := by rw [e_f8]; exact dw_keep k_f7_yr (dw_neN k_f7_yr hq_dc)
  have k_f8_qy : f8 qy = some (.inl (G.2.1 0, 200, .inl g_qy)) := by rw [e_f8]; exact dw_keep k_f7_qy (dw_neN k_f7_qy hq_dc)
  have k_f8_dc : f8 dc = some (.inr (0, [.int (iI 0), .int (iI 0)])) := by rw [e_f8]; exact dw_up_self _ _ _
  have kp_f8 : ∀ b, b ≠ x → (f b).isSome → f8 b = f b := fun b h7 h8 => by rw [e_f8]; exact (dw_up_ne _ _ (fun q => by subst q; rw [kp_f7 _ h7 h8] at hq_dc; rw [hq_dc] at h8; cases h8)).trans (kp_f7 b h7 h8)
  refine lv_dup hx hb d_DK_init_40 rfl ?_
  refine cs_DK_29 X hz hw hl.1 (c_DC_init l G f8 _ dc) ⟨Nat.le_of_ble_eq_true rfl, Nat.le_of_ble_eq_true rfl⟩ ⟨by show 0 + 1 + 1 + 1 + 1 + 1 + 0 ≤ 9; omega, by show 0 + 24 + 16 + 3 + 200 + 2 + 0 ≤ 371; omega⟩ (Nat.le_of_ble_eq_true rfl) d_DK_init_41 (fun v f9 H locs hp hw hsz9 hkp9 hdm9 => ?_)
  obtain ⟨rfl, hfe⟩ := hp
  rw [hfe] at hw
  refine W.eq (g2 := F0 m 44 ls [.ref dc, .ref x]) rfl ?_
  refine pf_DK_30_DK X hnm hw k_f8_x (rfl) (rfl) d_DK_init_44 (fun H locs hw => ?_)
  obtain ⟨f9, e_f9⟩ : ∃ g9 : dw_M, g9 = dw_up f8 x (.inr (5, [.ref ta, .ref sa, .ref yr, .ref dc, .null, .null])) := ⟨_, rfl⟩
  rw [← e_f9] at hw
  have k_f9_ta : f9 ta = some (.inl (G.2.1 3, 24, .inr (.inr (.inr (.inr (fun _ => none)))))) := by rw [e_f9]; exact dw_keep k_f8_ta (dw_ne k_f8_ta k_f8_x (by simp))
  have k_f9_sa : f9 sa = some (.inl (G.2.1 3, 16, .inr (.inr (.inr (.inr (fun _ => none)))))) := by rw [e_f9]; exact dw_keep k_f8_sa (dw_ne k_f8_sa k_f8_x (by simp))
  have k_f9_yr : f9 yr = some (.inr (4, [.ref qy, .int (iI 0), .int (iI 0)])) := by rw [e_f9]; exact dw_keep k_f8_yr (dw_ne k_f8_yr k_f8_x (by simp))
  have k_f9_qy : f9 qy = some (.inl (G.2.1 0, 200, .inl g_qy)) := by rw [e_f9]; exact dw_keep k_f8_qy (dw_ne k_f8_qy k_f8_x (by simp))
  have k_f9_dc : f9 dc = some (.inr (0, [.int (iI 0), .int (iI 0)])) := by rw [e_f9]; exact dw_keep k_f8_dc (dw_ne k_f8_dc k_f8_x (by simp))
  have k_f9_x : f9 x = some (.inr (5, [.ref ta, .ref sa, .ref yr, .ref dc, .null, .null])) := by rw [e_f9]; exact dw_up_self _ _ _
  have kp_f9 : ∀ b, b ≠ x → (f b).isSome → f9 b = f b := fun b h7 h8 => by rw [e_f9]; exact (dw_up_ne _ _ h7).trans (kp_f8 b h7 h8)
  refine lv_aload_n hx hb d_DK_init_47 rfl (lv_at hl 0 rfl) ?_
  refine nw_DK_18 X hw (by show 0 + 1 + 1 + 1 + 1 + 1 + 1 ≤ 9; omega) (by show 0 + 24 + 16 + 3 + 200 + 2 + 3 ≤ 371; omega) d_DK_init_48 (fun bu H hq_bu hw => ?_)
  obtain ⟨f10, e_f10⟩ : ∃ g9 : dw_M, g9 = dw_up f9 bu (.inr (4, [.null, .int (iI 0), .int (iI 0)])) := ⟨_, rfl⟩
  rw [← e_f10] at hw
  have k_f10_x : f10 x = some (.inr (5, [.ref ta, .ref sa, .ref yr, .ref dc, .null, .null])) := by rw [e_f10]; exact dw_keep k_f9_x (dw_neN k_f9_x hq_bu)
  have k_f10_ta : f10 ta = some (.inl (G.2.1 3, 24, .inr (.inr (.inr (.inr (fun _ => none)))))) := by rw [e_f10]; exact dw_keep k_f9_ta (dw_neN k_f9_ta hq_bu)
  have k_f10_sa : f10 sa = some (.inl (G.2.1 3, 16, .inr (.inr (.inr (.inr (fun _ => none)))))) := by rw [e_f10]; exact dw_keep k_f9_sa (dw_neN k_f9_sa hq_bu)
  have k_f10_yr : f10 yr = some (.inr (4, [.ref qy, .int (iI 0), .int (iI 0)])) := by rw [e_f10]; exact dw_keep k_f9_yr (dw_neN k_f9_yr hq_bu)
  have k_f10_qy : f10 qy = some (.inl (G.2.1 0, 200, .inl g_qy)) := by rw [e_f10]; exact dw_keep k_f9_qy (dw_neN k_f9_qy hq_bu)
  have k_f10_dc : f10 dc = some (.inr (0, [.int (iI 0), .int (iI 0)])) := by rw [e_f10]; exact dw_keep k_f9_dc (dw_neN k_f9_dc hq_bu)
  have k_f10_bu : f10 bu = some (.inr (4, [.null, .int (iI 0), .int (iI 0)])) := by rw [e_f10]; exact dw_up_self _ _ _
  have kp_f10 : ∀ b, b ≠ x → (f b).isSome → f10 b = f b := fun b h7 h8 => by rw [e_f10]; exact (dw_up_ne _ _ (fun q => by subst q; rw [kp_f9 _ h7 h8] at hq_bu; rw [hq_bu] at h8; cases h8)).trans (kp_f9 b h7 h8)
  have nn_bu : f bu = none := by
    cases h9 : f bu with
    | none => rfl
    | some z9 => exact absurd (kp_f9 bu (fun q => by subst q; rw [k_f9_x] at hq_bu; cases hq_bu) (by rw [h9]; rfl)) (by rw [hq_bu, h9]; exact fun q => by cases q)
  have ne_yr_bu : yr ≠ bu := dw_neN k_f9_yr hq_bu
  refine lv_dup hx hb d_DK_init_51 rfl ?_
  refine lv_bipush (v := iI (60)) hx hb d_DK_init_52 rfl ?_
  refine cs_DK_20 X hz hw hl.1 (c_RW_init l G f10 _ bu 60 (by omega) k_f10_bu) ⟨Nat.le_of_ble_eq_true rfl, Nat.le_of_ble_eq_true rfl⟩ ⟨by show 0 + 1 + 1 + 1 + 1 + 1 + 1 + 1 ≤ 9; omega, by show 0 + 24 + 16 + 3 + 200 + 2 + 3 + 60 ≤ 371; omega⟩ (Nat.le_of_ble_eq_true rfl) d_DK_init_54 (fun v f11 H locs hp hw hsz9 hkp9 hdm9 => ?_)
  obtain ⟨rfl, qb, hq_qb, ⟨g_qb, hc_qb, hd_qb, -⟩, hk_qb⟩ := hp
  refine W.eq (g2 := F0 m 57 ls [.ref bu, .ref x]) rfl ?_
  have k_f11_x : f11 x = some (.inr (5, [.ref ta, .ref sa, .ref yr, .ref dc, .null, .null])) := by rw [hk_qb x (dw_ne k_f10_x k_f10_bu (by simp)) (dw_neN k_f10_x hq_qb)]; exact k_f10_x
  have k_f11_ta : f11 ta = some (.inl (G.2.1 3, 24, .inr (.inr (.inr (.inr (fun _ => none)))))) := by rw [hk_qb ta (dw_ne k_f10_ta k_f10_bu (by simp)) (dw_neN k_f10_ta hq_qb)]; exact k_f10_ta
  have k_f11_sa : f11 sa = some (.inl (G.2.1 3, 16, .inr (.inr (.inr (.inr (fun _ => none)))))) := by rw [hk_qb sa (dw_ne k_f10_sa k_f10_bu (by simp)) (dw_neN k_f10_sa hq_qb)]; exact k_f10_sa
  have k_f11_yr : f11 yr = some (.inr (4, [.ref qy, .int (iI 0), .int (iI 0)])) := by rw [hk_qb yr (dw_ne k_f10_yr k_f10_bu (by simp)) (dw_neN k_f10_yr hq_qb)]; exact k_f10_yr
  have k_f11_qy : f11 qy = some (.inl (G.2.1 0, 200, .inl g_qy)) := by rw [hk_qb qy (dw_ne k_f10_qy k_f10_bu (by simp)) (dw_neN k_f10_qy hq_qb)]; exact k_f10_qy
  have k_f11_dc : f11 dc = some (.inr (0, [.int (iI 0), .int (iI 0)])) := by rw [hk_qb dc (dw_ne k_f10_dc k_f10_bu (by simp)) (dw_neN k_f10_dc hq_qb)]; exact k_f10_dc
  have k_f11_bu : f11 bu = some (.inr (4, [.ref qb, .int (iI 0), .int (iI 0)])) := hc_qb
  have k_f11_qb : f11 qb = some (.inl (G.2.1 0, 60, .inl g_qb)) := hd_qb
  have ne_qy_qb : qy ≠ qb := dw_neN k_f10_qy hq_qb
  have kp_f11 : ∀ b, b ≠ x → (f b).isSome → f11 b = f b := fun b h7 h8 => by
    have h9 := kp_f10 b h7 h8
    rw [hk_qb b (fun q => by subst q; rw [nn_bu] at h8; cases h8) (fun q => by subst q; rw [hq_qb] at h9; rw [← h9] at h8; cases h8)]; exact h9
  refine pf_DK_34_DK X hw k_f11_x (rfl) (rfl) d_DK_init_57 (fun H locs hw => ?_)
  obtain ⟨f12, e_f12⟩ : ∃ g9 : dw_M, g9 = dw_up f11 x (.inr (5, [.ref ta, .ref sa, .ref yr, .ref dc, .ref bu, .null])) := ⟨_, rfl⟩
  rw [← e_f12] at hw
  have k_f12_ta : f12 ta = some (.inl (G.2.1 3, 24, .inr (.inr (.inr (.inr (fun _ => none)))))) := by rw [e_f12]; exact dw_keep k_f11_ta (dw_ne k_f11_ta k_f11_x (by simp))
  have k_f12_sa : f12 sa = some (.inl (G.2.1 3, 16, .inr (.inr (.inr (.inr (fun _ => none)))))) := by rw [e_f12]; exact dw_keep k_f11_sa (dw_ne k_f11_sa k_f11_x (by simp))
  have k_f12_yr : f12 yr = some (.inr (4, [.ref qy, .int (iI 0), .int (iI 0)])) := by rw [e_f12]; exact dw_keep k_f11_yr (dw_ne k_f11_yr k_f11_x (by simp))
  have k_f12_qy : f12 qy = some (.inl (G.2.1 0, 200, .inl g_qy)) := by rw [e_f12]; exact dw_keep k_f11_qy (dw_ne k_f11_qy k_f11_x (by simp))
  have k_f12_dc : f12 dc = some (.inr (0, [.int (iI 0), .int (iI 0)])) := by rw [e_f12]; exact dw_keep k_f11_dc (dw_ne k_f11_dc k_f11_x (by simp))
  have k_f12_bu : f12 bu = some (.inr (4, [.ref qb, .int (iI 0), .int (iI 0)])) := by rw [e_f12]; exact dw_keep k_f11_bu (dw_ne k_f11_bu k_f11_x (by simp))
  have k_f12_qb : f12 qb = some (.inl (G.2.1 0, 60, .inl g_qb)) := by rw [e_f12]; exact dw_keep k_f11_qb (dw_ne k_f11_qb k_f11_x (by simp))
  have k_f12_x : f12 x = some (.inr (5, [.ref ta, .ref sa, .ref yr, .ref dc, .ref bu, .null])) := by rw [e_f12]; exact dw_up_self _ _ _
  have kp_f12 : ∀ b, b ≠ x → (f b).isSome → f12 b = f b := fun b h7 h8 => by rw [e_f12]; exact (dw_up_ne _ _ h7).trans (kp_f11 b h7 h8)
  refine lv_aload_n hx hb d_DK_init_60 rfl (lv_at hl 0 rfl) ?_
  refine nw_DK_18 X hw (by show 0 + 1 + 1 + 1 + 1 + 1 + 1 + 1 + 1 ≤ 9; omega) (by show 0 + 24 + 16 + 3 + 200 + 2 + 3 + 60 + 3 ≤ 371; omega) d_DK_init_61 (fun dr H hq_dr hw => ?_)
  obtain ⟨f13, e_f13⟩ : ∃ g9 : dw_M, g9 = dw_up f12 dr (.inr (4, [.null, .int (iI 0), .int (iI 0)])) := ⟨_, rfl⟩
  rw [← e_f13] at hw
  have k_f13_x : f13 x = some (.inr (5, [.ref ta, .ref sa, .ref yr, .ref dc, .ref bu, .null])) := by rw [e_f13]; exact dw_keep k_f12_x (dw_neN k_f12_x hq_dr)
  have k_f13_ta : f13 ta = some (.inl (G.2.1 3, 24, .inr (.inr (.inr (.inr (fun _ => none)))))) := by rw [e_f13]; exact dw_keep k_f12_ta (dw_neN k_f12_ta hq_dr)
  have k_f13_sa : f13 sa = some (.inl (G.2.1 3, 16, .inr (.inr (.inr (.inr (fun _ => none)))))) := by rw [e_f13]; exact dw_keep k_f12_sa (dw_neN k_f12_sa hq_dr)
  have k_f13_yr : f13 yr = some (.inr (4, [.ref qy, .int (iI 0), .int (iI 0)])) := by rw [e_f13]; exact dw_keep k_f12_yr (dw_neN k_f12_yr hq_dr)
  have k_f13_qy : f13 qy = some (.inl (G.2.1 0, 200, .inl g_qy)) := by rw [e_f13]; exact dw_keep k_f12_qy (dw_neN k_f12_qy hq_dr)
  have k_f13_dc : f13 dc = some (.inr (0, [.int (iI 0), .int (iI 0)])) := by rw [e_f13]; exact dw_keep k_f12_dc (dw_neN k_f12_dc hq_dr)
  have k_f13_bu : f13 bu = some (.inr (4, [.ref qb, .int (iI 0), .int (iI 0)])) := by rw [e_f13]; exact dw_keep k_f12_bu (dw_neN k_f12_bu hq_dr)
  have k_f13_qb : f13 qb = some (.inl (G.2.1 0, 60, .inl g_qb)) := by rw [e_f13]; exact dw_keep k_f12_qb (dw_neN k_f12_qb hq_dr)
  have k_f13_dr : f13 dr = some (.inr (4, [.null, .int (iI 0), .int (iI 0)])) := by rw [e_f13]; exact dw_up_self _ _ _
  have kp_f13 : ∀ b, b ≠ x → (f b).isSome → f13 b = f b := fun b h7 h8 => by rw [e_f13]; exact (dw_up_ne _ _ (fun q => by subst q; rw [kp_f12 _ h7 h8] at hq_dr; rw [hq_dr] at h8; cases h8)).trans (kp_f12 b h7 h8)
  have nn_dr : f dr = none := by
    cases h9 : f dr with
    | none => rfl
    | some z9 => exact absurd (kp_f12 dr (fun q => by subst q; rw [k_f12_x] at hq_dr; cases hq_dr) (by rw [h9]; rfl)) (by rw [hq_dr, h9]; exact fun q => by cases q)
  have ne_yr_dr : yr ≠ dr := dw_neN k_f12_yr hq_dr
  have ne_bu_dr : bu ≠ dr := dw_neN k_f12_bu hq_dr
  refine lv_dup hx hb d_DK_init_64 rfl ?_
  refine lv_bipush (v := iI (60)) hx hb d_DK_init_65 rfl ?_
  refine cs_DK_20 X hz hw hl.1 (c_RW_init l G f13 _ dr 60 (by omega) k_f13_dr) ⟨Nat.le_of_ble_eq_true rfl, Nat.le_of_ble_eq_true rfl⟩ ⟨by show 0 + 1 + 1 + 1 + 1 + 1 + 1 + 1 + 1 + 1 ≤ 9; omega, by show 0 + 24 + 16 + 3 + 200 + 2 + 3 + 60 + 3 + 60 ≤ 371; omega⟩ (Nat.le_of_ble_eq_true rfl) d_DK_init_67 (fun v f14 H locs hp hw hsz9 hkp9 hdm9 => ?_)
  obtain ⟨rfl, qd, hq_qd, ⟨g_qd, hc_qd, hd_qd, -⟩, hk_qd⟩ := hp
  refine W.eq (g2 := F0 m 70 ls [.ref dr, .ref x]) rfl ?_
  have k_f14_x : f14 x = some (.inr (5, [.ref ta, .ref sa, .ref yr, .ref dc, .ref bu, .null])) := by rw [hk_qd x (dw_ne k_f13_x k_f13_dr (by simp)) (dw_neN k_f13_x hq_qd)]; exact k_f13_x
  have k_f14_ta : f14 ta = some (.inl (G.2.1 3, 24, .inr (.inr (.inr (.inr (fun _ => none)))))) := by rw [hk_qd ta (dw_ne k_f13_ta k_f13_dr (by simp)) (dw_neN k_f13_ta hq_qd)]; exact k_f13_ta
  have k_f14_sa : f14 sa = some (.inl (G.2.1 3, 16, .inr (.inr (.inr (.inr (fun _ => none)))))) := by rw [hk_qd sa (dw_ne k_f13_sa k_f13_dr (by simp)) (dw_neN k_f13_sa hq_qd)]; exact k_f13_sa
  have k_f14_yr : f14 yr = some (.inr (4, [.ref qy, .int (iI 0), .int (iI 0)])) := by rw [hk_qd yr (dw_ne k_f13_yr k_f13_dr (by simp)) (dw_neN k_f13_yr hq_qd)]; exact k_f13_yr
  have k_f14_qy : f14 qy = some (.inl (G.2.1 0, 200, .inl g_qy)) := by rw [hk_qd qy (dw_ne k_f13_qy k_f13_dr (by simp)) (dw_neN k_f13_qy hq_qd)]; exact k_f13_qy
  have k_f14_dc : f14 dc = some (.inr (0, [.int (iI 0), .int (iI 0)])) := by rw [hk_qd dc (dw_ne k_f13_dc k_f13_dr (by simp)) (dw_neN k_f13_dc hq_qd)]; exact k_f13_dc
  have k_f14_bu : f14 bu = some (.inr (4, [.ref qb, .int (iI 0), .int (iI 0)])) := by rw [hk_qd bu (dw_ne k_f13_bu k_f13_dr (by simp)) (dw_neN k_f13_bu hq_qd)]; exact k_f13_bu
  have k_f14_qb : f14 qb = some (.inl (G.2.1 0, 60, .inl g_qb)) := by rw [hk_qd qb (dw_ne k_f13_qb k_f13_dr (by simp)) (dw_neN k_f13_qb hq_qd)]; exact k_f13_qb
  have k_f14_dr : f14 dr = some (.inr (4, [.ref qd, .int (iI 0), .int (iI 0)])) := hc_qd
  have k_f14_qd : f14 qd = some (.inl (G.2.1 0, 60, .inl g_qd)) := hd_qd
  have ne_qy_qd : qy ≠ qd := dw_neN k_f13_qy hq_qd
  have ne_qb_qd : qb ≠ qd := dw_neN k_f13_qb hq_qd
  have kp_f14 : ∀ b, b ≠ x → (f b).isSome → f14 b = f b := fun b h7 h8 => by
    have h9 := kp_f13 b h7 h8
    rw [hk_qd b (fun q => by subst q; rw [nn_dr] at h8; cases h8) (fun q => by subst q; rw [hq_qd] at h9; rw [← h9] at h8; cases h8)]; exact h9
  refine pf_DK_37_DK X hw k_f14_x (rfl) (rfl) d_DK_init_70 (fun H locs hw => ?_)
  obtain ⟨f15, e_f15⟩ : ∃ g9 : dw_M, g9 = dw_up f14 x (.inr (5, [.ref ta, .ref sa, .ref yr, .ref dc, .ref bu, .ref dr])) := ⟨_, rfl⟩
  rw [← e_f15] at hw
  have k_f15_ta : f15 ta = some (.inl (G.2.1 3, 24, .inr (.inr (.inr (.inr (fun _ => none)))))) := by rw [e_f15]; exact dw_keep k_f14_ta (dw_ne k_f14_ta k_f14_x (by simp))
  have k_f15_sa : f15 sa = some (.inl (G.2.1 3, 16, .inr (.inr (.inr (.inr (fun _ => none)))))) := by rw [e_f15]; exact dw_keep k_f14_sa (dw_ne k_f14_sa k_f14_x (by simp))
  have k_f15_yr : f15 yr = some (.inr (4, [.ref qy, .int (iI 0), .int (iI 0)])) := by rw [e_f15]; exact dw_keep k_f14_yr (dw_ne k_f14_yr k_f14_x (by simp))
  have k_f15_qy : f15 qy = some (.inl (G.2.1 0, 200, .inl g_qy)) := by rw [e_f15]; exact dw_keep k_f14_qy (dw_ne k_f14_qy k_f14_x (by simp))
  have k_f15_dc : f15 dc = some (.inr (0, [.int (iI 0), .int (iI 0)])) := by rw [e_f15]; exact dw_keep k_f14_dc (dw_ne k_f14_dc k_f14_x (by simp))
  have k_f15_bu : f15 bu = some (.inr (4, [.ref qb, .int (iI 0), .int (iI 0)])) := by rw [e_f15]; exact dw_keep k_f14_bu (dw_ne k_f14_bu k_f14_x (by simp))
  have k_f15_qb : f15 qb = some (.inl (G.2.1 0, 60, .inl g_qb)) := by rw [e_f15]; exact dw_keep k_f14_qb (dw_ne k_f14_qb k_f14_x (by simp))
  have k_f15_dr : f15 dr = some (.inr (4, [.ref qd, .int (iI 0), .int (iI 0)])) := by rw [e_f15]; exact dw_keep k_f14_dr (dw_ne k_f14_dr k_f14_x (by simp))
  have k_f15_qd : f15 qd = some (.inl (G.2.1 0, 60, .inl g_qd)) := by rw [e_f15]; exact dw_keep k_f14_qd (dw_ne k_f14_qd k_f14_x (by simp))
  have k_f15_x : f15 x = some (.inr (5, [.ref ta, .ref sa, .ref yr, .ref dc, .ref bu, .ref dr])) := by rw [e_f15]; exact dw_up_self _ _ _
  have kp_f15 : ∀ b, b ≠ x → (f b).isSome → f15 b = f b := fun b h7 h8 => by rw [e_f15]; exact (dw_up_ne _ _ h7).trans (kp_f14 b h7 h8)
  exact cn_vret hx hb hr hlk hw  (⟨rfl, ⟨ta, sa, yr, dc, bu, dr, qy, qb, qd, _, _, iI 0, iI 0, [], 0, 0, 0, k_f15_x, k_f15_ta, k_f15_sa, k_f15_dc, ⟨by simp, by simp, ne_ta_sa, fun _ _ => rfl, fun _ _ => rfl⟩, fun i hi => by simp at hi, fun i hi => by simp at hi, ⟨⟨g_qy, k_f15_yr, k_f15_qy, by simp, by omega, fun k h => by simp at h⟩, ⟨g_qb, k_f15_bu, k_f15_qb, by simp, by omega, fun k h => by simp at h⟩, ⟨g_qd, k_f15_dr, k_f15_qd, by simp, by omega, fun k h => by simp at h⟩⟩, ⟨ne_bu_dr, ne_yr_bu.symm, ne_yr_dr.symm, ne_qb_qd, ne_qy_qb.symm, ne_qy_qd.symm⟩, mem_nil, mem_nil⟩, kp_f15⟩) (Nat.le_refl _) (Nat.le_refl _) d_DK_init_73
set_option maxRecDepth 100000 in
set_option maxHeartbeats 4000000 in
theorem c_EN_writeUtf8 (l : Launch) (G : ct_G) (f : dw_M) (sz : Nat) (cd : Int) (hc0 : 0 ≤ cd) (hc1 : cd < 1114112) (r q n : Nat) (us : List Int) (sp : Int) (hrw : rw G f r q n us sp) : cn l y_EN_writeUtf8 w_EN_writeUtf8 (1) (21) G f sz [.int (iI cd), .ref r] (fun v f' => v = none ∧ rw G f' r q n (apl1 n us (utf cd)) (apl2 n us (utf cd) sp) ∧ ∀ b, b ≠ r → b ≠ q → f' b = f b) (0) (0) := by
  refine cn_of (own := "TextDesk$Encoder") (nm := "writeUtf8") (ds := "(ILTextDesk$Row;)V") (by decide) (Nat.le_of_ble_eq_true rfl) ?_
  intro p e s m args below meth c ls X hnm hr hlk hs0 hz hw hl
  have hx := X.1
  have hb := X.2.1
  have hl : lv_has ls 2 [(0, .int (iI cd)), (1, .ref r)] := hl
  have hn0 := hrw.len.1
  have hy0 : rw G f r q n (apl1 n us []) (apl2 n us [] sp) := by rw [apl1_nil, apl2_nil hn0]; exact hrw
  refine lv_iload_n hx hb d_EN_writeUtf8_0 rfl (lv_at hl 0 rfl) ?_
  refine lv_sipush (v := iI (128)) hx hb d_EN_writeUtf8_1 rfl ?_
  refine di_icmp_ge (tgt := 15) hx hb d_EN_writeUtf8_4 (by decide) ⟨by omega, by omega⟩ ⟨by omega, by omega⟩ (fun bq4 => ?_) (fun bq4 => ?_)
  · refine lv_iload_n hx hb d_EN_writeUtf8_15 rfl (lv_at hl 0 rfl) ?_
    refine lv_sipush (v := iI (2048)) hx hb d_EN_writeUtf8_16 rfl ?_
    refine di_icmp_ge (tgt := 49) hx hb d_EN_writeUtf8_19 (by decide) ⟨by omega, by omega⟩ ⟨by omega, by omega⟩ (fun bq19 => ?_) (fun bq19 => ?_)
    · refine lv_iload_n hx hb d_EN_writeUtf8_49 rfl (lv_at hl 0 rfl) ?_
      refine lv_ldc (v := iI (65536)) hx hb X.own (X.hts _ mw_549) d_EN_writeUtf8_50 ?_
      refine di_icmp_ge (tgt := 98) hx hb d_EN_writeUtf8_52 (by decide) ⟨by omega, by omega⟩ ⟨by omega, by omega⟩ (fun bq52 => ?_) (fun bq52 => ?_)
      · refine lv_aload_n hx hb d_EN_writeUtf8_98 rfl (lv_at hl 1 rfl) ?_
        refine lv_sipush (v := iI (240)) hx hb d_EN_writeUtf8_99 rfl ?_
        refine lv_iload_n hx hb d_EN_writeUtf8_102 rfl (lv_at hl 0 rfl) ?_
        refine lv_ldc (v := iI (262144)) hx hb X.own (X.hts _ mw_550) d_EN_writeUtf8_103 ?_
        refine di_div hx hb d_EN_writeUtf8_105 (by omega) (by omega) (by omega) (by omega) ?_
        refine di_add hx hb d_EN_writeUtf8_106 ?_
        refine cs_EN_44 X hz hw hl.1 hy0.choose_spec.1 (c_RW_append l G f _ r q n (apl1 n us []) (apl2 n us [] sp) (240 + cd / 262144) hy0) ⟨Nat.le_of_ble_eq_true rfl, Nat.le_of_ble_eq_true rfl⟩ ⟨by show 0 + 0 ≤ 0; omega, by show 0 + 0 ≤ 0; omega⟩ (Nat.le_of_ble_eq_true rfl) d_EN_writeUtf8_107 (fun v f1 H locs hp hw hsz9 hkp9 hdm9 => ?_)
        obtain ⟨rfl, hr_f1, hk_f1⟩ := hp
        rw [apl1_snoc _ hn0, apl2_snoc _ hn0] at hr_f1
        refine W.eq (g2 := F0 m 110 ls []) rfl ?_
        have hy_f1 : rw G f1 r q n (apl1 n us [240 + cd / 262144]) (apl2 n us [240 + cd / 262144] sp) := hr_f1
        have hz_f1 : ∀ b, b ≠ r → b ≠ q → f1 b = f b := fun b h7 h8 => hk_f1 b h7 h8
        refine lv_aload_n hx hb d_EN_writeUtf8_110 rfl (lv_at hl 1 rfl) ?_
        refine lv_sipush (v := iI (128)) hx hb d_EN_writeUtf8_111 rfl ?_
        refine lv_iload_n hx hb d_EN_writeUtf8_114 rfl (lv_at hl 0 rfl) ?_
        refine lv_sipush (v := iI (4096)) hx hb d_EN_writeUtf8_115 rfl ?_
        refine di_div hx hb d_EN_writeUtf8_118 (by omega) (by omega) (by omega) (by omega) ?_
        refine lv_bipush (v := iI (64)) hx hb d_EN_writeUtf8_119 rfl ?_
        refine di_rem hx hb d_EN_writeUtf8_121 (by omega) (by omega) (by omega) (by omega) ?_
        refine di_add hx hb d_EN_writeUtf8_122 ?_
        refine cs_EN_44 X hz hw hl.1 hy_f1.choose_spec.1 (c_RW_append l G f1 _ r q n (apl1 n us [240 + cd / 262144]) (apl2 n us [240 + cd / 262144] sp) (128 + cd / 4096 % 64) hy_f1) ⟨Nat.le_of_ble_eq_true rfl, Nat.le_of_ble_eq_true rfl⟩ ⟨by show 0 + 0 ≤ 0; omega, by show 0 + 0 ≤ 0; omega⟩ (Nat.le_of_ble_eq_true rfl) d_EN_writeUtf8_123 (fun v f2 H locs hp hw hsz9 hkp9 hdm9 => ?_)
        obtain ⟨rfl, hr_f2, hk_f2⟩ := hp
        rw [apl1_snoc _ hn0, apl2_snoc _ hn0] at hr_f2
        refine W.eq (g2 := F0 m 126 ls []) rfl ?_
        have hy_f2 : rw G f2 r q n (apl1 n us [240 + cd / 262144, 128 + cd / 4096 % 64]) (apl2 n us [240 + cd / 262144, 128 + cd / 4096 % 64] sp) := hr_f2
        have hz_f2 : ∀ b, b ≠ r → b ≠ q → f2 b = f b := fun b h7 h8 => (hk_f2 b h7 h8).trans (hz_f1 b h7 h8)
        refine lv_aload_n hx hb d_EN_writeUtf8_126 rfl (lv_at hl 1 rfl) ?_
        refine lv_sipush (v := iI (128)) hx hb d_EN_writeUtf8_127 rfl ?_
        refine lv_iload_n hx hb d_EN_writeUtf8_130 rfl (lv_at hl 0 rfl) ?_
        refine lv_bipush (v := iI (64)) hx hb d_EN_writeUtf8_131 rfl ?_
        refine di_div hx hb d_EN_writeUtf8_133 (by omega) (by omega) (by omega) (by omega) ?_
        refine lv_bipush (v := iI (64)) hx hb d_EN_writeUtf8_134 rfl ?_
        refine di_rem hx hb d_EN_writeUtf8_136 (by omega) (by omega) (by omega) (by omega) ?_
        refine di_add hx hb d_EN_writeUtf8_137 ?_
        refine cs_EN_44 X hz hw hl.1 hy_f2.choose_spec.1 (c_RW_append l G f2 _ r q n (apl1 n us [240 + cd / 262144, 128 + cd / 4096 % 64]) (apl2 n us [240 + cd / 262144, 128 + cd / 4096 % 64] sp) (128 + cd / 64 % 64) hy_f2) ⟨Nat.le_of_ble_eq_true rfl, Nat.le_of_ble_eq_true rfl⟩ ⟨by show 0 + 0 ≤ 0; omega, by show 0 + 0 ≤ 0; omega⟩ (Nat.le_of_ble_eq_true rfl) d_EN_writeUtf8_138 (fun v f3 H locs hp hw hsz9 hkp9 hdm9 => ?_)
        obtain ⟨rfl, hr_f3, hk_f3⟩ := hp
        rw [apl1_snoc _ hn0, apl2_snoc _ hn0] at hr_f3
        refine W.eq (g2 := F0 m 141 ls []) rfl ?_
        have hy_f3 : rw G f3 r q n (apl1 n us [240 + cd / 262144, 128 + cd / 4096 % 64, 128 + cd / 64 % 64]) (apl2 n us [240 + cd / 262144, 128 + cd / 4096 % 64, 128 + cd / 64 % 64] sp) := hr_f3
        have hz_f3 : ∀ b, b ≠ r → b ≠ q → f3 b = f b := fun b h7 h8 => (hk_f3 b h7 h8).trans (hz_f2 b h7 h8)
        refine lv_aload_n hx hb d_EN_writeUtf8_141 rfl (lv_at hl 1 rfl) ?_
        refine lv_sipush (v := iI (128)) hx hb d_EN_writeUtf8_142 rfl ?_
        refine lv_iload_n hx hb d_EN_writeUtf8_145 rfl (lv_at hl 0 rfl) ?_
        refine lv_bipush (v := iI (64)) hx hb d_EN_writeUtf8_146 rfl ?_
        refine di_rem hx hb d_EN_writeUtf8_148 (by omega) (by omega) (by omega) (by omega) ?_
        refine di_add hx hb d_EN_writeUtf8_149 ?_
        refine cs_EN_44 X hz hw hl.1 hy_f3.choose_spec.1 (c_RW_append l G f3 _ r q n (apl1 n us [240 + cd / 262144, 128 + cd / 4096 % 64, 128 + cd / 64 % 64]) (apl2 n us [240 + cd / 262144, 128 + cd / 4096 % 64, 128 + cd / 64 % 64] sp) (128 + cd % 64) hy_f3) ⟨Nat.le_of_ble_eq_true rfl, Nat.le_of_ble_eq_true rfl⟩ ⟨by show 0 + 0 ≤ 0; omega, by show 0 + 0 ≤ 0; omega⟩ (Nat.le_of_ble_eq_true rfl) d_EN_writeUtf8_150 (fun v f4 H locs hp hw hsz9 hkp9 hdm9 => ?_)
        obtain ⟨rfl, hr_f4, hk_f4⟩ := hp
        rw [apl1_snoc _ hn0, apl2_snoc _ hn0] at hr_f4
        refine W.eq (g2 := F0 m 153 ls []) rfl ?_
        have hy_f4 : rw G f4 r q n (apl1 n us [240 + cd / 262144, 128 + cd / 4096 % 64, 128 + cd / 64 % 64, 128 + cd % 64]) (apl2 n us [240 + cd / 262144, 128 + cd / 4096 % 64, 128 + cd / 64 % 64, 128 + cd % 64] sp) := hr_f4
        have hz_f4 : ∀ b, b ≠ r → b ≠ q → f4 b = f b := fun b h7 h8 => (hk_f4 b h7 h8).trans (hz_f3 b h7 h8)
        have hu : utf cd = [240 + cd / 262144, 128 + cd / 4096 % 64, 128 + cd / 64 % 64, 128 + cd % 64] := by rw [utf, if_neg (by omega), if_neg (by omega), if_neg (by omega)]
        exact cn_vret hx hb hr hlk hw  (⟨rfl, by rw [hu]; exact hy_f4, hz_f4⟩) (Nat.le_refl _) (Nat.le_refl _) d_EN_writeUtf8_153
      · refine lv_aload_n hx hb d_EN_writeUtf8_55 rfl (lv_at hl 1 rfl) ?_
        refine lv_sipush (v := iI (224)) hx hb d_EN_writeUtf8_56 rfl ?_
        refine lv_iload_n hx hb d_EN_writeUtf8_59 rfl (lv_at hl 0 rfl) ?_
        refine lv_sipush (v := iI (4096)) hx hb d_EN_writeUtf8_60 rfl ?_
        refine di_div hx hb d_EN_writeUtf8_63 (by omega) (by omega) (by omega) (by omega) ?_
        refine di_add hx hb d_EN_writeUtf8_64 ?_
        refine cs_EN_44 X hz hw hl.1 hy0.choose_spec.1 (c_RW_append l G f _ r q n (apl1 n us []) (apl2 n us [] sp) (224 + cd / 4096) hy0) ⟨Nat.le_of_ble_eq_true rfl, Nat.le_of_ble_eq_true rfl⟩ ⟨by show 0 + 0 ≤ 0; omega, by show 0 + 0 ≤ 0; omega⟩ (Nat.le_of_ble_eq_true rfl) d_EN_writeUtf8_65 (fun v f1 H locs hp hw hsz9 hkp9 hdm9 => ?_)
        obtain ⟨rfl, hr_f1, hk_f1⟩ := hp
        rw [apl1_snoc _ hn0, apl2_snoc _ hn0] at hr_f1
        refine W.eq (g2 := F0 m 68 ls []) rfl ?_
        have hy_f1 : rw G f1 r q n (apl1 n us [224 + cd / 4096]) (apl2 n us [224 + cd / 4096] sp) := hr_f1
        have hz_f1 : ∀ b, b ≠ r → b ≠ q → f1 b = f b := fun b h7 h8 => hk_f1 b h7 h8
        refine lv_aload_n hx hb d_EN_writeUtf8_68 rfl (lv_at hl 1 rfl) ?_
        refine lv_sipush (v := iI (128)) hx hb d_EN_writeUtf8_69 rfl ?_
        refine lv_iload_n hx hb d_EN_writeUtf8_72 rfl (lv_at hl 0 rfl) ?_
        refine lv_bipush (v := iI (64)) hx hb d_EN_writeUtf8_73 rfl ?_
        refine di_div hx hb d_EN_writeUtf8_75 (by omega) (by omega) (by omega) (by omega) ?_
        refine lv_bipush (v := iI (64)) hx hb d_EN_writeUtf8_76 rfl ?_
        refine di_rem hx hb d_EN_writeUtf8_78 (by omega) (by omega) (by omega) (by omega) ?_
        refine di_add hx hb d_EN_writeUtf8_79 ?_
        refine cs_EN_44 X hz hw hl.1 hy_f1.choose_spec.1 (c_RW_append l G f1 _ r q n (apl1 n us [224 + cd / 4096]) (apl2 n us [224 + cd / 4096] sp) (128 + cd / 64 % 64) hy_f1) ⟨Nat.le_of_ble_eq_true rfl, Nat.le_of_ble_eq_true rfl⟩ ⟨by show 0 + 0 ≤ 0; omega, by show 0 + 0 ≤ 0; omega⟩ (Nat.le_of_ble_eq_true rfl) d_EN_writeUtf8_80 (fun v f2 H locs hp hw hsz9 hkp9 hdm9 => ?_)
        obtain ⟨rfl, hr_f2, hk_f2⟩ := hp
        rw [apl1_snoc _ hn0, apl2_snoc _ hn0] at hr_f2
        refine W.eq (g2 := F0 m 83 ls []) rfl ?_
        have hy_f2 : rw G f2 r q n (apl1 n us [224 + cd / 4096, 128 + cd / 64 % 64]) (apl2 n us [224 + cd / 4096, 128 + cd / 64 % 64] sp) := hr_f2
        have hz_f2 : ∀ b, b ≠ r → b ≠ q → f2 b = f b := fun b h7 h8 => (hk_f2 b h7 h8).trans (hz_f1 b h7 h8)
        refine lv_aload_n hx hb d_EN_writeUtf8_83 rfl (lv_at hl 1 rfl) ?_
        refine lv_sipush (v := iI (128)) hx hb d_EN_writeUtf8_84 rfl ?_
        refine lv_iload_n hx hb d_EN_writeUtf8_87 rfl (lv_at hl 0 rfl) ?_
        refine lv_bipush (v := iI (64)) hx hb d_EN_writeUtf8_88 rfl ?_
        refine di_rem hx hb d_EN_writeUtf8_90 (by omega) (by omega) (by omega) (by omega) ?_
        refine di_add hx hb d_EN_writeUtf8_91 ?_
        refine cs_EN_44 X hz hw hl.1 hy_f2.choose_spec.1 (c_RW_append l G f2 _ r q n (apl1 n us [224 + cd / 4096, 128 + cd / 64 % 64]) (apl2 n us [224 + cd / 4096, 128 + cd / 64 % 64] sp) (128 + cd % 64) hy_f2) ⟨Nat.le_of_ble_eq_true rfl, Nat.le_of_ble_eq_true rfl⟩ ⟨by show 0 + 0 ≤ 0; omega, by show 0 + 0 ≤ 0; omega⟩ (Nat.le_of_ble_eq_true rfl) d_EN_writeUtf8_92 (fun v f3 H locs hp hw hsz9 hkp9 hdm9 => ?_)
        obtain ⟨rfl, hr_f3, hk_f3⟩ := hp
        rw [apl1_snoc _ hn0, apl2_snoc _ hn0] at hr_f3
        refine W.eq (g2 := F0 m 95 ls []) rfl ?_
        have hy_f3 : rw G f3 r q n (apl1 n us [224 + cd / 4096, 128 + cd / 64 % 64, 128 + cd % 64]) (apl2 n us [224 + cd / 4096, 128 + cd / 64 % 64, 128 + cd % 64] sp) := hr_f3
        have hz_f3 : ∀ b, b ≠ r → b ≠ q → f3 b = f b := fun b h7 h8 => (hk_f3 b h7 h8).trans (hz_f2 b h7 h8)
        refine lv_goto (tgt := 153) hx hb d_EN_writeUtf8_95 (by decide) ?_
        have hu : utf cd = [224 + cd / 4096, 128 + cd / 64 % 64, 128 + cd % 64] := by rw [utf, if_neg (by omega), if_neg (by omega), if_pos (by omega)]
        exact cn_vret hx hb hr hlk hw  (⟨rfl, by rw [hu]; exact hy_f3, hz_f3⟩) (Nat.le_refl _) (Nat.le_refl _) d_EN_writeUtf8_153
    · refine lv_aload_n hx hb d_EN_writeUtf8_22 rfl (lv_at hl 1 rfl) ?_
      refine lv_sipush (v := iI (192)) hx hb d_EN_writeUtf8_23 rfl ?_
      refine lv_iload_n hx hb d_EN_writeUtf8_26 rfl (lv_at hl 0 rfl) ?_
      refine lv_bipush (v := iI (64)) hx hb d_EN_writeUtf8_27 rfl ?_
      refine di_div hx hb d_EN_writeUtf8_29 (by omega) (by omega) (by omega) (by omega) ?_
      refine di_add hx hb d_EN_writeUtf8_30 ?_
      refine cs_EN_44 X hz hw hl.1 hy0.choose_spec.1 (c_RW_append l G f _ r q n (apl1 n us []) (apl2 n us [] sp) (192 + cd / 64) hy0) ⟨Nat.le_of_ble_eq_true rfl, Nat.le_of_ble_eq_true rfl⟩ ⟨by show 0 + 0 ≤ 0; omega, by show 0 + 0 ≤ 0; omega⟩ (Nat.le_of_ble_eq_true rfl) d_EN_writeUtf8_31 (fun v f1 H locs hp hw hsz9 hkp9 hdm9 => ?_)
      obtain ⟨rfl, hr_f1, hk_f1⟩ := hp
      rw [apl1_snoc _ hn0, apl2_snoc _ hn0] at hr_f1
      refine W.eq (g2 := F0 m 34 ls []) rfl ?_
      have hy_f1 : rw G f1 r q n (apl1 n us [192 + cd / 64]) (apl2 n us [192 + cd / 64] sp) := hr_f1
      have hz_f1 : ∀ b, b ≠ r → b ≠ q → f1 b = f b := fun b h7 h8 => hk_f1 b h7 h8
      refine lv_aload_n hx hb d_EN_writeUtf8_34 rfl (lv_at hl 1 rfl) ?_
      refine lv_sipush (v := iI (128)) hx hb d_EN_writeUtf8_35 rfl ?_
      refine lv_iload_n hx hb d_EN_writeUtf8_38 rfl (lv_at hl 0 rfl) ?_
      refine lv_bipush (v := iI (64)) hx hb d_EN_writeUtf8_39 rfl ?_
      refine di_rem hx hb d_EN_writeUtf8_41 (by omega) (by omega) (by omega) (by omega) ?_
      refine di_add hx hb d_EN_writeUtf8_42 ?_
      refine cs_EN_44 X hz hw hl.1 hy_f1.choose_spec.1 (c_RW_append l G f1 _ r q n (apl1 n us [192 + cd / 64]) (apl2 n us [192 + cd / 64] sp) (128 + cd % 64) hy_f1) ⟨Nat.le_of_ble_eq_true rfl, Nat.le_of_ble_eq_true rfl⟩ ⟨by show 0 + 0 ≤ 0; omega, by show 0 + 0 ≤ 0; omega⟩ (Nat.le_of_ble_eq_true rfl) d_EN_writeUtf8_43 (fun v f2 H locs hp hw hsz9 hkp9 hdm9 => ?_)
      obtain ⟨rfl, hr_f2, hk_f2⟩ := hp
      rw [apl1_snoc _ hn0, apl2_snoc _ hn0] at hr_f2
      refine W.eq (g2 := F0 m 46 ls []) rfl ?_
      have hy_f2 : rw G f2 r q n (apl1 n us [192 + cd / 64, 128 + cd % 64]) (apl2 n us [192 + cd / 64, 128 + cd % 64] sp) := hr_f2
      have hz_f2 : ∀ b, b ≠ r → b ≠ q → f2 b = f b := fun b h7 h8 => (hk_f2 b h7 h8).trans (hz_f1 b h7 h8)
      refine lv_goto (tgt := 153) hx hb d_EN_writeUtf8_46 (by decide) ?_
      have hu : utf cd = [192 + cd / 64, 128 + cd % 64] := by rw [utf, if_neg (by omega), if_pos (by omega)]
      exact cn_vret hx hb hr hlk hw  (⟨rfl, by rw [hu]; exact hy_f2, hz_f2⟩) (Nat.le_refl _) (Nat.le_refl _) d_EN_writeUtf8_153
  · refine lv_aload_n hx hb d_EN_writeUtf8_7 rfl (lv_at hl 1 rfl) ?_
    refine lv_iload_n hx hb d_EN_writeUtf8_8 rfl (lv_at hl 0 rfl) ?_
    refine cs_EN_44 X hz hw hl.1 hy0.choose_spec.1 (c_RW_append l G f _ r q n (apl1 n us []) (apl2 n us [] sp) (cd) hy0) ⟨Nat.le_of_ble_eq_true rfl, Nat.le_of_ble_eq_true rfl⟩ ⟨by show 0 + 0 ≤ 0; omega, by show 0 + 0 ≤ 0; omega⟩ (Nat.le_of_ble_eq_true rfl) d_EN_writeUtf8_9 (fun v f1 H locs hp hw hsz9 hkp9 hdm9 => ?_)
    obtain ⟨rfl, hr_f1, hk_f1⟩ := hp
    rw [apl1_snoc _ hn0, apl2_snoc _ hn0] at hr_f1
    refine W.eq (g2 := F0 m 12 ls []) rfl ?_
    have hy_f1 : rw G f1 r q n (apl1 n us [cd]) (apl2 n us [cd] sp) := hr_f1
    have hz_f1 : ∀ b, b ≠ r → b ≠ q → f1 b = f b := fun b h7 h8 => hk_f1 b h7 h8
    refine lv_goto (tgt := 153) hx hb d_EN_writeUtf8_12 (by decide) ?_
    have hu : utf cd = [cd] := by rw [utf, if_pos (by omega)]
    exact cn_vret hx hb hr hlk hw  (⟨rfl, by rw [hu]; exact hy_f1, hz_f1⟩) (Nat.le_refl _) (Nat.le_refl _) d_EN_writeUtf8_153
set_option maxRecDepth 100000 in
set_option maxHeartbeats 4000000 in
theorem c_EN_writeModified (l : Launch) (G : ct_G) (f : dw_M) (sz : Nat) (cd : Int) (hc0 : 0 ≤ cd) (hc1 : cd < 1114112) (r q n : Nat) (us : List Int) (sp : Int) (hrw : rw G f r q n us sp) : cn l y_EN_writeModified w_EN_writeModified (2) (50) G f sz [.int (iI cd), .ref r] (fun v f' => v = none ∧ rw G f' r q n (apl1 n us (ecd 1 cd)) (apl2 n us (ecd 1 cd) sp) ∧ ∀ b, b ≠ r → b ≠ q → f' b = f b) (0) (0) := by
  refine cn_of (own := "TextDesk$Encoder") (nm := "writeModified") (ds := "(ILTextDesk$Row;)V") (by decide) (Nat.le_of_ble_eq_true rfl) ?_
  intro p e s m args below meth c ls X hnm hr hlk hs0 hz hw hl
  have hx := X.1
  have hb := X.2.1
  have hl : lv_has ls 2 [(0, .int (iI cd)), (1, .ref r)] := hl
  have hn0 := hrw.len.1
  have hy0 : rw G f r q n (apl1 n us []) (apl2 n us [] sp) := by rw [apl1_nil, apl2_nil hn0]; exact hrw
  refine lv_iload_n hx hb d_EN_writeModified_0 rfl (lv_at hl 0 rfl) ?_
  refine di_if_ne (tgt := 21) hx hb d_EN_writeModified_1 (by decide) ⟨by omega, by omega⟩ (fun bq1 => ?_) (fun bq1 => ?_)
  · refine lv_iload_n hx hb d_EN_writeModified_21 rfl (lv_at hl 0 rfl) ?_
    refine lv_aload_n hx hb d_EN_writeModified_22 rfl (lv_at hl 1 rfl) ?_
    refine cs_EN_37 X hz hw hl.1 (c_EN_writeUtf8 l G f _ (cd) (hc0) (hc1) r q n us sp hrw) ⟨Nat.le_of_ble_eq_true rfl, Nat.le_of_ble_eq_true rfl⟩ ⟨by show 0 + 0 ≤ 0; omega, by show 0 + 0 ≤ 0; omega⟩ (Nat.le_of_ble_eq_true rfl) d_EN_writeModified_23 (fun v f1 H locs hp hw hsz9 hkp9 hdm9 => ?_)
    obtain ⟨rfl, hr_f1, hk_f1⟩ := hp
    refine W.eq (g2 := F0 m 26 ls []) rfl ?_
    have hu : ecd 1 cd = utf cd := by rw [ecd, if_neg (by omega), if_pos rfl, if_neg (by omega)]
    exact cn_vret hx hb hr hlk hw  (⟨rfl, by rw [hu]; exact hr_f1, hk_f1⟩) (Nat.le_refl _) (Nat.le_refl _) d_EN_writeModified_26
  · refine lv_aload_n hx hb d_EN_writeModified_4 rfl (lv_at hl 1 rfl) ?_
    refine lv_sipush (v := iI (192)) hx hb d_EN_writeModified_5 rfl ?_
    refine cs_EN_44 X hz hw hl.1 hy0.choose_spec.1 (c_RW_append l G f _ r q n (apl1 n us []) (apl2 n us [] sp) (192) hy0) ⟨Nat.le_of_ble_eq_true rfl, Nat.le_of_ble_eq_true rfl⟩ ⟨by show 0 + 0 ≤ 0; omega, by show 0 + 0 ≤ 0; omega⟩ (Nat.le_of_ble_eq_true rfl) d_EN_writeModified_8 (fun v f1 H locs hp hw hsz9 hkp9 hdm9 => ?_)
    obtain ⟨rfl, hr_f1, hk_f1⟩ := hp
    rw [apl1_snoc _ hn0, apl2_snoc _ hn0] at hr_f1
    refine W.eq (g2 := F0 m 11 ls []) rfl ?_
    have hy_f1 : rw G f1 r q n (apl1 n us [192]) (apl2 n us [192] sp) := hr_f1
    have hz_f1 : ∀ b, b ≠ r → b ≠ q → f1 b = f b := fun b h7 h8 => hk_f1 b h7 h8
    refine lv_aload_n hx hb d_EN_writeModified_11 rfl (lv_at hl 1 rfl) ?_
    refine lv_sipush (v := iI (128)) hx hb d_EN_writeModified_12 rfl ?_
    refine cs_EN_44 X hz hw hl.1 hy_f1.choose_spec.1 (c_RW_append l G f1 _ r q n (apl1 n us [192]) (apl2 n us [192] sp) (128) hy_f1) ⟨Nat.le_of_ble_eq_true rfl, Nat.le_of_ble_eq_true rfl⟩ ⟨by show 0 + 0 ≤ 0; omega, by show 0 + 0 ≤ 0; omega⟩ (Nat.le_of_ble_eq_true rfl) d_EN_writeModified_15 (fun v f2 H locs hp hw hsz9 hkp9 hdm9 => ?_)
    obtain ⟨rfl, hr_f2, hk_f2⟩ := hp
    rw [apl1_snoc _ hn0, apl2_snoc _ hn0] at hr_f2
    refine W.eq (g2 := F0 m 18 ls []) rfl ?_
    have hy_f2 : rw G f2 r q n (apl1 n us [192, 128]) (apl2 n us [192, 128] sp) := hr_f2
    have hz_f2 : ∀ b, b ≠ r → b ≠ q → f2 b = f b := fun b h7 h8 => (hk_f2 b h7 h8).trans (hz_f1 b h7 h8)
    refine lv_goto (tgt := 26) hx hb d_EN_writeModified_18 (by decide) ?_
    have hu : ecd 1 cd = [192, 128] := by rw [ecd, if_neg (by omega), if_pos rfl, if_pos (by omega)]
    exact cn_vret hx hb hr hlk hw  (⟨rfl, by rw [hu]; exact hy_f2, hz_f2⟩) (Nat.le_refl _) (Nat.le_refl _) d_EN_writeModified_26
set_option maxRecDepth 100000 in
set_option maxHeartbeats 4000000 in
theorem c_EN_writeCode (l : Launch) (G : ct_G) (f : dw_M) (sz : Nat) (cd : Int) (hc0 : 0 ≤ cd) (hc1 : cd < 1114112) (en : Int) (hen : 0 ≤ en ∧ en ≤ 4) (r q n : Nat) (us : List Int) (sp : Int) (hrw : rw G f r q n us sp) : cn l y_EN_writeCode w_EN_writeCode (3) (80) G f sz [.int (iI cd), .int (iI en), .ref r] (fun v f' => v = none ∧ rw G f' r q n (apl1 n us (ecd en cd)) (apl2 n us (ecd en cd) sp) ∧ ∀ b, b ≠ r → b ≠ q → f' b = f b) (0) (0) := by
  refine cn_of (own := "TextDesk$Encoder") (nm := "writeCode") (ds := "(IILTextDesk$Row;)V") (by decide) (Nat.le_of_ble_eq_true rfl) ?_
  intro p e s m args below meth c ls X hnm hr hlk hs0 hz hw hl
  have hx := X.1
  have hb := X.2.1
  have hl : lv_has ls 3 [(0, .int (iI cd)), (1, .int (iI en)), (2, .ref r)] := hl
  have hn0 := hrw.len.1
  have hy0 : rw G f r q n (apl1 n us []) (apl2 n us [] sp) := by rw [apl1_nil, apl2_nil hn0]; exact hrw
  refine lv_iload_n hx hb d_EN_writeCode_0 rfl (lv_at hl 1 rfl) ?_
  rcases (show en = 0 ∨ en = 1 ∨ en = 2 ∨ en = 3 ∨ en = 4 by omega) with he | he | he | he | he
  · subst he
    refine lv_tableIn (off := 31) (tgt := 32) hx hb d_EN_writeCode_1 (by decide) (by decide) rfl (by decide) ?_
    refine lv_iload_n hx hb d_EN_writeCode_32 rfl (lv_at hl 0 rfl) ?_
    refine cs_EN_30 X hz hw hl.1 (c_DK_isHigh l G f _ cd ⟨by omega, by omega⟩) ⟨Nat.le_of_ble_eq_true rfl, Nat.le_of_ble_eq_true rfl⟩ ⟨by show 0 + 0 ≤ 0; omega, by show 0 + 0 ≤ 0; omega⟩ (Nat.le_of_ble_eq_true rfl) d_EN_writeCode_33 (fun v f9 H locs hp hw hsz9 hkp9 hdm9 => ?_)
    obtain ⟨rfl, hfe⟩ := hp
    rw [hfe] at hw
    refine W.eq (g2 := F0 m 36 ls [.int (iI (b2 (hi cd)))]) rfl ?_
    have hb1 := b2_01 (hi cd)
    have hb2 := b2_01 (lw cd)
    refine di_if_ne (tgt := 46) hx hb d_EN_writeCode_36 (by decide) ⟨by omega, by omega⟩ (fun bq36 => ?_) (fun bq36 => ?_)
    · refine lv_bipush (v := iI (63)) hx hb d_EN_writeCode_46 rfl ?_
      refine lv_goto (tgt := 52) hx hb d_EN_writeCode_48 (by decide) ?_
      refine lv_aload_n hx hb d_EN_writeCode_52 rfl (lv_at hl 2 rfl) ?_
      refine cs_EN_37 X hz hw hl.1 (c_EN_writeUtf8 l G f _ (63) (by omega) (by omega) r q n us sp hrw) ⟨Nat.le_of_ble_eq_true rfl, Nat.le_of_ble_eq_true rfl⟩ ⟨by show 0 + 0 ≤ 0; omega, by show 0 + 0 ≤ 0; omega⟩ (Nat.le_of_ble_eq_true rfl) d_EN_writeCode_53 (fun v f1 H locs hp hw hsz9 hkp9 hdm9 => ?_)
      obtain ⟨rfl, hr_f1, hk_f1⟩ := hp
      refine W.eq (g2 := F0 m 56 ls []) rfl ?_
      refine lv_goto (tgt := 126) hx hb d_EN_writeCode_56 (by decide) ?_
      have hu : ecd 0 cd = utf (63) := by rw [ecd, if_pos rfl, if_pos (Or.inl (b2_1 bq36))]
      exact cn_vret hx hb hr hlk hw  (⟨rfl, by rw [hu]; exact hr_f1, hk_f1⟩) (Nat.le_refl _) (Nat.le_refl _) d_EN_writeCode_126
    · have bq36 : b2 (hi cd) = 0 := by omega
      refine lv_iload_n hx hb d_EN_writeCode_39 rfl (lv_at hl 0 rfl) ?_
      refine cs_EN_34 X hz hw hl.1 (c_DK_isLow l G f _ cd ⟨by omega, by omega⟩) ⟨Nat.le_of_ble_eq_true rfl, Nat.le_of_ble_eq_true rfl⟩ ⟨by show 0 + 0 ≤ 0; omega, by show 0 + 0 ≤ 0; omega⟩ (Nat.le_of_ble_eq_true rfl) d_EN_writeCode_40 (fun v f9 H locs hp hw hsz9 hkp9 hdm9 => ?_)
      obtain ⟨rfl, hfe⟩ := hp
      rw [hfe] at hw
      refine W.eq (g2 := F0 m 43 ls [.int (iI (b2 (lw cd)))]) rfl ?_
      refine di_if_eq (tgt := 51) hx hb d_EN_writeCode_43 (by decide) ⟨by omega, by omega⟩ (fun bq43 => ?_) (fun bq43 => ?_)
      · refine lv_iload_n hx hb d_EN_writeCode_51 rfl (lv_at hl 0 rfl) ?_
        refine lv_aload_n hx hb d_EN_writeCode_52 rfl (lv_at hl 2 rfl) ?_
        refine cs_EN_37 X hz hw hl.1 (c_EN_writeUtf8 l G f _ (cd) (hc0) (hc1) r q n us sp hrw) ⟨Nat.le_of_ble_eq_true rfl, Nat.le_of_ble_eq_true rfl⟩ ⟨by show 0 + 0 ≤ 0; omega, by show 0 + 0 ≤ 0; omega⟩ (Nat.le_of_ble_eq_true rfl) d_EN_writeCode_53 (fun v f1 H locs hp hw hsz9 hkp9 hdm9 => ?_)
        obtain ⟨rfl, hr_f1, hk_f1⟩ := hp
        refine W.eq (g2 := F0 m 56 ls []) rfl ?_
        refine lv_goto (tgt := 126) hx hb d_EN_writeCode_56 (by decide) ?_
        have hu : ecd 0 cd = utf (cd) := by rw [ecd, if_pos rfl, if_neg (fun q => q.elim (fun q => by rw [b2_0 bq36] at q; cases q) (fun q => by rw [b2_0 bq43] at q; cases q))]
        exact cn_vret hx hb hr hlk hw  (⟨rfl, by rw [hu]; exact hr_f1, hk_f1⟩) (Nat.le_refl _) (Nat.le_refl _) d_EN_writeCode_126
      · refine lv_bipush (v := iI (63)) hx hb d_EN_writeCode_46 rfl ?_
        refine lv_goto (tgt := 52) hx hb d_EN_writeCode_48 (by decide) ?_
        refine lv_aload_n hx hb d_EN_writeCode_52 rfl (lv_at hl 2 rfl) ?_
        refine cs_EN_37 X hz hw hl.1 (c_EN_writeUtf8 l G f _ (63) (by omega) (by omega) r q n us sp hrw) ⟨Nat.le_of_ble_eq_true rfl, Nat.le_of_ble_eq_true rfl⟩ ⟨by show 0 + 0 ≤ 0; omega, by show 0 + 0 ≤ 0; omega⟩ (Nat.le_of_ble_eq_true rfl) d_EN_writeCode_53 (fun v f1 H locs hp hw hsz9 hkp9 hdm9 => ?_)
        obtain ⟨rfl, hr_f1, hk_f1⟩ := hp
        refine W.eq (g2 := F0 m 56 ls []) rfl ?_
        refine lv_goto (tgt := 126) hx hb d_EN_writeCode_56 (by decide) ?_
        have hu : ecd 0 cd = utf (63) := by rw [ecd, if_pos rfl, if_pos (Or.inr (b2_1 bq43))]
        exact cn_vret hx hb hr hlk hw  (⟨rfl, by rw [hu]; exact hr_f1, hk_f1⟩) (Nat.le_refl _) (Nat.le_refl _) d_EN_writeCode_126
  · subst he
    refine lv_tableIn (off := 58) (tgt := 59) hx hb d_EN_writeCode_1 (by decide) (by decide) rfl (by decide) ?_
    refine lv_iload_n hx hb d_EN_writeCode_59 rfl (lv_at hl 0 rfl) ?_
    refine lv_aload_n hx hb d_EN_writeCode_60 rfl (lv_at hl 2 rfl) ?_
    refine cs_EN_41 X hz hw hl.1 (c_EN_writeModified l G f _ cd hc0 hc1 r q n us sp hrw) ⟨Nat.le_of_ble_eq_true rfl, Nat.le_of_ble_eq_true rfl⟩ ⟨by show 0 + 0 ≤ 0; omega, by show 0 + 0 ≤ 0; omega⟩ (Nat.le_of_ble_eq_true rfl) d_EN_writeCode_61 (fun v f1 H locs hp hw hsz9 hkp9 hdm9 => ?_)
    obtain ⟨rfl, hr_f1, hk_f1⟩ := hp
    refine W.eq (g2 := F0 m 64 ls []) rfl ?_
    refine lv_goto (tgt := 126) hx hb d_EN_writeCode_64 (by decide) ?_
    exact cn_vret hx hb hr hlk hw  (⟨rfl, hr_f1, hk_f1⟩) (Nat.le_refl _) (Nat.le_refl _) d_EN_writeCode_126
  · subst he
    refine lv_tableIn (off := 66) (tgt := 67) hx hb d_EN_writeCode_1 (by decide) (by decide) rfl (by decide) ?_
    refine lv_aload_n hx hb d_EN_writeCode_67 rfl (lv_at hl 2 rfl) ?_
    refine lv_iload_n hx hb d_EN_writeCode_68 rfl (lv_at hl 0 rfl) ?_
    refine lv_sipush (v := iI (256)) hx hb d_EN_writeCode_69 rfl ?_
    refine di_div hx hb d_EN_writeCode_72 (by omega) (by omega) (by omega) (by omega) ?_
    refine cs_EN_44 X hz hw hl.1 hy0.choose_spec.1 (c_RW_append l G f _ r q n (apl1 n us []) (apl2 n us [] sp) (cd / 256) hy0) ⟨Nat.le_of_ble_eq_true rfl, Nat.le_of_ble_eq_true rfl⟩ ⟨by show 0 + 0 ≤ 0; omega, by show 0 + 0 ≤ 0; omega⟩ (Nat.le_of_ble_eq_true rfl) d_EN_writeCode_73 (fun v f1 H locs hp hw hsz9 hkp9 hdm9 => ?_)
    obtain ⟨rfl, hr_f1, hk_f1⟩ := hp
    rw [apl1_snoc _ hn0, apl2_snoc _ hn0] at hr_f1
    refine W.eq (g2 := F0 m 76 ls []) rfl ?_
    have hy_f1 : rw G f1 r q n (apl1 n us [cd / 256]) (apl2 n us [cd / 256] sp) := hr_f1
    have hz_f1 : ∀ b, b ≠ r → b ≠ q → f1 b = f b := fun b h7 h8 => hk_f1 b h7 h8
    refine lv_aload_n hx hb d_EN_writeCode_76 rfl (lv_at hl 2 rfl) ?_
    refine lv_iload_n hx hb d_EN_writeCode_77 rfl (lv_at hl 0 rfl) ?_
    refine lv_sipush (v := iI (256)) hx hb d_EN_writeCode_78 rfl ?_
    refine di_rem hx hb d_EN_writeCode_81 (by omega) (by omega) (by omega) (by omega) ?_
    refine cs_EN_44 X hz hw hl.1 hy_f1.choose_spec.1 (c_RW_append l G f1 _ r q n (apl1 n us [cd / 256]) (apl2 n us [cd / 256] sp) (cd % 256) hy_f1) ⟨Nat.le_of_ble_eq_true rfl, Nat.le_of_ble_eq_true rfl⟩ ⟨by show 0 + 0 ≤ 0; omega, by show 0 + 0 ≤ 0; omega⟩ (Nat.le_of_ble_eq_true rfl) d_EN_writeCode_82 (fun v f2 H locs hp hw hsz9 hkp9 hdm9 => ?_)
    obtain ⟨rfl, hr_f2, hk_f2⟩ := hp
    rw [apl1_snoc _ hn0, apl2_snoc _ hn0] at hr_f2
    refine W.eq (g2 := F0 m 85 ls []) rfl ?_
    have hy_f2 : rw G f2 r q n (apl1 n us [cd / 256, cd % 256]) (apl2 n us [cd / 256, cd % 256] sp) := hr_f2
    have hz_f2 : ∀ b, b ≠ r → b ≠ q → f2 b = f b := fun b h7 h8 => (hk_f2 b h7 h8).trans (hz_f1 b h7 h8)
    refine lv_goto (tgt := 126) hx hb d_EN_writeCode_85 (by decide) ?_
    have hu : ecd 2 cd = [cd / 256, cd % 256] := by rw [ecd, if_neg (by omega), if_neg (by omega), if_pos rfl]
    exact cn_vret hx hb hr hlk hw  (⟨rfl, by rw [hu]; exact hy_f2, hz_f2⟩) (Nat.le_refl _) (Nat.le_refl _) d_EN_writeCode_126
  · subst he
    refine lv_tableIn (off := 87) (tgt := 88) hx hb d_EN_writeCode_1 (by decide) (by decide) rfl (by decide) ?_
    refine lv_aload_n hx hb d_EN_writeCode_88 rfl (lv_at hl 2 rfl) ?_
    refine lv_iload_n hx hb d_EN_writeCode_89 rfl (lv_at hl 0 rfl) ?_
    refine lv_sipush (v := iI (256)) hx hb d_EN_writeCode_90 rfl ?_
    refine di_rem hx hb d_EN_writeCode_93 (by omega) (by omega) (by omega) (by omega) ?_
    refine cs_EN_44 X hz hw hl.1 hy0.choose_spec.1 (c_RW_append l G f _ r q n (apl1 n us []) (apl2 n us [] sp) (cd % 256) hy0) ⟨Nat.le_of_ble_eq_true rfl, Nat.le_of_ble_eq_true rfl⟩ ⟨by show 0 + 0 ≤ 0; omega, by show 0 + 0 ≤ 0; omega⟩ (Nat.le_of_ble_eq_true rfl) d_EN_writeCode_94 (fun v f1 H locs hp hw hsz9 hkp9 hdm9 => ?_)
    obtain ⟨rfl, hr_f1, hk_f1⟩ := hp
    rw [apl1_snoc _ hn0, apl2_snoc _ hn0] at hr_f1
    refine W.eq (g2 := F0 m 97 ls []) rfl ?_
    have hy_f1 : rw G f1 r q n (apl1 n us [cd % 256]) (apl2 n us [cd % 256] sp) := hr_f1
    have hz_f1 : ∀ b, b ≠ r → b ≠ q → f1 b = f b := fun b h7 h8 => hk_f1 b h7 h8
    refine lv_aload_n hx hb d_EN_writeCode_97 rfl (lv_at hl 2 rfl) ?_
    refine lv_iload_n hx hb d_EN_writeCode_98 rfl (lv_at hl 0 rfl) ?_
    refine lv_sipush (v := iI (256)) hx hb d_EN_writeCode_99 rfl ?_
    refine di_div hx hb d_EN_writeCode_102 (by omega) (by omega) (by omega) (by omega) ?_
    refine cs_EN_44 X hz hw hl.1 hy_f1.choose_spec.1 (c_RW_append l G f1 _ r q n (apl1 n us [cd % 256]) (apl2 n us [cd % 256] sp) (cd / 256) hy_f1) ⟨Nat.le_of_ble_eq_true rfl, Nat.le_of_ble_eq_true rfl⟩ ⟨by show 0 + 0 ≤ 0; omega, by show 0 + 0 ≤ 0; omega⟩ (Nat.le_of_ble_eq_true rfl) d_EN_writeCode_103 (fun v f2 H locs hp hw hsz9 hkp9 hdm9 => ?_)
    obtain ⟨rfl, hr_f2, hk_f2⟩ := hp
    rw [apl1_snoc _ hn0, apl2_snoc _ hn0] at hr_f2
    refine W.eq (g2 := F0 m 106 ls []) rfl ?_
    have hy_f2 : rw G f2 r q n (apl1 n us [cd % 256, cd / 256]) (apl2 n us [cd % 256, cd / 256] sp) := hr_f2
    have hz_f2 : ∀ b, b ≠ r → b ≠ q → f2 b = f b := fun b h7 h8 => (hk_f2 b h7 h8).trans (hz_f1 b h7 h8)
    refine lv_goto (tgt := 126) hx hb d_EN_writeCode_106 (by decide) ?_
    have hu : ecd 3 cd = [cd % 256, cd / 256] := by rw [ecd, if_neg (by omega), if_neg (by omega), if_neg (by omega), if_pos rfl]
    exact cn_vret hx hb hr hlk hw  (⟨rfl, by rw [hu]; exact hy_f2, hz_f2⟩) (Nat.le_refl _) (Nat.le_refl _) d_EN_writeCode_126
  · subst he
    refine lv_tableOut (tgt := 109) hx hb d_EN_writeCode_1 (by decide) (by decide) ?_
    refine lv_aload_n hx hb d_EN_writeCode_109 rfl (lv_at hl 2 rfl) ?_
    refine lv_iload_n hx hb d_EN_writeCode_110 rfl (lv_at hl 0 rfl) ?_
    refine lv_sipush (v := iI (256)) hx hb d_EN_writeCode_111 rfl ?_
    refine di_icmp_ge (tgt := 121) hx hb d_EN_writeCode_114 (by decide) ⟨by omega, by omega⟩ ⟨by omega, by omega⟩ (fun bq114 => ?_) (fun bq114 => ?_)
    · refine lv_bipush (v := iI (63)) hx hb d_EN_writeCode_121 rfl ?_
      refine cs_EN_44 X hz hw hl.1 hy0.choose_spec.1 (c_RW_append l G f _ r q n (apl1 n us []) (apl2 n us [] sp) (63) hy0) ⟨Nat.le_of_ble_eq_true rfl, Nat.le_of_ble_eq_true rfl⟩ ⟨by show 0 + 0 ≤ 0; omega, by show 0 + 0 ≤ 0; omega⟩ (Nat.le_of_ble_eq_true rfl) d_EN_writeCode_123 (fun v f1 H locs hp hw hsz9 hkp9 hdm9 => ?_)
      obtain ⟨rfl, hr_f1, hk_f1⟩ := hp
      rw [apl1_snoc _ hn0, apl2_snoc _ hn0] at hr_f1
      refine W.eq (g2 := F0 m 126 ls []) rfl ?_
      have hy_f1 : rw G f1 r q n (apl1 n us [63]) (apl2 n us [63] sp) := hr_f1
      have hz_f1 : ∀ b, b ≠ r → b ≠ q → f1 b = f b := fun b h7 h8 => hk_f1 b h7 h8
      have hu : ecd 4 cd = [63] := by rw [ecd, if_neg (by omega), if_neg (by omega), if_neg (by omega), if_neg (by omega), if_neg (by omega)]
      exact cn_vret hx hb hr hlk hw  (⟨rfl, by rw [hu]; exact hy_f1, hz_f1⟩) (Nat.le_refl _) (Nat.le_refl _) d_EN_writeCode_126
    · refine lv_iload_n hx hb d_EN_writeCode_117 rfl (lv_at hl 0 rfl) ?_
      refine lv_goto (tgt := 123) hx hb d_EN_writeCode_118 (by decide) ?_
      refine cs_EN_44 X hz hw hl.1 hy0.choose_spec.1 (c_RW_append l G f _ r q n (apl1 n us []) (apl2 n us [] sp) (cd) hy0) ⟨Nat.le_of_ble_eq_true rfl, Nat.le_of_ble_eq_true rfl⟩ ⟨by show 0 + 0 ≤ 0; omega, by show 0 + 0 ≤ 0; omega⟩ (Nat.le_of_ble_eq_true rfl) d_EN_writeCode_123 (fun v f1 H locs hp hw hsz9 hkp9 hdm9 => ?_)
      obtain ⟨rfl, hr_f1, hk_f1⟩ := hp
      rw [apl1_snoc _ hn0, apl2_snoc _ hn0] at hr_f1
      refine W.eq (g2 := F0 m 126 ls []) rfl ?_
      have hy_f1 : rw G f1 r q n (apl1 n us [cd]) (apl2 n us [cd] sp) := hr_f1
      have hz_f1 : ∀ b, b ≠ r → b ≠ q → f1 b = f b := fun b h7 h8 => hk_f1 b h7 h8
      have hu : ecd 4 cd = [cd] := by rw [ecd, if_neg (by omega), if_neg (by omega), if_neg (by omega), if_neg (by omega), if_pos (by omega)]
      exact cn_vret hx hb hr hlk hw  (⟨rfl, by rw [hu]; exact hy_f1, hz_f1⟩) (Nat.le_refl _) (Nat.le_refl _) d_EN_writeCode_126
set_option maxRecDepth 100000 in
set_option maxHeartbeats 4000000 in
theorem c_EN_writeText (l : Launch) (G : ct_G) (f : dw_M) (sz : Nat) (d b : Nat) (ut : List Int) (hd : d ≤ 24) (ht : tx G d f b ut) (en : Int) (hen : 0 ≤ en ∧ en ≤ 4) (r q n : Nat) (us : List Int) (sp : Int) (hrw : rw G f r q n us sp) : cn l y_EN_writeText w_EN_writeText (44) (1010) G f sz [.ref b, .int (iI en), .ref r] (fun v f' => v = none ∧ rw G f' r q n (apl1 n us (enc ut en)) (apl2 n us (enc ut en) sp) ∧ exo G (fun a => a = r ∨ a = q) f f') (4 * pot f b) (140 * pot f b) := by
  refine cn_of (own := "TextDesk$Encoder") (nm := "writeText") (ds := "(LTextDesk$Text;ILTextDesk$Row;)V") (by decide) (Nat.le_of_ble_eq_true rfl) ?_
  intro p e s m args below meth c ls X hnm hr hlk hs0 hz hw hl
  have hx := X.1
  have hb := X.2.1
  have hl : lv_has ls 6 [(0, .ref b), (1, .int (iI en)), (2, .ref r)] := hl
  have hn0 := hrw.len.1
  have hy0 : rw G f r q n (apl1 n us []) (apl2 n us [] sp) := by rw [apl1_nil, apl2_nil hn0]; exact hrw
  have hG := X.E.ok
  have hul := ht.len
  have hrg := ht.rng
  have hno9 : ∀ a, no1 a → (a = r ∨ a = q) := fun a q => q.elim
  refine lv_iload_n hx hb d_EN_writeText_0 rfl (lv_at hl 1 rfl) ?_
  refine di_if_eq (tgt := 9) hx hb d_EN_writeText_1 (by decide) ⟨by omega, by omega⟩ (fun bq1 => ?_) (fun bq1 => ?_)
  · refine lv_iconst (v := iI (1)) hx hb d_EN_writeText_9 rfl ?_
    refine lv_goto (tgt := 14) hx hb d_EN_writeText_10 (by decide) ?_
    refine lv_istore_n (lv' := [(3, .int (iI 1)), (0, .ref b), (1, .int (iI en)), (2, .ref r)]) hx hb d_EN_writeText_14 rfl hl (by decide) rfl (fun ls hl => ?_)
    refine lv_iconst (v := iI (0)) hx hb d_EN_writeText_15 rfl ?_
    refine lv_istore (lv' := [(4, .int (iI 0)), (3, .int (iI 1)), (0, .ref b), (1, .int (iI en)), (2, .ref r)]) hx hb d_EN_writeText_16 hl (by decide) rfl (fun ls hl => ?_)
    have loop : ∀ (N : Nat) (k : Int) (acc : List Int) (fu : Nat) (ce : Nat) (sl : Nat) (f1 : dw_M) (H : Heap) (locs : List Loc) (ls : Array Slot), ((ut.length : Int) + 2 - k).toNat < N → 0 ≤ k → k ≤ (ut.length : Int) + 1 → (ut.length : Int) - k < (fu : Int) + 1 → enc ut en = acc ++ ecl ut en (fu + 1) k → rw G f1 r q n (apl1 n us acc) (apl2 n us acc sp) → exo G (fun a => a = r ∨ a = q) f f1 → tx G d f1 b ut → ce + 4 * pot f1 b ≤ 4 * pot f b → sl + 140 * pot f1 b ≤ 140 * pot f b → dw G.1 dk_cl (dw_A f sz) s.heap f1 H locs → lv_has ls 6 [(4, .int (iI k)), (0, .ref b), (1, .int (iI en)), (2, .ref r), (3, .int (iI 1))] → W p l e { frames := 44, locals := 1010, cells := 4 * pot f b, slots := 140 * pot f b } s m args below meth c H locs (ce) (sl) (MQ below (ct_Q G f sz (fun v f' => v = none ∧ rw G f' r q n (apl1 n us (enc ut en)) (apl2 n us (enc ut en) sp) ∧ exo G (fun a => a = r ∨ a = q) f f')) args s (4 * pot f b) (140 * pot f b) (dw_A f sz)) (F0 m 18 ls []) := by
      intro N
      induction N with
      | zero => intros; omega
      | succ N ih =>
        intro k acc fu ce sl f1 H locs ls hN hk0 hk1 hfu hspl hr1 hx1 ht1 hce hsl hw hl
        refine lv_iload hx hb d_EN_writeText_18 (lv_at hl 0 rfl) ?_
        refine lv_aload_n hx hb d_EN_writeText_20 rfl (lv_at hl 1 rfl) ?_
        refine st_EN_9 X hz hw hl.1 ht1 ⟨Nat.le_of_ble_eq_true rfl, Nat.le_of_ble_eq_true rfl⟩ ⟨by show ce ≤ 4 * pot f b; omega, by show sl ≤ 140 * pot f b; omega⟩ (Nat.le_of_ble_eq_true rfl) d_EN_writeText_21 (fun H locs hw => ?_)
        refine W.eq (g2 := F0 m 24 ls [.int (iI ((ut.length : Int))), .int (iI k)]) rfl ?_
        refine di_icmp_ge (tgt := 71) hx hb d_EN_writeText_24 (by decide) ⟨by omega, by omega⟩ ⟨by omega, by omega⟩ (fun bq24 => ?_) (fun bq24 => ?_)
        · have hnil : ecl ut en (fu + 1) k = [] := by rw [ecl, if_pos (by omega)]
          rw [hnil, List.append_nil] at hspl
          exact cn_vret hx hb hr hlk hw  (⟨rfl, by rw [hspl]; exact hr1, hx1⟩) (by omega) (by omega) d_EN_writeText_71
        · have hcr := ecc_rng hrg en hk0 (by omega : k < (ut.length : Int))
          have hstep : ecl ut en (fu + 1) k = ecd en (ecc ut en k) ++ ecl ut en fu (if 65536 ≤ ecc ut en k then k + 2 else k + 1) := by rw [ecl, if_neg (by omega)]
          refine lv_iload_n hx hb d_EN_writeText_27 rfl (lv_at hl 4 rfl) ?_
          refine di_if_eq (tgt := 40) hx hb d_EN_writeText_28 (by decide) ⟨by omega, by omega⟩ (fun bq28 => absurd bq28 (by decide)) (fun _ => ?_)
          refine lv_aload_n hx hb d_EN_writeText_31 rfl (lv_at hl 1 rfl) ?_
          refine lv_iload hx hb d_EN_writeText_32 (lv_at hl 0 rfl) ?_
          refine cs_EN_15 X hz hw hl.1 (c_DK_characterAt l G f1 _ b ut k ⟨by omega, by omega⟩ hrg (Or.inl ⟨_, hd, ht1⟩)) ⟨Nat.le_of_ble_eq_true rfl, Nat.le_of_ble_eq_true rfl⟩ ⟨by show ce + 4 * pot f1 b ≤ 4 * pot f b; omega, by show sl + 140 * pot f1 b ≤ 140 * pot f b; omega⟩ (Nat.le_of_ble_eq_true rfl) d_EN_writeText_34 (fun v f2 H locs hp hw hsz9 hkp9 hdm9 => ?_)
          obtain ⟨rfl, hx2, hp2⟩ := hp
          have ht2 := hx2.2.1 _ _ _ ht1
          have hec : chr ut k = ecc ut en k := (if_pos (Or.inl bq1)).symm
          refine W.eq (g2 := F0 m 37 ls [.int (iI (chr ut k))]) rfl ?_
          rw [hec]
          refine lv_goto (tgt := 46) hx hb d_EN_writeText_37 (by decide) ?_
          refine lv_istore (lv' := [(5, .int (iI (ecc ut en k))), (4, .int (iI k)), (0, .ref b), (1, .int (iI en)), (2, .ref r), (3, .int (iI 1))]) hx hb d_EN_writeText_46 hl (by decide) rfl (fun ls hl => ?_)
          refine lv_iload hx hb d_EN_writeText_48 (lv_at hl 0 rfl) ?_
          refine lv_iload_n hx hb d_EN_writeText_50 rfl (lv_at hl 3 rfl) ?_
          refine lv_aload_n hx hb d_EN_writeText_51 rfl (lv_at hl 4 rfl) ?_
          refine cs_EN_23 X hz hw hl.1 (c_EN_writeCode l G f2 _ (ecc ut en k) hcr.1 hcr.2.1 en hen r q n (apl1 n us acc) (apl2 n us acc sp) (hx2.rw hr1 (fun q => q) (fun q => q))) ⟨Nat.le_of_ble_eq_true rfl, Nat.le_of_ble_eq_true rfl⟩ ⟨by show ce + 4 * pot f1 b + 0 ≤ 4 * pot f b; omega, by show sl + 140 * pot f1 b + 0 ≤ 140 * pot f b; omega⟩ (Nat.le_of_ble_eq_true rfl) d_EN_writeText_52 (fun v f3 H locs hp hw hsz9 hkp9 hdm9 => ?_)
          obtain ⟨rfl, hr3, hk3⟩ := hp
          have hx3 := exo_row hG (hx2.rw hr1 (fun q => q) (fun q => q)) hr3 hk3
          rw [apl_app1 hn0, apl_app2 hn0] at hr3
          have ht3 := hx3.2.1 _ _ _ ht2
          have hp3 := exo_pot hx3 ht2
          have hx13 := (hx1.tr (hx2.mono hno9)).tr hx3
          obtain ⟨fu2, rfl⟩ : ∃ z, fu = z + 1 := ⟨fu - 1, by omega⟩
          refine W.eq (g2 := F0 m 55 ls []) rfl ?_
          refine lv_iload hx hb d_EN_writeText_55 (lv_at hl 0 rfl) ?_
          refine lv_ldc (v := iI (65536)) hx hb X.own (X.hts _ mw_549) d_EN_writeText_57 ?_
          refine di_icmp_lt (tgt := 65) hx hb d_EN_writeText_59 (by decide) ⟨by omega, by omega⟩ ⟨by omega, by omega⟩ (fun bq59 => ?_) (fun bq59 => ?_)
          · refine lv_iinc (v := iI (k + 1)) (lv' := [(4, .int (iI (k + 1))), (5, .int (iI (ecc ut en k))), (0, .ref b), (1, .int (iI en)), (2, .ref r), (3, .int (iI 1))]) hx hb d_EN_writeText_65 hl (k := 1) rfl (iI_add _ _) (by decide) rfl (fun ls hl => ?_)
            refine lv_goto (tgt := 18) hx hb d_EN_writeText_68 (by decide) ?_
            exact ih (k + 1) (acc ++ ecd en (ecc ut en k)) (fu2) (ce + 4 * pot f1 b) (sl + 140 * pot f1 b) _ _ _ _ (by omega) (by omega) (by omega) (by omega) (by rw [hspl, hstep, if_neg (by omega), List.append_assoc]) (hr3) (hx13) (ht3) (by omega) (by omega) hw (lv_sub hl [0, 2, 3, 4, 5] rfl)
          · refine lv_iinc (v := iI (k + 1)) (lv' := [(4, .int (iI (k + 1))), (5, .int (iI (ecc ut en k))), (0, .ref b), (1, .int (iI en)), (2, .ref r), (3, .int (iI 1))]) hx hb d_EN_writeText_62 hl (k := 1) rfl (iI_add _ _) (by decide) rfl (fun ls hl => ?_)
            refine lv_iinc (v := iI (k + 1 + 1)) (lv' := [(4, .int (iI (k + 1 + 1))), (5, .int (iI (ecc ut en k))), (0, .ref b), (1, .int (iI en)), (2, .ref r), (3, .int (iI 1))]) hx hb d_EN_writeText_65 hl (k := 0) rfl (iI_add _ _) (by decide) rfl (fun ls hl => ?_)
            refine lv_goto (tgt := 18) hx hb d_EN_writeText_68 (by decide) ?_
            exact ih (k + 1 + 1) (acc ++ ecd en (ecc ut en k)) (fu2) (ce + 4 * pot f1 b) (sl + 140 * pot f1 b) _ _ _ _ (by omega) (by omega) (by omega) (by omega) (by rw [hspl, hstep, if_pos (by omega), List.append_assoc, show k + 2 = k + 1 + 1 by omega]) (hr3) (hx13) (ht3) (by omega) (by omega) hw (lv_sub hl [0, 2, 3, 4, 5] rfl)
    exact loop (((ut.length : Int) + 2 - 0).toNat + 1) (0) ([]) (ut.length) (0) (0) _ _ _ _ (by omega) (by omega) (by omega) (by omega) (rfl) (hy0) (exo.rf) (ht) (by omega) (by omega) hw (lv_sub hl [0, 2, 3, 4, 1] rfl)
  · refine lv_iload_n hx hb d_EN_writeText_4 rfl (lv_at hl 1 rfl) ?_
    refine lv_iconst (v := iI (4)) hx hb d_EN_writeText_5 rfl ?_
    refine di_icmp_ne (tgt := 13) hx hb d_EN_writeText_6 (by decide) ⟨by omega, by omega⟩ ⟨by omega, by omega⟩ (fun bq6 => ?_) (fun bq6 => ?_)
    · refine lv_iconst (v := iI (0)) hx hb d_EN_writeText_13 rfl ?_
      refine lv_istore_n (lv' := [(3, .int (iI 0)), (0, .ref b), (1, .int (iI en)), (2, .ref r)]) hx hb d_EN_writeText_14 rfl hl (by decide) rfl (fun ls hl => ?_)
      refine lv_iconst (v := iI (0)) hx hb d_EN_writeText_15 rfl ?_
      refine lv_istore (lv' := [(4, .int (iI 0)), (3, .int (iI 0)), (0, .ref b), (1, .int (iI en)), (2, .ref r)]) hx hb d_EN_writeText_16 hl (by decide) rfl (fun ls hl => ?_)
      have loop : ∀ (N : Nat) (k : Int) (acc : List Int) (fu : Nat) (ce : Nat) (sl : Nat) (f1 : dw_M) (H : Heap) (locs : List Loc) (ls : Array Slot), ((ut.length : Int) + 2 - k).toNat < N → 0 ≤ k → k ≤ (ut.length : Int) + 1 → (ut.length : Int) - k < (fu : Int) + 1 → enc ut en = acc ++ ecl ut en (fu + 1) k → rw G f1 r q n (apl1 n us acc) (apl2 n us acc sp) → exo G (fun a => a = r ∨ a = q) f f1 → tx G d f1 b ut → ce + 4 * pot f1 b ≤ 4 * pot f b → sl + 140 * pot f1 b ≤ 140 * pot f b → dw G.1 dk_cl (dw_A f sz) s.heap f1 H locs → lv_has ls 6 [(4, .int (iI k)), (0, .ref b), (1, .int (iI en)), (2, .ref r), (3, .int (iI 0))] → W p l e { frames := 44, locals := 1010, cells := 4 * pot f b, slots := 140 * pot f b } s m args below meth c H locs (ce) (sl) (MQ below (ct_Q G f sz (fun v f' => v = none ∧ rw G f' r q n (apl1 n us (enc ut en)) (apl2 n us (enc ut en) sp) ∧ exo G (fun a => a = r ∨ a = q) f f')) args s (4 * pot f b) (140 * pot f b) (dw_A f sz)) (F0 m 18 ls []) := by
        intro N
        induction N with
        | zero => intros; omega
        | succ N ih =>
          intro k acc fu ce sl f1 H locs ls hN hk0 hk1 hfu hspl hr1 hx1 ht1 hce hsl hw hl
          refine lv_iload hx hb d_EN_writeText_18 (lv_at hl 0 rfl) ?_
          refine lv_aload_n hx hb d_EN_writeText_20 rfl (lv_at hl 1 rfl) ?_
          refine st_EN_9 X hz hw hl.1 ht1 ⟨Nat.le_of_ble_eq_true rfl, Nat.le_of_ble_eq_true rfl⟩ ⟨by show ce ≤ 4 * pot f b; omega, by show sl ≤ 140 * pot f b; omega⟩ (Nat.le_of_ble_eq_true rfl) d_EN_writeText_21 (fun H locs hw => ?_)
          refine W.eq (g2 := F0 m 24 ls [.int (iI ((ut.length : Int))), .int (iI k)]) rfl ?_
          refine di_icmp_ge (tgt := 71) hx hb d_EN_writeText_24 (by decide) ⟨by omega, by omega⟩ ⟨by omega, by omega⟩ (fun bq24 => ?_) (fun bq24 => ?_)
          · have hnil : ecl ut en (fu + 1) k = [] := by rw [ecl, if_pos (by omega)]
            rw [hnil, List.append_nil] at hspl
            exact cn_vret hx hb hr hlk hw  (⟨rfl, by rw [hspl]; exact hr1, hx1⟩) (by omega) (by omega) d_EN_writeText_71
          · have hcr := ecc_rng hrg en hk0 (by omega : k < (ut.length : Int))
            have hstep : ecl ut en (fu + 1) k = ecd en (ecc ut en k) ++ ecl ut en fu (if 65536 ≤ ecc ut en k then k + 2 else k + 1) := by rw [ecl, if_neg (by omega)]
            refine lv_iload_n hx hb d_EN_writeText_27 rfl (lv_at hl 4 rfl) ?_
            refine di_if_eq (tgt := 40) hx hb d_EN_writeText_28 (by decide) ⟨by omega, by omega⟩ (fun _ => ?_) (fun bq28 => absurd rfl bq28)
            refine lv_aload_n hx hb d_EN_writeText_40 rfl (lv_at hl 1 rfl) ?_
            refine lv_iload hx hb d_EN_writeText_41 (lv_at hl 0 rfl) ?_
            refine sg_EN_19 X hz hw hl.1 hd ht1 ⟨by omega, by omega⟩ ⟨Nat.le_of_ble_eq_true rfl, Nat.le_of_ble_eq_true rfl⟩ ⟨by show ce + 4 * pot f1 b ≤ 4 * pot f b; omega, by show sl + 140 * pot f1 b ≤ 140 * pot f b; omega⟩ (Nat.le_of_ble_eq_true rfl) d_EN_writeText_43 (fun f2 H locs hx_f2 hp_f2 hw => ?_)
            refine W.eq (g2 := F0 m 46 ls [.int (iI (gt ut k))]) rfl ?_
            have hx2 := hx_f2
            have hp2 := hp_f2
            have ht2 := hx2.2.1 _ _ _ ht1
            have hec : gt ut k = ecc ut en k := (if_neg (fun q => by omega)).symm
            rw [hec]
            refine lv_istore (lv' := [(5, .int (iI (ecc ut en k))), (4, .int (iI k)), (0, .ref b), (1, .int (iI en)), (2, .ref r), (3, .int (iI 0))]) hx hb d_EN_writeText_46 hl (by decide) rfl (fun ls hl => ?_)
            refine lv_iload hx hb d_EN_writeText_48 (lv_at hl 0 rfl) ?_
            refine lv_iload_n hx hb d_EN_writeText_50 rfl (lv_at hl 3 rfl) ?_
            refine lv_aload_n hx hb d_EN_writeText_51 rfl (lv_at hl 4 rfl) ?_
            refine cs_EN_23 X hz hw hl.1 (c_EN_writeCode l G f2 _ (ecc ut en k) hcr.1 hcr.2.1 en hen r q n (apl1 n us acc) (apl2 n us acc sp) (hx2.rw hr1 (fun q => q) (fun q => q))) ⟨Nat.le_of_ble_eq_true rfl, Nat.le_of_ble_eq_true rfl⟩ ⟨by show ce + 4 * pot f1 b + 0 ≤ 4 * pot f b; omega, by show sl + 140 * pot f1 b + 0 ≤ 140 * pot f b; omega⟩ (Nat.le_of_ble_eq_true rfl) d_EN_writeText_52 (fun v f3 H locs hp hw hsz9 hkp9 hdm9 => ?_)
            obtain ⟨rfl, hr3, hk3⟩ := hp
            have hx3 := exo_row hG (hx2.rw hr1 (fun q => q) (fun q => q)) hr3 hk3
            rw [apl_app1 hn0, apl_app2 hn0] at hr3
            have ht3 := hx3.2.1 _ _ _ ht2
            have hp3 := exo_pot hx3 ht2
            have hx13 := (hx1.tr (hx2.mono hno9)).tr hx3
            obtain ⟨fu2, rfl⟩ : ∃ z, fu = z + 1 := ⟨fu - 1, by omega⟩
            refine W.eq (g2 := F0 m 55 ls []) rfl ?_
            refine lv_iload hx hb d_EN_writeText_55 (lv_at hl 0 rfl) ?_
            refine lv_ldc (v := iI (65536)) hx hb X.own (X.hts _ mw_549) d_EN_writeText_57 ?_
            refine di_icmp_lt (tgt := 65) hx hb d_EN_writeText_59 (by decide) ⟨by omega, by omega⟩ ⟨by omega, by omega⟩ (fun bq59 => ?_) (fun bq59 => ?_)
            · refine lv_iinc (v := iI (k + 1)) (lv' := [(4, .int (iI (k + 1))), (5, .int (iI (ecc ut en k))), (0, .ref b), (1, .int (iI en)), (2, .ref r), (3, .int (iI 0))]) hx hb d_EN_writeText_65 hl (k := 1) rfl (iI_add _ _) (by decide) rfl (fun ls hl => ?_)
              refine lv_goto (tgt := 18) hx hb d_EN_writeText_68 (by decide) ?_
              exact ih (k + 1) (acc ++ ecd en (ecc ut en k)) (fu2) (ce + 4 * pot f1 b) (sl + 140 * pot f1 b) _ _ _ _ (by omega) (by omega) (by omega) (by omega) (by rw [hspl, hstep, if_neg (by omega), List.append_assoc]) (hr3) (hx13) (ht3) (by omega) (by omega) hw (lv_sub hl [0, 2, 3, 4, 5] rfl)
            · refine lv_iinc (v := iI (k + 1)) (lv' := [(4, .int (iI (k + 1))), (5, .int (iI (ecc ut en k))), (0, .ref b), (1, .int (iI en)), (2, .ref r), (3, .int (iI 0))]) hx hb d_EN_writeText_62 hl (k := 1) rfl (iI_add _ _) (by decide) rfl (fun ls hl => ?_)
              refine lv_iinc (v := iI (k + 1 + 1)) (lv' := [(4, .int (iI (k + 1 + 1))), (5, .int (iI (ecc ut en k))), (0, .ref b), (1, .int (iI en)), (2, .ref r), (3, .int (iI 0))]) hx hb d_EN_writeText_65 hl (k := 0) rfl (iI_add _ _) (by decide) rfl (fun ls hl => ?_)
              refine lv_goto (tgt := 18) hx hb d_EN_writeText_68 (by decide) ?_
              exact ih (k + 1 + 1) (acc ++ ecd en (ecc ut en k)) (fu2) (ce + 4 * pot f1 b) (sl + 140 * pot f1 b) _ _ _ _ (by omega) (by omega) (by omega) (by omega) (by rw [hspl, hstep, if_pos (by omega), List.append_assoc, show k + 2 = k + 1 + 1 by omega]) (hr3) (hx13) (ht3) (by omega) (by omega) hw (lv_sub hl [0, 2, 3, 4, 5] rfl)
      exact loop (((ut.length : Int) + 2 - 0).toNat + 1) (0) ([]) (ut.length) (0) (0) _ _ _ _ (by omega) (by omega) (by omega) (by omega) (rfl) (hy0) (exo.rf) (ht) (by omega) (by omega) hw (lv_sub hl [0, 2, 3, 4, 1] rfl)
    · refine lv_iconst (v := iI (1)) hx hb d_EN_writeText_9 rfl ?_
      refine lv_goto (tgt := 14) hx hb d_EN_writeText_10 (by decide) ?_
      refine lv_istore_n (lv' := [(3, .int (iI 1)), (0, .ref b), (1, .int (iI en)), (2, .ref r)]) hx hb d_EN_writeText_14 rfl hl (by decide) rfl (fun ls hl => ?_)
      refine lv_iconst (v := iI (0)) hx hb d_EN_writeText_15 rfl ?_
      refine lv_istore (lv' := [(4, .int (iI 0)), (3, .int (iI 1)), (0, .ref b), (1, .int (iI en)), (2, .ref r)]) hx hb d_EN_writeText_16 hl (by decide) rfl (fun ls hl => ?_)
      have loop : ∀ (N : Nat) (k : Int) (acc : List Int) (fu : Nat) (ce : Nat) (sl : Nat) (f1 : dw_M) (H : Heap) (locs : List Loc) (ls : Array Slot), ((ut.length : Int) + 2 - k).toNat < N → 0 ≤ k → k ≤ (ut.length : Int) + 1 → (ut.length : Int) - k < (fu : Int) + 1 → enc ut en = acc ++ ecl ut en (fu + 1) k → rw G f1 r q n (apl1 n us acc) (apl2 n us acc sp) → exo G (fun a => a = r ∨ a = q) f f1 → tx G d f1 b ut → ce + 4 * pot f1 b ≤ 4 * pot f b → sl + 140 * pot f1 b ≤ 140 * pot f b → dw G.1 dk_cl (dw_A f sz) s.heap f1 H locs → lv_has ls 6 [(4, .int (iI k)), (0, .ref b), (1, .int (iI en)), (2, .ref r), (3, .int (iI 1))] → W p l e { frames := 44, locals := 1010, cells := 4 * pot f b, slots := 140 * pot f b } s m args below meth c H locs (ce) (sl) (MQ below (ct_Q G f sz (fun v f' => v = none ∧ rw G f' r q n (apl1 n us (enc ut en)) (apl2 n us (enc ut en) sp) ∧ exo G (fun a => a = r ∨ a = q) f f')) args s (4 * pot f b) (140 * pot f b) (dw_A f sz)) (F0 m 18 ls []) := by
        intro N
        induction N with
        | zero => intros; omega
        | succ N ih =>
          intro k acc fu ce sl f1 H locs ls hN hk0 hk1 hfu hspl hr1 hx1 ht1 hce hsl hw hl
          refine lv_iload hx hb d_EN_writeText_18 (lv_at hl 0 rfl) ?_
          refine lv_aload_n hx hb d_EN_writeText_20 rfl (lv_at hl 1 rfl) ?_
          refine st_EN_9 X hz hw hl.1 ht1 ⟨Nat.le_of_ble_eq_true rfl, Nat.le_of_ble_eq_true rfl⟩ ⟨by show ce ≤ 4 * pot f b; omega, by show sl ≤ 140 * pot f b; omega⟩ (Nat.le_of_ble_eq_true rfl) d_EN_writeText_21 (fun H locs hw => ?_)
          refine W.eq (g2 := F0 m 24 ls [.int (iI ((ut.length : Int))), .int (iI k)]) rfl ?_
          refine di_icmp_ge (tgt := 71) hx hb d_EN_writeText_24 (by decide) ⟨by omega, by omega⟩ ⟨by omega, by omega⟩ (fun bq24 => ?_) (fun bq24 => ?_)
          · have hnil : ecl ut en (fu + 1) k = [] := by rw [ecl, if_pos (by omega)]
            rw [hnil, List.append_nil] at hspl
            exact cn_vret hx hb hr hlk hw  (⟨rfl, by rw [hspl]; exact hr1, hx1⟩) (by omega) (by omega) d_EN_writeText_71
          · have hcr := ecc_rng hrg en hk0 (by omega : k < (ut.length : Int))
            have hstep : ecl ut en (fu + 1) k = ecd en (ecc ut en k) ++ ecl ut en fu (if 65536 ≤ ecc ut en k then k + 2 else k + 1) := by rw [ecl, if_neg (by omega)]
            refine lv_iload_n hx hb d_EN_writeText_27 rfl (lv_at hl 4 rfl) ?_
            refine di_if_eq (tgt := 40) hx hb d_EN_writeText_28 (by decide) ⟨by omega, by omega⟩ (fun bq28 => absurd bq28 (by decide)) (fun _ => ?_)
            refine lv_aload_n hx hb d_EN_writeText_31 rfl (lv_at hl 1 rfl) ?_
            refine lv_iload hx hb d_EN_writeText_32 (lv_at hl 0 rfl) ?_
            refine cs_EN_15 X hz hw hl.1 (c_DK_characterAt l G f1 _ b ut k ⟨by omega, by omega⟩ hrg (Or.inl ⟨_, hd, ht1⟩)) ⟨Nat.le_of_ble_eq_true rfl, Nat.le_of_ble_eq_true rfl⟩ ⟨by show ce + 4 * pot f1 b ≤ 4 * pot f b; omega, by show sl + 140 * pot f1 b ≤ 140 * pot f b; omega⟩ (Nat.le_of_ble_eq_true rfl) d_EN_writeText_34 (fun v f2 H locs hp hw hsz9 hkp9 hdm9 => ?_)
            obtain ⟨rfl, hx2, hp2⟩ := hp
            have ht2 := hx2.2.1 _ _ _ ht1
            have hec : chr ut k = ecc ut en k := (if_pos (Or.inr bq6)).symm
            refine W.eq (g2 := F0 m 37 ls [.int (iI (chr ut k))]) rfl ?_
            rw [hec]
            refine lv_goto (tgt := 46) hx hb d_EN_writeText_37 (by decide) ?_
            refine lv_istore (lv' := [(5, .int (iI (ecc ut en k))), (4, .int (iI k)), (0, .ref b), (1, .int (iI en)), (2, .ref r), (3, .int (iI 1))]) hx hb d_EN_writeText_46 hl (by decide) rfl (fun ls hl => ?_)
            refine lv_iload hx hb d_EN_writeText_48 (lv_at hl 0 rfl) ?_
            refine lv_iload_n hx hb d_EN_writeText_50 rfl (lv_at hl 3 rfl) ?_
            refine lv_aload_n hx hb d_EN_writeText_51 rfl (lv_at hl 4 rfl) ?_
            refine cs_EN_23 X hz hw hl.1 (c_EN_writeCode l G f2 _ (ecc ut en k) hcr.1 hcr.2.1 en hen r q n (apl1 n us acc) (apl2 n us acc sp) (hx2.rw hr1 (fun q => q) (fun q => q))) ⟨Nat.le_of_ble_eq_true rfl, Nat.le_of_ble_eq_true rfl⟩ ⟨by show ce + 4 * pot f1 b + 0 ≤ 4 * pot f b; omega, by show sl + 140 * pot f1 b + 0 ≤ 140 * pot f b; omega⟩ (Nat.le_of_ble_eq_true rfl) d_EN_writeText_52 (fun v f3 H locs hp hw hsz9 hkp9 hdm9 => ?_)
            obtain ⟨rfl, hr3, hk3⟩ := hp
            have hx3 := exo_row hG (hx2.rw hr1 (fun q => q) (fun q => q)) hr3 hk3
            rw [apl_app1 hn0, apl_app2 hn0] at hr3
            have ht3 := hx3.2.1 _ _ _ ht2
            have hp3 := exo_pot hx3 ht2
            have hx13 := (hx1.tr (hx2.mono hno9)).tr hx3
            obtain ⟨fu2, rfl⟩ : ∃ z, fu = z + 1 := ⟨fu - 1, by omega⟩
            refine W.eq (g2 := F0 m 55 ls []) rfl ?_
            refine lv_iload hx hb d_EN_writeText_55 (lv_at hl 0 rfl) ?_
            refine lv_ldc (v := iI (65536)) hx hb X.own (X.hts _ mw_549) d_EN_writeText_57 ?_
            refine di_icmp_lt (tgt := 65) hx hb d_EN_writeText_59 (by decide) ⟨by omega, by omega⟩ ⟨by omega, by omega⟩ (fun bq59 => ?_) (fun bq59 => ?_)
            · refine lv_iinc (v := iI (k + 1)) (lv' := [(4, .int (iI (k + 1))), (5, .int (iI (ecc ut en k))), (0, .ref b), (1, .int (iI en)), (2, .ref r), (3, .int (iI 1))]) hx hb d_EN_writeText_65 hl (k := 1) rfl (iI_add _ _) (by decide) rfl (fun ls hl => ?_)
              refine lv_goto (tgt := 18) hx hb d_EN_writeText_68 (by decide) ?_
              exact ih (k + 1) (acc ++ ecd en (ecc ut en k)) (fu2) (ce + 4 * pot f1 b) (sl + 140 * pot f1 b) _ _ _ _ (by omega) (by omega) (by omega) (by omega) (by rw [hspl, hstep, if_neg (by omega), List.append_assoc]) (hr3) (hx13) (ht3) (by omega) (by omega) hw (lv_sub hl [0, 2, 3, 4, 5] rfl)
            · refine lv_iinc (v := iI (k + 1)) (lv' := [(4, .int (iI (k + 1))), (5, .int (iI (ecc ut en k))), (0, .ref b), (1, .int (iI en)), (2, .ref r), (3, .int (iI 1))]) hx hb d_EN_writeText_62 hl (k := 1) rfl (iI_add _ _) (by decide) rfl (fun ls hl => ?_)
              refine lv_iinc (v := iI (k + 1 + 1)) (lv' := [(4, .int (iI (k + 1 + 1))), (5, .int (iI (ecc ut en k))), (0, .ref b), (1, .int (iI en)), (2, .ref r), (3, .int (iI 1))]) hx hb d_EN_writeText_65 hl (k := 0) rfl (iI_add _ _) (by decide) rfl (fun ls hl => ?_)
              refine lv_goto (tgt := 18) hx hb d_EN_writeText_68 (by decide) ?_
              exact ih (k + 1 + 1) (acc ++ ecd en (ecc ut en k)) (fu2) (ce + 4 * pot f1 b) (sl + 140 * pot f1 b) _ _ _ _ (by omega) (by omega) (by omega) (by omega) (by rw [hspl, hstep, if_pos (by omega), List.append_assoc, show k + 2 = k + 1 + 1 by omega]) (hr3) (hx13) (ht3) (by omega) (by omega) hw (lv_sub hl [0, 2, 3, 4, 5] rfl)
      exact loop (((ut.length : Int) + 2 - 0).toNat + 1) (0) ([]) (ut.length) (0) (0) _ _ _ _ (by omega) (by omega) (by omega) (by omega) (rfl) (hy0) (exo.rf) (ht) (by omega) (by omega) hw (lv_sub hl [0, 2, 3, 4, 1] rfl)
set_option maxRecDepth 100000 in
set_option maxHeartbeats 4000000 in
theorem c_DK_encode (l : Launch) (hlT : l.stackTraces = false) (G : ct_G) (f : dw_M) (sz : Nat) (x : Nat) (T Y : List (List Int)) (B Z : List Int) (hI : dkI G f x T Y B Z) (k en : Int) (hk : iR k) (he : iR en) : ct l y_DK_encode w_DK_encode (45) (1040) G f sz [.ref x, .int (iI k), .int (iI en)] (fun v f' => v = some (.int (iI ((enc (tt T k) en).length : Int))) ∧ ((0 ≤ k ∧ k < (T.length : Int)) ∧ 0 ≤ en ∧ en ≤ 4) ∧ dkI G f' x T Y B (enc (tt T k) en)) (fun E f' => E = "java/lang/IllegalArgumentException" ∧ ¬ ((0 ≤ k ∧ k < (T.length : Int)) ∧ 0 ≤ en ∧ en ≤ 4) ∧ dkI G f' x T Y B Z) (6) (152) := by
  refine ct_of (own := "TextDesk") (nm := "encode") (ds := "(II)I") (by decide) (Nat.le_of_ble_eq_true rfl) ?_
  intro p e s m args below meth c ls X hnm hr hlk hnx hs0 hz hw hl
  have hx := X.1
  have hb := X.2.1
  have hl : lv_has ls 4 [(0, .ref x), (1, .int (iI k)), (2, .int (iI en))] := hl
  have hG := X.E.ok
  obtain ⟨ta, sa, yr, dc, bu, dr, qy, qb, qd, gT, gS, c0, w0, D, sB, sZ, sD, hS⟩ := hI
  refine lv_aload_n hx hb d_DK_encode_0 rfl (lv_at hl 0 rfl) ?_
  refine lv_iload_n hx hb d_DK_encode_1 rfl (lv_at hl 1 rfl) ?_
  refine cs_DK_64 X hz hw hl.1 hS.1 (c_DK_textNumbered l hlT G f _ (k) hk x ta sa yr dc bu dr qy qb qd gT gS c0 w0 T Y B Z D sB sZ sD hS) ⟨Nat.le_of_ble_eq_true rfl, Nat.le_of_ble_eq_true rfl⟩ ⟨by show 0 + 1 ≤ 6; omega, by show 0 + 6 ≤ 152; omega⟩ (Nat.le_of_ble_eq_true rfl) d_DK_encode_2 (fun E ce q9 f8 H locs hpx hw _ _ _ hce hcv hcl => ?_) (fun v f9 H locs hp hw hsz9 hkp9 hdm9 => ?_)
  · obtain ⟨rfl, hno, hfe⟩ := hpx
    rw [hfe] at hw
    exact ct_out hnx hlk hw (⟨rfl, fun q => hno q.1, hS.I⟩) hce hcv hcl (by omega) (by omega)
  obtain ⟨t1, rfl, hg_t1, hb_t1, hfe⟩ := hp
  rw [hfe] at hw
  have ht_t1 := hS.txt hb_t1.1 hb_t1.2 hg_t1
  have hl_t1 := ht_t1.len
  have hT_t1 := hS.2.2.2.2.1.1
  refine W.eq (g2 := F0 m 5 ls [.ref t1]) rfl ?_
  have hpt := pot_le f t1
  refine lv_astore_n (lv' := [(3, .ref t1), (0, .ref x), (1, .int (iI k)), (2, .int (iI en))]) hx hb d_DK_encode_5 rfl hl (by decide) rfl (fun ls hl => ?_)
  refine lv_iload_n hx hb d_DK_encode_6 rfl (lv_at hl 3 rfl) ?_
  refine cs_DK_147 X hz hw hl.1 (c_DK_refuseUnknownEncoding l hlT G f _ en he) ⟨Nat.le_of_ble_eq_true rfl, Nat.le_of_ble_eq_true rfl⟩ ⟨by show 0 + 1 + 1 ≤ 6; omega, by show 0 + 6 + 6 ≤ 152; omega⟩ (Nat.le_of_ble_eq_true rfl) d_DK_encode_7 (fun E ce q9 f8 H locs hpx hw _ _ _ hce hcv hcl => ?_) (fun v f9 H locs hp hw hsz9 hkp9 hdm9 => ?_)
  · obtain ⟨rfl, hno, hfe⟩ := hpx
    rw [hfe] at hw
    exact ct_out hnx hlk hw (⟨rfl, fun q => hno q.2, hS.I⟩) hce hcv hcl (by omega) (by omega)
  obtain ⟨rfl, hen, hfe⟩ := hp
  rw [hfe] at hw
  refine W.eq (g2 := F0 m 10 ls []) rfl ?_
  refine lv_aload_n hx hb d_DK_encode_10 rfl (lv_at hl 1 rfl) ?_
  refine gf_DK_23_DK X hw hS.1 d_DK_encode_11 ?_
  refine cs_DK_70 X hz hw hl.1 hS.2.2.2.2.2.2.2.1.1.choose_spec.1 (c_RW_drop l G f _ yr qy 200 Z sZ hS.2.2.2.2.2.2.2.1.1) ⟨Nat.le_of_ble_eq_true rfl, Nat.le_of_ble_eq_true rfl⟩ ⟨by show 0 + 1 + 1 + 0 ≤ 6; omega, by show 0 + 6 + 6 + 0 ≤ 152; omega⟩ (Nat.le_of_ble_eq_true rfl) d_DK_encode_14 (fun v f2 H locs hp hw hsz9 hkp9 hdm9 => ?_)
  obtain ⟨rfl, hr_f2, hk_f2⟩ := hp
  have hx_f2 := exo_row hG hS.2.2.2.2.2.2.2.1.1 hr_f2 (fun b h8 _ => hk_f2 b h8)
  refine W.eq (g2 := F0 m 17 ls []) rfl ?_
  have hS_f2 := hS.byt hx_f2 hr_f2 mem_nil
  have ht2 := hx_f2.2.1 _ _ _ ht_t1
  have hp2t := exo_pot hx_f2 ht_t1
  have hez := enc_all ht_t1.rng ht_t1.len hen
  refine lv_aload_n hx hb d_DK_encode_17 rfl (lv_at hl 0 rfl) ?_
  refine lv_iload_n hx hb d_DK_encode_18 rfl (lv_at hl 3 rfl) ?_
  refine lv_aload_n hx hb d_DK_encode_19 rfl (lv_at hl 1 rfl) ?_
  refine gf_DK_23_DK X hw hS_f2.1 d_DK_encode_20 ?_
  refine cs_DK_150 X hz hw hl.1 (c_EN_writeText l G f2 _ k.toNat t1 (tt T k) (by omega) ht2 en hen yr qy 200 [] 0 hS_f2.2.2.2.2.2.2.2.1.1) ⟨Nat.le_of_ble_eq_true rfl, Nat.le_of_ble_eq_true rfl⟩ ⟨by show 0 + 1 + 1 + 4 * pot f2 t1 ≤ 6; omega, by show 0 + 6 + 6 + 140 * pot f2 t1 ≤ 152; omega⟩ (Nat.le_of_ble_eq_true rfl) d_DK_encode_23 (fun v f3 H locs hp hw hsz9 hkp9 hdm9 => ?_)
  obtain ⟨rfl, hr_f3, hx_f3⟩ := hp
  rw [apl1_fit (show ([] : List Int).length + (enc (tt T k) en).length ≤ 200 by simp; omega), apl2_fit (show ([] : List Int).length + (enc (tt T k) en).length ≤ 200 by simp; omega), List.nil_append] at hr_f3
  refine W.eq (g2 := F0 m 26 ls []) rfl ?_
  have hS_f3 := hS_f2.byt hx_f3 hr_f3 hez.2
  refine lv_aload_n hx hb d_DK_encode_26 rfl (lv_at hl 1 rfl) ?_
  refine gf_DK_23_DK X hw hS_f3.1 d_DK_encode_27 ?_
  refine cs_DK_60 X hz hw hl.1 hS_f3.2.2.2.2.2.2.2.1.1.choose_spec.1 (c_RW_size l G f3 _ yr qy 200 (enc (tt T k) en) 0 hS_f3.2.2.2.2.2.2.2.1.1) ⟨Nat.le_of_ble_eq_true rfl, Nat.le_of_ble_eq_true rfl⟩ ⟨by show 0 + 1 + 1 + 4 * pot f2 t1 + 0 ≤ 6; omega, by show 0 + 6 + 6 + 140 * pot f2 t1 + 0 ≤ 152; omega⟩ (Nat.le_of_ble_eq_true rfl) d_DK_encode_30 (fun v f9 H locs hp hw hsz9 hkp9 hdm9 => ?_)
  obtain ⟨rfl, hfe⟩ := hp
  rw [hfe] at hw
  refine W.eq (g2 := F0 m 33 ls [.int (iI (((enc (tt T k) en).length : Int)))]) rfl ?_
  exact ct_iret hx hb hr  hlk hw (⟨rfl, ⟨hb_t1, hen⟩, hS_f3.I⟩) (by omega) (by omega) d_DK_encode_33
