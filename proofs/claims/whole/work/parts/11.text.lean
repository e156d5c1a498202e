set_option maxRecDepth 100000 in
set_option maxHeartbeats 4000000 in
theorem c_SQ_init (l : Launch) (G : ct_G) (f : dw_M) (sz : Nat) (a : Nat) : cn l y_SQ_init w_SQ_init (1) (20) G f sz [.ref a] (fun v f' => v = none ∧ f' = f) (0) (0) := by
  refine cn_of (own := "TextDesk$Sequence") (nm := "<init>") (ds := "()V") (by decide) (Nat.le_of_ble_eq_true rfl) ?_
  intro p e s m args below meth c ls X hnm hr hlk hs0 hz hw hl
  have hx := X.1
  have hb := X.2.1
  have hl : lv_has ls 1 [(0, .ref a)] := hl
  refine lv_aload_n hx hb d_SQ_init_0 rfl (lv_at hl 0 rfl) ?_
  refine di_obj X hl.1 mw_37 (Nat.le_of_ble_eq_true rfl) (Nat.le_of_ble_eq_true rfl) d_SQ_init_1 ?_
  exact cn_vret hx hb hr hlk hw  (⟨rfl, rfl⟩) (Nat.le_refl _) (Nat.le_refl _) d_SQ_init_4
set_option maxRecDepth 100000 in
set_option maxHeartbeats 4000000 in
theorem c_RW_init (l : Launch) (G : ct_G) (f : dw_M) (sz : Nat) (r n : Nat) (hn : n < 1000) (h0 : f r = some (.inr (4, [.null, .int (iI 0), .int (iI 0)]))) : cn l y_RW_init w_RW_init (2) (50) G f sz [.ref r, .int (iI (n : Int))] (fun v f' => v = none ∧ ∃ q, f q = none ∧ rw G f' r q n [] 0 ∧ ∀ b, b ≠ r → b ≠ q → f' b = f b) (1) (n) := by
  refine cn_of (own := "TextDesk$Row") (nm := "<init>") (ds := "(I)V") (by decide) (Nat.le_of_ble_eq_true rfl) ?_
  intro p e s m args below meth c ls X hnm hr hlk hs0 hz hw hl
  have hx := X.1
  have hb := X.2.1
  have hl : lv_has ls 2 [(0, .ref r), (1, .int (iI ((n : Int))))] := hl
  refine lv_aload_n hx hb d_RW_init_0 rfl (lv_at hl 0 rfl) ?_
  refine cs_RW_3 X hz hw hl.1 (c_SQ_init l G f _ r) ⟨Nat.le_of_ble_eq_true rfl, Nat.le_of_ble_eq_true rfl⟩ ⟨by show 0 + 0 ≤ 1; omega, by show 0 + 0 ≤ n; omega⟩ (Nat.le_of_ble_eq_true rfl) d_RW_init_1 (fun v f9 H locs hp hw hsz9 hkp9 hdm9 => ?_)
  obtain ⟨rfl, hfe⟩ := hp
  rw [hfe] at hw
  refine W.eq (g2 := F0 m 4 ls []) rfl ?_
  refine lv_aload_n hx hb d_RW_init_4 rfl (lv_at hl 0 rfl) ?_
  refine lv_iload_n hx hb d_RW_init_5 rfl (lv_at hl 1 rfl) ?_
  refine lv_iconst (v := iI (0)) hx hb d_RW_init_6 rfl ?_
  refine di_max X hl.1 mw_38 ⟨by omega, by omega⟩ ⟨by omega, by omega⟩ (z := (n : Int)) (if_neg (by omega)) (Nat.le_of_ble_eq_true rfl) (Nat.le_of_ble_eq_true rfl) (by show 0 ≤ 1; omega) (by show 0 ≤ n; omega) d_RW_init_7 ?_
  refine na_int X hw (N := n) (rfl) (by omega) (by show 0 + 1 ≤ 1; omega) (by show 0 + n ≤ n; omega) d_RW_init_10 (fun q H hq_q hw => ?_)
  obtain ⟨f1, e_f1⟩ : ∃ g9 : dw_M, g9 = dw_up f q (.inl (G.2.1 0, n, .inl (fun _ => iI 0))) := ⟨_, rfl⟩
  rw [← e_f1] at hw
  have k_f1_r : f1 r = some (.inr (4, [.null, .int (iI 0), .int (iI 0)])) := by rw [e_f1]; exact dw_keep h0 (dw_neN h0 hq_q)
  have k_f1_q : f1 q = some (.inl (G.2.1 0, n, .inl (fun _ => iI 0))) := by rw [e_f1]; exact dw_up_self _ _ _
  refine pf_RW_15_RW X hnm hw k_f1_r (rfl) (rfl) d_RW_init_12 (fun H locs hw => ?_)
  obtain ⟨f2, e_f2⟩ : ∃ g9 : dw_M, g9 = dw_up f1 r (.inr (4, [.ref q, .int (iI 0), .int (iI 0)])) := ⟨_, rfl⟩
  rw [← e_f2] at hw
  have k_f2_q : f2 q = some (.inl (G.2.1 0, n, .inl (fun _ => iI 0))) := by rw [e_f2]; exact dw_keep k_f1_q (dw_ne k_f1_q k_f1_r (by simp))
  have k_f2_r : f2 r = some (.inr (4, [.ref q, .int (iI 0), .int (iI 0)])) := by rw [e_f2]; exact dw_up_self _ _ _
  exact cn_vret hx hb hr hlk hw  (⟨rfl, q, hq_q, ⟨fun _ => iI 0, k_f2_r, k_f2_q, Nat.zero_le _, hn, fun k hk => absurd hk (Nat.not_lt_zero k)⟩, fun b h8 h9 => by rw [e_f2, dw_up_ne _ _ h8, e_f1, dw_up_ne _ _ h9]⟩) (by omega) (by omega) d_RW_init_15
set_option maxRecDepth 100000 in
set_option maxHeartbeats 4000000 in
theorem c_TX_init_NT (l : Launch) (G : ct_G) (f : dw_M) (sz : Nat) (a : Nat) (z b : Int) (hb0 : b = 0 ∨ b = 1) {v2 : Value} (h0 : f a = some (.inr (1, [.int (iI 0), .int (iI 0), v2]))) : cn l y_TX_init w_TX_init (2) (50) G f sz [.ref a, .int (iI z), .int (iI b)] (fun v f' => v = none ∧ f' a = some (.inr (1, [.int (iI z), .int (iI b), v2])) ∧ ∀ q, q ≠ a → f' q = f q) (0) (0) := by
  refine cn_of (own := "TextDesk$Text") (nm := "<init>") (ds := "(IZ)V") (by decide) (Nat.le_of_ble_eq_true rfl) ?_
  intro p e s m args below meth c ls X hnm hr hlk hs0 hz hw hl
  have hx := X.1
  have hb := X.2.1
  have hl : lv_has ls 3 [(0, .ref a), (1, .int (iI z)), (2, .int (iI b))] := hl
  refine lv_aload_n hx hb d_TX_init_0 rfl (lv_at hl 0 rfl) ?_
  refine cs_TX_1 X hz hw hl.1 (c_SQ_init l G f _ a) ⟨Nat.le_of_ble_eq_true rfl, Nat.le_of_ble_eq_true rfl⟩ ⟨by show 0 + 0 ≤ 0; omega, by show 0 + 0 ≤ 0; omega⟩ (Nat.le_of_ble_eq_true rfl) d_TX_init_1 (fun v f9 H locs hp hw hsz9 hkp9 hdm9 => ?_)
  obtain ⟨rfl, hfe⟩ := hp
  rw [hfe] at hw
  refine W.eq (g2 := F0 m 4 ls []) rfl ?_
  refine lv_aload_n hx hb d_TX_init_4 rfl (lv_at hl 0 rfl) ?_
  refine lv_iload_n hx hb d_TX_init_5 rfl (lv_at hl 1 rfl) ?_
  refine pf_TX_7_NT X hnm hw h0 (rfl) (rfl) d_TX_init_6 (fun H locs hw => ?_)
  obtain ⟨f1, e_f1⟩ : ∃ g9 : dw_M, g9 = dw_up f a (.inr (1, [.int (iI z), .int (iI 0), v2])) := ⟨_, rfl⟩
  rw [← e_f1] at hw
  have k_f1_a : f1 a = some (.inr (1, [.int (iI z), .int (iI 0), v2])) := by rw [e_f1]; exact dw_up_self _ _ _
  refine lv_aload_n hx hb d_TX_init_9 rfl (lv_at hl 0 rfl) ?_
  refine lv_iload_n hx hb d_TX_init_10 rfl (lv_at hl 2 rfl) ?_
  refine pf_TX_13_NT X hnm hw k_f1_a (b01 hb0) (b01f hb0) d_TX_init_11 (fun H locs hw => ?_)
  obtain ⟨f2, e_f2⟩ : ∃ g9 : dw_M, g9 = dw_up f1 a (.inr (1, [.int (iI z), .int (iI b), v2])) := ⟨_, rfl⟩
  rw [← e_f2] at hw
  have k_f2_a : f2 a = some (.inr (1, [.int (iI z), .int (iI b), v2])) := by rw [e_f2]; exact dw_up_self _ _ _
  exact cn_vret hx hb hr hlk hw  (⟨rfl, k_f2_a, fun q h8 => by rw [e_f2, dw_up_ne _ _ h8, e_f1, dw_up_ne _ _ h8]⟩) (Nat.le_refl _) (Nat.le_refl _) d_TX_init_14
set_option maxRecDepth 100000 in
set_option maxHeartbeats 4000000 in
theorem c_TX_size_NT (l : Launch) (G : ct_G) (f : dw_M) (sz : Nat) (a : Nat) (z : Int) {v1 v2 : Value} (h0 : f a = some (.inr (1, [.int (iI z), v1, v2]))) : cn l y_TX_size w_TX_size (0) (0) G f sz [.ref a] (fun v f' => v = some (.int (iI z)) ∧ f' = f) (0) (0) := by
  refine cn_of (own := "TextDesk$Text") (nm := "size") (ds := "()I") (by decide) (Nat.le_of_ble_eq_true rfl) ?_
  intro p e s m args below meth c ls X hnm hr hlk hs0 hz hw hl
  have hx := X.1
  have hb := X.2.1
  have hl : lv_has ls 1 [(0, .ref a)] := hl
  refine lv_aload_n hx hb d_TX_size_0 rfl (lv_at hl 0 rfl) ?_
  refine gf_TX_7_NT X hw h0 d_TX_size_1 ?_
  exact cn_iret hx hb hr hlk hw  (⟨rfl, rfl⟩) (Nat.le_refl _) (Nat.le_refl _) d_TX_size_4
set_option maxRecDepth 100000 in
set_option maxHeartbeats 4000000 in
theorem c_TX_isNarrow_NT (l : Launch) (G : ct_G) (f : dw_M) (sz : Nat) (a : Nat) (b : Int) (hb0 : b = 0 ∨ b = 1) {v0 v2 : Value} (h0 : f a = some (.inr (1, [v0, .int (iI b), v2]))) : cn l y_TX_isNarrow w_TX_isNarrow (0) (0) G f sz [.ref a] (fun v f' => v = some (.int (iI b)) ∧ f' = f) (0) (0) := by
  refine cn_of (own := "TextDesk$Text") (nm := "isNarrow") (ds := "()Z") (by decide) (Nat.le_of_ble_eq_true rfl) ?_
  intro p e s m args below meth c ls X hnm hr hlk hs0 hz hw hl
  have hx := X.1
  have hb := X.2.1
  have hl : lv_has ls 1 [(0, .ref a)] := hl
  refine lv_aload_n hx hb d_TX_isNarrow_0 rfl (lv_at hl 0 rfl) ?_
  refine gf_TX_13_NT X hw h0 d_TX_isNarrow_1 ?_
  exact cn_zret hx hb hr hlk hw (b01 hb0) (⟨rfl, rfl⟩) (Nat.le_refl _) (Nat.le_refl _) d_TX_isNarrow_4
set_option maxRecDepth 100000 in
set_option maxHeartbeats 4000000 in
theorem c_TX_init_WT (l : Launch) (G : ct_G) (f : dw_M) (sz : Nat) (a : Nat) (z b : Int) (hb0 : b = 0 ∨ b = 1) {v2 : Value} (h0 : f a = some (.inr (2, [.int (iI 0), .int (iI 0), v2]))) : cn l y_TX_init w_TX_init (2) (50) G f sz [.ref a, .int (iI z), .int (iI b)] (fun v f' => v = none ∧ f' a = some (.inr (2, [.int (iI z), .int (iI b), v2])) ∧ ∀ q, q ≠ a → f' q = f q) (0) (0) := by
  refine cn_of (own := "TextDesk$Text") (nm := "<init>") (ds := "(IZ)V") (by decide) (Nat.le_of_ble_eq_true rfl) ?_
  intro p e s m args below meth c ls X hnm hr hlk hs0 hz hw hl
  have hx := X.1
  have hb := X.2.1
  have hl : lv_has ls 3 [(0, .ref a), (1, .int (iI z)), (2, .int (iI b))] := hl
  refine lv_aload_n hx hb d_TX_init_0 rfl (lv_at hl 0 rfl) ?_
  refine cs_TX_1 X hz hw hl.1 (c_SQ_init l G f _ a) ⟨Nat.le_of_ble_eq_true rfl, Nat.le_of_ble_eq_true rfl⟩ ⟨by show 0 + 0 ≤ 0; omega, by show 0 + 0 ≤ 0; omega⟩ (Nat.le_of_ble_eq_true rfl) d_TX_init_1 (fun v f9 H locs hp hw hsz9 hkp9 hdm9 => ?_)
  obtain ⟨rfl, hfe⟩ := hp
  rw [hfe] at hw
  refine W.eq (g2 := F0 m 4 ls []) rfl ?_
  refine lv_aload_n hx hb d_TX_init_4 rfl (lv_at hl 0 rfl) ?_
  refine lv_iload_n hx hb d_TX_init_5 rfl (lv_at hl 1 rfl) ?_
  refine pf_TX_7_WT X hnm hw h0 (rfl) (rfl) d_TX_init_6 (fun H locs hw => ?_)
  obtain ⟨f1, e_f1⟩ : ∃ g9 : dw_M, g9 = dw_up f a (.inr (2, [.int (iI z), .int (iI 0), v2])) := ⟨_, rfl⟩
  rw [← e_f1] at hw
  have k_f1_a : f1 a = some (.inr (2, [.int (iI z), .int (iI 0), v2])) := by rw [e_f1]; exact dw_up_self _ _ _
  refine lv_aload_n hx hb d_TX_init_9 rfl (lv_at hl 0 rfl) ?_
  refine lv_iload_n hx hb d_TX_init_10 rfl (lv_at hl 2 rfl) ?_
  refine pf_TX_13_WT X hnm hw k_f1_a (b01 hb0) (b01f hb0) d_TX_init_11 (fun H locs hw => ?_)
  obtain ⟨f2, e_f2⟩ : ∃ g9 : dw_M, g9 = dw_up f1 a (.inr (2, [.int (iI z), .int (iI b), v2])) := ⟨_, rfl⟩
  rw [← e_f2] at hw
  have k_f2_a : f2 a = some (.inr (2, [.int (iI z), .int (iI b), v2])) := by rw [e_f2]; exact dw_up_self _ _ _
  exact cn_vret hx hb hr hlk hw  (⟨rfl, k_f2_a, fun q h8 => by rw [e_f2, dw_up_ne _ _ h8, e_f1, dw_up_ne _ _ h8]⟩) (Nat.le_refl _) (Nat.le_refl _) d_TX_init_14
set_option maxRecDepth 100000 in
set_option maxHeartbeats 4000000 in
theorem c_TX_size_WT (l : Launch) (G : ct_G) (f : dw_M) (sz : Nat) (a : Nat) (z : Int) {v1 v2 : Value} (h0 : f a = some (.inr (2, [.int (iI z), v1, v2]))) : cn l y_TX_size w_TX_size (0) (0) G f sz [.ref a] (fun v f' => v = some (.int (iI z)) ∧ f' = f) (0) (0) := by
  refine cn_of (own := "TextDesk$Text") (nm := "size") (ds := "()I") (by decide) (Nat.le_of_ble_eq_true rfl) ?_
  intro p e s m args below meth c ls X hnm hr hlk hs0 hz hw hl
  have hx := X.1
  have hb := X.2.1
  have hl : lv_has ls 1 [(0, .ref a)] := hl
  refine lv_aload_n hx hb d_TX_size_0 rfl (lv_at hl 0 rfl) ?_
  refine gf_TX_7_WT X hw h0 d_TX_size_1 ?_
  exact cn_iret hx hb hr hlk hw  (⟨rfl, rfl⟩) (Nat.le_refl _) (Nat.le_refl _) d_TX_size_4
set_option maxRecDepth 100000 in
set_option maxHeartbeats 4000000 in
theorem c_TX_isNarrow_WT (l : Launch) (G : ct_G) (f : dw_M) (sz : Nat) (a : Nat) (b : Int) (hb0 : b = 0 ∨ b = 1) {v0 v2 : Value} (h0 : f a = some (.inr (2, [v0, .int (iI b), v2]))) : cn l y_TX_isNarrow w_TX_isNarrow (0) (0) G f sz [.ref a] (fun v f' => v = some (.int (iI b)) ∧ f' = f) (0) (0) := by
  refine cn_of (own := "TextDesk$Text") (nm := "isNarrow") (ds := "()Z") (by decide) (Nat.le_of_ble_eq_true rfl) ?_
  intro p e s m args below meth c ls X hnm hr hlk hs0 hz hw hl
  have hx := X.1
  have hb := X.2.1
  have hl : lv_has ls 1 [(0, .ref a)] := hl
  refine lv_aload_n hx hb d_TX_isNarrow_0 rfl (lv_at hl 0 rfl) ?_
  refine gf_TX_13_WT X hw h0 d_TX_isNarrow_1 ?_
  exact cn_zret hx hb hr hlk hw (b01 hb0) (⟨rfl, rfl⟩) (Nat.le_refl _) (Nat.le_refl _) d_TX_isNarrow_4
set_option maxRecDepth 100000 in
set_option maxHeartbeats 4000000 in
theorem c_TX_init_JT (l : Launch) (G : ct_G) (f : dw_M) (sz : Nat) (a : Nat) (z b : Int) (hb0 : b = 0 ∨ b = 1) {v2 v3 v4 : Value} (h0 : f a = some (.inr (3, [.int (iI 0), .int (iI 0), v2, v3, v4]))) : cn l y_TX_init w_TX_init (2) (50) G f sz [.ref a, .int (iI z), .int (iI b)] (fun v f' => v = none ∧ f' a = some (.inr (3, [.int (iI z), .int (iI b), v2, v3, v4])) ∧ ∀ q, q ≠ a → f' q = f q) (0) (0) := by
  refine cn_of (own := "TextDesk$Text") (nm := "<init>") (ds := "(IZ)V") (by decide) (Nat.le_of_ble_eq_true rfl) ?_
  intro p e s m args below meth c ls X hnm hr hlk hs0 hz hw hl
  have hx := X.1
  have hb := X.2.1
  have hl : lv_has ls 3 [(0, .ref a), (1, .int (iI z)), (2, .int (iI b))] := hl
  refine lv_aload_n hx hb d_TX_init_0 rfl (lv_at hl 0 rfl) ?_
  refine cs_TX_1 X hz hw hl.1 (c_SQ_init l G f _ a) ⟨Nat.le_of_ble_eq_true rfl, Nat.le_of_ble_eq_true rfl⟩ ⟨by show 0 + 0 ≤ 0; omega, by show 0 + 0 ≤ 0; omega⟩ (Nat.le_of_ble_eq_true rfl) d_TX_init_1 (fun v f9 H locs hp hw hsz9 hkp9 hdm9 => ?_)
  obtain ⟨rfl, hfe⟩ := hp
  rw [hfe] at hw
  refine W.eq (g2 := F0 m 4 ls []) rfl ?_
  refine lv_aload_n hx hb d_TX_init_4 rfl (lv_at hl 0 rfl) ?_
  refine lv_iload_n hx hb d_TX_init_5 rfl (lv_at hl 1 rfl) ?_
  refine pf_TX_7_JT X hnm hw h0 (rfl) (rfl) d_TX_init_6 (fun H locs hw => ?_)
  obtain ⟨f1, e_f1⟩ : ∃ g9 : dw_M, g9 = dw_up f a (.inr (3, [.int (iI z), .int (iI 0), v2, v3, v4])) := ⟨_, rfl⟩
  rw [← e_f1] at hw
  have k_f1_a : f1 a = some (.inr (3, [.int (iI z), .int (iI 0), v2, v3, v4])) := by rw [e_f1]; exact dw_up_self _ _ _
  refine lv_aload_n hx hb d_TX_init_9 rfl (lv_at hl 0 rfl) ?_
  refine lv_iload_n hx hb d_TX_init_10 rfl (lv_at hl 2 rfl) ?_
  refine pf_TX_13_JT X hnm hw k_f1_a (b01 hb0) (b01f hb0) d_TX_init_11 (fun H locs hw => ?_)
  obtain ⟨f2, e_f2⟩ : ∃ g9 : dw_M, g9 = dw_up f1 a (.inr (3, [.int (iI z), .int (iI b), v2, v3, v4])) := ⟨_, rfl⟩
  rw [← e_f2] at hw
  have k_f2_a : f2 a = some (.inr (3, [.int (iI z), .int (iI b), v2, v3, v4])) := by rw [e_f2]; exact dw_up_self _ _ _
  exact cn_vret hx hb hr hlk hw  (⟨rfl, k_f2_a, fun q h8 => by rw [e_f2, dw_up_ne _ _ h8, e_f1, dw_up_ne _ _ h8]⟩) (Nat.le_refl _) (Nat.le_refl _) d_TX_init_14
set_option maxRecDepth 100000 in
set_option maxHeartbeats 4000000 in
theorem c_TX_size_JT (l : Launch) (G : ct_G) (f : dw_M) (sz : Nat) (a : Nat) (z : Int) {v1 v2 v3 v4 : Value} (h0 : f a = some (.inr (3, [.int (iI z), v1, v2, v3, v4]))) : cn l y_TX_size w_TX_size (0) (0) G f sz [.ref a] (fun v f' => v = some (.int (iI z)) ∧ f' = f) (0) (0) := by
  refine cn_of (own := "TextDesk$Text") (nm := "size") (ds := "()I") (by decide) (Nat.le_of_ble_eq_true rfl) ?_
  intro p e s m args below meth c ls X hnm hr hlk hs0 hz hw hl
  have hx := X.1
  have hb := X.2.1
  have hl : lv_has ls 1 [(0, .ref a)] := hl
  refine lv_aload_n hx hb d_TX_size_0 rfl (lv_at hl 0 rfl) ?_
  refine gf_TX_7_JT X hw h0 d_TX_size_1 ?_
  exact cn_iret hx hb hr hlk hw  (⟨rfl, rfl⟩) (Nat.le_refl _) (Nat.le_refl _) d_TX_size_4
set_option maxRecDepth 100000 in
set_option maxHeartbeats 4000000 in
theorem c_TX_isNarrow_JT (l : Launch) (G : ct_G) (f : dw_M) (sz : Nat) (a : Nat) (b : Int) (hb0 : b = 0 ∨ b = 1) {v0 v2 v3 v4 : Value} (h0 : f a = some (.inr (3, [v0, .int (iI b), v2, v3, v4]))) : cn l y_TX_isNarrow w_TX_isNarrow (0) (0) G f sz [.ref a] (fun v f' => v = some (.int (iI b)) ∧ f' = f) (0) (0) := by
  refine cn_of (own := "TextDesk$Text") (nm := "isNarrow") (ds := "()Z") (by decide) (Nat.le_of_ble_eq_true rfl) ?_
  intro p e s m args below meth c ls X hnm hr hlk hs0 hz hw hl
  have hx := X.1
  have hb := X.2.1
  have hl : lv_has ls 1 [(0, .ref a)] := hl
  refine lv_aload_n hx hb d_TX_isNarrow_0 rfl (lv_at hl 0 rfl) ?_
  refine gf_TX_13_JT X hw h0 d_TX_isNarrow_1 ?_
  exact cn_zret hx hb hr hlk hw (b01 hb0) (⟨rfl, rfl⟩) (Nat.le_refl _) (Nat.le_refl _) d_TX_isNarrow_4
set_option maxRecDepth 100000 in
set_option maxHeartbeats 4000000 in
theorem c_NT_get (l : Launch) (G : ct_G) (f : dw_M) (sz : Nat) (a : Nat) (us : List Int) (k : Int) (hk : iR k) (ht : ntx G f a us) : cn l y_NT_get w_NT_get (0) (0) G f sz [.ref a, .int (iI k)] (fun v f' => v = some (.int (iI (gt us k))) ∧ f' = f) (0) (0) := by
  refine cn_of (own := "TextDesk$NarrowText") (nm := "get") (ds := "(I)I") (by decide) (Nat.le_of_ble_eq_true rfl) ?_
  intro p e s m args below meth c ls X hnm hr hlk hs0 hz hw hl
  have hx := X.1
  have hb := X.2.1
  have hl : lv_has ls 2 [(0, .ref a), (1, .int (iI k))] := hl
  obtain ⟨hk1, hk2⟩ := hk
  obtain ⟨q, g, h0, h1, hg, hrest⟩ := ht
  have hlen : us.length ≤ 60 := by first | exact hrest.2 | exact hrest.2.2
  refine lv_iload_n hx hb d_NT_get_0 rfl (lv_at hl 1 rfl) ?_
  refine di_if_lt (tgt := 26) hx hb d_NT_get_1 (by decide) ⟨by omega, by omega⟩ (fun bq1 => ?_) (fun bq1 => ?_)
  · refine lv_iconst (v := iI (-1)) hx hb d_NT_get_26 rfl ?_
    exact cn_iret hx hb hr hlk hw  (⟨by rw [gt_out (by omega)], rfl⟩) (Nat.le_refl _) (Nat.le_refl _) d_NT_get_27
  · refine lv_iload_n hx hb d_NT_get_4 rfl (lv_at hl 1 rfl) ?_
    refine lv_aload_n hx hb d_NT_get_5 rfl (lv_at hl 0 rfl) ?_
    refine gf_NT_15_NT X hw h0 d_NT_get_6 ?_
    refine dw_alen hx hb X.K hw 1 h1 rfl d_NT_get_9 ?_
    refine di_icmp_ge (tgt := 26) hx hb d_NT_get_10 (by decide) ⟨by omega, by omega⟩ ⟨by omega, by omega⟩ (fun bq10 => ?_) (fun bq10 => ?_)
    · refine lv_iconst (v := iI (-1)) hx hb d_NT_get_26 rfl ?_
      exact cn_iret hx hb hr hlk hw  (⟨by rw [gt_out (by omega)], rfl⟩) (Nat.le_refl _) (Nat.le_refl _) d_NT_get_27
    · refine lv_aload_n hx hb d_NT_get_13 rfl (lv_at hl 0 rfl) ?_
      refine gf_NT_15_NT X hw h0 d_NT_get_14 ?_
      refine lv_iload_n hx hb d_NT_get_17 rfl (lv_at hl 1 rfl) ?_
      refine dw_bald hx hb X.K hw 1 h1 rfl (by omega) (by omega) (by omega) rfl d_NT_get_18 ?_
      refine lv_sipush (v := iI (255)) hx hb d_NT_get_19 rfl ?_
      refine lv_iand hx hb d_NT_get_22 ?_
      rw [getB us (by omega) (by omega) hg]
      refine lv_goto (tgt := 27) hx hb d_NT_get_23 (by decide) ?_
      exact cn_iret hx hb hr hlk hw  (⟨rfl, rfl⟩) (Nat.le_refl _) (Nat.le_refl _) d_NT_get_27
set_option maxRecDepth 100000 in
set_option maxHeartbeats 4000000 in
theorem c_WT_get (l : Launch) (G : ct_G) (f : dw_M) (sz : Nat) (a : Nat) (us : List Int) (k : Int) (hk : iR k) (ht : wtx G f a us) : cn l y_WT_get w_WT_get (0) (0) G f sz [.ref a, .int (iI k)] (fun v f' => v = some (.int (iI (gt us k))) ∧ f' = f) (0) (0) := by
  refine cn_of (own := "TextDesk$WideText") (nm := "get") (ds := "(I)I") (by decide) (Nat.le_of_ble_eq_true rfl) ?_
  intro p e s m args below meth c ls X hnm hr hlk hs0 hz hw hl
  have hx := X.1
  have hb := X.2.1
  have hl : lv_has ls 2 [(0, .ref a), (1, .int (iI k))] := hl
  obtain ⟨hk1, hk2⟩ := hk
  obtain ⟨q, g, h0, h1, hg, hrest⟩ := ht
  have hlen : us.length ≤ 60 := by first | exact hrest.2 | exact hrest.2.2
  refine lv_iload_n hx hb d_WT_get_0 rfl (lv_at hl 1 rfl) ?_
  refine di_if_lt (tgt := 22) hx hb d_WT_get_1 (by decide) ⟨by omega, by omega⟩ (fun bq1 => ?_) (fun bq1 => ?_)
  · refine lv_iconst (v := iI (-1)) hx hb d_WT_get_22 rfl ?_
    exact cn_iret hx hb hr hlk hw  (⟨by rw [gt_out (by omega)], rfl⟩) (Nat.le_refl _) (Nat.le_refl _) d_WT_get_23
  · refine lv_iload_n hx hb d_WT_get_4 rfl (lv_at hl 1 rfl) ?_
    refine lv_aload_n hx hb d_WT_get_5 rfl (lv_at hl 0 rfl) ?_
    refine gf_WT_15_WT X hw h0 d_WT_get_6 ?_
    refine dw_alen hx hb X.K hw 2 h1 rfl d_WT_get_9 ?_
    refine di_icmp_ge (tgt := 22) hx hb d_WT_get_10 (by decide) ⟨by omega, by omega⟩ ⟨by omega, by omega⟩ (fun bq10 => ?_) (fun bq10 => ?_)
    · refine lv_iconst (v := iI (-1)) hx hb d_WT_get_22 rfl ?_
      exact cn_iret hx hb hr hlk hw  (⟨by rw [gt_out (by omega)], rfl⟩) (Nat.le_refl _) (Nat.le_refl _) d_WT_get_23
    · refine lv_aload_n hx hb d_WT_get_13 rfl (lv_at hl 0 rfl) ?_
      refine gf_WT_15_WT X hw h0 d_WT_get_14 ?_
      refine lv_iload_n hx hb d_WT_get_17 rfl (lv_at hl 1 rfl) ?_
      refine dw_cald hx hb X.K hw 2 h1 rfl (by omega) (by omega) (by omega) (getE us (by omega) (by omega) hg) d_WT_get_18 ?_
      refine lv_goto (tgt := 23) hx hb d_WT_get_19 (by decide) ?_
      exact cn_iret hx hb hr hlk hw  (⟨rfl, rfl⟩) (Nat.le_refl _) (Nat.le_refl _) d_WT_get_23
set_option maxRecDepth 100000 in
set_option maxHeartbeats 4000000 in
theorem c_NT_init (l : Launch) (G : ct_G) (f : dw_M) (sz : Nat) (a r q n : Nat) (us : List Int) (sp : Int) (hus : ∀ u ∈ us, 0 ≤ u ∧ u < 256) (hlen : us.length ≤ 60) (hrw : rw G f r q n us sp) (h0 : f a = some (.inr (1, [.int (iI 0), .int (iI 0), .null]))) : cn l y_NT_init w_NT_init (3) (80) G f sz [.ref a, .ref r] (fun v f' => v = none ∧ ntx G f' a us ∧ ∀ b x, b ≠ a → f b = some x → f' b = some x) (1) (us.length) := by
  refine cn_of (own := "TextDesk$NarrowText") (nm := "<init>") (ds := "(LTextDesk$Row;)V") (by decide) (Nat.le_of_ble_eq_true rfl) ?_
  intro p e s m args below meth c ls X hnm hr hlk hs0 hz hw hl
  have hx := X.1
  have hb := X.2.1
  have hl : lv_has ls 3 [(0, .ref a), (1, .ref r)] := hl
  have hra : r ≠ a := by obtain ⟨g, h3, -⟩ := hrw; exact dw_ne h3 h0 (by simp)
  have hqa : q ≠ a := by obtain ⟨g, -, h3, -⟩ := hrw; exact dw_ne h3 h0 (by simp)
  refine lv_aload_n hx hb d_NT_init_0 rfl (lv_at hl 0 rfl) ?_
  refine lv_aload_n hx hb d_NT_init_1 rfl (lv_at hl 1 rfl) ?_
  refine cs_NT_3 X hz hw hl.1 hrw.choose_spec.1 (c_RW_size l G f _ r q n us sp hrw) ⟨Nat.le_of_ble_eq_true rfl, Nat.le_of_ble_eq_true rfl⟩ ⟨by show 0 + 0 ≤ 1; omega, by show 0 + 0 ≤ us.length; omega⟩ (Nat.le_of_ble_eq_true rfl) d_NT_init_2 (fun v f9 H locs hp hw hsz9 hkp9 hdm9 => ?_)
  obtain ⟨rfl, hfe⟩ := hp
  rw [hfe] at hw
  refine W.eq (g2 := F0 m 5 ls [.int (iI ((us.length : Int))), .ref a]) rfl ?_
  refine lv_iconst (v := iI (1)) hx hb d_NT_init_5 rfl ?_
  refine cs_NT_9 X hz hw hl.1 (c_TX_init_NT l G f _ a (us.length : Int) 1 (by decide) h0) ⟨Nat.le_of_ble_eq_true rfl, Nat.le_of_ble_eq_true rfl⟩ ⟨by show 0 + 0 ≤ 1; omega, by show 0 + 0 ≤ us.length; omega⟩ (Nat.le_of_ble_eq_true rfl) d_NT_init_6 (fun v f2 H locs hp hw hsz9 hkp9 hdm9 => ?_)
  obtain ⟨rfl, h2, hk2⟩ := hp
  have hrw2 : rw G f2 r q n us sp := by obtain ⟨g, h3, h4, h5⟩ := hrw; exact ⟨g, by rw [hk2 _ hra]; exact h3, by rw [hk2 _ hqa]; exact h4, h5⟩
  refine W.eq (g2 := F0 m 9 ls []) rfl ?_
  refine lv_aload_n hx hb d_NT_init_9 rfl (lv_at hl 0 rfl) ?_
  refine lv_aload_n hx hb d_NT_init_10 rfl (lv_at hl 1 rfl) ?_
  refine cs_NT_3 X hz hw hl.1 hrw2.choose_spec.1 (c_RW_size l G f2 _ r q n us sp hrw2) ⟨Nat.le_of_ble_eq_true rfl, Nat.le_of_ble_eq_true rfl⟩ ⟨by show 0 + 0 ≤ 1; omega, by show 0 + 0 ≤ us.length; omega⟩ (Nat.le_of_ble_eq_true rfl) d_NT_init_11 (fun v f9 H locs hp hw hsz9 hkp9 hdm9 => ?_)
  obtain ⟨rfl, hfe⟩ := hp
  rw [hfe] at hw
  refine W.eq (g2 := F0 m 14 ls [.int (iI ((us.length : Int))), .ref a]) rfl ?_
  refine na_byte X hw (N := us.length) (rfl) (by omega) (by show 0 + 1 ≤ 1; omega) (by show 0 + us.length ≤ us.length; omega) d_NT_init_14 (fun y H hq_y hw => ?_)
  obtain ⟨f3, e_f3⟩ : ∃ g9 : dw_M, g9 = dw_up f2 y (.inl (G.2.1 1, us.length, .inl (fun _ => iI 0))) := ⟨_, rfl⟩
  rw [← e_f3] at hw
  have k_f3_a : f3 a = some (.inr (1, [.int (iI ((us.length : Int))), .int (iI 1), .null])) := by rw [e_f3]; exact dw_keep h2 (dw_neN h2 hq_y)
  have k_f3_y : f3 y = some (.inl (G.2.1 1, us.length, .inl (fun _ => iI 0))) := by rw [e_f3]; exact dw_up_self _ _ _
  refine pf_NT_15_NT X hnm hw k_f3_a (rfl) (rfl) d_NT_init_16 (fun H locs hw => ?_)
  obtain ⟨f4, e_f4⟩ : ∃ g9 : dw_M, g9 = dw_up f3 a (.inr (1, [.int (iI ((us.length : Int))), .int (iI 1), .ref y])) := ⟨_, rfl⟩
  rw [← e_f4] at hw
  have k_f4_y : f4 y = some (.inl (G.2.1 1, us.length, .inl (fun _ => iI 0))) := by rw [e_f4]; exact dw_keep k_f3_y (dw_ne k_f3_y k_f3_a (by simp))
  have k_f4_a : f4 a = some (.inr (1, [.int (iI ((us.length : Int))), .int (iI 1), .ref y])) := by rw [e_f4]; exact dw_up_self _ _ _
  have hkey : ∀ b x, b ≠ a → f b = some x → f4 b = some x := fun b x h8 h9 => by
    have h7 : f2 b = some x := by rw [hk2 b h8]; exact h9
    rw [e_f4, dw_up_ne _ _ h8, e_f3, dw_up_ne _ _ (dw_neN h7 hq_y)]; exact h7
  have hrw3 : rw G f4 r q n us sp := by obtain ⟨g, h3, h4, h5⟩ := hrw; exact ⟨g, hkey _ _ hra h3, hkey _ _ hqa h4, h5⟩
  refine lv_iconst (v := iI (0)) hx hb d_NT_init_19 rfl ?_
  refine lv_istore_n (lv' := [(2, .int (iI 0)), (0, .ref a), (1, .ref r)]) hx hb d_NT_init_20 rfl hl (by decide) rfl (fun ls hl => ?_)
  have hyf : f y = none := by rw [← hk2 y (Ne.symm (dw_neN h2 hq_y))]; exact hq_y
  have loop : ∀ (N : Nat) (k : Int) (g : Nat → Int32) (f1 : dw_M) (H : Heap) (locs : List Loc) (ls : Array Slot), ((us.length : Int) - k).toNat < N → 0 ≤ k → k ≤ (us.length : Int) → f1 a = some (.inr (1, [.int (iI ((us.length : Int))), .int (iI 1), .ref y])) → f1 y = some (.inl (G.2.1 1, us.length, .inl g)) → (∀ b x, b ≠ a → f b = some x → f1 b = some x) → rw G f1 r q n us sp → (∀ j : Nat, (j : Int) < k → g j &&& 255 = iI (us.getD j 0)) → dw G.1 dk_cl (dw_A f sz) s.heap f1 H locs → lv_has ls 3 [(2, .int (iI k)), (0, .ref a), (1, .ref r)] → W p l e { frames := 3, locals := 80, cells := 1, slots := us.length } s m args below meth c H locs (0 + 1) (0 + us.length) (MQ below (ct_Q G f sz (fun v f' => v = none ∧ ntx G f' a us ∧ ∀ b x, b ≠ a → f b = some x → f' b = some x)) args s (1) (us.length) (dw_A f sz)) (F0 m 21 ls []) := by
    intro N
    induction N with
    | zero => intros; omega
    | succ N ih =>
      intro k g f1 H locs ls hN hk0 hk1 ha hy hkp hrw1 hg hw hl
      refine lv_iload_n hx hb d_NT_init_21 rfl (lv_at hl 0 rfl) ?_
      refine lv_aload_n hx hb d_NT_init_22 rfl (lv_at hl 1 rfl) ?_
      refine gf_NT_15_NT X hw ha d_NT_init_23 ?_
      refine dw_alen hx hb X.K hw 1 hy rfl d_NT_init_26 ?_
      refine di_icmp_ge (tgt := 48) hx hb d_NT_init_27 (by decide) ⟨by omega, by omega⟩ ⟨by omega, by omega⟩ (fun bq27 => ?_) (fun bq27 => ?_)
      · exact cn_vret hx hb hr hlk hw  (⟨rfl, ⟨y, g, ha, hy, fun j hj => hg j (by omega), hus, hlen⟩, hkp⟩) (by omega) (by omega) d_NT_init_48
      · refine lv_aload_n hx hb d_NT_init_30 rfl (lv_at hl 1 rfl) ?_
        refine gf_NT_15_NT X hw ha d_NT_init_31 ?_
        refine lv_iload_n hx hb d_NT_init_34 rfl (lv_at hl 0 rfl) ?_
        refine lv_aload_n hx hb d_NT_init_35 rfl (lv_at hl 2 rfl) ?_
        refine lv_iload_n hx hb d_NT_init_36 rfl (lv_at hl 0 rfl) ?_
        refine cs_NT_21 X hz hw hl.1 hrw1.choose_spec.1 (c_RW_get l G f1 _ r q n us sp k ⟨by omega, by omega⟩ hrw1) ⟨Nat.le_of_ble_eq_true rfl, Nat.le_of_ble_eq_true rfl⟩ ⟨by show 0 + 1 + 0 ≤ 1; omega, by show 0 + us.length + 0 ≤ us.length; omega⟩ (Nat.le_of_ble_eq_true rfl) d_NT_init_37 (fun v f9 H locs hp hw hsz9 hkp9 hdm9 => ?_)
        obtain ⟨rfl, hfe⟩ := hp
        rw [hfe] at hw
        have hu := hus _ (getD_mem (us := us) (k := k.toNat) (by omega))
        have hgk : gt us k = us.getD k.toNat 0 := gt_in (by omega) (by omega)
        refine W.eq (g2 := F0 m 40 ls [.int (iI (gt us k)), .int (iI k), .ref y]) rfl ?_
        refine lv_i2b hx hb d_NT_init_40 rfl ?_
        refine dw_bast hx hb X.K hw 1 hy rfl (by omega) (by omega) (by omega) d_NT_init_41 (fun H locs hw => ?_)
        obtain ⟨f4, e_f4⟩ : ∃ g9 : dw_M, g9 = dw_up f1 y (.inl (G.2.1 1, us.length, .inl (upd g k.toNat (vp_nar .byte ((iI (gt us k)).toInt8.toInt32))))) := ⟨_, rfl⟩
        rw [← e_f4] at hw
        have k_f4_a : f4 a = some (.inr (1, [.int (iI ((us.length : Int))), .int (iI 1), .ref y])) := by rw [e_f4]; exact dw_keep ha (dw_ne ha hy (by simp))
        have k_f4_y : f4 y = some (.inl (G.2.1 1, us.length, .inl (upd g k.toNat (vp_nar .byte ((iI (gt us k)).toInt8.toInt32))))) := by rw [e_f4]; exact dw_up_self _ _ _
        have hkp4 : ∀ b x, b ≠ a → f b = some x → f4 b = some x := fun b x h8 h9 => by rw [e_f4, dw_up_ne _ _ (fun e9 => by rw [e9] at h9; rw [h9] at hyf; cases hyf)]; exact hkp b x h8 h9
        have hrw4 : rw G f4 r q n us sp := by obtain ⟨g9, h3, h4, h5⟩ := hrw; exact ⟨g9, hkp4 _ _ hra h3, hkp4 _ _ hqa h4, h5⟩
        refine lv_iinc (v := iI (k + 1)) (lv' := [(2, .int (iI (k + 1))), (0, .ref a), (1, .ref r)]) hx hb d_NT_init_42 hl (k := 0) rfl (iI_add _ _) (by decide) rfl (fun ls hl => ?_)
        refine lv_goto (tgt := 21) hx hb d_NT_init_45 (by decide) ?_
        have hg4 : ∀ j : Nat, (j : Int) < k + 1 → (upd g k.toNat (vp_nar .byte ((iI (gt us k)).toInt8.toInt32))) j &&& 255 = iI (us.getD j 0) := fun j hj => by
          by_cases e : j = k.toNat
          · subst e
            rw [pk_us, ← hgk]
            exact by_put (by omega) (by omega)
          · rw [pk_un e]
            exact hg j (by omega)
        exact ih (k + 1) ((upd g k.toNat (vp_nar .byte ((iI (gt us k)).toInt8.toInt32)))) _ _ _ _ (by omega) (by omega) (by omega) (k_f4_a) (k_f4_y) (hkp4) (hrw4) (hg4) hw (lv_sub hl [0, 1, 2] rfl)
  exact loop (((us.length : Int) - 0).toNat + 1) (0) (fun _ => iI 0) _ _ _ _ (by omega) (by omega) (by omega) (k_f4_a) (k_f4_y) (hkey) (hrw3) (fun j hj => by omega) hw (lv_sub hl [0, 1, 2] rfl)
set_option maxRecDepth 100000 in
set_option maxHeartbeats 4000000 in
theorem c_WT_init (l : Launch) (G : ct_G) (f : dw_M) (sz : Nat) (a r q n : Nat) (us : List Int) (sp : Int) (hus : ∀ u ∈ us, 0 ≤ u ∧ u < 65536) (hex : ∃ u ∈ us, 256 ≤ u) (hlen : us.length ≤ 60) (hrw : rw G f r q n us sp) (h0 : f a = some (.inr (2, [.int (iI 0), .int (iI 0), .null]))) : cn l y_WT_init w_WT_init (3) (80) G f sz [.ref a, .ref r] (fun v f' => v = none ∧ wtx G f' a us ∧ ∀ b x, b ≠ a → f b = some x → f' b = some x) (1) (us.length) := by
  refine cn_of (own := "TextDesk$WideText") (nm := "<init>") (ds := "(LTextDesk$Row;)V") (by decide) (Nat.le_of_ble_eq_true rfl) ?_
  intro p e s m args below meth c ls X hnm hr hlk hs0 hz hw hl
  have hx := X.1
  have hb := X.2.1
  have hl : lv_has ls 3 [(0, .ref a), (1, .ref r)] := hl
  have hra : r ≠ a := by obtain ⟨g, h3, -⟩ := hrw; exact dw_ne h3 h0 (by simp)
  have hqa : q ≠ a := by obtain ⟨g, -, h3, -⟩ := hrw; exact dw_ne h3 h0 (by simp)
  refine lv_aload_n hx hb d_WT_init_0 rfl (lv_at hl 0 rfl) ?_
  refine lv_aload_n hx hb d_WT_init_1 rfl (lv_at hl 1 rfl) ?_
  refine cs_WT_3 X hz hw hl.1 hrw.choose_spec.1 (c_RW_size l G f _ r q n us sp hrw) ⟨Nat.le_of_ble_eq_true rfl, Nat.le_of_ble_eq_true rfl⟩ ⟨by show 0 + 0 ≤ 1; omega, by show 0 + 0 ≤ us.length; omega⟩ (Nat.le_of_ble_eq_true rfl) d_WT_init_2 (fun v f9 H locs hp hw hsz9 hkp9 hdm9 => ?_)
  obtain ⟨rfl, hfe⟩ := hp
  rw [hfe] at hw
  refine W.eq (g2 := F0 m 5 ls [.int (iI ((us.length : Int))), .ref a]) rfl ?_
  refine lv_iconst (v := iI (0)) hx hb d_WT_init_5 rfl ?_
  refine cs_WT_9 X hz hw hl.1 (c_TX_init_WT l G f _ a (us.length : Int) 0 (by decide) h0) ⟨Nat.le_of_ble_eq_true rfl, Nat.le_of_ble_eq_true rfl⟩ ⟨by show 0 + 0 ≤ 1; omega, by show 0 + 0 ≤ us.length; omega⟩ (Nat.le_of_ble_eq_true rfl) d_WT_init_6 (fun v f2 H locs hp hw hsz9 hkp9 hdm9 => ?_)
  obtain ⟨rfl, h2, hk2⟩ := hp
  have hrw2 : rw G f2 r q n us sp := by obtain ⟨g, h3, h4, h5⟩ := hrw; exact ⟨g, by rw [hk2 _ hra]; exact h3, by rw [hk2 _ hqa]; exact h4, h5⟩
  refine W.eq (g2 := F0 m 9 ls []) rfl ?_
  refine lv_aload_n hx hb d_WT_init_9 rfl (lv_at hl 0 rfl) ?_
  refine lv_aload_n hx hb d_WT_init_10 rfl (lv_at hl 1 rfl) ?_
  refine cs_WT_3 X hz hw hl.1 hrw2.choose_spec.1 (c_RW_size l G f2 _ r q n us sp hrw2) ⟨Nat.le_of_ble_eq_true rfl, Nat.le_of_ble_eq_true rfl⟩ ⟨by show 0 + 0 ≤ 1; omega, by show 0 + 0 ≤ us.length; omega⟩ (Nat.le_of_ble_eq_true rfl) d_WT_init_11 (fun v f9 H locs hp hw hsz9 hkp9 hdm9 => ?_)
  obtain ⟨rfl, hfe⟩ := hp
  rw [hfe] at hw
  refine W.eq (g2 := F0 m 14 ls [.int (iI ((us.length : Int))), .ref a]) rfl ?_
  refine na_char X hw (N := us.length) (rfl) (by omega) (by show 0 + 1 ≤ 1; omega) (by show 0 + us.length ≤ us.length; omega) d_WT_init_14 (fun y H hq_y hw => ?_)
  obtain ⟨f3, e_f3⟩ : ∃ g9 : dw_M, g9 = dw_up f2 y (.inl (G.2.1 2, us.length, .inl (fun _ => iI 0))) := ⟨_, rfl⟩
  rw [← e_f3] at hw
  have k_f3_a : f3 a = some (.inr (2, [.int (iI ((us.length : Int))), .int (iI 0), .null])) := by rw [e_f3]; exact dw_keep h2 (dw_neN h2 hq_y)
  have k_f3_y : f3 y = some (.inl (G.2.1 2, us.length, .inl (fun _ => iI 0))) := by rw [e_f3]; exact dw_up_self _ _ _
  refine pf_WT_15_WT X hnm hw k_f3_a (rfl) (rfl) d_WT_init_16 (fun H locs hw => ?_)
  obtain ⟨f4, e_f4⟩ : ∃ g9 : dw_M, g9 = dw_up f3 a (.inr (2, [.int (iI ((us.length : Int))), .int (iI 0), .ref y])) := ⟨_, rfl⟩
  rw [← e_f4] at hw
  have k_f4_y : f4 y = some (.inl (G.2.1 2, us.length, .inl (fun _ => iI 0))) := by rw [e_f4]; exact dw_keep k_f3_y (dw_ne k_f3_y k_f3_a (by simp))
  have k_f4_a : f4 a = some (.inr (2, [.int (iI ((us.length : Int))), .int (iI 0), .ref y])) := by rw [e_f4]; exact dw_up_self _ _ _
  have hkey : ∀ b x, b ≠ a → f b = some x → f4 b = some x := fun b x h8 h9 => by
    have h7 : f2 b = some x := by rw [hk2 b h8]; exact h9
    rw [e_f4, dw_up_ne _ _ h8, e_f3, dw_up_ne _ _ (dw_neN h7 hq_y)]; exact h7
  have hrw3 : rw G f4 r q n us sp := by obtain ⟨g, h3, h4, h5⟩ := hrw; exact ⟨g, hkey _ _ hra h3, hkey _ _ hqa h4, h5⟩
  refine lv_iconst (v := iI (0)) hx hb d_WT_init_19 rfl ?_
  refine lv_istore_n (lv' := [(2, .int (iI 0)), (0, .ref a), (1, .ref r)]) hx hb d_WT_init_20 rfl hl (by decide) rfl (fun ls hl => ?_)
  have hyf : f y = none := by rw [← hk2 y (Ne.symm (dw_neN h2 hq_y))]; exact hq_y
  have loop : ∀ (N : Nat) (k : Int) (g : Nat → Int32) (f1 : dw_M) (H : Heap) (locs : List Loc) (ls : Array Slot), ((us.length : Int) - k).toNat < N → 0 ≤ k → k ≤ (us.length : Int) → f1 a = some (.inr (2, [.int (iI ((us.length : Int))), .int (iI 0), .ref y])) → f1 y = some (.inl (G.2.1 2, us.length, .inl g)) → (∀ b x, b ≠ a → f b = some x → f1 b = some x) → rw G f1 r q n us sp → (∀ j : Nat, (j : Int) < k → g j = iI (us.getD j 0)) → dw G.1 dk_cl (dw_A f sz) s.heap f1 H locs → lv_has ls 3 [(2, .int (iI k)), (0, .ref a), (1, .ref r)] → W p l e { frames := 3, locals := 80, cells := 1, slots := us.length } s m args below meth c H locs (0 + 1) (0 + us.length) (MQ below (ct_Q G f sz (fun v f' => v = none ∧ wtx G f' a us ∧ ∀ b x, b ≠ a → f b = some x → f' b = some x)) args s (1) (us.length) (dw_A f sz)) (F0 m 21 ls []) := by
    intro N
    induction N with
    | zero => intros; omega
    | succ N ih =>
      intro k g f1 H locs ls hN hk0 hk1 ha hy hkp hrw1 hg hw hl
      refine lv_iload_n hx hb d_WT_init_21 rfl (lv_at hl 0 rfl) ?_
      refine lv_aload_n hx hb d_WT_init_22 rfl (lv_at hl 1 rfl) ?_
      refine gf_WT_15_WT X hw ha d_WT_init_23 ?_
      refine dw_alen hx hb X.K hw 2 hy rfl d_WT_init_26 ?_
      refine di_icmp_ge (tgt := 48) hx hb d_WT_init_27 (by decide) ⟨by omega, by omega⟩ ⟨by omega, by omega⟩ (fun bq27 => ?_) (fun bq27 => ?_)
      · exact cn_vret hx hb hr hlk hw  (⟨rfl, ⟨y, g, ha, hy, fun j hj => hg j (by omega), hus, hex, hlen⟩, hkp⟩) (by omega) (by omega) d_WT_init_48
      · refine lv_aload_n hx hb d_WT_init_30 rfl (lv_at hl 1 rfl) ?_
        refine gf_WT_15_WT X hw ha d_WT_init_31 ?_
        refine lv_iload_n hx hb d_WT_init_34 rfl (lv_at hl 0 rfl) ?_
        refine lv_aload_n hx hb d_WT_init_35 rfl (lv_at hl 2 rfl) ?_
        refine lv_iload_n hx hb d_WT_init_36 rfl (lv_at hl 0 rfl) ?_
        refine cs_WT_21 X hz hw hl.1 hrw1.choose_spec.1 (c_RW_get l G f1 _ r q n us sp k ⟨by omega, by omega⟩ hrw1) ⟨Nat.le_of_ble_eq_true rfl, Nat.le_of_ble_eq_true rfl⟩ ⟨by show 0 + 1 + 0 ≤ 1; omega, by show 0 + us.length + 0 ≤ us.length; omega⟩ (Nat.le_of_ble_eq_true rfl) d_WT_init_37 (fun v f9 H locs hp hw hsz9 hkp9 hdm9 => ?_)
        obtain ⟨rfl, hfe⟩ := hp
        rw [hfe] at hw
        have hu := hus _ (getD_mem (us := us) (k := k.toNat) (by omega))
        have hgk : gt us k = us.getD k.toNat 0 := gt_in (by omega) (by omega)
        refine W.eq (g2 := F0 m 40 ls [.int (iI (gt us k)), .int (iI k), .ref y]) rfl ?_
        refine lv_i2c (v := iI (gt us k)) hx hb d_WT_init_40 (ch_i2c (by omega) (by omega)) ?_
        refine dw_cast hx hb X.K hw 2 hy rfl (by omega) (by omega) (by omega) d_WT_init_41 (fun H locs hw => ?_)
        obtain ⟨f4, e_f4⟩ : ∃ g9 : dw_M, g9 = dw_up f1 y (.inl (G.2.1 2, us.length, .inl (upd g k.toNat (vp_nar .char (iI (gt us k)))))) := ⟨_, rfl⟩
        rw [← e_f4] at hw
        have k_f4_a : f4 a = some (.inr (2, [.int (iI ((us.length : Int))), .int (iI 0), .ref y])) := by rw [e_f4]; exact dw_keep ha (dw_ne ha hy (by simp))
        have k_f4_y : f4 y = some (.inl (G.2.1 2, us.length, .inl (upd g k.toNat (vp_nar .char (iI (gt us k)))))) := by rw [e_f4]; exact dw_up_self _ _ _
        have hkp4 : ∀ b x, b ≠ a → f b = some x → f4 b = some x := fun b x h8 h9 => by rw [e_f4, dw_up_ne _ _ (fun e9 => by rw [e9] at h9; rw [h9] at hyf; cases hyf)]; exact hkp b x h8 h9
        have hrw4 : rw G f4 r q n us sp := by obtain ⟨g9, h3, h4, h5⟩ := hrw; exact ⟨g9, hkp4 _ _ hra h3, hkp4 _ _ hqa h4, h5⟩
        refine lv_iinc (v := iI (k + 1)) (lv' := [(2, .int (iI (k + 1))), (0, .ref a), (1, .ref r)]) hx hb d_WT_init_42 hl (k := 0) rfl (iI_add _ _) (by decide) rfl (fun ls hl => ?_)
        refine lv_goto (tgt := 21) hx hb d_WT_init_45 (by decide) ?_
        have hg4 : ∀ j : Nat, (j : Int) < k + 1 → (upd g k.toNat (vp_nar .char (iI (gt us k)))) j = iI (us.getD j 0) := fun j hj => by
          by_cases e : j = k.toNat
          · subst e
            rw [pk_us, ← hgk]
            exact ch_put (by omega) (by omega)
          · rw [pk_un e]
            exact hg j (by omega)
        exact ih (k + 1) ((upd g k.toNat (vp_nar .char (iI (gt us k))))) _ _ _ _ (by omega) (by omega) (by omega) (k_f4_a) (k_f4_y) (hkp4) (hrw4) (hg4) hw (lv_sub hl [0, 1, 2] rfl)
  exact loop (((us.length : Int) - 0).toNat + 1) (0) (fun _ => iI 0) _ _ _ _ (by omega) (by omega) (by omega) (k_f4_a) (k_f4_y) (hkey) (hrw3) (fun j hj => by omega) hw (lv_sub hl [0, 1, 2] rfl)
