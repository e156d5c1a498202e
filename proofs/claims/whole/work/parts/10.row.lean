set_option maxRecDepth 100000 in
set_option maxHeartbeats 4000000 in
theorem c_RW_size (l : Launch) (G : ct_G) (f : dw_M) (sz : Nat) (r : Nat) {v0 : Value} {v1 v2 : Int32} (h0 : f r = some (.inr (4, [v0, .int v1, .int v2]))) : cn l y_RW_size w_RW_size 0 0 G f sz [.ref r] (fun v f' => v = some (.int v1) ∧ f' = f) (0) (0) := by
  refine cn_of (own := "TextDesk$Row") (nm := "size") (ds := "()I") (by decide) (Nat.le_of_ble_eq_true rfl) ?_
  intro p e s m args below meth c ls X hnm hr hlk hs0 hz hw hl
  have hx := X.1
  have hb := X.2.1
  have hl : lv_has ls 1 [(0, .ref r)] := hl
  refine lv_aload_n hx hb d_RW_size_0 rfl (lv_at hl 0 rfl) ?_
  refine gf_RW_21_RW X hw h0 d_RW_size_1 ?_
  exact cn_iret hx hb hr hlk hw  (⟨rfl, rfl⟩) (Nat.le_refl _) (Nat.le_refl _) d_RW_size_4
set_option maxRecDepth 100000 in
set_option maxHeartbeats 4000000 in
theorem c_RW_get (l : Launch) (G : ct_G) (f : dw_M) (sz : Nat) (r q n : Nat) (k z : Int) (g : Nat → Int32) {v2 : Value} (hk : iR k) (hn : n < 1000) (hz1 : 0 ≤ z) (hzn : z ≤ (n : Int)) (h0 : f r = some (.inr (4, [.ref q, .int (iI z), v2]))) (h1 : f q = some (.inl (G.2.1 0, n, .inl g))) : cn l y_RW_get w_RW_get 0 0 G f sz [.ref r, .int (iI k)] (fun v f' => v = some (.int (if 0 ≤ k ∧ k < z then g k.toNat else iI (-1))) ∧ f' = f) (0) (0) := by
  refine cn_of (own := "TextDesk$Row") (nm := "get") (ds := "(I)I") (by decide) (Nat.le_of_ble_eq_true rfl) ?_
  intro p e s m args below meth c ls X hnm hr hlk hs0 hz hw hl
  have hx := X.1
  have hb := X.2.1
  have hl : lv_has ls 2 [(0, .ref r), (1, .int (iI k))] := hl
  obtain ⟨hk1, hk2⟩ := hk
  refine lv_iload_n hx hb d_RW_get_0 rfl (lv_at hl 1 rfl) ?_
  refine di_if_lt (tgt := 30) hx hb d_RW_get_1 (by decide) ⟨by omega, by omega⟩ (fun h1 => ?_) (fun h1 => ?_)
  · refine lv_iconst (v := iI (-1)) hx hb d_RW_get_30 rfl ?_
    exact cn_iret hx hb hr hlk hw  (⟨by rw [if_neg (by omega)], rfl⟩) (Nat.le_refl _) (Nat.le_refl _) d_RW_get_31
  · refine lv_iload_n hx hb d_RW_get_4 rfl (lv_at hl 1 rfl) ?_
    refine lv_aload_n hx hb d_RW_get_5 rfl (lv_at hl 0 rfl) ?_
    refine gf_RW_21_RW X hw h0 d_RW_get_6 ?_
    refine di_icmp_ge (tgt := 30) hx hb d_RW_get_9 (by decide) ⟨by omega, by omega⟩ ⟨by omega, by omega⟩ (fun h9 => ?_) (fun h9 => ?_)
    · refine lv_iconst (v := iI (-1)) hx hb d_RW_get_30 rfl ?_
      exact cn_iret hx hb hr hlk hw  (⟨by rw [if_neg (by omega)], rfl⟩) (Nat.le_refl _) (Nat.le_refl _) d_RW_get_31
    · refine lv_iload_n hx hb d_RW_get_12 rfl (lv_at hl 1 rfl) ?_
      refine lv_aload_n hx hb d_RW_get_13 rfl (lv_at hl 0 rfl) ?_
      refine gf_RW_15_RW X hw h0 d_RW_get_14 ?_
      refine dw_alen hx hb X.K hw 0 h1 rfl d_RW_get_17 ?_
      refine di_icmp_ge (tgt := 30) hx hb d_RW_get_18 (by decide) ⟨by omega, by omega⟩ ⟨by omega, by omega⟩ (fun h18 => ?_) (fun h18 => ?_)
      · refine lv_iconst (v := iI (-1)) hx hb d_RW_get_30 rfl ?_
        exact cn_iret hx hb hr hlk hw  (⟨by rw [if_neg (by omega)], rfl⟩) (Nat.le_refl _) (Nat.le_refl _) d_RW_get_31
      · refine lv_aload_n hx hb d_RW_get_21 rfl (lv_at hl 0 rfl) ?_
        refine gf_RW_15_RW X hw h0 d_RW_get_22 ?_
        refine lv_iload_n hx hb d_RW_get_25 rfl (lv_at hl 1 rfl) ?_
        refine dw_iald hx hb X.K hw 0 h1 rfl (by omega) (by omega) (by omega) rfl d_RW_get_26 ?_
        refine lv_goto (tgt := 31) hx hb d_RW_get_27 (by decide) ?_
        exact cn_iret hx hb hr hlk hw  (⟨by rw [if_pos ⟨by omega, by omega⟩], rfl⟩) (Nat.le_refl _) (Nat.le_refl _) d_RW_get_31
