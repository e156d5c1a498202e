/-! bytes and chars as units -/
theorem iI_nI (n : Nat) : iI (n : Int) = nI n := (iI_nat n).symm
theorem iI_toNat {u : Int} (h : 0 ≤ u) : iI u = nI u.toNat := by
  rw [← iI_nI, Int.toNat_of_nonneg h]
theorem by_put {u : Int} (h0 : 0 ≤ u) (h1 : u < 256) : vp_nar .byte ((iI u).toInt8.toInt32) &&& 255 = iI u := by
  rw [pk_vb, iI_toNat h0]
  exact sc_k8 _ (by omega)
theorem ch_i2c {u : Int} (h0 : 0 ≤ u) (h1 : u < 65536) : ((iI u).toUInt32 % 65536).toInt32 = iI u := by
  rw [pk_char, iI_toNat h0, pk_tn (by omega), Nat.mod_eq_of_lt (by omega)]
theorem ch_put {u : Int} (h0 : 0 ≤ u) (h1 : u < 65536) : vp_nar .char (iI u) = iI u := by
  have h := pk_vc (iI u)
  rw [ch_i2c h0 h1] at h
  exact h
theorem getB (us : List Int) {k : Int} (h0 : 0 ≤ k) (h1 : k < (us.length : Int)) {g : Nat → Int32} (hg : ∀ k, k < us.length → g k &&& 255 = iI (us.getD k 0)) : g k.toNat &&& iI 255 = iI (gt us k) := by
  rw [gt_in h0 h1]
  exact hg k.toNat (by omega)
theorem nar_n {us : List Int} (h : ∀ u ∈ us, 0 ≤ u ∧ u < 256) : nar us = 1 := by
  unfold nar
  rw [if_pos]
  exact List.all_eq_true.mpr (fun u hu => decide_eq_true (h u hu).2)
theorem nar_w {us : List Int} (h : ∃ u ∈ us, 256 ≤ u) : nar us = 0 := by
  unfold nar
  rw [if_neg]
  intro q
  obtain ⟨u, hu, h2⟩ := h
  have := of_decide_eq_true (List.all_eq_true.mp q u hu)
  omega
theorem nar_01 (us : List Int) : nar us = 0 ∨ nar us = 1 := by
  unfold nar
  split
  · exact Or.inr rfl
  · exact Or.inl rfl
theorem nar_app (a b : List Int) : nar (a ++ b) = if nar a = 0 then 0 else nar b := by
  unfold nar
  rw [List.all_append]
  cases a.all (fun u => decide (u < 256)) <;> cases b.all (fun u => decide (u < 256)) <;> rfl
