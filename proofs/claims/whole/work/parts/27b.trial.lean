theorem rdp_2 (Z : List Int) (k : Int) (md : Bool) : rdp Z k 2 md = if gt Z (k + 1) < lo2 (gt Z k) ∨ hi2 (gt Z k) md < gt Z (k + 1) then (-1, 1) else ((gt Z k - 192) * 64 + gt Z (k + 1) - 128, 2) := rfl
theorem rdp_3 (Z : List Int) (k : Int) (md : Bool) : rdp Z k 3 md = if gt Z (k + 1) < lo2 (gt Z k) ∨ hi2 (gt Z k) md < gt Z (k + 1) then (-1, 1) else if gt Z (k + 2) < 128 ∨ 191 < gt Z (k + 2) then (-1, 2) else (((gt Z k - 224) * 64 + gt Z (k + 1) - 128) * 64 + gt Z (k + 2) - 128, 3) := rfl
theorem rdp_4 (Z : List Int) (k : Int) (md : Bool) : rdp Z k 4 md = if gt Z (k + 1) < lo2 (gt Z k) ∨ hi2 (gt Z k) md < gt Z (k + 1) then (-1, 1) else if gt Z (k + 2) < 128 ∨ 191 < gt Z (k + 2) then (-1, 2) else if gt Z (k + 3) < 128 ∨ 191 < gt Z (k + 3) then (-1, 3) else ((((gt Z k - 240) * 64 + gt Z (k + 1) - 128) * 64 + gt Z (k + 2) - 128) * 64 + gt Z (k + 3) - 128, 4) := rfl
def md2 (e : Int) : Bool := decide (e = 1)
theorem rdr_01 {Z : List Int} {e k : Int} (he : e = 0 ∨ e = 1) : rdr Z e k = rdp Z k (if e = 0 then gwU (gt Z k) else gwM (gt Z k)) (md2 e) := by
  rcases he with rfl | rfl <;> rfl
theorem rd_0 {Z : List Int} {e k : Int} (he : e = 0 ∨ e = 1) (h : gt Z k < 192 ∧ 128 ≤ gt Z k ∨ gt Z k = 0 ∧ e = 1 ∨ 248 ≤ gt Z k ∨ 240 ≤ gt Z k ∧ e = 1) : rdr Z e k = (-1, 1) := by
  rw [rdr_01 he]
  have e0 : (if e = 0 then gwU (gt Z k) else gwM (gt Z k)) = 0 := by
    unfold gwM gwU
    rcases he with rfl | rfl
    · rw [if_pos rfl, if_neg (by omega), if_pos (by omega)]
    · rw [if_neg (by omega)]
      split
      · rfl
      · rw [if_neg (by omega), if_neg (by omega), if_pos (by omega)]
  rw [e0]
  rfl
theorem rd_a {Z : List Int} {e k : Int} (he : e = 0 ∨ e = 1) (h : 0 ≤ gt Z k ∧ gt Z k < 128 ∧ (0 < gt Z k ∨ e = 0)) : rdr Z e k = (gt Z k, 1) := by
  rw [rdr_01 he]
  have e0 : (if e = 0 then gwU (gt Z k) else gwM (gt Z k)) = 1 := by
    unfold gwM gwU
    rcases he with rfl | rfl
    · rw [if_pos rfl, if_pos (by omega)]
    · rw [if_neg (by omega), if_neg (by omega), if_neg (by omega), if_pos (by omega)]
  rw [e0]
  show (gt Z k - 0, (1 : Int)) = _
  rw [Int.sub_zero]
theorem rd_z {Z : List Int} {k : Int} (h : gt Z k = 192) (h1 : gt Z (k + 1) = 128) : rdr Z 1 k = (0, 2) := by
  rw [rdr_01 (Or.inr rfl)]
  have e0 : (if (1 : Int) = 0 then gwU (gt Z k) else gwM (gt Z k)) = 2 := by
    unfold gwM
    rw [if_neg (by omega), if_neg (by omega), if_pos h]
  rw [e0, rdp_2, h, h1]
  rfl
theorem rd_1 {Z : List Int} {e k : Int} (he : e = 0 ∨ e = 1) (ha : 192 ≤ gt Z k ∧ gt Z k < 224) (hn : ¬ (e = 1 ∧ gt Z k = 192 ∧ gt Z (k + 1) = 128)) : (V1 (gt Z k) (gt Z (k + 1)) ≤ 1 → rdr Z e k = (-1, V1 (gt Z k) (gt Z (k + 1)))) ∧ (1 < V1 (gt Z k) (gt Z (k + 1)) → rdr Z e k = (gss Z k 1 0, 2)) := by
  rw [rdr_01 he, gss_1]
  by_cases h : 194 ≤ gt Z k ∧ cnt (gt Z (k + 1)) = true
  · have hV : V1 (gt Z k) (gt Z (k + 1)) = 2 := if_pos h
    have hc := cnt_t h.2
    have e0 : (if e = 0 then gwU (gt Z k) else gwM (gt Z k)) = 2 := by
      unfold gwM gwU
      rcases he with rfl | rfl
      · rw [if_pos rfl, if_neg (by omega), if_neg (by omega), if_pos (by omega)]
      · rw [if_neg (by omega), if_neg (by omega), if_neg (by omega), if_neg (by omega), if_neg (by omega), if_pos (by omega)]
    have hl : lo2 (gt Z k) = 128 := by unfold lo2; rw [if_neg (by omega), if_neg (by omega)]
    have hh : hi2 (gt Z k) (md2 e) = 191 := by
      unfold hi2
      split
      · rw [if_neg (by omega)]
      · rw [if_neg (by omega), if_neg (by omega)]
    rw [hV, e0, rdp_2, hl, hh, if_neg (by omega), if_pos h.2]
    refine ⟨fun q => by omega, fun _ => ?_⟩
    rw [show (gt Z k - 192) * 64 + gt Z (k + 1) - 128 = 64 * (gt Z k % 32) + (gt Z (k + 1) - 128) by omega]
  · have hV : V1 (gt Z k) (gt Z (k + 1)) = 1 := if_neg h
    rw [hV]
    refine ⟨fun _ => ?_, fun q => by omega⟩
    by_cases h4 : 194 ≤ gt Z k
    · have hc := cnt_f (fun q => h ⟨h4, q⟩)
      have e0 : (if e = 0 then gwU (gt Z k) else gwM (gt Z k)) = 2 := by
        unfold gwM gwU
        rcases he with rfl | rfl
        · rw [if_pos rfl, if_neg (by omega), if_neg (by omega), if_pos (by omega)]
        · rw [if_neg (by omega), if_neg (by omega), if_neg (by omega), if_neg (by omega), if_neg (by omega), if_pos (by omega)]
      have hl : lo2 (gt Z k) = 128 := by unfold lo2; rw [if_neg (by omega), if_neg (by omega)]
      have hh : hi2 (gt Z k) (md2 e) = 191 := by
        unfold hi2
        split
        · rw [if_neg (by omega)]
        · rw [if_neg (by omega), if_neg (by omega)]
      rw [e0, rdp_2, hl, hh, if_pos (by omega)]
    · by_cases h5 : e = 1 ∧ gt Z k = 192
      · have e0 : (if e = 0 then gwU (gt Z k) else gwM (gt Z k)) = 2 := by
          unfold gwM
          rw [if_neg (by omega), if_neg (by omega), if_pos h5.2]
        have hl : lo2 (gt Z k) = 128 := by unfold lo2; rw [if_neg (by omega), if_neg (by omega)]
        have hh : hi2 (gt Z k) (md2 e) = 128 := by
          unfold hi2
          rw [if_pos (show md2 e = true from decide_eq_true h5.1), if_pos h5.2]
        rw [e0, rdp_2, hl, hh, if_pos (by omega)]
      · have e0 : (if e = 0 then gwU (gt Z k) else gwM (gt Z k)) = 0 := by
          unfold gwM gwU
          rcases he with rfl | rfl
          · rw [if_pos rfl, if_neg (by omega), if_pos (by omega)]
          · rw [if_neg (by omega), if_neg (by omega), if_neg (by omega), if_neg (by omega), if_pos (by omega)]
        rw [e0]
        rfl
theorem rd_2 {Z : List Int} {e k : Int} (he : e = 0 ∨ e = 1) (ha : 224 ≤ gt Z k ∧ gt Z k < 240) : (V2 (gt Z k) (gt Z (k + 1)) (gt Z (k + 2)) (md2 e) ≤ 2 → rdr Z e k = (-1, V2 (gt Z k) (gt Z (k + 1)) (gt Z (k + 2)) (md2 e))) ∧ (2 < V2 (gt Z k) (gt Z (k + 1)) (gt Z (k + 2)) (md2 e) → rdr Z e k = (gss Z k 2 0, 3)) := by
  have e0 : (if e = 0 then gwU (gt Z k) else gwM (gt Z k)) = 3 := by
    unfold gwM gwU
    rcases he with rfl | rfl
    · rw [if_pos rfl, if_neg (by omega), if_neg (by omega), if_neg (by omega), if_pos (by omega)]
    · rw [if_neg (by omega), if_neg (by omega), if_neg (by omega), if_neg (by omega), if_neg (by omega), if_neg (by omega), if_pos (by omega)]
  rw [rdr_01 he, e0, rdp_3]
  by_cases h : lo2 (gt Z k) ≤ gt Z (k + 1) ∧ gt Z (k + 1) ≤ hi2 (gt Z k) (md2 e)
  · rw [if_neg (by omega)]
    have hlo := lo3_ge (gt Z k)
    have hhi := hi3_le (gt Z k) (md2 e)
    rw [show lo3 (gt Z k) 1 = lo2 (gt Z k) from rfl] at hlo
    rw [show hi3 (gt Z k) (md2 e) 1 = hi2 (gt Z k) (md2 e) from rfl] at hhi
    have hs : cnt (gt Z (k + 1)) = true := decide_eq_true (by omega)
    by_cases ht : cnt (gt Z (k + 2)) = true
    · have hV : V2 (gt Z k) (gt Z (k + 1)) (gt Z (k + 2)) (md2 e) = 3 := by unfold V2; rw [if_neg (fun q => q h), if_pos ht]
      have hc := cnt_t ht
      rw [hV, if_neg (by omega), gss_2, if_pos hs, hs, Bool.true_and, if_pos ht]
      refine ⟨fun q => by omega, fun _ => ?_⟩
      rw [show ((gt Z k - 224) * 64 + gt Z (k + 1) - 128) * 64 + gt Z (k + 2) - 128 = 64 * (64 * (gt Z k % 16) + (gt Z (k + 1) - 128)) + (gt Z (k + 2) - 128) by omega]
    · have hV : V2 (gt Z k) (gt Z (k + 1)) (gt Z (k + 2)) (md2 e) = 2 := by unfold V2; rw [if_neg (fun q => q h), if_neg ht]
      have hc := cnt_f ht
      rw [hV, if_pos (by omega)]
      exact ⟨fun _ => rfl, fun q => by omega⟩
  · have hV : V2 (gt Z k) (gt Z (k + 1)) (gt Z (k + 2)) (md2 e) = 1 := if_pos h
    rw [hV, if_pos (by omega)]
    exact ⟨fun _ => rfl, fun q => by omega⟩
theorem rd_3 {Z : List Int} {k : Int} (ha : 240 ≤ gt Z k ∧ gt Z k < 248) : (V3 (gt Z k) (gt Z (k + 1)) (gt Z (k + 2)) (gt Z (k + 3)) ≤ 3 → rdr Z 0 k = (-1, V3 (gt Z k) (gt Z (k + 1)) (gt Z (k + 2)) (gt Z (k + 3)))) ∧ (3 < V3 (gt Z k) (gt Z (k + 1)) (gt Z (k + 2)) (gt Z (k + 3)) → rdr Z 0 k = (gss Z k 3 0, 4)) := by
  rw [rdr_01 (Or.inl rfl), if_pos rfl]
  by_cases h4 : gt Z k ≤ 244
  · have e0 : gwU (gt Z k) = 4 := by
      unfold gwU
      rw [if_neg (by omega), if_neg (by omega), if_neg (by omega), if_neg (by omega)]
    rw [e0, rdp_4]
    by_cases h : lo2 (gt Z k) ≤ gt Z (k + 1) ∧ gt Z (k + 1) ≤ hi2 (gt Z k) false
    · have hin : gt Z k ≤ 244 ∧ lo2 (gt Z k) ≤ gt Z (k + 1) ∧ gt Z (k + 1) ≤ hi2 (gt Z k) false := ⟨h4, h⟩
      rw [show md2 0 = false from rfl, if_neg (by omega)]
      have hlo := lo3_ge (gt Z k)
      have hhi := hi3_le (gt Z k) false
      rw [show lo3 (gt Z k) 1 = lo2 (gt Z k) from rfl] at hlo
      rw [show hi3 (gt Z k) false 1 = hi2 (gt Z k) false from rfl] at hhi
      have hs : cnt (gt Z (k + 1)) = true := decide_eq_true (by omega)
      by_cases ht : cnt (gt Z (k + 2)) = true
      · have hc := cnt_t ht
        rw [if_neg (by omega)]
        by_cases hu : cnt (gt Z (k + 3)) = true
        · have hc2 := cnt_t hu
          have hV : V3 (gt Z k) (gt Z (k + 1)) (gt Z (k + 2)) (gt Z (k + 3)) = 4 := by unfold V3; rw [if_neg (fun q => q hin), if_neg (fun q => q ht), if_neg (fun q => q hu)]
          rw [hV, if_neg (by omega), gss_3, if_pos hs, hs, Bool.true_and, if_pos ht, ht, Bool.true_and, if_pos hu]
          refine ⟨fun q => by omega, fun _ => ?_⟩
          rw [show (((gt Z k - 240) * 64 + gt Z (k + 1) - 128) * 64 + gt Z (k + 2) - 128) * 64 + gt Z (k + 3) - 128 = 64 * (64 * (64 * (gt Z k % 8) + (gt Z (k + 1) - 128)) + (gt Z (k + 2) - 128)) + (gt Z (k + 3) - 128) by omega]
        · have hc2 := cnt_f hu
          have hV : V3 (gt Z k) (gt Z (k + 1)) (gt Z (k + 2)) (gt Z (k + 3)) = 3 := by unfold V3; rw [if_neg (fun q => q hin), if_neg (fun q => q ht), if_pos hu]
          rw [hV, if_pos (by omega)]
          exact ⟨fun _ => rfl, fun q => by omega⟩
      · have hc := cnt_f ht
        have hV : V3 (gt Z k) (gt Z (k + 1)) (gt Z (k + 2)) (gt Z (k + 3)) = 2 := by unfold V3; rw [if_neg (fun q => q hin), if_pos ht]
        rw [hV, if_pos (by omega)]
        exact ⟨fun _ => rfl, fun q => by omega⟩
    · have hV : V3 (gt Z k) (gt Z (k + 1)) (gt Z (k + 2)) (gt Z (k + 3)) = 1 := if_pos (fun q => h q.2)
      rw [hV, show md2 0 = false from rfl, if_pos (by omega)]
      exact ⟨fun _ => rfl, fun q => by omega⟩
  · have e0 : gwU (gt Z k) = 0 := by
      unfold gwU
      rw [if_neg (by omega), if_pos (by omega)]
    have hV : V3 (gt Z k) (gt Z (k + 1)) (gt Z (k + 2)) (gt Z (k + 3)) = 1 := if_pos (fun q => h4 q.1)
    rw [e0, hV]
    exact ⟨fun _ => rfl, fun q => by omega⟩
/-- both ways of reading agree -/
theorem rd_all {Z : List Int} {e k n : Int} (he : e = 0 ∨ e = 1) (ha : n = 1 ∧ 192 ≤ gt Z k ∧ gt Z k < 224 ∨ n = 2 ∧ 224 ≤ gt Z k ∧ gt Z k < 240 ∨ n = 3 ∧ 240 ≤ gt Z k ∧ gt Z k < 248 ∧ e = 0) (hn : ¬ (e = 1 ∧ gt Z k = 192 ∧ gt Z (k + 1) = 128)) : (bgn Z k n (md2 e) 64 0 1 ≤ n → rdr Z e k = (-1, bgn Z k n (md2 e) 64 0 1)) ∧ (n < bgn Z k n (md2 e) 64 0 1 → rdr Z e k = (gss Z k n 0, n + 1)) ∧ 1 ≤ bgn Z k n (md2 e) 64 0 1 ∧ bgn Z k n (md2 e) 64 0 1 ≤ 4 := by
  rcases ha with ⟨rfl, h1, h2⟩ | ⟨rfl, h1, h2⟩ | ⟨rfl, h1, h2, rfl⟩
  · rw [bg_1 ⟨h1, h2⟩]
    have h := rd_1 he ⟨h1, h2⟩ hn
    exact ⟨h.1, h.2, V1_ge _ _, by unfold V1; split <;> omega⟩
  · rw [bg_2 ⟨h1, h2⟩]
    have h := rd_2 he ⟨h1, h2⟩
    exact ⟨h.1, h.2, V2_ge _ _ _ _, by unfold V2; split; omega; split <;> omega⟩
  · rw [show md2 0 = false from rfl, bg_3 ⟨h1, h2⟩]
    have h := rd_3 ⟨h1, h2⟩
    exact ⟨h.1, h.2, V3_ge _ _ _ _, by unfold V3; split; omega; split; omega; split <;> omega⟩
theorem gss_rng {Z : List Int} {k n fl : Int} (hn : 1 ≤ n ∧ n ≤ 3) (hf : 0 ≤ fl ∧ fl < 64) : 0 ≤ gss Z k n fl ∧ gss Z k n fl < 2097152 := by
  have hd : ∀ (b : Bool) (z : Int), (b = true → 128 ≤ z ∧ z < 192) → 0 ≤ (if b = true then z - 128 else fl) ∧ (if b = true then z - 128 else fl) < 64 := by
    intro b z h
    split
    · rename_i q
      have := h q
      omega
    · omega
  have h1 := hd (cnt (gt Z (k + 1))) (gt Z (k + 1)) (fun q => cnt_t q)
  have h2 := hd (cnt (gt Z (k + 1)) && cnt (gt Z (k + 2))) (gt Z (k + 2)) (fun q => cnt_t (Bool.and_eq_true _ _ ▸ q).2)
  have h3 := hd (cnt (gt Z (k + 1)) && cnt (gt Z (k + 2)) && cnt (gt Z (k + 3))) (gt Z (k + 3)) (fun q => cnt_t (Bool.and_eq_true _ _ ▸ q).2)
  rcases (show n = 1 ∨ n = 2 ∨ n = 3 by omega) with rfl | rfl | rfl
  · rw [gss_1]; omega
  · rw [gss_2]; omega
  · rw [gss_3]; omega
theorem agf_rng (Z C : List Int) (k : Int) : ∀ (m : Nat) (n : Int), n ≤ agf Z C k m n ∧ agf Z C k m n ≤ n + m
  | 0, n => ⟨Int.le_refl _, by show n ≤ n + ((0 : Nat) : Int); omega⟩
  | m + 1, n => by
    unfold agf
    split
    · have := agf_rng Z C k m (n + 1)
      omega
    · omega
