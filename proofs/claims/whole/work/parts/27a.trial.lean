/-! READING BYTES BY TRIAL -/
def cnt (z : Int) : Bool := decide (128 ≤ z ∧ z < 192)
def gsl (Z : List Int) (k fl : Int) : Nat → Int → Bool → Int → Int
  | 0, _, _, c => c
  | m + 1, i, g, c => gsl Z k fl m (i + 1) (g && cnt (gt Z (k + i))) (64 * c + (if (g && cnt (gt Z (k + i))) = true then gt Z (k + i) - 128 else fl))
def gs0 (a n : Int) : Int := if n = 1 then a % 32 else if n = 2 then a % 16 else a % 8
def gss (Z : List Int) (k n fl : Int) : Int := gsl Z k fl n.toNat 1 true (gs0 (gt Z k) n)
def lea (n : Int) : Int := if n = 1 then 128 else if n = 2 then 2048 else 65536
def mos (n : Int) : Int := if n = 1 then 2047 else if n = 2 then 65535 else 1114111
def mayb (c n : Int) (md : Bool) : Bool := decide (lea n ≤ c ∧ c ≤ mos n) && (md || (!hi c && !lw c))
def agf (Z C : List Int) (k : Int) : Nat → Int → Int
  | 0, n => n
  | m + 1, n => if gt Z (k + n) = gt C n then agf Z C k m (n + 1) else n
def agr (Z : List Int) (k : Int) (C : List Int) : Int := agf Z C k C.length 0
def bgn (Z : List Int) (k n : Int) (md : Bool) : Nat → Int → Int → Int
  | 0, _, b => b
  | m + 1, fl, b => bgn Z k n md m (fl + 1) (if mayb (gss Z k n fl) n md = true then (if b < agr Z k (utf (gss Z k n fl)) then agr Z k (utf (gss Z k n fl)) else b) else b)
theorem bgn_max (Z : List Int) (k n : Int) (md : Bool) (V : Int) : ∀ (m : Nat) (fl b : Int), b ≤ V → (∀ x : Int, fl ≤ x → x < fl + m → mayb (gss Z k n x) n md = true → agr Z k (utf (gss Z k n x)) ≤ V) → (b = V ∨ ∃ x : Int, fl ≤ x ∧ x < fl + m ∧ mayb (gss Z k n x) n md = true ∧ agr Z k (utf (gss Z k n x)) = V) → bgn Z k n md m fl b = V
  | 0, fl, b, h1, h2, h3 => by
    rcases h3 with h | ⟨x, h4, h5, -⟩
    · exact h
    · exfalso; omega
  | m + 1, fl, b, h1, h2, h3 => by
    unfold bgn
    obtain ⟨b', hb'⟩ : ∃ z, z = (if mayb (gss Z k n fl) n md = true then (if b < agr Z k (utf (gss Z k n fl)) then agr Z k (utf (gss Z k n fl)) else b) else b) := ⟨_, rfl⟩
    rw [← hb']
    have h20 := h2 fl (by omega) (by omega)
    refine bgn_max Z k n md V m (fl + 1) b' ?_ (fun x h4 h5 h6 => h2 x (by omega) (by omega) h6) ?_
    · rw [hb']
      split
      · rename_i hm
        have := h20 hm
        split <;> omega
      · exact h1
    · rcases h3 with h | ⟨x, h4, h5, h6, h7⟩
      · left
        rw [hb']
        split
        · rename_i hm
          have := h20 hm
          rw [if_neg (by omega)]
          exact h
        · exact h
      · by_cases e : x = fl
        · left
          subst e
          rw [hb', if_pos h6]
          split
          · exact h7
          · omega
        · right
          exact ⟨x, by omega, by omega, h6, h7⟩
theorem z01 : (0 : Int) + 1 = 1 := rfl
theorem z12 : (1 : Int) + 1 = 2 := rfl
theorem z23 : (2 : Int) + 1 = 3 := rfl
theorem z34 : (3 : Int) + 1 = 4 := rfl
theorem agr_2 (Z : List Int) (k x y : Int) : agr Z k [x, y] = if gt Z k = x then (if gt Z (k + 1) = y then 2 else 1) else 0 := by
  have e : agr Z k [x, y] = if gt Z (k + 0) = x then (if gt Z (k + (0 + 1)) = y then (0 : Int) + 1 + 1 else 0 + 1) else 0 := rfl
  rw [e]
  simp only [Int.add_zero, z01, z12]
theorem agr_3 (Z : List Int) (k x y z : Int) : agr Z k [x, y, z] = if gt Z k = x then (if gt Z (k + 1) = y then (if gt Z (k + 2) = z then 3 else 2) else 1) else 0 := by
  have e : agr Z k [x, y, z] = if gt Z (k + 0) = x then (if gt Z (k + (0 + 1)) = y then (if gt Z (k + (0 + 1 + 1)) = z then (0 : Int) + 1 + 1 + 1 else 0 + 1 + 1) else 0 + 1) else 0 := rfl
  rw [e]
  simp only [Int.add_zero, z01, z12, z23]
theorem agr_4 (Z : List Int) (k x y z w : Int) : agr Z k [x, y, z, w] = if gt Z k = x then (if gt Z (k + 1) = y then (if gt Z (k + 2) = z then (if gt Z (k + 3) = w then 4 else 3) else 2) else 1) else 0 := by
  have e : agr Z k [x, y, z, w] = if gt Z (k + 0) = x then (if gt Z (k + (0 + 1)) = y then (if gt Z (k + (0 + 1 + 1)) = z then (if gt Z (k + (0 + 1 + 1 + 1)) = w then (0 : Int) + 1 + 1 + 1 + 1 else 0 + 1 + 1 + 1) else 0 + 1 + 1) else 0 + 1) else 0 := rfl
  rw [e]
  simp only [Int.add_zero, z01, z12, z23, z34]
theorem cnt_t {z : Int} (h : cnt z = true) : 128 ≤ z ∧ z < 192 := of_decide_eq_true h
theorem cnt_f {z : Int} (h : ¬ cnt z = true) : ¬ (128 ≤ z ∧ z < 192) := fun q => h (decide_eq_true q)
theorem gss_1 (Z : List Int) (k fl : Int) : gss Z k 1 fl = 64 * (gt Z k % 32) + (if cnt (gt Z (k + 1)) = true then gt Z (k + 1) - 128 else fl) := by
  have e : gss Z k 1 fl = 64 * (gt Z k % 32) + (if (true && cnt (gt Z (k + 1))) = true then gt Z (k + 1) - 128 else fl) := rfl
  rw [e, Bool.true_and]
theorem gss_2 (Z : List Int) (k fl : Int) : gss Z k 2 fl = 64 * (64 * (gt Z k % 16) + (if cnt (gt Z (k + 1)) = true then gt Z (k + 1) - 128 else fl)) + (if (cnt (gt Z (k + 1)) && cnt (gt Z (k + 2))) = true then gt Z (k + 2) - 128 else fl) := by
  have e : gss Z k 2 fl = 64 * (64 * (gt Z k % 16) + (if (true && cnt (gt Z (k + 1))) = true then gt Z (k + 1) - 128 else fl)) + (if (true && cnt (gt Z (k + 1)) && cnt (gt Z (k + (1 + 1)))) = true then gt Z (k + (1 + 1)) - 128 else fl) := rfl
  rw [e, Bool.true_and]
  rfl
theorem gss_3 (Z : List Int) (k fl : Int) : gss Z k 3 fl = 64 * (64 * (64 * (gt Z k % 8) + (if cnt (gt Z (k + 1)) = true then gt Z (k + 1) - 128 else fl)) + (if (cnt (gt Z (k + 1)) && cnt (gt Z (k + 2))) = true then gt Z (k + 2) - 128 else fl)) + (if (cnt (gt Z (k + 1)) && cnt (gt Z (k + 2)) && cnt (gt Z (k + 3))) = true then gt Z (k + 3) - 128 else fl) := by
  have e : gss Z k 3 fl = 64 * (64 * (64 * (gt Z k % 8) + (if (true && cnt (gt Z (k + 1))) = true then gt Z (k + 1) - 128 else fl)) + (if (true && cnt (gt Z (k + 1)) && cnt (gt Z (k + (1 + 1)))) = true then gt Z (k + (1 + 1)) - 128 else fl)) + (if (true && cnt (gt Z (k + 1)) && cnt (gt Z (k + (1 + 1))) && cnt (gt Z (k + (1 + 1 + 1)))) = true then gt Z (k + (1 + 1 + 1)) - 128 else fl) := rfl
  rw [e, Bool.true_and]
  rfl
theorem mayb_t {c n : Int} {md : Bool} (h : mayb c n md = true) : (lea n ≤ c ∧ c ≤ mos n) ∧ (md = true ∨ ¬ (55296 ≤ c ∧ c < 57344)) := by
  unfold mayb at h
  rw [Bool.and_eq_true] at h
  refine ⟨of_decide_eq_true h.1, ?_⟩
  have h2 := h.2
  cases md with
  | true => exact Or.inl rfl
  | false =>
    right
    rw [Bool.false_or, Bool.and_eq_true, Bool.not_eq_true', Bool.not_eq_true'] at h2
    have h3 := of_decide_eq_false h2.1
    have h4 := of_decide_eq_false h2.2
    omega
theorem mayb_of {c n : Int} {md : Bool} (h : lea n ≤ c ∧ c ≤ mos n) (h2 : md = true ∨ ¬ (55296 ≤ c ∧ c < 57344)) : mayb c n md = true := by
  unfold mayb
  rw [Bool.and_eq_true]
  refine ⟨decide_eq_true h, ?_⟩
  rcases h2 with h2 | h2
  · rw [h2]; rfl
  · rw [show hi c = false from decide_eq_false (by omega), show lw c = false from decide_eq_false (by omega)]
    cases md <;> rfl
def V1 (a s : Int) : Int := if 194 ≤ a ∧ cnt s = true then 2 else 1
def V2 (a s t : Int) (md : Bool) : Int := if ¬ (lo2 a ≤ s ∧ s ≤ hi2 a md) then 1 else if cnt t = true then 3 else 2
def V3 (a s t u : Int) : Int := if ¬ (a ≤ 244 ∧ lo2 a ≤ s ∧ s ≤ hi2 a false) then 1 else if ¬ cnt t = true then 2 else if ¬ cnt u = true then 3 else 4
theorem V1_ge (a s : Int) : 1 ≤ V1 a s := by unfold V1; split <;> omega
theorem V2_ge (a s t : Int) (md : Bool) : 1 ≤ V2 a s t md := by
  unfold V2
  split
  · omega
  · split <;> omega
theorem V3_ge (a s t u : Int) : 1 ≤ V3 a s t u := by
  unfold V3
  split
  · omega
  · split
    · omega
    · split <;> omega
/-- two bytes -/
theorem bg_1 {Z : List Int} {k : Int} {md : Bool} (ha : 192 ≤ gt Z k ∧ gt Z k < 224) : bgn Z k 1 md 64 0 1 = V1 (gt Z k) (gt Z (k + 1)) := by
  refine bgn_max Z k 1 md _ 64 0 1 (V1_ge _ _) (fun x h1 h2 h3 => ?_) ?_
  · have h4 := (mayb_t h3).1
    rw [show lea 1 = 128 from rfl, show mos 1 = 2047 from rfl] at h4
    have h5 := gss_1 Z k x
    generalize gss Z k 1 x = c at h4 h5
    rw [utf, if_neg (by omega), if_pos (by omega), agr_2]
    by_cases hc : cnt (gt Z (k + 1)) = true
    · rw [if_pos hc] at h5
      have h6 := cnt_t hc
      have h7 : 194 ≤ gt Z k := by omega
      have hV : V1 (gt Z k) (gt Z (k + 1)) = 2 := if_pos ⟨h7, hc⟩
      rw [hV]
      split
      · split <;> omega
      · omega
    · rw [if_neg hc] at h5
      have h6 := cnt_f hc
      have hV : V1 (gt Z k) (gt Z (k + 1)) = 1 := if_neg (fun q => hc q.2)
      rw [hV]
      split
      · rw [if_neg (by omega)]
        omega
      · omega
  · by_cases h : 194 ≤ gt Z k ∧ cnt (gt Z (k + 1)) = true
    · right
      have h5 := gss_1 Z k 0
      rw [if_pos h.2] at h5
      have h6 := cnt_t h.2
      refine ⟨0, by omega, by omega, ?_, ?_⟩
      · generalize gss Z k 1 0 = c at h5
        exact mayb_of (by rw [show lea 1 = 128 from rfl, show mos 1 = 2047 from rfl]; omega) (Or.inr (by omega))
      · generalize gss Z k 1 0 = c at h5
        rw [utf, if_neg (by omega), if_pos (by omega), agr_2, if_pos (by omega), if_pos (by omega)]
        exact (if_pos h).symm
    · left
      exact (if_neg h).symm
/-- three bytes -/
theorem bg_2 {Z : List Int} {k : Int} {md : Bool} (ha : 224 ≤ gt Z k ∧ gt Z k < 240) : bgn Z k 2 md 64 0 1 = V2 (gt Z k) (gt Z (k + 1)) (gt Z (k + 2)) md := by
  have hlo : lo2 (gt Z k) = if gt Z k = 224 then 160 else 128 := by
    unfold lo2
    split
    · rfl
    · rw [if_neg (by omega)]
  have hhi : hi2 (gt Z k) md = if md = true then 191 else if gt Z k = 237 then 159 else 191 := by
    unfold hi2
    split
    · rw [if_neg (by omega)]
    · split
      · rfl
      · rw [if_neg (by omega)]
  refine bgn_max Z k 2 md _ 64 0 1 (V2_ge _ _ _ _) (fun x h1 h2 h3 => ?_) ?_
  · obtain ⟨h4, h8⟩ := mayb_t h3
    rw [show lea 2 = 2048 from rfl, show mos 2 = 65535 from rfl] at h4
    have h5 := gss_2 Z k x
    generalize gss Z k 2 x = c at h4 h5 h8
    rw [utf, if_neg (by omega), if_neg (by omega), if_pos (by omega), agr_3]
    by_cases hc : cnt (gt Z (k + 1)) = true
    · rw [if_pos hc, hc, Bool.true_and] at h5
      have h6 := cnt_t hc
      have hd : ∃ d : Int, (0 ≤ d ∧ d < 64) ∧ c = 64 * (64 * (gt Z k % 16) + (gt Z (k + 1) - 128)) + d ∧ (¬ cnt (gt Z (k + 2)) = true → d = x) := by
        by_cases ht : cnt (gt Z (k + 2)) = true
        · rw [if_pos ht] at h5
          have := cnt_t ht
          exact ⟨_, by omega, h5, fun q => absurd ht q⟩
        · rw [if_neg ht] at h5
          exact ⟨x, by omega, h5, fun _ => rfl⟩
      obtain ⟨d, hd1, hd2, hd3⟩ := hd
      have hin : lo2 (gt Z k) ≤ gt Z (k + 1) ∧ gt Z (k + 1) ≤ hi2 (gt Z k) md := ⟨by rw [hlo]; split <;> omega, by
        rw [hhi]
        split
        · omega
        · rename_i hm
          have h9 : ¬ (55296 ≤ c ∧ c < 57344) := h8.resolve_left hm
          split <;> omega⟩
      by_cases ht : cnt (gt Z (k + 2)) = true
      · have hV : V2 (gt Z k) (gt Z (k + 1)) (gt Z (k + 2)) md = 3 := by unfold V2; rw [if_neg (fun q => q hin), if_pos ht]
        rw [hV]
        split
        · split
          · split <;> omega
          · omega
        · omega
      · have hV : V2 (gt Z k) (gt Z (k + 1)) (gt Z (k + 2)) md = 2 := by unfold V2; rw [if_neg (fun q => q hin), if_neg ht]
        rw [hV]
        have h9 := cnt_f ht
        have h10 := hd3 ht
        split
        · split
          · rw [if_neg (by omega)]
            omega
          · omega
        · omega
    · have h5' : c = 64 * (64 * (gt Z k % 16) + x) + x := by
        rw [if_neg hc, if_neg (by rw [Bool.and_eq_true]; exact fun q => hc q.1)] at h5
        exact h5
      have h6 := cnt_f hc
      have hV : V2 (gt Z k) (gt Z (k + 1)) (gt Z (k + 2)) md = 1 := if_pos (fun q => h6 (by
        have q1 := q.1
        have q2 := q.2
        rw [hlo] at q1
        rw [hhi] at q2
        constructor
        · split at q1 <;> omega
        · split at q2
          · omega
          · split at q2 <;> omega))
      rw [hV]
      split
      · rw [if_neg (by omega)]
        omega
      · omega
  · by_cases h : ¬ (lo2 (gt Z k) ≤ gt Z (k + 1) ∧ gt Z (k + 1) ≤ hi2 (gt Z k) md)
    · left
      exact (if_pos h).symm
    · right
      have hin := Classical.not_not.mp h
      have h' := hin
      rw [hlo, hhi] at h'
      have hs : 128 ≤ gt Z (k + 1) ∧ gt Z (k + 1) < 192 := by
        obtain ⟨q1, q2⟩ := h'
        constructor
        · split at q1 <;> omega
        · split at q2
          · omega
          · split at q2 <;> omega
      have hc : cnt (gt Z (k + 1)) = true := decide_eq_true hs
      have h5 := gss_2 Z k 0
      rw [if_pos hc, hc, Bool.true_and] at h5
      have hd : ∃ d : Int, (0 ≤ d ∧ d < 64) ∧ gss Z k 2 0 = 64 * (64 * (gt Z k % 16) + (gt Z (k + 1) - 128)) + d ∧ (cnt (gt Z (k + 2)) = true → d = gt Z (k + 2) - 128) := by
        by_cases ht : cnt (gt Z (k + 2)) = true
        · rw [if_pos ht] at h5
          have := cnt_t ht
          exact ⟨_, by omega, h5, fun _ => rfl⟩
        · rw [if_neg ht] at h5
          exact ⟨0, by omega, h5, fun q => absurd q ht⟩
      obtain ⟨d, hd1, hd2, hd3⟩ := hd
      refine ⟨0, by omega, by omega, ?_, ?_⟩
      · generalize gss Z k 2 0 = c at hd2
        refine mayb_of ?_ ?_
        · rw [show lea 2 = 2048 from rfl, show mos 2 = 65535 from rfl]
          have q1 := h'.1
          split at q1 <;> omega
        · cases md with
          | true => exact Or.inl rfl
          | false =>
            right
            have q2 := h'.2
            rw [if_neg (by decide)] at q2
            split at q2 <;> omega
      · have h2048 : 2048 ≤ gss Z k 2 0 := by
          have q1 := h'.1
          split at q1 <;> omega
        generalize gss Z k 2 0 = c at hd2 h2048
        rw [utf, if_neg (by omega), if_neg (by omega), if_pos (by omega), agr_3, if_pos (by omega), if_pos (by omega)]
        by_cases ht : cnt (gt Z (k + 2)) = true
        · have := hd3 ht
          rw [if_pos (by omega)]
          unfold V2
          rw [if_neg (fun q => q hin), if_pos ht]
        · have := cnt_f ht
          rw [if_neg (by omega)]
          unfold V2
          rw [if_neg (fun q => q hin), if_neg ht]
/-- four bytes -/
theorem bg_3 {Z : List Int} {k : Int} (ha : 240 ≤ gt Z k ∧ gt Z k < 248) : bgn Z k 3 false 64 0 1 = V3 (gt Z k) (gt Z (k + 1)) (gt Z (k + 2)) (gt Z (k + 3)) := by
  have hlo : lo2 (gt Z k) = if gt Z k = 240 then 144 else 128 := by
    unfold lo2
    rw [if_neg (by omega)]
  have hhi : hi2 (gt Z k) false = if gt Z k = 244 then 143 else 191 := by
    unfold hi2
    rw [if_neg (by decide), if_neg (by omega)]
  refine bgn_max Z k 3 false _ 64 0 1 (V3_ge _ _ _ _) (fun x h1 h2 h3 => ?_) ?_
  · obtain ⟨h4, h8⟩ := mayb_t h3
    rw [show lea 3 = 65536 from rfl, show mos 3 = 1114111 from rfl] at h4
    have h5 := gss_3 Z k x
    generalize gss Z k 3 x = c at h4 h5 h8
    rw [utf, if_neg (by omega), if_neg (by omega), if_neg (by omega), agr_4]
    by_cases hc : cnt (gt Z (k + 1)) = true
    · rw [if_pos hc, hc, Bool.true_and] at h5
      have h6 := cnt_t hc
      have hd : ∃ d d2 : Int, (0 ≤ d ∧ d < 64) ∧ (0 ≤ d2 ∧ d2 < 64) ∧ c = 64 * (64 * (64 * (gt Z k % 8) + (gt Z (k + 1) - 128)) + d) + d2 ∧ (¬ cnt (gt Z (k + 2)) = true → d = x) ∧ (¬ cnt (gt Z (k + 3)) = true → d2 = x) := by
        by_cases ht : cnt (gt Z (k + 2)) = true
        · rw [if_pos ht, ht, Bool.true_and] at h5
          have := cnt_t ht
          by_cases hu : cnt (gt Z (k + 3)) = true
          · rw [if_pos hu] at h5
            have := cnt_t hu
            exact ⟨_, _, by omega, by omega, h5, fun q => absurd ht q, fun q => absurd hu q⟩
          · rw [if_neg hu] at h5
            exact ⟨_, x, by omega, by omega, h5, fun q => absurd ht q, fun _ => rfl⟩
        · rw [if_neg ht, if_neg (by rw [Bool.and_eq_true]; exact fun q => ht q.1)] at h5
          exact ⟨x, x, by omega, by omega, h5, fun _ => rfl, fun _ => rfl⟩
      obtain ⟨d, d2, hd1, he1, hd2, hd3, he3⟩ := hd
      have hin : gt Z k ≤ 244 ∧ lo2 (gt Z k) ≤ gt Z (k + 1) ∧ gt Z (k + 1) ≤ hi2 (gt Z k) false := ⟨by omega, by rw [hlo]; split <;> omega, by rw [hhi]; split <;> omega⟩
      by_cases ht : cnt (gt Z (k + 2)) = true
      · by_cases hu : cnt (gt Z (k + 3)) = true
        · have hV : V3 (gt Z k) (gt Z (k + 1)) (gt Z (k + 2)) (gt Z (k + 3)) = 4 := by unfold V3; rw [if_neg (fun q => q hin), if_neg (fun q => q ht), if_neg (fun q => q hu)]
          rw [hV]
          split
          · split
            · split
              · split <;> omega
              · omega
            · omega
          · omega
        · have hV : V3 (gt Z k) (gt Z (k + 1)) (gt Z (k + 2)) (gt Z (k + 3)) = 3 := by unfold V3; rw [if_neg (fun q => q hin), if_neg (fun q => q ht), if_pos hu]
          rw [hV]
          have h9 := cnt_f hu
          have h10 := he3 hu
          split
          · split
            · split
              · rw [if_neg (by omega)]
                omega
              · omega
            · omega
          · omega
      · have hV : V3 (gt Z k) (gt Z (k + 1)) (gt Z (k + 2)) (gt Z (k + 3)) = 2 := by unfold V3; rw [if_neg (fun q => q hin), if_pos ht]
        rw [hV]
        have h9 := cnt_f ht
        have h10 := hd3 ht
        split
        · split
          · rw [if_neg (by omega)]
            omega
          · omega
        · omega
    · have h5' : c = 64 * (64 * (64 * (gt Z k % 8) + x) + x) + x := by
        rw [if_neg hc, if_neg (by rw [Bool.and_eq_true]; exact fun q => hc q.1), if_neg (by rw [Bool.and_eq_true, Bool.and_eq_true]; exact fun q => hc q.1.1)] at h5
        exact h5
      have h6 := cnt_f hc
      have hV : V3 (gt Z k) (gt Z (k + 1)) (gt Z (k + 2)) (gt Z (k + 3)) = 1 := if_pos (fun q => h6 (by
        have q1 := q.2.1
        have q2 := q.2.2
        rw [hlo] at q1
        rw [hhi] at q2
        constructor
        · split at q1 <;> omega
        · split at q2 <;> omega))
      rw [hV]
      split
      · rw [if_neg (by omega)]
        omega
      · omega
  · by_cases h : ¬ (gt Z k ≤ 244 ∧ lo2 (gt Z k) ≤ gt Z (k + 1) ∧ gt Z (k + 1) ≤ hi2 (gt Z k) false)
    · left
      exact (if_pos h).symm
    · right
      have hin := Classical.not_not.mp h
      have h' := hin
      rw [hlo, hhi] at h'
      have hs : 128 ≤ gt Z (k + 1) ∧ gt Z (k + 1) < 192 := by
        obtain ⟨q0, q1, q2⟩ := h'
        constructor
        · split at q1 <;> omega
        · split at q2 <;> omega
      have hc : cnt (gt Z (k + 1)) = true := decide_eq_true hs
      have h5 := gss_3 Z k 0
      rw [if_pos hc, hc, Bool.true_and] at h5
      have hd : ∃ d d2 : Int, (0 ≤ d ∧ d < 64) ∧ (0 ≤ d2 ∧ d2 < 64) ∧ gss Z k 3 0 = 64 * (64 * (64 * (gt Z k % 8) + (gt Z (k + 1) - 128)) + d) + d2 ∧ (cnt (gt Z (k + 2)) = true → d = gt Z (k + 2) - 128) ∧ (cnt (gt Z (k + 2)) = true → cnt (gt Z (k + 3)) = true → d2 = gt Z (k + 3) - 128) := by
        by_cases ht : cnt (gt Z (k + 2)) = true
        · rw [if_pos ht, ht, Bool.true_and] at h5
          have := cnt_t ht
          by_cases hu : cnt (gt Z (k + 3)) = true
          · rw [if_pos hu] at h5
            have := cnt_t hu
            exact ⟨_, _, by omega, by omega, h5, fun _ => rfl, fun _ _ => rfl⟩
          · rw [if_neg hu] at h5
            exact ⟨_, 0, by omega, by omega, h5, fun _ => rfl, fun _ q => absurd q hu⟩
        · rw [if_neg ht, if_neg (by rw [Bool.and_eq_true]; exact fun q => ht q.1)] at h5
          exact ⟨0, 0, by omega, by omega, h5, fun q => absurd q ht, fun q => absurd q ht⟩
      obtain ⟨d, d2, hd1, he1, hd2, hd3, he3⟩ := hd
      have hbig : 65536 ≤ gss Z k 3 0 ∧ gss Z k 3 0 ≤ 1114111 := by
        obtain ⟨q0, q1, q2⟩ := h'
        constructor
        · split at q1 <;> omega
        · split at q2 <;> omega
      refine ⟨0, by omega, by omega, ?_, ?_⟩
      · exact mayb_of (by rw [show lea 3 = 65536 from rfl, show mos 3 = 1114111 from rfl]; exact hbig) (Or.inr (by omega))
      · generalize gss Z k 3 0 = c at hd2 hbig
        rw [utf, if_neg (by omega), if_neg (by omega), if_neg (by omega), agr_4, if_pos (by omega), if_pos (by omega)]
        by_cases ht : cnt (gt Z (k + 2)) = true
        · have h9 := hd3 ht
          rw [if_pos (by omega)]
          by_cases hu : cnt (gt Z (k + 3)) = true
          · have h10 := he3 ht hu
            rw [if_pos (by omega)]
            unfold V3
            rw [if_neg (fun q => q hin), if_neg (fun q => q ht), if_neg (fun q => q hu)]
          · have h10 := cnt_f hu
            rw [if_neg (by omega)]
            unfold V3
            rw [if_neg (fun q => q hin), if_neg (fun q => q ht), if_pos hu]
        · have := cnt_f ht
          rw [if_neg (by omega)]
          unfold V3
          rw [if_neg (fun q => q hin), if_pos ht]
