/-! pure rows: strip, replace, reverse, characters, equality of texts -/
def stp (us R : List Int) : Prop := ∃ fr to : Int, (0 ≤ fr ∧ fr ≤ (us.length : Int) ∧ 0 ≤ to ∧ to ≤ (us.length : Int)) ∧ R = sbl us fr to ∧ (∀ j : Int, 0 ≤ j → j < fr → gt us j ≤ 32) ∧ (∀ j : Int, to ≤ j → j < (us.length : Int) → gt us j ≤ 32) ∧ (fr < to ∧ 32 < gt us fr ∧ 32 < gt us (to - 1) ∨ to ≤ fr)
theorem stp_one {us R R' : List Int} (h : stp us R) (h' : stp us R') : R = R' := by
  obtain ⟨fr, to, ⟨a1, a2, a3, a4⟩, rfl, a5, a6, a7⟩ := h
  obtain ⟨fr', to', ⟨b1, b2, b3, b4⟩, rfl, b5, b6, b7⟩ := h'
  rcases a7 with ⟨c1, c2, c3⟩ | c1
  · rcases b7 with ⟨d1, d2, d3⟩ | d1
    · have e1 : fr = fr' := by
        rcases Int.lt_trichotomy fr fr' with q | q | q
        · have := b5 fr a1 q; omega
        · exact q
        · have := a5 fr' b1 q; omega
      have e2 : to = to' := by
        rcases Int.lt_trichotomy to to' with q | q | q
        · have := a6 (to' - 1) (by omega) (by omega); omega
        · exact q
        · have := b6 (to - 1) (by omega) (by omega); omega
      rw [e1, e2]
    · exfalso
      rcases (show fr < fr' ∨ fr' ≤ fr by omega) with q | q
      · have := b5 fr a1 q; omega
      · have := b6 fr (by omega) (by omega); omega
  · rcases b7 with ⟨d1, d2, d3⟩ | d1
    · exfalso
      rcases (show fr' < fr ∨ fr ≤ fr' by omega) with q | q
      · have := a5 fr' b1 q; omega
      · have := a6 fr' (by omega) (by omega); omega
    · rw [sbl_nil c1 a1, sbl_nil d1 b1]
/-- replace, from place k on (n: turns that are left) -/
def rpl (a b c : List Int) : Nat → Int → List Int
  | 0, _ => []
  | n + 1, k => if (a.length : Int) < k then [] else if sta a b k = true then c ++ (if 0 < b.length then rpl a b c n (k + b.length) else sbl a k (k + 1) ++ rpl a b c n (k + 1)) else sbl a k (k + 1) ++ rpl a b c n (k + 1)
def rplc (a b c : List Int) : List Int := rpl a b c (a.length + 2) 0
/-- the builder turned round: its first m units -/
def rvk (us : List Int) : Nat → List Int
  | 0 => []
  | 1 => [gt us 0]
  | m + 2 => if pr us m = true then gt us m :: gt us (m + 1) :: rvk us m else gt us (m + 1) :: rvk us (m + 1)
theorem rvk_len (us : List Int) : ∀ m, (rvk us m).length = m
  | 0 => rfl
  | 1 => rfl
  | m + 2 => by
    unfold rvk
    split
    · simp [rvk_len us m]
    · simp [rvk_len us (m + 1)]
theorem rvk_mem {us : List Int} : ∀ m, m ≤ us.length → ∀ u ∈ rvk us m, u ∈ us
  | 0, _, u, h => absurd h List.not_mem_nil
  | 1, hm, u, h => by
    rw [List.mem_singleton.mp h, gt_in (by omega) (by omega)]
    exact getD_mem (by omega)
  | m + 2, hm, u, h => by
    have g0 : gt us (m : Int) ∈ us := by rw [gt_in (by omega) (by omega)]; exact getD_mem (by omega)
    have g1 : gt us ((m : Int) + 1) ∈ us := by rw [gt_in (by omega) (by omega)]; exact getD_mem (by omega)
    unfold rvk at h
    split at h
    · rcases List.mem_cons.mp h with rfl | h
      · exact g0
      · rcases List.mem_cons.mp h with rfl | h
        · exact g1
        · exact rvk_mem m (by omega) u h
    · rcases List.mem_cons.mp h with rfl | h
      · exact g1
      · exact rvk_mem (m + 1) (by omega) u h
theorem rvk_1 {us : List Int} {k : Int} (h0 : 0 ≤ k) (h : pr us (k - 1) = false) : rvk us (k + 1).toNat = gt us k :: rvk us k.toNat := by
  obtain ⟨m, rfl⟩ : ∃ m : Nat, k = m := ⟨k.toNat, by omega⟩
  have e : ((m : Int) + 1).toNat = m + 1 := by omega
  rw [e, Int.toNat_natCast]
  cases m with
  | zero => rfl
  | succ m =>
    have e2 : ((m + 1 : Nat) : Int) - 1 = (m : Int) := by omega
    rw [e2] at h
    have e3 : ((m + 1 : Nat) : Int) = (m : Int) + 1 := by omega
    rw [rvk, if_neg (by rw [h]; decide), e3]
theorem rvk_2 {us : List Int} {k : Int} (h0 : 1 ≤ k) (h : pr us (k - 1) = true) : rvk us (k + 1).toNat = gt us (k - 1) :: gt us k :: rvk us (k - 1).toNat := by
  obtain ⟨m, rfl⟩ : ∃ m : Nat, k = (m : Int) + 1 := ⟨(k - 1).toNat, by omega⟩
  have e : ((m : Int) + 1 + 1).toNat = m + 2 := by omega
  have e2 : (m : Int) + 1 - 1 = (m : Int) := by omega
  rw [e2] at h
  rw [e, e2, Int.toNat_natCast, rvk, if_pos h]
theorem pr_m1 (us : List Int) : pr us (-1) = false := by
  unfold pr
  rw [gt_out (by omega)]
  rfl
/-- the characters from place i on -/
def chl (us : List Int) : Nat → Int → List Int
  | 0, _ => []
  | n + 1, i => if (us.length : Int) ≤ i then [] else chr us i :: chl us n (if 65536 ≤ chr us i then i + 2 else i + 1)
def chs (us : List Int) : List Int := chl us (us.length + 1) 0
theorem dif_zero : ∀ (a b : List Int), dif a b = 0 ↔ a = b
  | [], [] => by simp [dif]
  | [], y :: b => by simp [dif]; omega
  | x :: a, [] => by simp [dif]; omega
  | x :: a, y :: b => by
    by_cases h : x = y
    · subst h
      have e : dif (x :: a) (x :: b) = dif a b := by simp [dif]
      rw [e, dif_zero a b]
      simp
    · have e : dif (x :: a) (y :: b) = x - y := by simp [dif, h]
      rw [e]
      constructor
      · intro q; omega
      · intro q; exact absurd (List.cons.inj q).1 h
theorem chr_rng {us : List Int} (h : ∀ u ∈ us, 0 ≤ u ∧ u < 65536) (k : Int) : -1 ≤ chr us k ∧ chr us k < 1114112 := by
  unfold chr
  have h1 := gt_rng h k
  split
  · rename_i hp
    have h2 := pr_hi hp
    omega
  · omega
theorem chr_in {us : List Int} (h : ∀ u ∈ us, 0 ≤ u ∧ u < 65536) {k : Int} (h0 : 0 ≤ k) (h1 : k < (us.length : Int)) : 0 ≤ chr us k := by
  unfold chr
  have h2 := h _ (getD_mem (us := us) (k := k.toNat) (by omega))
  rw [← gt_in h0 h1] at h2
  split
  · rename_i hp
    have h3 := pr_hi hp
    omega
  · omega
