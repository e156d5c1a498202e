/-! reading bytes -/
def gwU (a : Int) : Int := if a < 128 then 1 else if a < 194 ∨ 244 < a then 0 else if a < 224 then 2 else if a < 240 then 3 else 4
def gwM (a : Int) : Int := if a = 0 ∨ 240 ≤ a then 0 else if a = 192 then 2 else gwU a
def fbb (w : Int) : Int := if w = 2 then 192 else if w = 3 then 224 else if w = 4 then 240 else 0
def lo2 (a : Int) : Int := if a = 224 then 160 else if a = 240 then 144 else 128
def hi2 (a : Int) (md : Bool) : Int := if md = true then (if a = 192 then 128 else 191) else if a = 237 then 159 else if a = 244 then 143 else 191
def lo3 (a j : Int) : Int := if j = 1 then lo2 a else 128
def hi3 (a : Int) (md : Bool) (j : Int) : Int := if j = 1 then hi2 a md else 191
/-- what a row of bytes stands for (-1: it is bad), and how many bytes it has -/
def rpf (Z : List Int) (k gw a : Int) (md : Bool) : Nat → Int → Int → Int × Int
  | 0, _, s => (s, gw)
  | m + 1, j, s => if gt Z (k + j) < lo3 a j ∨ hi3 a md j < gt Z (k + j) then (-1, j) else rpf Z k gw a md m (j + 1) (s * 64 + gt Z (k + j) - 128)
def rdp (Z : List Int) (k gw : Int) (md : Bool) : Int × Int := if gw = 0 then (-1, 1) else rpf Z k gw (gt Z k) md (gw - 1).toNat 1 (gt Z k - fbb gw)
def rd2 (h w : Int) : Int × Int := if h = -1 ∨ w = -1 then (-1, 1) else (h * 256 + w, 2)
def rdr (Z : List Int) (e k : Int) : Int × Int := if e = 0 then rdp Z k (gwU (gt Z k)) false else if e = 1 then rdp Z k (gwM (gt Z k)) true else if e = 2 then rd2 (gt Z k) (gt Z (k + 1)) else if e = 3 then rd2 (gt Z (k + 1)) (gt Z k) else (gt Z k, 1)
def uts (c : Int) : List Int := if c < 65536 then [c] else [55296 + (c - 65536) / 1024, 56320 + (c - 65536) % 1024]
def dcl (Z : List Int) (e : Int) : Nat → Int → List Int
  | 0, _ => []
  | m + 1, k => if (Z.length : Int) ≤ k then [] else uts (if (rdr Z e k).1 = -1 then 65533 else (rdr Z e k).1) ++ dcl Z e m (k + (rdr Z e k).2)
def dcg (Z : List Int) (e : Int) : Nat → Int → Bool
  | 0, _ => true
  | m + 1, k => if (Z.length : Int) ≤ k then true else decide ((rdr Z e k).1 ≠ -1) && dcg Z e m (k + (rdr Z e k).2)
def dec (Z : List Int) (e : Int) : List Int := dcl Z e (Z.length + 1) 0
def dgd (Z : List Int) (e : Int) : Bool := dcg Z e (Z.length + 1) 0
theorem gtb {Z : List Int} (h : ∀ z ∈ Z, 0 ≤ z ∧ z < 256) (k : Int) : -1 ≤ gt Z k ∧ gt Z k < 256 := by
  unfold gt
  split
  · rename_i hk
    have := h _ (getD_mem (us := Z) (k := k.toNat) (by omega))
    omega
  · omega
theorem gtb0 {Z : List Int} (h : ∀ z ∈ Z, 0 ≤ z ∧ z < 256) {k : Int} (h0 : 0 ≤ k) (h1 : k < (Z.length : Int)) : 0 ≤ gt Z k ∧ gt Z k < 256 := by
  rw [gt_in h0 h1]
  exact h _ (getD_mem (by omega))
def pq (p : Int × Int) : Prop := -1 ≤ p.1 ∧ p.1 < 1114112 ∧ 1 ≤ p.2 ∧ p.2 ≤ 4
def pq2 (b : Int) (p : Int × Int) : Prop := (p.1 = -1 ∨ 0 ≤ p.1 ∧ p.1 < b) ∧ 1 ≤ p.2 ∧ p.2 ≤ 4
theorem lo3_1 (a j : Int) (h : j ≠ 1) : lo3 a j = 128 := if_neg h
theorem hi3_1 (a : Int) (md : Bool) (j : Int) (h : j ≠ 1) : hi3 a md j = 191 := if_neg h
theorem rpf_rng (Z : List Int) (k gw a : Int) (md : Bool) (hg : 1 ≤ gw ∧ gw ≤ 4) : ∀ (m : Nat) (j s : Int), 2 ≤ j → j + (m : Int) ≤ gw → 0 ≤ s → pq2 ((s + 1) * 64 ^ m) (rpf Z k gw a md m j s)
  | 0, j, s, hj, hjm, hs => ⟨Or.inr ⟨hs, by show s < (s + 1) * 1; omega⟩, hg⟩
  | m + 1, j, s, hj, hjm, hs => by
    rw [rpf, lo3_1 _ _ (by omega), hi3_1 _ _ _ (by omega)]
    split
    · exact ⟨Or.inl rfl, by show 1 ≤ j; omega, by show j ≤ 4; omega⟩
    · have ih := rpf_rng Z k gw a md hg m (j + 1) (s * 64 + gt Z (k + j) - 128) (by omega) (by omega) (by omega)
      refine ⟨?_, ih.2⟩
      rcases ih.1 with h | ⟨h1, h2⟩
      · exact Or.inl h
      · refine Or.inr ⟨h1, Int.lt_of_lt_of_le h2 ?_⟩
        rw [Int.pow_succ, Int.mul_comm (64 ^ m) 64, ← Int.mul_assoc]
        exact Int.mul_le_mul_of_nonneg_right (by omega) (Int.pow_nonneg (by omega))
theorem pq_bad : pq (-1, 1) := ⟨by decide, by decide, by decide, by decide⟩
theorem lo3_ge (a : Int) : 128 ≤ lo3 a 1 := by
  unfold lo3 lo2
  rw [if_pos rfl]
  split
  · omega
  · split <;> omega
theorem hi3_le (a : Int) (md : Bool) : hi3 a md 1 ≤ 191 := by
  unfold hi3 hi2
  rw [if_pos rfl]
  split
  · split <;> omega
  · split
    · omega
    · split <;> omega
theorem rdp_rng {Z : List Int} {k gw : Int} {md : Bool} (h : gw = 0 ∨ gw = 1 ∧ 0 ≤ gt Z k ∧ gt Z k < 128 ∨ gw = 2 ∧ 192 ≤ gt Z k ∧ gt Z k < 224 ∨ gw = 3 ∧ 224 ≤ gt Z k ∧ gt Z k < 240 ∨ gw = 4 ∧ 240 ≤ gt Z k ∧ gt Z k ≤ 244 ∧ md = false) : pq (rdp Z k gw md) := by
  have hl := lo3_ge (gt Z k)
  have hm := hi3_le (gt Z k) md
  rcases h with rfl | ⟨rfl, h1, h2⟩ | ⟨rfl, h1, h2⟩ | ⟨rfl, h1, h2⟩ | ⟨rfl, h1, h2, rfl⟩
  · exact pq_bad
  · have e : rdp Z k 1 md = (gt Z k - 0, 1) := rfl
    rw [e]
    exact ⟨by show -1 ≤ gt Z k - 0; omega, by show gt Z k - 0 < 1114112; omega, by show (1 : Int) ≤ 1; decide, by show (1 : Int) ≤ 4; decide⟩
  · have e : rdp Z k 2 md = rpf Z k 2 (gt Z k) md 1 1 (gt Z k - 192) := rfl
    rw [e, rpf]
    split
    · exact pq_bad
    · exact ⟨by show -1 ≤ (gt Z k - 192) * 64 + gt Z (k + 1) - 128; omega, by show (gt Z k - 192) * 64 + gt Z (k + 1) - 128 < 1114112; omega, by show (1 : Int) ≤ 2; decide, by show (2 : Int) ≤ 4; decide⟩
  · have e : rdp Z k 3 md = rpf Z k 3 (gt Z k) md 2 1 (gt Z k - 224) := rfl
    rw [e, rpf]
    split
    · exact pq_bad
    · have h9 := rpf_rng Z k 3 (gt Z k) md (by omega) 1 (1 + 1) ((gt Z k - 224) * 64 + gt Z (k + 1) - 128) (by omega) (by omega) (by omega)
      have h8 := h9.1
      exact ⟨by rcases h8 with q | q <;> omega, by rcases h8 with q | q <;> omega, h9.2.1, h9.2.2⟩
  · have e : rdp Z k 4 false = rpf Z k 4 (gt Z k) false 3 1 (gt Z k - 240) := rfl
    rw [e, rpf]
    split
    · exact pq_bad
    · have hm : hi3 (gt Z k) false 1 ≤ (if gt Z k = 244 then 143 else 191) := by
        unfold hi3 hi2
        rw [if_pos rfl, if_neg (by decide)]
        by_cases q : gt Z k = 244
        · rw [if_neg (by omega), if_pos q]; omega
        · rw [if_neg q]; split <;> omega
      have h9 := rpf_rng Z k 4 (gt Z k) false (by omega) 2 (1 + 1) ((gt Z k - 240) * 64 + gt Z (k + 1) - 128) (by omega) (by omega) (by omega)
      have h8 := h9.1
      refine ⟨by rcases h8 with q | q <;> omega, ?_, h9.2.1, h9.2.2⟩
      rcases h8 with q | q
      · omega
      · have q2 := q.2
        rw [show ((64 : Int) ^ 2) = 4096 from rfl] at q2
        split at hm <;> omega
theorem rdr_rng {Z : List Int} (h : ∀ z ∈ Z, 0 ≤ z ∧ z < 256) {e k : Int} (he : 0 ≤ e ∧ e ≤ 4) (h0 : 0 ≤ k) (h1 : k < (Z.length : Int)) : -1 ≤ (rdr Z e k).1 ∧ (rdr Z e k).1 < 1114112 ∧ 1 ≤ (rdr Z e k).2 ∧ (rdr Z e k).2 ≤ 4 := by
  have ha := gtb0 h h0 h1
  have hb := gtb h (k + 1)
  unfold rdr
  split
  · refine rdp_rng ?_
    unfold gwU
    split
    · omega
    · split
      · exact Or.inl rfl
      · split
        · omega
        · split
          · omega
          · exact Or.inr (Or.inr (Or.inr (Or.inr ⟨rfl, by omega, by omega, rfl⟩)))
  · split
    · refine rdp_rng ?_
      unfold gwM
      split
      · exact Or.inl rfl
      · split
        · omega
        · unfold gwU
          split
          · omega
          · split
            · exact Or.inl rfl
            · split
              · omega
              · rw [if_pos (by omega)]; omega
    · split
      · unfold rd2
        split
        · decide
        · show -1 ≤ gt Z k * 256 + gt Z (k + 1) ∧ gt Z k * 256 + gt Z (k + 1) < 1114112 ∧ (1 : Int) ≤ 2 ∧ (2 : Int) ≤ 4
          omega
      · split
        · unfold rd2
          split
          · decide
          · show -1 ≤ gt Z (k + 1) * 256 + gt Z k ∧ gt Z (k + 1) * 256 + gt Z k < 1114112 ∧ (1 : Int) ≤ 2 ∧ (2 : Int) ≤ 4
            omega
        · show -1 ≤ gt Z k ∧ gt Z k < 1114112 ∧ (1 : Int) ≤ 1 ∧ (1 : Int) ≤ 4
          omega
theorem uts_rng {c : Int} (h0 : 0 ≤ c) (h1 : c < 1114112) : ∀ u ∈ uts c, 0 ≤ u ∧ u < 65536 := by
  intro u hu
  unfold uts at hu
  split at hu
  · simp at hu; omega
  · simp at hu; rcases hu with h | h <;> omega
theorem dcl_rng {Z : List Int} (h : ∀ z ∈ Z, 0 ≤ z ∧ z < 256) {e : Int} (he : 0 ≤ e ∧ e ≤ 4) : ∀ (m : Nat) (k : Int), 0 ≤ k → ∀ u ∈ dcl Z e m k, 0 ≤ u ∧ u < 65536
  | 0, k, h0 => fun u hu => absurd hu List.not_mem_nil
  | m + 1, k, h0 => by
    unfold dcl
    split
    · exact fun u hu => absurd hu List.not_mem_nil
    · rename_i h1
      have hr := rdr_rng h he h0 (by omega)
      refine mem_app (uts_rng ?_ ?_) (dcl_rng h he m _ (by omega))
      · split <;> omega
      · split <;> omega
theorem rw_same {G : ct_G} {f f' : dw_M} {r q n : Nat} {us : List Int} {sp : Int} (h : rw G f r q n us sp) (h1 : f' r = f r) (h2 : f' q = f q) : rw G f' r q n us sp := by
  obtain ⟨g, a1, a2, a3⟩ := h
  exact ⟨g, h1.trans a1, h2.trans a2, a3⟩
theorem dkS.dcd {G : ct_G} {f f' : dw_M} {x ta sa yr dc bu dr qy qb qd : Nat} {gT gS : Nat → Option Nat} {c0 w0 c1 w1 : Int32} {T Y : List (List Int)} {B Z D D' : List Int} {sB sZ sD sD' : Int} (hG : okG G) (h : dkS G f x ta sa yr dc bu dr qy qb qd gT gS c0 w0 T Y B Z D sB sZ sD) (h1 : f' dc = some (.inr (0, [.int c1, .int w1]))) (h2 : rw G f' dr qd 60 D' sD') (hk : ∀ a, a ≠ dc → a ≠ dr → a ≠ qd → f' a = f a) : dkS G f' x ta sa yr dc bu dr qy qb qd gT gS c1 w1 T Y B Z D' sB sZ sD' := by
  have hne := h.ne
  obtain ⟨a1, a2, a3, a4, a5, a6, a7, ⟨a8, a9, a10⟩, a11, a12⟩ := h
  have hd := a10
  obtain ⟨gd, d1, d2, -⟩ := hd
  have hag : ∀ a z, f a = some z → tcl G z → f' a = some z := by
    intro a z ha hz
    rw [hk a (fun e => ?_) (fun e => ?_) (fun e => ?_)]
    · exact ha
    · subst e
      rw [a4] at ha
      cases ha
      rcases hz with ⟨i, fs, e, e1, e2⟩ | ⟨z, e⟩ | ⟨z, e⟩ <;> cases e
      omega
    · exact rw_ntc hG a10 a (Or.inl e) z ha hz
    · exact rw_ntc hG a10 a (Or.inr e) z ha hz
  refine ⟨?_, ?_, ?_, h1, a5, fun i hi => ?_, fun i hi => ?_, ⟨?_, ?_, h2⟩, a11, a12⟩
  · rw [hk x (dw_ne a1 a4 (by simp)) (dw_ne a1 d1 (by simp)) (dw_ne a1 d2 (by simp))]; exact a1
  · rw [hk ta (dw_ne a2 a4 (by simp)) (dw_ne a2 d1 (by simp)) (dw_ne a2 d2 (by simp))]; exact a2
  · rw [hk sa (dw_ne a3 a4 (by simp)) (dw_ne a3 d1 (by simp)) (dw_ne a3 d2 (by simp))]; exact a3
  · obtain ⟨t', b1, b2⟩ := a6 i hi
    exact ⟨t', b1, tx.agree hag b2⟩
  · obtain ⟨t', b1, b2⟩ := a7 i hi
    exact ⟨t', b1, tx.agree hag b2⟩
  · exact rw_same a8 (hk yr (dw_ne a8.choose_spec.1 a4 (by simp)) a11.2.2.1.symm hne.2.2.2.1.symm) (hk qy (dw_ne a8.choose_spec.2.1 a4 (by simp)) hne.2.1.symm a11.2.2.2.2.2.symm)
  · exact rw_same a9 (hk bu (dw_ne a9.choose_spec.1 a4 (by simp)) a11.1 hne.2.2.1.symm) (hk qb (dw_ne a9.choose_spec.2.1 a4 (by simp)) hne.1.symm a11.2.2.2.1)
set_option maxRecDepth 100000 in
set_option maxHeartbeats 4000000 in
theorem c_DC_goodWidthUtf8 (l : Launch) (G : ct_G) (f : dw_M) (sz : Nat) (a : Int) (ha : iR a) : cn l y_DC_goodWidthUtf8 w_DC_goodWidthUtf8 (0) (0) G f sz [.int (iI a)] (fun v f' => v = some (.int (iI (gwU a))) ∧ f' = f) (0) (0) := by
  refine cn_of (own := "TextDesk$Decoder") (nm := "goodWidthUtf8") (ds := "(I)I") (by decide) (Nat.le_of_ble_eq_true rfl) ?_
  intro p e s m args below meth c ls X hnm hr hlk hs0 hz hw hl
  have hx := X.1
  have hb := X.2.1
  have hl : lv_has ls 1 [(0, .int (iI a))] := hl
  obtain ⟨ha0, ha1⟩ := ha
  refine lv_iload_n hx hb d_DC_goodWidthUtf8_0 rfl (lv_at hl 0 rfl) ?_
  refine lv_sipush (v := iI (128)) hx hb d_DC_goodWidthUtf8_1 rfl ?_
  refine di_icmp_ge (tgt := 9) hx hb d_DC_goodWidthUtf8_4 (by decide) ⟨by omega, by omega⟩ ⟨by omega, by omega⟩ (fun bq4 => ?_) (fun bq4 => ?_)
  · refine lv_iload_n hx hb d_DC_goodWidthUtf8_9 rfl (lv_at hl 0 rfl) ?_
    refine lv_sipush (v := iI (194)) hx hb d_DC_goodWidthUtf8_10 rfl ?_
    refine di_icmp_lt (tgt := 23) hx hb d_DC_goodWidthUtf8_13 (by decide) ⟨by omega, by omega⟩ ⟨by omega, by omega⟩ (fun bq13 => ?_) (fun bq13 => ?_)
    · refine lv_iconst (v := iI (0)) hx hb d_DC_goodWidthUtf8_23 rfl ?_
      exact cn_iret hx hb hr hlk hw  (⟨by rw [show gwU a = 0 by rw [gwU, if_neg (by omega), if_pos (by omega)]], rfl⟩) (Nat.le_refl _) (Nat.le_refl _) d_DC_goodWidthUtf8_24
    · refine lv_iload_n hx hb d_DC_goodWidthUtf8_16 rfl (lv_at hl 0 rfl) ?_
      refine lv_sipush (v := iI (244)) hx hb d_DC_goodWidthUtf8_17 rfl ?_
      refine di_icmp_le (tgt := 25) hx hb d_DC_goodWidthUtf8_20 (by decide) ⟨by omega, by omega⟩ ⟨by omega, by omega⟩ (fun bq20 => ?_) (fun bq20 => ?_)
      · refine lv_iload_n hx hb d_DC_goodWidthUtf8_25 rfl (lv_at hl 0 rfl) ?_
        refine lv_sipush (v := iI (224)) hx hb d_DC_goodWidthUtf8_26 rfl ?_
        refine di_icmp_ge (tgt := 36) hx hb d_DC_goodWidthUtf8_29 (by decide) ⟨by omega, by omega⟩ ⟨by omega, by omega⟩ (fun bq29 => ?_) (fun bq29 => ?_)
        · refine lv_iload_n hx hb d_DC_goodWidthUtf8_36 rfl (lv_at hl 0 rfl) ?_
          refine lv_sipush (v := iI (240)) hx hb d_DC_goodWidthUtf8_37 rfl ?_
          refine di_icmp_ge (tgt := 47) hx hb d_DC_goodWidthUtf8_40 (by decide) ⟨by omega, by omega⟩ ⟨by omega, by omega⟩ (fun bq40 => ?_) (fun bq40 => ?_)
          · refine lv_iconst (v := iI (4)) hx hb d_DC_goodWidthUtf8_47 rfl ?_
            exact cn_iret hx hb hr hlk hw  (⟨by rw [show gwU a = 4 by rw [gwU, if_neg (by omega), if_neg (by omega), if_neg (by omega), if_neg (by omega)]], rfl⟩) (Nat.le_refl _) (Nat.le_refl _) d_DC_goodWidthUtf8_48
          · refine lv_iconst (v := iI (3)) hx hb d_DC_goodWidthUtf8_43 rfl ?_
            refine lv_goto (tgt := 48) hx hb d_DC_goodWidthUtf8_44 (by decide) ?_
            exact cn_iret hx hb hr hlk hw  (⟨by rw [show gwU a = 3 by rw [gwU, if_neg (by omega), if_neg (by omega), if_neg (by omega), if_pos (by omega)]], rfl⟩) (Nat.le_refl _) (Nat.le_refl _) d_DC_goodWidthUtf8_48
        · refine lv_iconst (v := iI (2)) hx hb d_DC_goodWidthUtf8_32 rfl ?_
          refine lv_goto (tgt := 48) hx hb d_DC_goodWidthUtf8_33 (by decide) ?_
          exact cn_iret hx hb hr hlk hw  (⟨by rw [show gwU a = 2 by rw [gwU, if_neg (by omega), if_neg (by omega), if_pos (by omega)]], rfl⟩) (Nat.le_refl _) (Nat.le_refl _) d_DC_goodWidthUtf8_48
      · refine lv_iconst (v := iI (0)) hx hb d_DC_goodWidthUtf8_23 rfl ?_
        exact cn_iret hx hb hr hlk hw  (⟨by rw [show gwU a = 0 by rw [gwU, if_neg (by omega), if_pos (by omega)]], rfl⟩) (Nat.le_refl _) (Nat.le_refl _) d_DC_goodWidthUtf8_24
  · refine lv_iconst (v := iI (1)) hx hb d_DC_goodWidthUtf8_7 rfl ?_
    exact cn_iret hx hb hr hlk hw  (⟨by rw [show gwU a = 1 by rw [gwU, if_pos (by omega)]], rfl⟩) (Nat.le_refl _) (Nat.le_refl _) d_DC_goodWidthUtf8_8
set_option maxRecDepth 100000 in
set_option maxHeartbeats 4000000 in
theorem c_DC_goodWidthModified (l : Launch) (G : ct_G) (f : dw_M) (sz : Nat) (a : Int) (ha : iR a) : cn l y_DC_goodWidthModified w_DC_goodWidthModified (1) (20) G f sz [.int (iI a)] (fun v f' => v = some (.int (iI (gwM a))) ∧ f' = f) (0) (0) := by
  refine cn_of (own := "TextDesk$Decoder") (nm := "goodWidthModified") (ds := "(I)I") (by decide) (Nat.le_of_ble_eq_true rfl) ?_
  intro p e s m args below meth c ls X hnm hr hlk hs0 hz hw hl
  have hx := X.1
  have hb := X.2.1
  have hl : lv_has ls 1 [(0, .int (iI a))] := hl
  obtain ⟨ha0, ha1⟩ := ha
  refine lv_iload_n hx hb d_DC_goodWidthModified_0 rfl (lv_at hl 0 rfl) ?_
  refine di_if_eq (tgt := 11) hx hb d_DC_goodWidthModified_1 (by decide) ⟨by omega, by omega⟩ (fun bq1 => ?_) (fun bq1 => ?_)
  · refine lv_iconst (v := iI (0)) hx hb d_DC_goodWidthModified_11 rfl ?_
    exact cn_iret hx hb hr hlk hw  (⟨by rw [show gwM a = 0 by rw [gwM, if_pos (by omega)]], rfl⟩) (Nat.le_refl _) (Nat.le_refl _) d_DC_goodWidthModified_12
  · refine lv_iload_n hx hb d_DC_goodWidthModified_4 rfl (lv_at hl 0 rfl) ?_
    refine lv_sipush (v := iI (240)) hx hb d_DC_goodWidthModified_5 rfl ?_
    refine di_icmp_lt (tgt := 13) hx hb d_DC_goodWidthModified_8 (by decide) ⟨by omega, by omega⟩ ⟨by omega, by omega⟩ (fun bq8 => ?_) (fun bq8 => ?_)
    · refine lv_iload_n hx hb d_DC_goodWidthModified_13 rfl (lv_at hl 0 rfl) ?_
      refine lv_sipush (v := iI (192)) hx hb d_DC_goodWidthModified_14 rfl ?_
      refine di_icmp_ne (tgt := 24) hx hb d_DC_goodWidthModified_17 (by decide) ⟨by omega, by omega⟩ ⟨by omega, by omega⟩ (fun bq17 => ?_) (fun bq17 => ?_)
      · refine lv_iload_n hx hb d_DC_goodWidthModified_24 rfl (lv_at hl 0 rfl) ?_
        refine cs_DC_50 X hz hw hl.1 (c_DC_goodWidthUtf8 l G f _ a ⟨by omega, by omega⟩) ⟨Nat.le_of_ble_eq_true rfl, Nat.le_of_ble_eq_true rfl⟩ ⟨by show 0 + 0 ≤ 0; omega, by show 0 + 0 ≤ 0; omega⟩ (Nat.le_of_ble_eq_true rfl) d_DC_goodWidthModified_25 (fun v f9 H locs hp hw hsz9 hkp9 hdm9 => ?_)
        obtain ⟨rfl, hfe⟩ := hp
        rw [hfe] at hw
        refine W.eq (g2 := F0 m 28 ls [.int (iI (gwU a))]) rfl ?_
        exact cn_iret hx hb hr hlk hw  (⟨by rw [show gwM a = gwU a by rw [gwM, if_neg (by omega), if_neg (by omega)]], rfl⟩) (Nat.le_refl _) (Nat.le_refl _) d_DC_goodWidthModified_28
      · refine lv_iconst (v := iI (2)) hx hb d_DC_goodWidthModified_20 rfl ?_
        refine lv_goto (tgt := 28) hx hb d_DC_goodWidthModified_21 (by decide) ?_
        exact cn_iret hx hb hr hlk hw  (⟨by rw [show gwM a = 2 by rw [gwM, if_neg (by omega), if_pos (by omega)]], rfl⟩) (Nat.le_refl _) (Nat.le_refl _) d_DC_goodWidthModified_28
    · refine lv_iconst (v := iI (0)) hx hb d_DC_goodWidthModified_11 rfl ?_
      exact cn_iret hx hb hr hlk hw  (⟨by rw [show gwM a = 0 by rw [gwM, if_pos (by omega)]], rfl⟩) (Nat.le_refl _) (Nat.le_refl _) d_DC_goodWidthModified_12
set_option maxRecDepth 100000 in
set_option maxHeartbeats 4000000 in
theorem c_DC_firstByteBase (l : Launch) (G : ct_G) (f : dw_M) (sz : Nat) (a : Int) (ha : 1 ≤ a ∧ a ≤ 4) : cn l y_DC_firstByteBase w_DC_firstByteBase (0) (0) G f sz [.int (iI a)] (fun v f' => v = some (.int (iI (fbb a))) ∧ f' = f) (0) (0) := by
  refine cn_of (own := "TextDesk$Decoder") (nm := "firstByteBase") (ds := "(I)I") (by decide) (Nat.le_of_ble_eq_true rfl) ?_
  intro p e s m args below meth c ls X hnm hr hlk hs0 hz hw hl
  have hx := X.1
  have hb := X.2.1
  have hl : lv_has ls 1 [(0, .int (iI a))] := hl
  refine lv_iload_n hx hb d_DC_firstByteBase_0 rfl (lv_at hl 0 rfl) ?_
  rcases (show a = 1 ∨ a = 2 ∨ a = 3 ∨ a = 4 by omega) with he | he | he | he
  · subst he
    refine lv_tableOut (tgt := 40) hx hb d_DC_firstByteBase_1 (by decide) (by decide) ?_
    refine lv_iconst (v := iI (0)) hx hb d_DC_firstByteBase_40 rfl ?_
    exact cn_iret hx hb hr hlk hw  (⟨rfl, rfl⟩) (Nat.le_refl _) (Nat.le_refl _) d_DC_firstByteBase_41
  · subst he
    refine lv_tableIn (off := 27) (tgt := 28) hx hb d_DC_firstByteBase_1 (by decide) (by decide) rfl (by decide) ?_
    refine lv_sipush (v := iI (192)) hx hb d_DC_firstByteBase_28 rfl ?_
    exact cn_iret hx hb hr hlk hw  (⟨rfl, rfl⟩) (Nat.le_refl _) (Nat.le_refl _) d_DC_firstByteBase_31
  · subst he
    refine lv_tableIn (off := 31) (tgt := 32) hx hb d_DC_firstByteBase_1 (by decide) (by decide) rfl (by decide) ?_
    refine lv_sipush (v := iI (224)) hx hb d_DC_firstByteBase_32 rfl ?_
    exact cn_iret hx hb hr hlk hw  (⟨rfl, rfl⟩) (Nat.le_refl _) (Nat.le_refl _) d_DC_firstByteBase_35
  · subst he
    refine lv_tableIn (off := 35) (tgt := 36) hx hb d_DC_firstByteBase_1 (by decide) (by decide) rfl (by decide) ?_
    refine lv_sipush (v := iI (240)) hx hb d_DC_firstByteBase_36 rfl ?_
    exact cn_iret hx hb hr hlk hw  (⟨rfl, rfl⟩) (Nat.le_refl _) (Nat.le_refl _) d_DC_firstByteBase_39
set_option maxRecDepth 100000 in
set_option maxHeartbeats 4000000 in
theorem c_DC_lowestSecond (l : Launch) (G : ct_G) (f : dw_M) (sz : Nat) (a : Int) (ha : iR a) : cn l y_DC_lowestSecond w_DC_lowestSecond (0) (0) G f sz [.int (iI a)] (fun v f' => v = some (.int (iI (lo2 a))) ∧ f' = f) (0) (0) := by
  refine cn_of (own := "TextDesk$Decoder") (nm := "lowestSecond") (ds := "(I)I") (by decide) (Nat.le_of_ble_eq_true rfl) ?_
  intro p e s m args below meth c ls X hnm hr hlk hs0 hz hw hl
  have hx := X.1
  have hb := X.2.1
  have hl : lv_has ls 1 [(0, .int (iI a))] := hl
  obtain ⟨ha0, ha1⟩ := ha
  refine lv_iload_n hx hb d_DC_lowestSecond_0 rfl (lv_at hl 0 rfl) ?_
  refine lv_sipush (v := iI (224)) hx hb d_DC_lowestSecond_1 rfl ?_
  refine di_icmp_ne (tgt := 13) hx hb d_DC_lowestSecond_4 (by decide) ⟨by omega, by omega⟩ ⟨by omega, by omega⟩ (fun bq4 => ?_) (fun bq4 => ?_)
  · refine lv_iload_n hx hb d_DC_lowestSecond_13 rfl (lv_at hl 0 rfl) ?_
    refine lv_sipush (v := iI (240)) hx hb d_DC_lowestSecond_14 rfl ?_
    refine di_icmp_ne (tgt := 26) hx hb d_DC_lowestSecond_17 (by decide) ⟨by omega, by omega⟩ ⟨by omega, by omega⟩ (fun bq17 => ?_) (fun bq17 => ?_)
    · refine lv_sipush (v := iI (128)) hx hb d_DC_lowestSecond_26 rfl ?_
      exact cn_iret hx hb hr hlk hw  (⟨by rw [show lo2 a = 128 by rw [lo2, if_neg (by omega), if_neg (by omega)]], rfl⟩) (Nat.le_refl _) (Nat.le_refl _) d_DC_lowestSecond_29
    · refine lv_sipush (v := iI (144)) hx hb d_DC_lowestSecond_20 rfl ?_
      refine lv_goto (tgt := 29) hx hb d_DC_lowestSecond_23 (by decide) ?_
      exact cn_iret hx hb hr hlk hw  (⟨by rw [show lo2 a = 144 by rw [lo2, if_neg (by omega), if_pos (by omega)]], rfl⟩) (Nat.le_refl _) (Nat.le_refl _) d_DC_lowestSecond_29
  · refine lv_sipush (v := iI (160)) hx hb d_DC_lowestSecond_7 rfl ?_
    refine lv_goto (tgt := 29) hx hb d_DC_lowestSecond_10 (by decide) ?_
    exact cn_iret hx hb hr hlk hw  (⟨by rw [show lo2 a = 160 by rw [lo2, if_pos (by omega)]], rfl⟩) (Nat.le_refl _) (Nat.le_refl _) d_DC_lowestSecond_29
set_option maxRecDepth 100000 in
set_option maxHeartbeats 4000000 in
theorem c_DC_highestSecond (l : Launch) (G : ct_G) (f : dw_M) (sz : Nat) (a : Int) (ha : iR a) (md : Bool) : cn l y_DC_highestSecond w_DC_highestSecond (0) (0) G f sz [.int (iI a), .int (iI (b2 md))] (fun v f' => v = some (.int (iI (hi2 a md))) ∧ f' = f) (0) (0) := by
  refine cn_of (own := "TextDesk$Decoder") (nm := "highestSecond") (ds := "(IZ)I") (by decide) (Nat.le_of_ble_eq_true rfl) ?_
  intro p e s m args below meth c ls X hnm hr hlk hs0 hz hw hl
  have hx := X.1
  have hb := X.2.1
  have hl : lv_has ls 2 [(0, .int (iI a)), (1, .int (iI (b2 md)))] := hl
  obtain ⟨ha0, ha1⟩ := ha
  have hb1 := b2_01 md
  refine lv_iload_n hx hb d_DC_highestSecond_0 rfl (lv_at hl 1 rfl) ?_
  refine di_if_eq (tgt := 21) hx hb d_DC_highestSecond_1 (by decide) ⟨by omega, by omega⟩ (fun bq1 => ?_) (fun bq1 => ?_)
  · refine lv_iload_n hx hb d_DC_highestSecond_21 rfl (lv_at hl 0 rfl) ?_
    refine lv_sipush (v := iI (237)) hx hb d_DC_highestSecond_22 rfl ?_
    refine di_icmp_ne (tgt := 34) hx hb d_DC_highestSecond_25 (by decide) ⟨by omega, by omega⟩ ⟨by omega, by omega⟩ (fun bq25 => ?_) (fun bq25 => ?_)
    · refine lv_iload_n hx hb d_DC_highestSecond_34 rfl (lv_at hl 0 rfl) ?_
      refine lv_sipush (v := iI (244)) hx hb d_DC_highestSecond_35 rfl ?_
      refine di_icmp_ne (tgt := 47) hx hb d_DC_highestSecond_38 (by decide) ⟨by omega, by omega⟩ ⟨by omega, by omega⟩ (fun bq38 => ?_) (fun bq38 => ?_)
      · refine lv_sipush (v := iI (191)) hx hb d_DC_highestSecond_47 rfl ?_
        exact cn_iret hx hb hr hlk hw  (⟨by rw [show hi2 a md = 191 by rw [hi2, if_neg (by rw [b2_0 bq1]; decide), if_neg (by omega), if_neg (by omega)]], rfl⟩) (Nat.le_refl _) (Nat.le_refl _) d_DC_highestSecond_50
      · refine lv_sipush (v := iI (143)) hx hb d_DC_highestSecond_41 rfl ?_
        refine lv_goto (tgt := 50) hx hb d_DC_highestSecond_44 (by decide) ?_
        exact cn_iret hx hb hr hlk hw  (⟨by rw [show hi2 a md = 143 by rw [hi2, if_neg (by rw [b2_0 bq1]; decide), if_neg (by omega), if_pos (by omega)]], rfl⟩) (Nat.le_refl _) (Nat.le_refl _) d_DC_highestSecond_50
    · refine lv_sipush (v := iI (159)) hx hb d_DC_highestSecond_28 rfl ?_
      refine lv_goto (tgt := 50) hx hb d_DC_highestSecond_31 (by decide) ?_
      exact cn_iret hx hb hr hlk hw  (⟨by rw [show hi2 a md = 159 by rw [hi2, if_neg (by rw [b2_0 bq1]; decide), if_pos (by omega)]], rfl⟩) (Nat.le_refl _) (Nat.le_refl _) d_DC_highestSecond_50
  · refine lv_iload_n hx hb d_DC_highestSecond_4 rfl (lv_at hl 0 rfl) ?_
    refine lv_sipush (v := iI (192)) hx hb d_DC_highestSecond_5 rfl ?_
    refine di_icmp_ne (tgt := 17) hx hb d_DC_highestSecond_8 (by decide) ⟨by omega, by omega⟩ ⟨by omega, by omega⟩ (fun bq8 => ?_) (fun bq8 => ?_)
    · refine lv_sipush (v := iI (191)) hx hb d_DC_highestSecond_17 rfl ?_
      exact cn_iret hx hb hr hlk hw  (⟨by rw [show hi2 a md = 191 by rw [hi2, if_pos (b2_1 bq1), if_neg (by omega)]], rfl⟩) (Nat.le_refl _) (Nat.le_refl _) d_DC_highestSecond_20
    · refine lv_sipush (v := iI (128)) hx hb d_DC_highestSecond_11 rfl ?_
      refine lv_goto (tgt := 20) hx hb d_DC_highestSecond_14 (by decide) ?_
      exact cn_iret hx hb hr hlk hw  (⟨by rw [show hi2 a md = 128 by rw [hi2, if_pos (b2_1 bq1), if_pos (by omega)]], rfl⟩) (Nat.le_refl _) (Nat.le_refl _) d_DC_highestSecond_20
set_option maxRecDepth 100000 in
set_option maxHeartbeats 4000000 in
theorem c_DC_setRow (l : Launch) (G : ct_G) (f : dw_M) (sz : Nat) (a b0 : Int) (dc : Nat) (c0 w0 : Int32) (hdc : f dc = some (.inr (0, [.int c0, .int w0]))) : cn l y_DC_setRow w_DC_setRow (0) (0) G f sz [.ref dc, .int (iI a), .int (iI b0)] (fun v f' => v = none ∧ f' dc = some (.inr (0, [.int (iI (a)), .int (iI (b0))])) ∧ ∀ b, b ≠ dc → f' b = f b) (0) (0) := by
  refine cn_of (own := "TextDesk$Decoder") (nm := "setRow") (ds := "(II)V") (by decide) (Nat.le_of_ble_eq_true rfl) ?_
  intro p e s m args below meth c ls X hnm hr hlk hs0 hz hw hl
  have hx := X.1
  have hb := X.2.1
  have hl : lv_has ls 3 [(0, .ref dc), (1, .int (iI a)), (2, .int (iI b0))] := hl
  refine lv_aload_n hx hb d_DC_setRow_0 rfl (lv_at hl 0 rfl) ?_
  refine lv_iload_n hx hb d_DC_setRow_1 rfl (lv_at hl 1 rfl) ?_
  refine pf_DC_21_DC X hw hdc (rfl) (rfl) d_DC_setRow_2 (fun H locs hw => ?_)
  obtain ⟨f1, e_f1⟩ : ∃ g9 : dw_M, g9 = dw_up f dc (.inr (0, [.int (iI a), .int w0])) := ⟨_, rfl⟩
  rw [← e_f1] at hw
  have k_f1_dc : f1 dc = some (.inr (0, [.int (iI a), .int w0])) := by rw [e_f1]; exact dw_up_self _ _ _
  refine lv_aload_n hx hb d_DC_setRow_5 rfl (lv_at hl 0 rfl) ?_
  refine lv_iload_n hx hb d_DC_setRow_6 rfl (lv_at hl 2 rfl) ?_
  refine pf_DC_30_DC X hw k_f1_dc (rfl) (rfl) d_DC_setRow_7 (fun H locs hw => ?_)
  obtain ⟨f2, e_f2⟩ : ∃ g9 : dw_M, g9 = dw_up f1 dc (.inr (0, [.int (iI a), .int (iI b0)])) := ⟨_, rfl⟩
  rw [← e_f2] at hw
  have k_f2_dc : f2 dc = some (.inr (0, [.int (iI a), .int (iI b0)])) := by rw [e_f2]; exact dw_up_self _ _ _
  exact cn_vret hx hb hr hlk hw  (⟨rfl, k_f2_dc, fun b h => by rw [e_f2, dw_up_ne _ _ h, e_f1, dw_up_ne _ _ h]⟩) (Nat.le_refl _) (Nat.le_refl _) d_DC_setRow_10
set_option maxRecDepth 100000 in
set_option maxHeartbeats 4000000 in
theorem c_DC_readTwo (l : Launch) (G : ct_G) (f : dw_M) (sz : Nat) (a b0 : Int) (ha : iR a) (hb0 : iR b0) (dc : Nat) (c0 w0 : Int32) (hdc : f dc = some (.inr (0, [.int c0, .int w0]))) : cn l y_DC_readTwo w_DC_readTwo (1) (22) G f sz [.ref dc, .int (iI a), .int (iI b0)] (fun v f' => v = none ∧ f' dc = some (.inr (0, [.int (iI ((rd2 a b0).1)), .int (iI ((rd2 a b0).2))])) ∧ ∀ b, b ≠ dc → f' b = f b) (0) (0) := by
  refine cn_of (own := "TextDesk$Decoder") (nm := "readTwo") (ds := "(II)V") (by decide) (Nat.le_of_ble_eq_true rfl) ?_
  intro p e s m args below meth c ls X hnm hr hlk hs0 hz hw hl
  have hx := X.1
  have hb := X.2.1
  have hl : lv_has ls 3 [(0, .ref dc), (1, .int (iI a)), (2, .int (iI b0))] := hl
  obtain ⟨ha0, ha1⟩ := ha
  obtain ⟨hb1, hb2⟩ := hb0
  refine lv_iload_n hx hb d_DC_readTwo_0 rfl (lv_at hl 1 rfl) ?_
  refine lv_iconst (v := iI (-1)) hx hb d_DC_readTwo_1 rfl ?_
  refine di_icmp_eq (tgt := 10) hx hb d_DC_readTwo_2 (by decide) ⟨by omega, by omega⟩ ⟨by omega, by omega⟩ (fun bq2 => ?_) (fun bq2 => ?_)
  · refine lv_aload_n hx hb d_DC_readTwo_10 rfl (lv_at hl 0 rfl) ?_
    refine lv_iconst (v := iI (-1)) hx hb d_DC_readTwo_11 rfl ?_
    refine lv_iconst (v := iI (1)) hx hb d_DC_readTwo_12 rfl ?_
    refine cs_DC_64 X hz hw hl.1 hdc (c_DC_setRow l G f _ (-1) (1) dc c0 w0 hdc) ⟨Nat.le_of_ble_eq_true rfl, Nat.le_of_ble_eq_true rfl⟩ ⟨by show 0 + 0 ≤ 0; omega, by show 0 + 0 ≤ 0; omega⟩ (Nat.le_of_ble_eq_true rfl) d_DC_readTwo_13 (fun v f1 H locs hp hw hsz9 hkp9 hdm9 => ?_)
    obtain ⟨rfl, hd1, hk1⟩ := hp
    refine W.eq (g2 := F0 m 16 ls []) rfl ?_
    refine lv_goto (tgt := 31) hx hb d_DC_readTwo_16 (by decide) ?_
    exact cn_vret hx hb hr hlk hw  (⟨rfl, by rw [rd2, if_pos (by omega)]; exact hd1, hk1⟩) (Nat.le_refl _) (Nat.le_refl _) d_DC_readTwo_31
  · refine lv_iload_n hx hb d_DC_readTwo_5 rfl (lv_at hl 2 rfl) ?_
    refine lv_iconst (v := iI (-1)) hx hb d_DC_readTwo_6 rfl ?_
    refine di_icmp_ne (tgt := 19) hx hb d_DC_readTwo_7 (by decide) ⟨by omega, by omega⟩ ⟨by omega, by omega⟩ (fun bq7 => ?_) (fun bq7 => ?_)
    · refine lv_aload_n hx hb d_DC_readTwo_19 rfl (lv_at hl 0 rfl) ?_
      refine lv_iload_n hx hb d_DC_readTwo_20 rfl (lv_at hl 1 rfl) ?_
      refine lv_sipush (v := iI (256)) hx hb d_DC_readTwo_21 rfl ?_
      refine di_mul hx hb d_DC_readTwo_24 ?_
      refine lv_iload_n hx hb d_DC_readTwo_25 rfl (lv_at hl 2 rfl) ?_
      refine di_add hx hb d_DC_readTwo_26 ?_
      refine lv_iconst (v := iI (2)) hx hb d_DC_readTwo_27 rfl ?_
      refine cs_DC_64 X hz hw hl.1 hdc (c_DC_setRow l G f _ (a * 256 + b0) (2) dc c0 w0 hdc) ⟨Nat.le_of_ble_eq_true rfl, Nat.le_of_ble_eq_true rfl⟩ ⟨by show 0 + 0 ≤ 0; omega, by show 0 + 0 ≤ 0; omega⟩ (Nat.le_of_ble_eq_true rfl) d_DC_readTwo_28 (fun v f1 H locs hp hw hsz9 hkp9 hdm9 => ?_)
      obtain ⟨rfl, hd1, hk1⟩ := hp
      refine W.eq (g2 := F0 m 31 ls []) rfl ?_
      exact cn_vret hx hb hr hlk hw  (⟨rfl, by rw [rd2, if_neg (by omega)]; exact hd1, hk1⟩) (Nat.le_refl _) (Nat.le_refl _) d_DC_readTwo_31
    · refine lv_aload_n hx hb d_DC_readTwo_10 rfl (lv_at hl 0 rfl) ?_
      refine lv_iconst (v := iI (-1)) hx hb d_DC_readTwo_11 rfl ?_
      refine lv_iconst (v := iI (1)) hx hb d_DC_readTwo_12 rfl ?_
      refine cs_DC_64 X hz hw hl.1 hdc (c_DC_setRow l G f _ (-1) (1) dc c0 w0 hdc) ⟨Nat.le_of_ble_eq_true rfl, Nat.le_of_ble_eq_true rfl⟩ ⟨by show 0 + 0 ≤ 0; omega, by show 0 + 0 ≤ 0; omega⟩ (Nat.le_of_ble_eq_true rfl) d_DC_readTwo_13 (fun v f1 H locs hp hw hsz9 hkp9 hdm9 => ?_)
      obtain ⟨rfl, hd1, hk1⟩ := hp
      refine W.eq (g2 := F0 m 16 ls []) rfl ?_
      refine lv_goto (tgt := 31) hx hb d_DC_readTwo_16 (by decide) ?_
      exact cn_vret hx hb hr hlk hw  (⟨rfl, by rw [rd2, if_pos (by omega)]; exact hd1, hk1⟩) (Nat.le_refl _) (Nat.le_refl _) d_DC_readTwo_31
set_option maxRecDepth 100000 in
set_option maxHeartbeats 4000000 in
theorem c_DC_readPrefixed (l : Launch) (G : ct_G) (f : dw_M) (sz : Nat) (r q n : Nat) (Z : List Int) (sp : Int) (hrw : rw G f r q n Z sp) (hZ : ∀ z ∈ Z, 0 ≤ z ∧ z < 256) (dc : Nat) (c0 w0 : Int32) (hdc : f dc = some (.inr (0, [.int c0, .int w0]))) (k gw : Int) (md : Bool) (hk : 0 ≤ k ∧ k < (Z.length : Int)) (hgw : 0 ≤ gw ∧ gw ≤ 4) : cn l y_DC_readPrefixed w_DC_readPrefixed (1) (24) G f sz [.ref dc, .ref r, .int (iI k), .int (iI gw), .int (iI (b2 md))] (fun v f' => v = none ∧ f' dc = some (.inr (0, [.int (iI ((rdp Z k gw md).1)), .int (iI ((rdp Z k gw md).2))])) ∧ ∀ b, b ≠ dc → f' b = f b) (0) (0) := by
  refine cn_of (own := "TextDesk$Decoder") (nm := "readPrefixed") (ds := "(LTextDesk$Row;IIZ)V") (by decide) (Nat.le_of_ble_eq_true rfl) ?_
  intro p e s m args below meth c ls X hnm hr hlk hs0 hz hw hl
  have hx := X.1
  have hb := X.2.1
  have hl : lv_has ls 11 [(0, .ref dc), (1, .ref r), (2, .int (iI k)), (3, .int (iI gw)), (4, .int (iI (b2 md)))] := hl
  have hzl := hrw.len
  have hga := gtb hZ k
  refine lv_iload_n hx hb d_DC_readPrefixed_0 rfl (lv_at hl 3 rfl) ?_
  refine di_if_ne (tgt := 11) hx hb d_DC_readPrefixed_1 (by decide) ⟨by omega, by omega⟩ (fun bq1 => ?_) (fun bq1 => ?_)
  · refine lv_aload_n hx hb d_DC_readPrefixed_11 rfl (lv_at hl 1 rfl) ?_
    refine lv_iload_n hx hb d_DC_readPrefixed_12 rfl (lv_at hl 2 rfl) ?_
    refine cs_DC_46 X hz hw hl.1 hrw.choose_spec.1 (c_RW_get l G f _ r q n Z sp (k) ⟨by omega, by omega⟩ hrw) ⟨Nat.le_of_ble_eq_true rfl, Nat.le_of_ble_eq_true rfl⟩ ⟨by show 0 + 0 ≤ 0; omega, by show 0 + 0 ≤ 0; omega⟩ (Nat.le_of_ble_eq_true rfl) d_DC_readPrefixed_13 (fun v f9 H locs hp hw hsz9 hkp9 hdm9 => ?_)
    obtain ⟨rfl, hfe⟩ := hp
    rw [hfe] at hw
    refine W.eq (g2 := F0 m 16 ls [.int (iI (gt Z (k)))]) rfl ?_
    refine lv_istore (lv' := [(5, .int (iI (gt Z (k)))), (0, .ref dc), (1, .ref r), (2, .int (iI k)), (3, .int (iI gw)), (4, .int (iI (b2 md)))]) hx hb d_DC_readPrefixed_16 hl (by decide) rfl (fun ls hl => ?_)
    refine lv_iload hx hb d_DC_readPrefixed_18 (lv_at hl 0 rfl) ?_
    refine lv_iload_n hx hb d_DC_readPrefixed_20 rfl (lv_at hl 4 rfl) ?_
    refine cs_DC_67 X hz hw hl.1 (c_DC_firstByteBase l G f _ gw ⟨by omega, by omega⟩) ⟨Nat.le_of_ble_eq_true rfl, Nat.le_of_ble_eq_true rfl⟩ ⟨by show 0 + 0 ≤ 0; omega, by show 0 + 0 ≤ 0; omega⟩ (Nat.le_of_ble_eq_true rfl) d_DC_readPrefixed_21 (fun v f9 H locs hp hw hsz9 hkp9 hdm9 => ?_)
    obtain ⟨rfl, hfe⟩ := hp
    rw [hfe] at hw
    refine W.eq (g2 := F0 m 24 ls [.int (iI (fbb gw)), .int (iI (gt Z (k)))]) rfl ?_
    refine di_sub hx hb d_DC_readPrefixed_24 ?_
    refine lv_istore (lv' := [(6, .int (iI ((gt Z (k)) - (fbb gw)))), (5, .int (iI (gt Z (k)))), (0, .ref dc), (1, .ref r), (2, .int (iI k)), (3, .int (iI gw)), (4, .int (iI (b2 md)))]) hx hb d_DC_readPrefixed_25 hl (by decide) rfl (fun ls hl => ?_)
    refine lv_iconst (v := iI (1)) hx hb d_DC_readPrefixed_27 rfl ?_
    refine lv_istore (lv' := [(7, .int (iI 1)), (6, .int (iI ((gt Z (k)) - (fbb gw)))), (5, .int (iI (gt Z (k)))), (0, .ref dc), (1, .ref r), (2, .int (iI k)), (3, .int (iI gw)), (4, .int (iI (b2 md)))]) hx hb d_DC_readPrefixed_28 hl (by decide) rfl (fun ls hl => ?_)
    have loop : ∀ (N : Nat) (j : Int) (s0 : Int) (mm : Nat) (H : Heap) (locs : List Loc) (ls : Array Slot), (gw - j).toNat < N → 1 ≤ j → j ≤ 4 → (gw - j).toNat = mm ∧ j ≤ gw → rdp Z k gw md = rpf Z k gw (gt Z k) md mm j s0 → dw G.1 dk_cl (dw_A f sz) s.heap f H locs → lv_has ls 11 [(7, .int (iI j)), (6, .int (iI s0)), (0, .ref dc), (1, .ref r), (2, .int (iI k)), (3, .int (iI gw)), (4, .int (iI (b2 md))), (5, .int (iI (gt Z k)))] → W p l e { frames := 1, locals := 24, cells := 0, slots := 0 } s m args below meth c H locs (0) (0) (MQ below (ct_Q G f sz (fun v f' => v = none ∧ f' dc = some (.inr (0, [.int (iI ((rdp Z k gw md).1)), .int (iI ((rdp Z k gw md).2))])) ∧ ∀ b, b ≠ dc → f' b = f b)) args s (0) (0) (dw_A f sz)) (F0 m 30 ls []) := by
      intro N
      induction N with
      | zero => intros; omega
      | succ N ih =>
        intro j s0 mm H locs ls hN hj0 hj1 hjm hspl hw hl
        refine lv_iload hx hb d_DC_readPrefixed_30 (lv_at hl 0 rfl) ?_
        refine lv_iload_n hx hb d_DC_readPrefixed_32 rfl (lv_at hl 5 rfl) ?_
        refine di_icmp_ge (tgt := 128) hx hb d_DC_readPrefixed_33 (by decide) ⟨by omega, by omega⟩ ⟨by omega, by omega⟩ (fun bq33 => ?_) (fun bq33 => ?_)
        · refine lv_aload_n hx hb d_DC_readPrefixed_128 rfl (lv_at hl 2 rfl) ?_
          refine lv_iload hx hb d_DC_readPrefixed_129 (lv_at hl 1 rfl) ?_
          refine lv_iload_n hx hb d_DC_readPrefixed_131 rfl (lv_at hl 5 rfl) ?_
          refine cs_DC_64 X hz hw hl.1 hdc (c_DC_setRow l G f _ (s0) (gw) dc c0 w0 hdc) ⟨Nat.le_of_ble_eq_true rfl, Nat.le_of_ble_eq_true rfl⟩ ⟨by show 0 + 0 ≤ 0; omega, by show 0 + 0 ≤ 0; omega⟩ (Nat.le_of_ble_eq_true rfl) d_DC_readPrefixed_132 (fun v f1 H locs hp hw hsz9 hkp9 hdm9 => ?_)
          obtain ⟨rfl, hd1, hk1⟩ := hp
          refine W.eq (g2 := F0 m 135 ls []) rfl ?_
          have hm0 : mm = 0 := by omega
          subst hm0
          have hres : rdp Z k gw md = (s0, gw) := hspl
          exact cn_vret hx hb hr hlk hw  (⟨rfl, by rw [hres]; exact hd1, hk1⟩) (Nat.le_refl _) (Nat.le_refl _) d_DC_readPrefixed_135
        · obtain ⟨m2, rfl⟩ : ∃ z, mm = z + 1 := ⟨mm - 1, by omega⟩
          have hgn := gtb hZ (k + j)
          have hl3 : lo3 (gt Z k) j = 128 ∨ lo3 (gt Z k) j = 144 ∨ lo3 (gt Z k) j = 160 := by unfold lo3 lo2; split; (split; omega; split <;> omega); omega
          have hi3r : 128 ≤ hi3 (gt Z k) md j ∧ hi3 (gt Z k) md j ≤ 191 := by unfold hi3 hi2; split; (split; (split <;> omega); split; omega; split <;> omega); omega
          refine lv_aload_n hx hb d_DC_readPrefixed_36 rfl (lv_at hl 3 rfl) ?_
          refine lv_iload_n hx hb d_DC_readPrefixed_37 rfl (lv_at hl 4 rfl) ?_
          refine lv_iload hx hb d_DC_readPrefixed_38 (lv_at hl 0 rfl) ?_
          refine di_add hx hb d_DC_readPrefixed_40 ?_
          refine cs_DC_46 X hz hw hl.1 hrw.choose_spec.1 (c_RW_get l G f _ r q n Z sp (k + j) ⟨by omega, by omega⟩ hrw) ⟨Nat.le_of_ble_eq_true rfl, Nat.le_of_ble_eq_true rfl⟩ ⟨by show 0 + 0 ≤ 0; omega, by show 0 + 0 ≤ 0; omega⟩ (Nat.le_of_ble_eq_true rfl) d_DC_readPrefixed_41 (fun v f9 H locs hp hw hsz9 hkp9 hdm9 => ?_)
          obtain ⟨rfl, hfe⟩ := hp
          rw [hfe] at hw
          refine W.eq (g2 := F0 m 44 ls [.int (iI (gt Z (k + j)))]) rfl ?_
          refine lv_istore (lv' := [(8, .int (iI (gt Z (k + j)))), (7, .int (iI j)), (6, .int (iI s0)), (0, .ref dc), (1, .ref r), (2, .int (iI k)), (3, .int (iI gw)), (4, .int (iI (b2 md))), (5, .int (iI (gt Z k)))]) hx hb d_DC_readPrefixed_44 hl (by decide) rfl (fun ls hl => ?_)
          refine lv_iload hx hb d_DC_readPrefixed_46 (lv_at hl 1 rfl) ?_
          refine lv_iconst (v := iI (1)) hx hb d_DC_readPrefixed_48 rfl ?_
          refine di_icmp_ne (tgt := 60) hx hb d_DC_readPrefixed_49 (by decide) ⟨by omega, by omega⟩ ⟨by omega, by omega⟩ (fun bq49 => ?_) (fun bq49 => ?_)
          · refine lv_sipush (v := iI (128)) hx hb d_DC_readPrefixed_60 rfl ?_
            have hlo : (128 : Int) = lo3 (gt Z k) j := by rw [lo3, if_neg (by omega)]
            rw [hlo]
            refine lv_istore (lv' := [(9, .int (iI (lo3 (gt Z k) j))), (8, .int (iI (gt Z (k + j)))), (7, .int (iI j)), (6, .int (iI s0)), (0, .ref dc), (1, .ref r), (2, .int (iI k)), (3, .int (iI gw)), (4, .int (iI (b2 md))), (5, .int (iI (gt Z k)))]) hx hb d_DC_readPrefixed_63 hl (by decide) rfl (fun ls hl => ?_)
            refine lv_iload hx hb d_DC_readPrefixed_65 (lv_at hl 2 rfl) ?_
            refine lv_iconst (v := iI (1)) hx hb d_DC_readPrefixed_67 rfl ?_
            refine di_icmp_ne (tgt := 81) hx hb d_DC_readPrefixed_68 (by decide) ⟨by omega, by omega⟩ ⟨by omega, by omega⟩ (fun bq68 => ?_) (fun bq68 => ?_)
            · refine lv_sipush (v := iI (191)) hx hb d_DC_readPrefixed_81 rfl ?_
              have hhi : (191 : Int) = hi3 (gt Z k) md j := by rw [hi3, if_neg (by omega)]
              rw [hhi]
              refine lv_istore (lv' := [(10, .int (iI (hi3 (gt Z k) md j))), (9, .int (iI (lo3 (gt Z k) j))), (8, .int (iI (gt Z (k + j)))), (7, .int (iI j)), (6, .int (iI s0)), (0, .ref dc), (1, .ref r), (2, .int (iI k)), (3, .int (iI gw)), (4, .int (iI (b2 md))), (5, .int (iI (gt Z k)))]) hx hb d_DC_readPrefixed_84 hl (by decide) rfl (fun ls hl => ?_)
              refine lv_iload hx hb d_DC_readPrefixed_86 (lv_at hl 2 rfl) ?_
              refine lv_iload hx hb d_DC_readPrefixed_88 (lv_at hl 1 rfl) ?_
              refine di_icmp_lt (tgt := 100) hx hb d_DC_readPrefixed_90 (by decide) ⟨by omega, by omega⟩ ⟨by omega, by omega⟩ (fun bq90 => ?_) (fun bq90 => ?_)
              · refine lv_aload_n hx hb d_DC_readPrefixed_100 rfl (lv_at hl 5 rfl) ?_
                refine lv_iconst (v := iI (-1)) hx hb d_DC_readPrefixed_101 rfl ?_
                refine lv_iload hx hb d_DC_readPrefixed_102 (lv_at hl 3 rfl) ?_
                refine cs_DC_64 X hz hw hl.1 hdc (c_DC_setRow l G f _ (-1) (j) dc c0 w0 hdc) ⟨Nat.le_of_ble_eq_true rfl, Nat.le_of_ble_eq_true rfl⟩ ⟨by show 0 + 0 ≤ 0; omega, by show 0 + 0 ≤ 0; omega⟩ (Nat.le_of_ble_eq_true rfl) d_DC_readPrefixed_104 (fun v f1 H locs hp hw hsz9 hkp9 hdm9 => ?_)
                obtain ⟨rfl, hd1, hk1⟩ := hp
                refine W.eq (g2 := F0 m 107 ls []) rfl ?_
                exact cn_vret hx hb hr hlk hw  (⟨rfl, by rw [hspl, rpf, if_pos (by omega)]; exact hd1, hk1⟩) (Nat.le_refl _) (Nat.le_refl _) d_DC_readPrefixed_107
              · refine lv_iload hx hb d_DC_readPrefixed_93 (lv_at hl 2 rfl) ?_
                refine lv_iload hx hb d_DC_readPrefixed_95 (lv_at hl 0 rfl) ?_
                refine di_icmp_le (tgt := 108) hx hb d_DC_readPrefixed_97 (by decide) ⟨by omega, by omega⟩ ⟨by omega, by omega⟩ (fun bq97 => ?_) (fun bq97 => ?_)
                · refine lv_iload hx hb d_DC_readPrefixed_108 (lv_at hl 4 rfl) ?_
                  refine lv_bipush (v := iI (64)) hx hb d_DC_readPrefixed_110 rfl ?_
                  refine di_mul hx hb d_DC_readPrefixed_112 ?_
                  refine lv_iload hx hb d_DC_readPrefixed_113 (lv_at hl 2 rfl) ?_
                  refine di_add hx hb d_DC_readPrefixed_115 ?_
                  refine lv_sipush (v := iI (128)) hx hb d_DC_readPrefixed_116 rfl ?_
                  refine di_sub hx hb d_DC_readPrefixed_119 ?_
                  refine lv_istore (lv' := [(6, .int (iI ((s0 * 64) + (gt Z (k + j)) - 128))), (10, .int (iI (hi3 (gt Z k) md j))), (9, .int (iI (lo3 (gt Z k) j))), (8, .int (iI (gt Z (k + j)))), (7, .int (iI j)), (0, .ref dc), (1, .ref r), (2, .int (iI k)), (3, .int (iI gw)), (4, .int (iI (b2 md))), (5, .int (iI (gt Z k)))]) hx hb d_DC_readPrefixed_120 hl (by decide) rfl (fun ls hl => ?_)
                  refine lv_iinc (v := iI (j + 1)) (lv' := [(7, .int (iI (j + 1))), (6, .int (iI ((s0 * 64) + (gt Z (k + j)) - 128))), (10, .int (iI (hi3 (gt Z k) md j))), (9, .int (iI (lo3 (gt Z k) j))), (8, .int (iI (gt Z (k + j)))), (0, .ref dc), (1, .ref r), (2, .int (iI k)), (3, .int (iI gw)), (4, .int (iI (b2 md))), (5, .int (iI (gt Z k)))]) hx hb d_DC_readPrefixed_122 hl (k := 4) rfl (iI_add _ _) (by decide) rfl (fun ls hl => ?_)
                  refine lv_goto (tgt := 30) hx hb d_DC_readPrefixed_125 (by decide) ?_
                  exact ih (j + 1) ((s0 * 64) + (gt Z (k + j)) - 128) (m2) _ _ _ (by omega) (by omega) (by omega) (by omega) (by rw [hspl, rpf, if_neg (by omega)]) hw (lv_sub hl [0, 1, 5, 6, 7, 8, 9, 10] rfl)
                · refine lv_aload_n hx hb d_DC_readPrefixed_100 rfl (lv_at hl 5 rfl) ?_
                  refine lv_iconst (v := iI (-1)) hx hb d_DC_readPrefixed_101 rfl ?_
                  refine lv_iload hx hb d_DC_readPrefixed_102 (lv_at hl 3 rfl) ?_
                  refine cs_DC_64 X hz hw hl.1 hdc (c_DC_setRow l G f _ (-1) (j) dc c0 w0 hdc) ⟨Nat.le_of_ble_eq_true rfl, Nat.le_of_ble_eq_true rfl⟩ ⟨by show 0 + 0 ≤ 0; omega, by show 0 + 0 ≤ 0; omega⟩ (Nat.le_of_ble_eq_true rfl) d_DC_readPrefixed_104 (fun v f1 H locs hp hw hsz9 hkp9 hdm9 => ?_)
                  obtain ⟨rfl, hd1, hk1⟩ := hp
                  refine W.eq (g2 := F0 m 107 ls []) rfl ?_
                  exact cn_vret hx hb hr hlk hw  (⟨rfl, by rw [hspl, rpf, if_pos (by omega)]; exact hd1, hk1⟩) (Nat.le_refl _) (Nat.le_refl _) d_DC_readPrefixed_107
            · refine lv_iload hx hb d_DC_readPrefixed_71 (lv_at hl 9 rfl) ?_
              refine lv_iload hx hb d_DC_readPrefixed_73 (lv_at hl 8 rfl) ?_
              refine cs_DC_73 X hz hw hl.1 (c_DC_highestSecond l G f _ (gt Z k) ⟨by omega, by omega⟩ md) ⟨Nat.le_of_ble_eq_true rfl, Nat.le_of_ble_eq_true rfl⟩ ⟨by show 0 + 0 ≤ 0; omega, by show 0 + 0 ≤ 0; omega⟩ (Nat.le_of_ble_eq_true rfl) d_DC_readPrefixed_75 (fun v f9 H locs hp hw hsz9 hkp9 hdm9 => ?_)
              obtain ⟨rfl, hfe⟩ := hp
              rw [hfe] at hw
              refine W.eq (g2 := F0 m 78 ls [.int (iI (hi2 (gt Z k) md))]) rfl ?_
              refine lv_goto (tgt := 84) hx hb d_DC_readPrefixed_78 (by decide) ?_
              have hhi : hi2 (gt Z k) md = hi3 (gt Z k) md j := by rw [hi3, if_pos (by omega)]
              rw [hhi]
              refine lv_istore (lv' := [(10, .int (iI (hi3 (gt Z k) md j))), (9, .int (iI (lo3 (gt Z k) j))), (8, .int (iI (gt Z (k + j)))), (7, .int (iI j)), (6, .int (iI s0)), (0, .ref dc), (1, .ref r), (2, .int (iI k)), (3, .int (iI gw)), (4, .int (iI (b2 md))), (5, .int (iI (gt Z k)))]) hx hb d_DC_readPrefixed_84 hl (by decide) rfl (fun ls hl => ?_)
              refine lv_iload hx hb d_DC_readPrefixed_86 (lv_at hl 2 rfl) ?_
              refine lv_iload hx hb d_DC_readPrefixed_88 (lv_at hl 1 rfl) ?_
              refine di_icmp_lt (tgt := 100) hx hb d_DC_readPrefixed_90 (by decide) ⟨by omega, by omega⟩ ⟨by omega, by omega⟩ (fun bq90 => ?_) (fun bq90 => ?_)
              · refine lv_aload_n hx hb d_DC_readPrefixed_100 rfl (lv_at hl 5 rfl) ?_
                refine lv_iconst (v := iI (-1)) hx hb d_DC_readPrefixed_101 rfl ?_
                refine lv_iload hx hb d_DC_readPrefixed_102 (lv_at hl 3 rfl) ?_
                refine cs_DC_64 X hz hw hl.1 hdc (c_DC_setRow l G f _ (-1) (j) dc c0 w0 hdc) ⟨Nat.le_of_ble_eq_true rfl, Nat.le_of_ble_eq_true rfl⟩ ⟨by show 0 + 0 ≤ 0; omega, by show 0 + 0 ≤ 0; omega⟩ (Nat.le_of_ble_eq_true rfl) d_DC_readPrefixed_104 (fun v f1 H locs hp hw hsz9 hkp9 hdm9 => ?_)
                obtain ⟨rfl, hd1, hk1⟩ := hp
                refine W.eq (g2 := F0 m 107 ls []) rfl ?_
                exact cn_vret hx hb hr hlk hw  (⟨rfl, by rw [hspl, rpf, if_pos (by omega)]; exact hd1, hk1⟩) (Nat.le_refl _) (Nat.le_refl _) d_DC_readPrefixed_107
              · refine lv_iload hx hb d_DC_readPrefixed_93 (lv_at hl 2 rfl) ?_
                refine lv_iload hx hb d_DC_readPrefixed_95 (lv_at hl 0 rfl) ?_
                refine di_icmp_le (tgt := 108) hx hb d_DC_readPrefixed_97 (by decide) ⟨by omega, by omega⟩ ⟨by omega, by omega⟩ (fun bq97 => ?_) (fun bq97 => ?_)
                · refine lv_iload hx hb d_DC_readPrefixed_108 (lv_at hl 4 rfl) ?_
                  refine lv_bipush (v := iI (64)) hx hb d_DC_readPrefixed_110 rfl ?_
                  refine di_mul hx hb d_DC_readPrefixed_112 ?_
                  refine lv_iload hx hb d_DC_readPrefixed_113 (lv_at hl 2 rfl) ?_
                  refine di_add hx hb d_DC_readPrefixed_115 ?_
                  refine lv_sipush (v := iI (128)) hx hb d_DC_readPrefixed_116 rfl ?_
                  refine di_sub hx hb d_DC_readPrefixed_119 ?_
                  refine lv_istore (lv' := [(6, .int (iI ((s0 * 64) + (gt Z (k + j)) - 128))), (10, .int (iI (hi3 (gt Z k) md j))), (9, .int (iI (lo3 (gt Z k) j))), (8, .int (iI (gt Z (k + j)))), (7, .int (iI j)), (0, .ref dc), (1, .ref r), (2, .int (iI k)), (3, .int (iI gw)), (4, .int (iI (b2 md))), (5, .int (iI (gt Z k)))]) hx hb d_DC_readPrefixed_120 hl (by decide) rfl (fun ls hl => ?_)
                  refine lv_iinc (v := iI (j + 1)) (lv' := [(7, .int (iI (j + 1))), (6, .int (iI ((s0 * 64) + (gt Z (k + j)) - 128))), (10, .int (iI (hi3 (gt Z k) md j))), (9, .int (iI (lo3 (gt Z k) j))), (8, .int (iI (gt Z (k + j)))), (0, .ref dc), (1, .ref r), (2, .int (iI k)), (3, .int (iI gw)), (4, .int (iI (b2 md))), (5, .int (iI (gt Z k)))]) hx hb d_DC_readPrefixed_122 hl (k := 4) rfl (iI_add _ _) (by decide) rfl (fun ls hl => ?_)
                  refine lv_goto (tgt := 30) hx hb d_DC_readPrefixed_125 (by decide) ?_
                  exact ih (j + 1) ((s0 * 64) + (gt Z (k + j)) - 128) (m2) _ _ _ (by omega) (by omega) (by omega) (by omega) (by rw [hspl, rpf, if_neg (by omega)]) hw (lv_sub hl [0, 1, 5, 6, 7, 8, 9, 10] rfl)
                · refine lv_aload_n hx hb d_DC_readPrefixed_100 rfl (lv_at hl 5 rfl) ?_
                  refine lv_iconst (v := iI (-1)) hx hb d_DC_readPrefixed_101 rfl ?_
                  refine lv_iload hx hb d_DC_readPrefixed_102 (lv_at hl 3 rfl) ?_
                  refine cs_DC_64 X hz hw hl.1 hdc (c_DC_setRow l G f _ (-1) (j) dc c0 w0 hdc) ⟨Nat.le_of_ble_eq_true rfl, Nat.le_of_ble_eq_true rfl⟩ ⟨by show 0 + 0 ≤ 0; omega, by show 0 + 0 ≤ 0; omega⟩ (Nat.le_of_ble_eq_true rfl) d_DC_readPrefixed_104 (fun v f1 H locs hp hw hsz9 hkp9 hdm9 => ?_)
                  obtain ⟨rfl, hd1, hk1⟩ := hp
                  refine W.eq (g2 := F0 m 107 ls []) rfl ?_
                  exact cn_vret hx hb hr hlk hw  (⟨rfl, by rw [hspl, rpf, if_pos (by omega)]; exact hd1, hk1⟩) (Nat.le_refl _) (Nat.le_refl _) d_DC_readPrefixed_107
          · refine lv_iload hx hb d_DC_readPrefixed_52 (lv_at hl 8 rfl) ?_
            refine cs_DC_70 X hz hw hl.1 (c_DC_lowestSecond l G f _ (gt Z k) ⟨by omega, by omega⟩) ⟨Nat.le_of_ble_eq_true rfl, Nat.le_of_ble_eq_true rfl⟩ ⟨by show 0 + 0 ≤ 0; omega, by show 0 + 0 ≤ 0; omega⟩ (Nat.le_of_ble_eq_true rfl) d_DC_readPrefixed_54 (fun v f9 H locs hp hw hsz9 hkp9 hdm9 => ?_)
            obtain ⟨rfl, hfe⟩ := hp
            rw [hfe] at hw
            refine W.eq (g2 := F0 m 57 ls [.int (iI (lo2 (gt Z k)))]) rfl ?_
            refine lv_goto (tgt := 63) hx hb d_DC_readPrefixed_57 (by decide) ?_
            have hlo : lo2 (gt Z k) = lo3 (gt Z k) j := by rw [lo3, if_pos (by omega)]
            rw [hlo]
            refine lv_istore (lv' := [(9, .int (iI (lo3 (gt Z k) j))), (8, .int (iI (gt Z (k + j)))), (7, .int (iI j)), (6, .int (iI s0)), (0, .ref dc), (1, .ref r), (2, .int (iI k)), (3, .int (iI gw)), (4, .int (iI (b2 md))), (5, .int (iI (gt Z k)))]) hx hb d_DC_readPrefixed_63 hl (by decide) rfl (fun ls hl => ?_)
            refine lv_iload hx hb d_DC_readPrefixed_65 (lv_at hl 2 rfl) ?_
            refine lv_iconst (v := iI (1)) hx hb d_DC_readPrefixed_67 rfl ?_
            refine di_icmp_ne (tgt := 81) hx hb d_DC_readPrefixed_68 (by decide) ⟨by omega, by omega⟩ ⟨by omega, by omega⟩ (fun bq68 => ?_) (fun bq68 => ?_)
            · refine lv_sipush (v := iI (191)) hx hb d_DC_readPrefixed_81 rfl ?_
              have hhi : (191 : Int) = hi3 (gt Z k) md j := by rw [hi3, if_neg (by omega)]
              rw [hhi]
              refine lv_istore (lv' := [(10, .int (iI (hi3 (gt Z k) md j))), (9, .int (iI (lo3 (gt Z k) j))), (8, .int (iI (gt Z (k + j)))), (7, .int (iI j)), (6, .int (iI s0)), (0, .ref dc), (1, .ref r), (2, .int (iI k)), (3, .int (iI gw)), (4, .int (iI (b2 md))), (5, .int (iI (gt Z k)))]) hx hb d_DC_readPrefixed_84 hl (by decide) rfl (fun ls hl => ?_)
              refine lv_iload hx hb d_DC_readPrefixed_86 (lv_at hl 2 rfl) ?_
              refine lv_iload hx hb d_DC_readPrefixed_88 (lv_at hl 1 rfl) ?_
              refine di_icmp_lt (tgt := 100) hx hb d_DC_readPrefixed_90 (by decide) ⟨by omega, by omega⟩ ⟨by omega, by omega⟩ (fun bq90 => ?_) (fun bq90 => ?_)
              · refine lv_aload_n hx hb d_DC_readPrefixed_100 rfl (lv_at hl 5 rfl) ?_
                refine lv_iconst (v := iI (-1)) hx hb d_DC_readPrefixed_101 rfl ?_
                refine lv_iload hx hb d_DC_readPrefixed_102 (lv_at hl 3 rfl) ?_
                refine cs_DC_64 X hz hw hl.1 hdc (c_DC_setRow l G f _ (-1) (j) dc c0 w0 hdc) ⟨Nat.le_of_ble_eq_true rfl, Nat.le_of_ble_eq_true rfl⟩ ⟨by show 0 + 0 ≤ 0; omega, by show 0 + 0 ≤ 0; omega⟩ (Nat.le_of_ble_eq_true rfl) d_DC_readPrefixed_104 (fun v f1 H locs hp hw hsz9 hkp9 hdm9 => ?_)
                obtain ⟨rfl, hd1, hk1⟩ := hp
                refine W.eq (g2 := F0 m 107 ls []) rfl ?_
                exact cn_vret hx hb hr hlk hw  (⟨rfl, by rw [hspl, rpf, if_pos (by omega)]; exact hd1, hk1⟩) (Nat.le_refl _) (Nat.le_refl _) d_DC_readPrefixed_107
              · refine lv_iload hx hb d_DC_readPrefixed_93 (lv_at hl 2 rfl) ?_
                refine lv_iload hx hb d_DC_readPrefixed_95 (lv_at hl 0 rfl) ?_
                refine di_icmp_le (tgt := 108) hx hb d_DC_readPrefixed_97 (by decide) ⟨by omega, by omega⟩ ⟨by omega, by omega⟩ (fun bq97 => ?_) (fun bq97 => ?_)
                · refine lv_iload hx hb d_DC_readPrefixed_108 (lv_at hl 4 rfl) ?_
                  refine lv_bipush (v := iI (64)) hx hb d_DC_readPrefixed_110 rfl ?_
                  refine di_mul hx hb d_DC_readPrefixed_112 ?_
                  refine lv_iload hx hb d_DC_readPrefixed_113 (lv_at hl 2 rfl) ?_
                  refine di_add hx hb d_DC_readPrefixed_115 ?_
                  refine lv_sipush (v := iI (128)) hx hb d_DC_readPrefixed_116 rfl ?_
                  refine di_sub hx hb d_DC_readPrefixed_119 ?_
                  refine lv_istore (lv' := [(6, .int (iI ((s0 * 64) + (gt Z (k + j)) - 128))), (10, .int (iI (hi3 (gt Z k) md j))), (9, .int (iI (lo3 (gt Z k) j))), (8, .int (iI (gt Z (k + j)))), (7, .int (iI j)), (0, .ref dc), (1, .ref r), (2, .int (iI k)), (3, .int (iI gw)), (4, .int (iI (b2 md))), (5, .int (iI (gt Z k)))]) hx hb d_DC_readPrefixed_120 hl (by decide) rfl (fun ls hl => ?_)
                  refine lv_iinc (v := iI (j + 1)) (lv' := [(7, .int (iI (j + 1))), (6, .int (iI ((s0 * 64) + (gt Z (k + j)) - 128))), (10, .int (iI (hi3 (gt Z k) md j))), (9, .int (iI (lo3 (gt Z k) j))), (8, .int (iI (gt Z (k + j)))), (0, .ref dc), (1, .ref r), (2, .int (iI k)), (3, .int (iI gw)), (4, .int (iI (b2 md))), (5, .int (iI (gt Z k)))]) hx hb d_DC_readPrefixed_122 hl (k := 4) rfl (iI_add _ _) (by decide) rfl (fun ls hl => ?_)
                  refine lv_goto (tgt := 30) hx hb d_DC_readPrefixed_125 (by decide) ?_
                  exact ih (j + 1) ((s0 * 64) + (gt Z (k + j)) - 128) (m2) _ _ _ (by omega) (by omega) (by omega) (by omega) (by rw [hspl, rpf, if_neg (by omega)]) hw (lv_sub hl [0, 1, 5, 6, 7, 8, 9, 10] rfl)
                · refine lv_aload_n hx hb d_DC_readPrefixed_100 rfl (lv_at hl 5 rfl) ?_
                  refine lv_iconst (v := iI (-1)) hx hb d_DC_readPrefixed_101 rfl ?_
                  refine lv_iload hx hb d_DC_readPrefixed_102 (lv_at hl 3 rfl) ?_
                  refine cs_DC_64 X hz hw hl.1 hdc (c_DC_setRow l G f _ (-1) (j) dc c0 w0 hdc) ⟨Nat.le_of_ble_eq_true rfl, Nat.le_of_ble_eq_true rfl⟩ ⟨by show 0 + 0 ≤ 0; omega, by show 0 + 0 ≤ 0; omega⟩ (Nat.le_of_ble_eq_true rfl) d_DC_readPrefixed_104 (fun v f1 H locs hp hw hsz9 hkp9 hdm9 => ?_)
                  obtain ⟨rfl, hd1, hk1⟩ := hp
                  refine W.eq (g2 := F0 m 107 ls []) rfl ?_
                  exact cn_vret hx hb hr hlk hw  (⟨rfl, by rw [hspl, rpf, if_pos (by omega)]; exact hd1, hk1⟩) (Nat.le_refl _) (Nat.le_refl _) d_DC_readPrefixed_107
            · refine lv_iload hx hb d_DC_readPrefixed_71 (lv_at hl 9 rfl) ?_
              refine lv_iload hx hb d_DC_readPrefixed_73 (lv_at hl 8 rfl) ?_
              refine cs_DC_73 X hz hw hl.1 (c_DC_highestSecond l G f _ (gt Z k) ⟨by omega, by omega⟩ md) ⟨Nat.le_of_ble_eq_true rfl, Nat.le_of_ble_eq_true rfl⟩ ⟨by show 0 + 0 ≤ 0; omega, by show 0 + 0 ≤ 0; omega⟩ (Nat.le_of_ble_eq_true rfl) d_DC_readPrefixed_75 (fun v f9 H locs hp hw hsz9 hkp9 hdm9 => ?_)
              obtain ⟨rfl, hfe⟩ := hp
              rw [hfe] at hw
              refine W.eq (g2 := F0 m 78 ls [.int (iI (hi2 (gt Z k) md))]) rfl ?_
              refine lv_goto (tgt := 84) hx hb d_DC_readPrefixed_78 (by decide) ?_
              have hhi : hi2 (gt Z k) md = hi3 (gt Z k) md j := by rw [hi3, if_pos (by omega)]
              rw [hhi]
              refine lv_istore (lv' := [(10, .int (iI (hi3 (gt Z k) md j))), (9, .int (iI (lo3 (gt Z k) j))), (8, .int (iI (gt Z (k + j)))), (7, .int (iI j)), (6, .int (iI s0)), (0, .ref dc), (1, .ref r), (2, .int (iI k)), (3, .int (iI gw)), (4, .int (iI (b2 md))), (5, .int (iI (gt Z k)))]) hx hb d_DC_readPrefixed_84 hl (by decide) rfl (fun ls hl => ?_)
              refine lv_iload hx hb d_DC_readPrefixed_86 (lv_at hl 2 rfl) ?_
              refine lv_iload hx hb d_DC_readPrefixed_88 (lv_at hl 1 rfl) ?_
              refine di_icmp_lt (tgt := 100) hx hb d_DC_readPrefixed_90 (by decide) ⟨by omega, by omega⟩ ⟨by omega, by omega⟩ (fun bq90 => ?_) (fun bq90 => ?_)
              · refine lv_aload_n hx hb d_DC_readPrefixed_100 rfl (lv_at hl 5 rfl) ?_
                refine lv_iconst (v := iI (-1)) hx hb d_DC_readPrefixed_101 rfl ?_
                refine lv_iload hx hb d_DC_readPrefixed_102 (lv_at hl 3 rfl) ?_
                refine cs_DC_64 X hz hw hl.1 hdc (c_DC_setRow l G f _ (-1) (j) dc c0 w0 hdc) ⟨Nat.le_of_ble_eq_true rfl, Nat.le_of_ble_eq_true rfl⟩ ⟨by show 0 + 0 ≤ 0; omega, by show 0 + 0 ≤ 0; omega⟩ (Nat.le_of_ble_eq_true rfl) d_DC_readPrefixed_104 (fun v f1 H locs hp hw hsz9 hkp9 hdm9 => ?_)
                obtain ⟨rfl, hd1, hk1⟩ := hp
                refine W.eq (g2 := F0 m 107 ls []) rfl ?_
                exact cn_vret hx hb hr hlk hw  (⟨rfl, by rw [hspl, rpf, if_pos (by omega)]; exact hd1, hk1⟩) (Nat.le_refl _) (Nat.le_refl _) d_DC_readPrefixed_107
              · refine lv_iload hx hb d_DC_readPrefixed_93 (lv_at hl 2 rfl) ?_
                refine lv_iload hx hb d_DC_readPrefixed_95 (lv_at hl 0 rfl) ?_
                refine di_icmp_le (tgt := 108) hx hb d_DC_readPrefixed_97 (by decide) ⟨by omega, by omega⟩ ⟨by omega, by omega⟩ (fun bq97 => ?_) (fun bq97 => ?_)
                · refine lv_iload hx hb d_DC_readPrefixed_108 (lv_at hl 4 rfl) ?_
                  refine lv_bipush (v := iI (64)) hx hb d_DC_readPrefixed_110 rfl ?_
                  refine di_mul hx hb d_DC_readPrefixed_112 ?_
                  refine lv_iload hx hb d_DC_readPrefixed_113 (lv_at hl 2 rfl) ?_
                  refine di_add hx hb d_DC_readPrefixed_115 ?_
                  refine lv_sipush (v := iI (128)) hx hb d_DC_readPrefixed_116 rfl ?_
                  refine di_sub hx hb d_DC_readPrefixed_119 ?_
                  refine lv_istore (lv' := [(6, .int (iI ((s0 * 64) + (gt Z (k + j)) - 128))), (10, .int (iI (hi3 (gt Z k) md j))), (9, .int (iI (lo3 (gt Z k) j))), (8, .int (iI (gt Z (k + j)))), (7, .int (iI j)), (0, .ref dc), (1, .ref r), (2, .int (iI k)), (3, .int (iI gw)), (4, .int (iI (b2 md))), (5, .int (iI (gt Z k)))]) hx hb d_DC_readPrefixed_120 hl (by decide) rfl (fun ls hl => ?_)
                  refine lv_iinc (v := iI (j + 1)) (lv' := [(7, .int (iI (j + 1))), (6, .int (iI ((s0 * 64) + (gt Z (k + j)) - 128))), (10, .int (iI (hi3 (gt Z k) md j))), (9, .int (iI (lo3 (gt Z k) j))), (8, .int (iI (gt Z (k + j)))), (0, .ref dc), (1, .ref r), (2, .int (iI k)), (3, .int (iI gw)), (4, .int (iI (b2 md))), (5, .int (iI (gt Z k)))]) hx hb d_DC_readPrefixed_122 hl (k := 4) rfl (iI_add _ _) (by decide) rfl (fun ls hl => ?_)
                  refine lv_goto (tgt := 30) hx hb d_DC_readPrefixed_125 (by decide) ?_
                  exact ih (j + 1) ((s0 * 64) + (gt Z (k + j)) - 128) (m2) _ _ _ (by omega) (by omega) (by omega) (by omega) (by rw [hspl, rpf, if_neg (by omega)]) hw (lv_sub hl [0, 1, 5, 6, 7, 8, 9, 10] rfl)
                · refine lv_aload_n hx hb d_DC_readPrefixed_100 rfl (lv_at hl 5 rfl) ?_
                  refine lv_iconst (v := iI (-1)) hx hb d_DC_readPrefixed_101 rfl ?_
                  refine lv_iload hx hb d_DC_readPrefixed_102 (lv_at hl 3 rfl) ?_
                  refine cs_DC_64 X hz hw hl.1 hdc (c_DC_setRow l G f _ (-1) (j) dc c0 w0 hdc) ⟨Nat.le_of_ble_eq_true rfl, Nat.le_of_ble_eq_true rfl⟩ ⟨by show 0 + 0 ≤ 0; omega, by show 0 + 0 ≤ 0; omega⟩ (Nat.le_of_ble_eq_true rfl) d_DC_readPrefixed_104 (fun v f1 H locs hp hw hsz9 hkp9 hdm9 => ?_)
                  obtain ⟨rfl, hd1, hk1⟩ := hp
                  refine W.eq (g2 := F0 m 107 ls []) rfl ?_
                  exact cn_vret hx hb hr hlk hw  (⟨rfl, by rw [hspl, rpf, if_pos (by omega)]; exact hd1, hk1⟩) (Nat.le_refl _) (Nat.le_refl _) d_DC_readPrefixed_107
    exact loop ((gw - 1).toNat + 1) (1) (gt Z k - fbb gw) ((gw - 1).toNat) _ _ _ (by omega) (by omega) (by omega) (by omega) (by rw [rdp, if_neg (by omega)]) hw (lv_sub hl [0, 1, 3, 4, 5, 6, 7, 2] rfl)
  · refine lv_aload_n hx hb d_DC_readPrefixed_4 rfl (lv_at hl 0 rfl) ?_
    refine lv_iconst (v := iI (-1)) hx hb d_DC_readPrefixed_5 rfl ?_
    refine lv_iconst (v := iI (1)) hx hb d_DC_readPrefixed_6 rfl ?_
    refine cs_DC_64 X hz hw hl.1 hdc (c_DC_setRow l G f _ (-1) (1) dc c0 w0 hdc) ⟨Nat.le_of_ble_eq_true rfl, Nat.le_of_ble_eq_true rfl⟩ ⟨by show 0 + 0 ≤ 0; omega, by show 0 + 0 ≤ 0; omega⟩ (Nat.le_of_ble_eq_true rfl) d_DC_readPrefixed_7 (fun v f1 H locs hp hw hsz9 hkp9 hdm9 => ?_)
    obtain ⟨rfl, hd1, hk1⟩ := hp
    refine W.eq (g2 := F0 m 10 ls []) rfl ?_
    exact cn_vret hx hb hr hlk hw  (⟨rfl, by rw [rdp, if_pos (by omega)]; exact hd1, hk1⟩) (Nat.le_refl _) (Nat.le_refl _) d_DC_readPrefixed_10
set_option maxRecDepth 100000 in
set_option maxHeartbeats 4000000 in
theorem c_DC_readRow (l : Launch) (G : ct_G) (f : dw_M) (sz : Nat) (r q n : Nat) (Z : List Int) (sp : Int) (hrw : rw G f r q n Z sp) (hZ : ∀ z ∈ Z, 0 ≤ z ∧ z < 256) (dc : Nat) (c0 w0 : Int32) (hdc : f dc = some (.inr (0, [.int c0, .int w0]))) (k en : Int) (hk : 0 ≤ k ∧ k < (Z.length : Int)) (hen : 0 ≤ en ∧ en ≤ 4) : cn l y_DC_readRow w_DC_readRow (2) (60) G f sz [.ref dc, .ref r, .int (iI k), .int (iI en)] (fun v f' => v = none ∧ f' dc = some (.inr (0, [.int (iI ((rdr Z en k).1)), .int (iI ((rdr Z en k).2))])) ∧ ∀ b, b ≠ dc → f' b = f b) (0) (0) := by
  refine cn_of (own := "TextDesk$Decoder") (nm := "readRow") (ds := "(LTextDesk$Row;II)V") (by decide) (Nat.le_of_ble_eq_true rfl) ?_
  intro p e s m args below meth c ls X hnm hr hlk hs0 hz hw hl
  have hx := X.1
  have hb := X.2.1
  have hl : lv_has ls 4 [(0, .ref dc), (1, .ref r), (2, .int (iI k)), (3, .int (iI en))] := hl
  have hzl := hrw.len
  have hga := gtb hZ k
  have hga1 := gtb hZ (k + 1)
  have hgu : 0 ≤ gwU (gt Z k) ∧ gwU (gt Z k) ≤ 4 := by unfold gwU; split; omega; split; omega; split; omega; split <;> omega
  have hgm : 0 ≤ gwM (gt Z k) ∧ gwM (gt Z k) ≤ 4 := by unfold gwM; split; omega; split <;> omega
  refine lv_iload_n hx hb d_DC_readRow_0 rfl (lv_at hl 3 rfl) ?_
  rcases (show en = 0 ∨ en = 1 ∨ en = 2 ∨ en = 3 ∨ en = 4 by omega) with he | he | he | he | he
  · subst he
    refine lv_tableIn (off := 31) (tgt := 32) hx hb d_DC_readRow_1 (by decide) (by decide) rfl (by decide) ?_
    refine lv_aload_n hx hb d_DC_readRow_32 rfl (lv_at hl 0 rfl) ?_
    refine lv_aload_n hx hb d_DC_readRow_33 rfl (lv_at hl 1 rfl) ?_
    refine lv_iload_n hx hb d_DC_readRow_34 rfl (lv_at hl 2 rfl) ?_
    refine lv_aload_n hx hb d_DC_readRow_35 rfl (lv_at hl 1 rfl) ?_
    refine lv_iload_n hx hb d_DC_readRow_36 rfl (lv_at hl 2 rfl) ?_
    refine cs_DC_46 X hz hw hl.1 hrw.choose_spec.1 (c_RW_get l G f _ r q n Z sp (k) ⟨by omega, by omega⟩ hrw) ⟨Nat.le_of_ble_eq_true rfl, Nat.le_of_ble_eq_true rfl⟩ ⟨by show 0 + 0 ≤ 0; omega, by show 0 + 0 ≤ 0; omega⟩ (Nat.le_of_ble_eq_true rfl) d_DC_readRow_37 (fun v f9 H locs hp hw hsz9 hkp9 hdm9 => ?_)
    obtain ⟨rfl, hfe⟩ := hp
    rw [hfe] at hw
    refine W.eq (g2 := F0 m 40 ls [.int (iI (gt Z (k))), .int (iI k), .ref r, .ref dc]) rfl ?_
    refine cs_DC_50 X hz hw hl.1 (c_DC_goodWidthUtf8 l G f _ (gt Z k) ⟨by omega, by omega⟩) ⟨Nat.le_of_ble_eq_true rfl, Nat.le_of_ble_eq_true rfl⟩ ⟨by show 0 + 0 ≤ 0; omega, by show 0 + 0 ≤ 0; omega⟩ (Nat.le_of_ble_eq_true rfl) d_DC_readRow_40 (fun v f9 H locs hp hw hsz9 hkp9 hdm9 => ?_)
    obtain ⟨rfl, hfe⟩ := hp
    rw [hfe] at hw
    refine W.eq (g2 := F0 m 43 ls [.int (iI (gwU (gt Z k))), .int (iI k), .ref r, .ref dc]) rfl ?_
    refine lv_iconst (v := iI (0)) hx hb d_DC_readRow_43 rfl ?_
    refine cs_DC_53 X hz hw hl.1 hdc (c_DC_readPrefixed l G f _ r q n Z sp hrw hZ dc c0 w0 hdc k (gwU (gt Z k)) false hk hgu) ⟨Nat.le_of_ble_eq_true rfl, Nat.le_of_ble_eq_true rfl⟩ ⟨by show 0 + 0 ≤ 0; omega, by show 0 + 0 ≤ 0; omega⟩ (Nat.le_of_ble_eq_true rfl) d_DC_readRow_44 (fun v f1 H locs hp hw hsz9 hkp9 hdm9 => ?_)
    obtain ⟨rfl, hd1, hk1⟩ := hp
    refine W.eq (g2 := F0 m 47 ls []) rfl ?_
    refine lv_goto (tgt := 116) hx hb d_DC_readRow_47 (by decide) ?_
    exact cn_vret hx hb hr hlk hw  (⟨rfl, by rw [rdr, if_pos rfl]; exact hd1, hk1⟩) (Nat.le_refl _) (Nat.le_refl _) d_DC_readRow_116
  · subst he
    refine lv_tableIn (off := 49) (tgt := 50) hx hb d_DC_readRow_1 (by decide) (by decide) rfl (by decide) ?_
    refine lv_aload_n hx hb d_DC_readRow_50 rfl (lv_at hl 0 rfl) ?_
    refine lv_aload_n hx hb d_DC_readRow_51 rfl (lv_at hl 1 rfl) ?_
    refine lv_iload_n hx hb d_DC_readRow_52 rfl (lv_at hl 2 rfl) ?_
    refine lv_aload_n hx hb d_DC_readRow_53 rfl (lv_at hl 1 rfl) ?_
    refine lv_iload_n hx hb d_DC_readRow_54 rfl (lv_at hl 2 rfl) ?_
    refine cs_DC_46 X hz hw hl.1 hrw.choose_spec.1 (c_RW_get l G f _ r q n Z sp (k) ⟨by omega, by omega⟩ hrw) ⟨Nat.le_of_ble_eq_true rfl, Nat.le_of_ble_eq_true rfl⟩ ⟨by show 0 + 0 ≤ 0; omega, by show 0 + 0 ≤ 0; omega⟩ (Nat.le_of_ble_eq_true rfl) d_DC_readRow_55 (fun v f9 H locs hp hw hsz9 hkp9 hdm9 => ?_)
    obtain ⟨rfl, hfe⟩ := hp
    rw [hfe] at hw
    refine W.eq (g2 := F0 m 58 ls [.int (iI (gt Z (k))), .int (iI k), .ref r, .ref dc]) rfl ?_
    refine cs_DC_57 X hz hw hl.1 (c_DC_goodWidthModified l G f _ (gt Z k) ⟨by omega, by omega⟩) ⟨Nat.le_of_ble_eq_true rfl, Nat.le_of_ble_eq_true rfl⟩ ⟨by show 0 + 0 ≤ 0; omega, by show 0 + 0 ≤ 0; omega⟩ (Nat.le_of_ble_eq_true rfl) d_DC_readRow_58 (fun v f9 H locs hp hw hsz9 hkp9 hdm9 => ?_)
    obtain ⟨rfl, hfe⟩ := hp
    rw [hfe] at hw
    refine W.eq (g2 := F0 m 61 ls [.int (iI (gwM (gt Z k))), .int (iI k), .ref r, .ref dc]) rfl ?_
    refine lv_iconst (v := iI (1)) hx hb d_DC_readRow_61 rfl ?_
    refine cs_DC_53 X hz hw hl.1 hdc (c_DC_readPrefixed l G f _ r q n Z sp hrw hZ dc c0 w0 hdc k (gwM (gt Z k)) true hk hgm) ⟨Nat.le_of_ble_eq_true rfl, Nat.le_of_ble_eq_true rfl⟩ ⟨by show 0 + 0 ≤ 0; omega, by show 0 + 0 ≤ 0; omega⟩ (Nat.le_of_ble_eq_true rfl) d_DC_readRow_62 (fun v f1 H locs hp hw hsz9 hkp9 hdm9 => ?_)
    obtain ⟨rfl, hd1, hk1⟩ := hp
    refine W.eq (g2 := F0 m 65 ls []) rfl ?_
    refine lv_goto (tgt := 116) hx hb d_DC_readRow_65 (by decide) ?_
    exact cn_vret hx hb hr hlk hw  (⟨rfl, by rw [rdr, if_neg (by omega), if_pos rfl]; exact hd1, hk1⟩) (Nat.le_refl _) (Nat.le_refl _) d_DC_readRow_116
  · subst he
    refine lv_tableIn (off := 67) (tgt := 68) hx hb d_DC_readRow_1 (by decide) (by decide) rfl (by decide) ?_
    refine lv_aload_n hx hb d_DC_readRow_68 rfl (lv_at hl 0 rfl) ?_
    refine lv_aload_n hx hb d_DC_readRow_69 rfl (lv_at hl 1 rfl) ?_
    refine lv_iload_n hx hb d_DC_readRow_70 rfl (lv_at hl 2 rfl) ?_
    refine cs_DC_46 X hz hw hl.1 hrw.choose_spec.1 (c_RW_get l G f _ r q n Z sp (k) ⟨by omega, by omega⟩ hrw) ⟨Nat.le_of_ble_eq_true rfl, Nat.le_of_ble_eq_true rfl⟩ ⟨by show 0 + 0 ≤ 0; omega, by show 0 + 0 ≤ 0; omega⟩ (Nat.le_of_ble_eq_true rfl) d_DC_readRow_71 (fun v f9 H locs hp hw hsz9 hkp9 hdm9 => ?_)
    obtain ⟨rfl, hfe⟩ := hp
    rw [hfe] at hw
    refine W.eq (g2 := F0 m 74 ls [.int (iI (gt Z (k))), .ref dc]) rfl ?_
    refine lv_aload_n hx hb d_DC_readRow_74 rfl (lv_at hl 1 rfl) ?_
    refine lv_iload_n hx hb d_DC_readRow_75 rfl (lv_at hl 2 rfl) ?_
    refine lv_iconst (v := iI (1)) hx hb d_DC_readRow_76 rfl ?_
    refine di_add hx hb d_DC_readRow_77 ?_
    refine cs_DC_46 X hz hw hl.1 hrw.choose_spec.1 (c_RW_get l G f _ r q n Z sp (k + 1) ⟨by omega, by omega⟩ hrw) ⟨Nat.le_of_ble_eq_true rfl, Nat.le_of_ble_eq_true rfl⟩ ⟨by show 0 + 0 ≤ 0; omega, by show 0 + 0 ≤ 0; omega⟩ (Nat.le_of_ble_eq_true rfl) d_DC_readRow_78 (fun v f9 H locs hp hw hsz9 hkp9 hdm9 => ?_)
    obtain ⟨rfl, hfe⟩ := hp
    rw [hfe] at hw
    refine W.eq (g2 := F0 m 81 ls [.int (iI (gt Z (k + 1))), .int (iI (gt Z (k))), .ref dc]) rfl ?_
    refine cs_DC_60 X hz hw hl.1 hdc (c_DC_readTwo l G f _ (gt Z (k)) (gt Z (k + 1)) ⟨by omega, by omega⟩ ⟨by omega, by omega⟩ dc c0 w0 hdc) ⟨Nat.le_of_ble_eq_true rfl, Nat.le_of_ble_eq_true rfl⟩ ⟨by show 0 + 0 ≤ 0; omega, by show 0 + 0 ≤ 0; omega⟩ (Nat.le_of_ble_eq_true rfl) d_DC_readRow_81 (fun v f1 H locs hp hw hsz9 hkp9 hdm9 => ?_)
    obtain ⟨rfl, hd1, hk1⟩ := hp
    refine W.eq (g2 := F0 m 84 ls []) rfl ?_
    refine lv_goto (tgt := 116) hx hb d_DC_readRow_84 (by decide) ?_
    exact cn_vret hx hb hr hlk hw  (⟨rfl, by rw [rdr, if_neg (by omega), if_neg (by omega), if_pos rfl]; exact hd1, hk1⟩) (Nat.le_refl _) (Nat.le_refl _) d_DC_readRow_116
  · subst he
    refine lv_tableIn (off := 86) (tgt := 87) hx hb d_DC_readRow_1 (by decide) (by decide) rfl (by decide) ?_
    refine lv_aload_n hx hb d_DC_readRow_87 rfl (lv_at hl 0 rfl) ?_
    refine lv_aload_n hx hb d_DC_readRow_88 rfl (lv_at hl 1 rfl) ?_
    refine lv_iload_n hx hb d_DC_readRow_89 rfl (lv_at hl 2 rfl) ?_
    refine lv_iconst (v := iI (1)) hx hb d_DC_readRow_90 rfl ?_
    refine di_add hx hb d_DC_readRow_91 ?_
    refine cs_DC_46 X hz hw hl.1 hrw.choose_spec.1 (c_RW_get l G f _ r q n Z sp (k + 1) ⟨by omega, by omega⟩ hrw) ⟨Nat.le_of_ble_eq_true rfl, Nat.le_of_ble_eq_true rfl⟩ ⟨by show 0 + 0 ≤ 0; omega, by show 0 + 0 ≤ 0; omega⟩ (Nat.le_of_ble_eq_true rfl) d_DC_readRow_92 (fun v f9 H locs hp hw hsz9 hkp9 hdm9 => ?_)
    obtain ⟨rfl, hfe⟩ := hp
    rw [hfe] at hw
    refine W.eq (g2 := F0 m 95 ls [.int (iI (gt Z (k + 1))), .ref dc]) rfl ?_
    refine lv_aload_n hx hb d_DC_readRow_95 rfl (lv_at hl 1 rfl) ?_
    refine lv_iload_n hx hb d_DC_readRow_96 rfl (lv_at hl 2 rfl) ?_
    refine cs_DC_46 X hz hw hl.1 hrw.choose_spec.1 (c_RW_get l G f _ r q n Z sp (k) ⟨by omega, by omega⟩ hrw) ⟨Nat.le_of_ble_eq_true rfl, Nat.le_of_ble_eq_true rfl⟩ ⟨by show 0 + 0 ≤ 0; omega, by show 0 + 0 ≤ 0; omega⟩ (Nat.le_of_ble_eq_true rfl) d_DC_readRow_97 (fun v f9 H locs hp hw hsz9 hkp9 hdm9 => ?_)
    obtain ⟨rfl, hfe⟩ := hp
    rw [hfe] at hw
    refine W.eq (g2 := F0 m 100 ls [.int (iI (gt Z (k))), .int (iI (gt Z (k + 1))), .ref dc]) rfl ?_
    refine cs_DC_60 X hz hw hl.1 hdc (c_DC_readTwo l G f _ (gt Z (k + 1)) (gt Z (k)) ⟨by omega, by omega⟩ ⟨by omega, by omega⟩ dc c0 w0 hdc) ⟨Nat.le_of_ble_eq_true rfl, Nat.le_of_ble_eq_true rfl⟩ ⟨by show 0 + 0 ≤ 0; omega, by show 0 + 0 ≤ 0; omega⟩ (Nat.le_of_ble_eq_true rfl) d_DC_readRow_100 (fun v f1 H locs hp hw hsz9 hkp9 hdm9 => ?_)
    obtain ⟨rfl, hd1, hk1⟩ := hp
    refine W.eq (g2 := F0 m 103 ls []) rfl ?_
    refine lv_goto (tgt := 116) hx hb d_DC_readRow_103 (by decide) ?_
    exact cn_vret hx hb hr hlk hw  (⟨rfl, by rw [rdr, if_neg (by omega), if_neg (by omega), if_neg (by omega), if_pos rfl]; exact hd1, hk1⟩) (Nat.le_refl _) (Nat.le_refl _) d_DC_readRow_116
  · subst he
    refine lv_tableOut (tgt := 106) hx hb d_DC_readRow_1 (by decide) (by decide) ?_
    refine lv_aload_n hx hb d_DC_readRow_106 rfl (lv_at hl 0 rfl) ?_
    refine lv_aload_n hx hb d_DC_readRow_107 rfl (lv_at hl 1 rfl) ?_
    refine lv_iload_n hx hb d_DC_readRow_108 rfl (lv_at hl 2 rfl) ?_
    refine cs_DC_46 X hz hw hl.1 hrw.choose_spec.1 (c_RW_get l G f _ r q n Z sp (k) ⟨by omega, by omega⟩ hrw) ⟨Nat.le_of_ble_eq_true rfl, Nat.le_of_ble_eq_true rfl⟩ ⟨by show 0 + 0 ≤ 0; omega, by show 0 + 0 ≤ 0; omega⟩ (Nat.le_of_ble_eq_true rfl) d_DC_readRow_109 (fun v f9 H locs hp hw hsz9 hkp9 hdm9 => ?_)
    obtain ⟨rfl, hfe⟩ := hp
    rw [hfe] at hw
    refine W.eq (g2 := F0 m 112 ls [.int (iI (gt Z (k))), .ref dc]) rfl ?_
    refine lv_iconst (v := iI (1)) hx hb d_DC_readRow_112 rfl ?_
    refine cs_DC_64 X hz hw hl.1 hdc (c_DC_setRow l G f _ (gt Z k) (1) dc c0 w0 hdc) ⟨Nat.le_of_ble_eq_true rfl, Nat.le_of_ble_eq_true rfl⟩ ⟨by show 0 + 0 ≤ 0; omega, by show 0 + 0 ≤ 0; omega⟩ (Nat.le_of_ble_eq_true rfl) d_DC_readRow_113 (fun v f1 H locs hp hw hsz9 hkp9 hdm9 => ?_)
    obtain ⟨rfl, hd1, hk1⟩ := hp
    refine W.eq (g2 := F0 m 116 ls []) rfl ?_
    exact cn_vret hx hb hr hlk hw  (⟨rfl, by rw [rdr, if_neg (by omega), if_neg (by omega), if_neg (by omega), if_neg (by omega)]; exact hd1, hk1⟩) (Nat.le_refl _) (Nat.le_refl _) d_DC_readRow_116
set_option maxRecDepth 100000 in
set_option maxHeartbeats 4000000 in
theorem c_DC_appendCharacter (l : Launch) (G : ct_G) (f : dw_M) (sz : Nat) (cd : Int) (hc0 : 0 ≤ cd) (hc1 : cd < 1114112) (r q n : Nat) (us : List Int) (sp : Int) (hrw : rw G f r q n us sp) : cn l y_DC_appendCharacter w_DC_appendCharacter (1) (21) G f sz [.int (iI cd), .ref r] (fun v f' => v = none ∧ rw G f' r q n (apl1 n us (uts cd)) (apl2 n us (uts cd) sp) ∧ ∀ b, b ≠ r → b ≠ q → f' b = f b) (0) (0) := by
  refine cn_of (own := "TextDesk$Decoder") (nm := "appendCharacter") (ds := "(ILTextDesk$Row;)V") (by decide) (Nat.le_of_ble_eq_true rfl) ?_
  intro p e s m args below meth c ls X hnm hr hlk hs0 hz hw hl
  have hx := X.1
  have hb := X.2.1
  have hl : lv_has ls 2 [(0, .int (iI cd)), (1, .ref r)] := hl
  have hn0 := hrw.len.1
  have hy0 : rw G f r q n (apl1 n us []) (apl2 n us [] sp) := by rw [apl1_nil, apl2_nil hn0]; exact hrw
  refine lv_iload_n hx hb d_DC_appendCharacter_0 rfl (lv_at hl 0 rfl) ?_
  refine lv_ldc (v := iI (65536)) hx hb X.own (X.hts _ mw_612) d_DC_appendCharacter_1 ?_
  refine di_icmp_ge (tgt := 14) hx hb d_DC_appendCharacter_3 (by decide) ⟨by omega, by omega⟩ ⟨by omega, by omega⟩ (fun bq3 => ?_) (fun bq3 => ?_)
  · refine lv_aload_n hx hb d_DC_appendCharacter_14 rfl (lv_at hl 1 rfl) ?_
    refine lv_ldc (v := iI (55296)) hx hb X.own (X.hts _ mw_614) d_DC_appendCharacter_15 ?_
    refine lv_iload_n hx hb d_DC_appendCharacter_17 rfl (lv_at hl 0 rfl) ?_
    refine lv_ldc (v := iI (65536)) hx hb X.own (X.hts _ mw_612) d_DC_appendCharacter_18 ?_
    refine di_sub hx hb d_DC_appendCharacter_20 ?_
    refine lv_sipush (v := iI (1024)) hx hb d_DC_appendCharacter_21 rfl ?_
    refine di_div hx hb d_DC_appendCharacter_24 (by omega) (by omega) (by omega) (by omega) ?_
    refine di_add hx hb d_DC_appendCharacter_25 ?_
    refine cs_DC_40 X hz hw hl.1 hy0.choose_spec.1 (c_RW_append l G f _ r q n (apl1 n us []) (apl2 n us [] sp) (55296 + (cd - 65536) / 1024) hy0) ⟨Nat.le_of_ble_eq_true rfl, Nat.le_of_ble_eq_true rfl⟩ ⟨by show 0 + 0 ≤ 0; omega, by show 0 + 0 ≤ 0; omega⟩ (Nat.le_of_ble_eq_true rfl) d_DC_appendCharacter_26 (fun v f1 H locs hp hw hsz9 hkp9 hdm9 => ?_)
    obtain ⟨rfl, hr_f1, hk_f1⟩ := hp
    rw [apl1_snoc _ hn0, apl2_snoc _ hn0] at hr_f1
    refine W.eq (g2 := F0 m 29 ls []) rfl ?_
    have hy_f1 : rw G f1 r q n (apl1 n us [55296 + (cd - 65536) / 1024]) (apl2 n us [55296 + (cd - 65536) / 1024] sp) := hr_f1
    have hz_f1 : ∀ b, b ≠ r → b ≠ q → f1 b = f b := fun b h7 h8 => hk_f1 b h7 h8
    refine lv_aload_n hx hb d_DC_appendCharacter_29 rfl (lv_at hl 1 rfl) ?_
    refine lv_ldc (v := iI (56320)) hx hb X.own (X.hts _ mw_615) d_DC_appendCharacter_30 ?_
    refine lv_iload_n hx hb d_DC_appendCharacter_32 rfl (lv_at hl 0 rfl) ?_
    refine lv_ldc (v := iI (65536)) hx hb X.own (X.hts _ mw_612) d_DC_appendCharacter_33 ?_
    refine di_sub hx hb d_DC_appendCharacter_35 ?_
    refine lv_sipush (v := iI (1024)) hx hb d_DC_appendCharacter_36 rfl ?_
    refine di_rem hx hb d_DC_appendCharacter_39 (by omega) (by omega) (by omega) (by omega) ?_
    refine di_add hx hb d_DC_appendCharacter_40 ?_
    refine cs_DC_40 X hz hw hl.1 hy_f1.choose_spec.1 (c_RW_append l G f1 _ r q n (apl1 n us [55296 + (cd - 65536) / 1024]) (apl2 n us [55296 + (cd - 65536) / 1024] sp) (56320 + (cd - 65536) % 1024) hy_f1) ⟨Nat.le_of_ble_eq_true rfl, Nat.le_of_ble_eq_true rfl⟩ ⟨by show 0 + 0 ≤ 0; omega, by show 0 + 0 ≤ 0; omega⟩ (Nat.le_of_ble_eq_true rfl) d_DC_appendCharacter_41 (fun v f2 H locs hp hw hsz9 hkp9 hdm9 => ?_)
    obtain ⟨rfl, hr_f2, hk_f2⟩ := hp
    rw [apl1_snoc _ hn0, apl2_snoc _ hn0] at hr_f2
    refine W.eq (g2 := F0 m 44 ls []) rfl ?_
    have hy_f2 : rw G f2 r q n (apl1 n us [55296 + (cd - 65536) / 1024, 56320 + (cd - 65536) % 1024]) (apl2 n us [55296 + (cd - 65536) / 1024, 56320 + (cd - 65536) % 1024] sp) := hr_f2
    have hz_f2 : ∀ b, b ≠ r → b ≠ q → f2 b = f b := fun b h7 h8 => (hk_f2 b h7 h8).trans (hz_f1 b h7 h8)
    have hu : uts cd = [55296 + (cd - 65536) / 1024, 56320 + (cd - 65536) % 1024] := by rw [uts, if_neg (by omega)]
    exact cn_vret hx hb hr hlk hw  (⟨rfl, by rw [hu]; exact hy_f2, hz_f2⟩) (Nat.le_refl _) (Nat.le_refl _) d_DC_appendCharacter_44
  · refine lv_aload_n hx hb d_DC_appendCharacter_6 rfl (lv_at hl 1 rfl) ?_
    refine lv_iload_n hx hb d_DC_appendCharacter_7 rfl (lv_at hl 0 rfl) ?_
    refine cs_DC_40 X hz hw hl.1 hy0.choose_spec.1 (c_RW_append l G f _ r q n (apl1 n us []) (apl2 n us [] sp) (cd) hy0) ⟨Nat.le_of_ble_eq_true rfl, Nat.le_of_ble_eq_true rfl⟩ ⟨by show 0 + 0 ≤ 0; omega, by show 0 + 0 ≤ 0; omega⟩ (Nat.le_of_ble_eq_true rfl) d_DC_appendCharacter_8 (fun v f1 H locs hp hw hsz9 hkp9 hdm9 => ?_)
    obtain ⟨rfl, hr_f1, hk_f1⟩ := hp
    rw [apl1_snoc _ hn0, apl2_snoc _ hn0] at hr_f1
    refine W.eq (g2 := F0 m 11 ls []) rfl ?_
    have hy_f1 : rw G f1 r q n (apl1 n us [cd]) (apl2 n us [cd] sp) := hr_f1
    have hz_f1 : ∀ b, b ≠ r → b ≠ q → f1 b = f b := fun b h7 h8 => hk_f1 b h7 h8
    refine lv_goto (tgt := 44) hx hb d_DC_appendCharacter_11 (by decide) ?_
    have hu : uts cd = [cd] := by rw [uts, if_pos (by omega)]
    exact cn_vret hx hb hr hlk hw  (⟨rfl, by rw [hu]; exact hy_f1, hz_f1⟩) (Nat.le_refl _) (Nat.le_refl _) d_DC_appendCharacter_44
set_option maxRecDepth 100000 in
set_option maxHeartbeats 4000000 in
theorem c_DC_readAll (l : Launch) (G : ct_G) (f : dw_M) (sz : Nat) (r q n : Nat) (Z : List Int) (sp : Int) (hrw : rw G f r q n Z sp) (hZ : ∀ z ∈ Z, 0 ≤ z ∧ z < 256) (dc : Nat) (c0 w0 : Int32) (hdc : f dc = some (.inr (0, [.int c0, .int w0]))) (en : Int) (hen : 0 ≤ en ∧ en ≤ 4) (r2 q2 n2 : Nat) (us : List Int) (sp2 : Int) (hr2 : rw G f r2 q2 n2 us sp2) (hne : r ≠ r2 ∧ q ≠ q2 ∧ r ≠ q2 ∧ q ≠ r2) : cn l y_DC_readAll w_DC_readAll (3) (90) G f sz [.ref dc, .ref r, .int (iI en), .ref r2] (fun v f' => v = some (.int (iI (b2 (dgd Z en)))) ∧ rw G f' r2 q2 n2 (apl1 n2 us (dec Z en)) (apl2 n2 us (dec Z en) sp2) ∧ (∃ c1 w1 : Int32, f' dc = some (.inr (0, [.int c1, .int w1]))) ∧ ∀ b, b ≠ dc → b ≠ r2 → b ≠ q2 → f' b = f b) (0) (0) := by
  refine cn_of (own := "TextDesk$Decoder") (nm := "readAll") (ds := "(LTextDesk$Row;ILTextDesk$Row;)Z") (by decide) (Nat.le_of_ble_eq_true rfl) ?_
  intro p e s m args below meth c ls X hnm hr hlk hs0 hz hw hl
  have hx := X.1
  have hb := X.2.1
  have hl : lv_has ls 6 [(0, .ref dc), (1, .ref r), (2, .int (iI en)), (3, .ref r2)] := hl
  have hzl := hrw.len
  have hn0 := hr2.len.1
  refine lv_iconst (v := iI (1)) hx hb d_DC_readAll_0 rfl ?_
  refine lv_istore (lv' := [(4, .int (iI 1)), (0, .ref dc), (1, .ref r), (2, .int (iI en)), (3, .ref r2)]) hx hb d_DC_readAll_1 hl (by decide) rfl (fun ls hl => ?_)
  refine lv_iconst (v := iI (0)) hx hb d_DC_readAll_3 rfl ?_
  refine lv_istore (lv' := [(5, .int (iI 0)), (4, .int (iI 1)), (0, .ref dc), (1, .ref r), (2, .int (iI en)), (3, .ref r2)]) hx hb d_DC_readAll_4 hl (by decide) rfl (fun ls hl => ?_)
  have loop : ∀ (N : Nat) (k : Int) (acc : List Int) (fu : Nat) (ag : Bool) (c1 : Int32) (w1 : Int32) (f1 : dw_M) (H : Heap) (locs : List Loc) (ls : Array Slot), ((Z.length : Int) + 4 - k).toNat < N → 0 ≤ k → k ≤ (Z.length : Int) + 3 → (Z.length : Int) - k < (fu : Int) + 1 → dec Z en = acc ++ dcl Z en (fu + 1) k → dgd Z en = (ag && dcg Z en (fu + 1) k) → f1 dc = some (.inr (0, [.int c1, .int w1])) → rw G f1 r q n Z sp → rw G f1 r2 q2 n2 (apl1 n2 us acc) (apl2 n2 us acc sp2) → (∀ b, b ≠ dc → b ≠ r2 → b ≠ q2 → f1 b = f b) → dw G.1 dk_cl (dw_A f sz) s.heap f1 H locs → lv_has ls 6 [(5, .int (iI k)), (4, .int (iI (b2 ag))), (0, .ref dc), (1, .ref r), (2, .int (iI en)), (3, .ref r2)] → W p l e { frames := 3, locals := 90, cells := 0, slots := 0 } s m args below meth c H locs (0) (0) (MQ below (ct_Q G f sz (fun v f' => v = some (.int (iI (b2 (dgd Z en)))) ∧ rw G f' r2 q2 n2 (apl1 n2 us (dec Z en)) (apl2 n2 us (dec Z en) sp2) ∧ (∃ c1 w1 : Int32, f' dc = some (.inr (0, [.int c1, .int w1]))) ∧ ∀ b, b ≠ dc → b ≠ r2 → b ≠ q2 → f' b = f b)) args s (0) (0) (dw_A f sz)) (F0 m 6 ls []) := by
    intro N
    induction N with
    | zero => intros; omega
    | succ N ih =>
      intro k acc fu ag c1 w1 f1 H locs ls hN hk0 hk1 hfu hspl hgd hd1 hrz hru hkp hw hl
      refine lv_iload hx hb d_DC_readAll_6 (lv_at hl 0 rfl) ?_
      refine lv_aload_n hx hb d_DC_readAll_8 rfl (lv_at hl 3 rfl) ?_
      refine cs_DC_9 X hz hw hl.1 hrz.choose_spec.1 (c_RW_size l G f1 _ r q n Z sp hrz) ⟨Nat.le_of_ble_eq_true rfl, Nat.le_of_ble_eq_true rfl⟩ ⟨by show 0 + 0 ≤ 0; omega, by show 0 + 0 ≤ 0; omega⟩ (Nat.le_of_ble_eq_true rfl) d_DC_readAll_9 (fun v f9 H locs hp hw hsz9 hkp9 hdm9 => ?_)
      obtain ⟨rfl, hfe⟩ := hp
      rw [hfe] at hw
      refine W.eq (g2 := F0 m 12 ls [.int (iI ((Z.length : Int))), .int (iI k)]) rfl ?_
      refine di_icmp_ge (tgt := 80) hx hb d_DC_readAll_12 (by decide) ⟨by omega, by omega⟩ ⟨by omega, by omega⟩ (fun bq12 => ?_) (fun bq12 => ?_)
      · have hnil : dcl Z en (fu + 1) k = [] := by rw [dcl, if_pos (by omega)]
        have hnil2 : dcg Z en (fu + 1) k = true := by rw [dcg, if_pos (by omega)]
        rw [hnil, List.append_nil] at hspl
        rw [hnil2, Bool.and_true] at hgd
        refine lv_iload hx hb d_DC_readAll_80 (lv_at hl 1 rfl) ?_
        have hb01 := b2_01 ag
        exact cn_zret hx hb hr hlk hw (by rcases hb01 with h | h <;> rw [h] <;> rfl) (⟨by rw [hgd], by rw [hspl]; exact hru, ⟨c1, w1, hd1⟩, hkp⟩) (Nat.le_refl _) (Nat.le_refl _) d_DC_readAll_82
      · have hrr := rdr_rng hZ hen hk0 (by omega : k < (Z.length : Int))
        have hs1 : dcl Z en (fu + 1) k = uts (if (rdr Z en k).1 = -1 then 65533 else (rdr Z en k).1) ++ dcl Z en fu (k + (rdr Z en k).2) := by rw [dcl, if_neg (by omega)]
        have hs2 : dcg Z en (fu + 1) k = (decide ((rdr Z en k).1 ≠ -1) && dcg Z en fu (k + (rdr Z en k).2)) := by rw [dcg, if_neg (by omega)]
        obtain ⟨fu2, rfl⟩ : ∃ z, fu = z + 1 := ⟨fu - 1, by omega⟩
        obtain ⟨cd, hcd⟩ : ∃ z, z = (rdr Z en k).1 := ⟨_, rfl⟩
        obtain ⟨wd, hwd⟩ : ∃ z, z = (rdr Z en k).2 := ⟨_, rfl⟩
        rw [← hcd, ← hwd] at hs1 hs2 hrr
        refine lv_aload_n hx hb d_DC_readAll_15 rfl (lv_at hl 2 rfl) ?_
        refine lv_aload_n hx hb d_DC_readAll_16 rfl (lv_at hl 3 rfl) ?_
        refine lv_iload hx hb d_DC_readAll_17 (lv_at hl 0 rfl) ?_
        refine lv_iload_n hx hb d_DC_readAll_19 rfl (lv_at hl 4 rfl) ?_
        refine cs_DC_15 X hz hw hl.1 hd1 (c_DC_readRow l G f1 _ r q n Z sp hrz hZ dc c1 w1 hd1 k en ⟨by omega, by omega⟩ hen) ⟨Nat.le_of_ble_eq_true rfl, Nat.le_of_ble_eq_true rfl⟩ ⟨by show 0 + 0 ≤ 0; omega, by show 0 + 0 ≤ 0; omega⟩ (Nat.le_of_ble_eq_true rfl) d_DC_readAll_20 (fun v f2 H locs hp hw hsz9 hkp9 hdm9 => ?_)
        obtain ⟨rfl, hd2, hk2⟩ := hp
        rw [← hcd, ← hwd] at hd2
        have hrz2 : rw G f2 r q n Z sp := rw_same hrz (hk2 r (dw_ne hrz.choose_spec.1 hd1 (by simp))) (hk2 q (dw_ne hrz.choose_spec.2.1 hd1 (by simp)))
        have hru2 : rw G f2 r2 q2 n2 (apl1 n2 us acc) (apl2 n2 us acc sp2) := rw_same hru (hk2 r2 (dw_ne hru.choose_spec.1 hd1 (by simp))) (hk2 q2 (dw_ne hru.choose_spec.2.1 hd1 (by simp)))
        have hb01 := b2_01 ag
        refine W.eq (g2 := F0 m 23 ls []) rfl ?_
        refine lv_iload hx hb d_DC_readAll_23 (lv_at hl 1 rfl) ?_
        refine di_if_eq (tgt := 40) hx hb d_DC_readAll_25 (by decide) ⟨by omega, by omega⟩ (fun bq25 => ?_) (fun bq25 => ?_)
        · have hagf := b2_0 bq25
          refine lv_iconst (v := iI (0)) hx hb d_DC_readAll_40 rfl ?_
          rw [show (0 : Int) = b2 false from rfl]
          refine lv_istore (lv' := [(4, .int (iI (b2 false))), (5, .int (iI k)), (0, .ref dc), (1, .ref r), (2, .int (iI en)), (3, .ref r2)]) hx hb d_DC_readAll_41 hl (by decide) rfl (fun ls hl => ?_)
          refine lv_aload_n hx hb d_DC_readAll_43 rfl (lv_at hl 2 rfl) ?_
          refine gf_DC_21_DC X hw hd2 d_DC_readAll_44 ?_
          refine lv_iconst (v := iI (-1)) hx hb d_DC_readAll_47 rfl ?_
          refine di_icmp_ne (tgt := 56) hx hb d_DC_readAll_48 (by decide) ⟨by omega, by omega⟩ ⟨by omega, by omega⟩ (fun bq48 => ?_) (fun bq48 => ?_)
          · refine lv_aload_n hx hb d_DC_readAll_56 rfl (lv_at hl 2 rfl) ?_
            refine gf_DC_21_DC X hw hd2 d_DC_readAll_57 ?_
            refine lv_aload_n hx hb d_DC_readAll_60 rfl (lv_at hl 5 rfl) ?_
            refine cs_DC_26 X hz hw hl.1 (c_DC_appendCharacter l G f2 _ (cd) (by omega) (by omega) r2 q2 n2 (apl1 n2 us acc) (apl2 n2 us acc sp2) hru2) ⟨Nat.le_of_ble_eq_true rfl, Nat.le_of_ble_eq_true rfl⟩ ⟨by show 0 + 0 ≤ 0; omega, by show 0 + 0 ≤ 0; omega⟩ (Nat.le_of_ble_eq_true rfl) d_DC_readAll_61 (fun v f3 H locs hp hw hsz9 hkp9 hdm9 => ?_)
            obtain ⟨rfl, hr3, hk3⟩ := hp
            rw [apl_app1 hn0, apl_app2 hn0] at hr3
            have hd3 : f3 dc = some (.inr (0, [.int (iI cd), .int (iI wd)])) := (hk3 dc (dw_ne hd2 hru2.choose_spec.1 (by simp)) (dw_ne hd2 hru2.choose_spec.2.1 (by simp))).trans hd2
            have hrz3 : rw G f3 r q n Z sp := rw_same hrz2 (hk3 r hne.1 hne.2.2.1) (hk3 q hne.2.2.2 hne.2.1)
            refine W.eq (g2 := F0 m 64 ls []) rfl ?_
            refine lv_iload hx hb d_DC_readAll_64 (lv_at hl 1 rfl) ?_
            refine lv_aload_n hx hb d_DC_readAll_66 rfl (lv_at hl 2 rfl) ?_
            refine gf_DC_30_DC X hw hd3 d_DC_readAll_67 ?_
            refine lv_iconst (v := iI (1)) hx hb d_DC_readAll_70 rfl ?_
            refine di_max X hl.1 mw_616 ⟨by omega, by omega⟩ ⟨by omega, by omega⟩ (z := wd) (if_neg (by omega)) (Nat.le_of_ble_eq_true rfl) (Nat.le_of_ble_eq_true rfl) (by show 0 ≤ 0; omega) (by show 0 ≤ 0; omega) d_DC_readAll_71 ?_
            refine di_add hx hb d_DC_readAll_74 ?_
            refine lv_istore (lv' := [(5, .int (iI (k + wd))), (4, .int (iI (b2 false))), (0, .ref dc), (1, .ref r), (2, .int (iI en)), (3, .ref r2)]) hx hb d_DC_readAll_75 hl (by decide) rfl (fun ls hl => ?_)
            refine lv_goto (tgt := 6) hx hb d_DC_readAll_77 (by decide) ?_
            exact ih (k + wd) (acc ++ uts (cd)) (fu2) (false) (iI cd) (iI wd) _ _ _ _ (by omega) (by omega) (by omega) (by omega) (by rw [hspl, hs1, if_neg (by omega), List.append_assoc]) (by rw [hgd, hs2]; rw [hagf]; rfl) (hd3) (hrz3) (hr3) (fun b h7 h8 h9 => ((hk3 b h8 h9).trans (hk2 b h7)).trans (hkp b h7 h8 h9)) hw (lv_sub hl [0, 1, 2, 3, 4, 5] rfl)
          · refine lv_ldc (v := iI (65533)) hx hb X.own (X.hts _ mw_608) d_DC_readAll_51 ?_
            refine lv_goto (tgt := 60) hx hb d_DC_readAll_53 (by decide) ?_
            refine lv_aload_n hx hb d_DC_readAll_60 rfl (lv_at hl 5 rfl) ?_
            refine cs_DC_26 X hz hw hl.1 (c_DC_appendCharacter l G f2 _ (65533) (by omega) (by omega) r2 q2 n2 (apl1 n2 us acc) (apl2 n2 us acc sp2) hru2) ⟨Nat.le_of_ble_eq_true rfl, Nat.le_of_ble_eq_true rfl⟩ ⟨by show 0 + 0 ≤ 0; omega, by show 0 + 0 ≤ 0; omega⟩ (Nat.le_of_ble_eq_true rfl) d_DC_readAll_61 (fun v f3 H locs hp hw hsz9 hkp9 hdm9 => ?_)
            obtain ⟨rfl, hr3, hk3⟩ := hp
            rw [apl_app1 hn0, apl_app2 hn0] at hr3
            have hd3 : f3 dc = some (.inr (0, [.int (iI cd), .int (iI wd)])) := (hk3 dc (dw_ne hd2 hru2.choose_spec.1 (by simp)) (dw_ne hd2 hru2.choose_spec.2.1 (by simp))).trans hd2
            have hrz3 : rw G f3 r q n Z sp := rw_same hrz2 (hk3 r hne.1 hne.2.2.1) (hk3 q hne.2.2.2 hne.2.1)
            refine W.eq (g2 := F0 m 64 ls []) rfl ?_
            refine lv_iload hx hb d_DC_readAll_64 (lv_at hl 1 rfl) ?_
            refine lv_aload_n hx hb d_DC_readAll_66 rfl (lv_at hl 2 rfl) ?_
            refine gf_DC_30_DC X hw hd3 d_DC_readAll_67 ?_
            refine lv_iconst (v := iI (1)) hx hb d_DC_readAll_70 rfl ?_
            refine di_max X hl.1 mw_616 ⟨by omega, by omega⟩ ⟨by omega, by omega⟩ (z := wd) (if_neg (by omega)) (Nat.le_of_ble_eq_true rfl) (Nat.le_of_ble_eq_true rfl) (by show 0 ≤ 0; omega) (by show 0 ≤ 0; omega) d_DC_readAll_71 ?_
            refine di_add hx hb d_DC_readAll_74 ?_
            refine lv_istore (lv' := [(5, .int (iI (k + wd))), (4, .int (iI (b2 false))), (0, .ref dc), (1, .ref r), (2, .int (iI en)), (3, .ref r2)]) hx hb d_DC_readAll_75 hl (by decide) rfl (fun ls hl => ?_)
            refine lv_goto (tgt := 6) hx hb d_DC_readAll_77 (by decide) ?_
            exact ih (k + wd) (acc ++ uts (65533)) (fu2) (false) (iI cd) (iI wd) _ _ _ _ (by omega) (by omega) (by omega) (by omega) (by rw [hspl, hs1, if_pos (by omega), List.append_assoc]) (by rw [hgd, hs2]; rw [hagf]; rfl) (hd3) (hrz3) (hr3) (fun b h7 h8 h9 => ((hk3 b h8 h9).trans (hk2 b h7)).trans (hkp b h7 h8 h9)) hw (lv_sub hl [0, 1, 2, 3, 4, 5] rfl)
        · have hagt := b2_1 bq25
          refine lv_aload_n hx hb d_DC_readAll_28 rfl (lv_at hl 2 rfl) ?_
          refine gf_DC_21_DC X hw hd2 d_DC_readAll_29 ?_
          refine lv_iconst (v := iI (-1)) hx hb d_DC_readAll_32 rfl ?_
          refine di_icmp_eq (tgt := 40) hx hb d_DC_readAll_33 (by decide) ⟨by omega, by omega⟩ ⟨by omega, by omega⟩ (fun bq33 => ?_) (fun bq33 => ?_)
          · refine lv_iconst (v := iI (0)) hx hb d_DC_readAll_40 rfl ?_
            rw [show (0 : Int) = b2 false from rfl]
            refine lv_istore (lv' := [(4, .int (iI (b2 false))), (5, .int (iI k)), (0, .ref dc), (1, .ref r), (2, .int (iI en)), (3, .ref r2)]) hx hb d_DC_readAll_41 hl (by decide) rfl (fun ls hl => ?_)
            refine lv_aload_n hx hb d_DC_readAll_43 rfl (lv_at hl 2 rfl) ?_
            refine gf_DC_21_DC X hw hd2 d_DC_readAll_44 ?_
            refine lv_iconst (v := iI (-1)) hx hb d_DC_readAll_47 rfl ?_
            refine di_icmp_ne (tgt := 56) hx hb d_DC_readAll_48 (by decide) ⟨by omega, by omega⟩ ⟨by omega, by omega⟩ (fun bq48 => ?_) (fun bq48 => ?_)
            · exact absurd bq33 bq48
            · refine lv_ldc (v := iI (65533)) hx hb X.own (X.hts _ mw_608) d_DC_readAll_51 ?_
              refine lv_goto (tgt := 60) hx hb d_DC_readAll_53 (by decide) ?_
              refine lv_aload_n hx hb d_DC_readAll_60 rfl (lv_at hl 5 rfl) ?_
              refine cs_DC_26 X hz hw hl.1 (c_DC_appendCharacter l G f2 _ (65533) (by omega) (by omega) r2 q2 n2 (apl1 n2 us acc) (apl2 n2 us acc sp2) hru2) ⟨Nat.le_of_ble_eq_true rfl, Nat.le_of_ble_eq_true rfl⟩ ⟨by show 0 + 0 ≤ 0; omega, by show 0 + 0 ≤ 0; omega⟩ (Nat.le_of_ble_eq_true rfl) d_DC_readAll_61 (fun v f3 H locs hp hw hsz9 hkp9 hdm9 => ?_)
              obtain ⟨rfl, hr3, hk3⟩ := hp
              rw [apl_app1 hn0, apl_app2 hn0] at hr3
              have hd3 : f3 dc = some (.inr (0, [.int (iI cd), .int (iI wd)])) := (hk3 dc (dw_ne hd2 hru2.choose_spec.1 (by simp)) (dw_ne hd2 hru2.choose_spec.2.1 (by simp))).trans hd2
              have hrz3 : rw G f3 r q n Z sp := rw_same hrz2 (hk3 r hne.1 hne.2.2.1) (hk3 q hne.2.2.2 hne.2.1)
              refine W.eq (g2 := F0 m 64 ls []) rfl ?_
              refine lv_iload hx hb d_DC_readAll_64 (lv_at hl 1 rfl) ?_
              refine lv_aload_n hx hb d_DC_readAll_66 rfl (lv_at hl 2 rfl) ?_
              refine gf_DC_30_DC X hw hd3 d_DC_readAll_67 ?_
              refine lv_iconst (v := iI (1)) hx hb d_DC_readAll_70 rfl ?_
              refine di_max X hl.1 mw_616 ⟨by omega, by omega⟩ ⟨by omega, by omega⟩ (z := wd) (if_neg (by omega)) (Nat.le_of_ble_eq_true rfl) (Nat.le_of_ble_eq_true rfl) (by show 0 ≤ 0; omega) (by show 0 ≤ 0; omega) d_DC_readAll_71 ?_
              refine di_add hx hb d_DC_readAll_74 ?_
              refine lv_istore (lv' := [(5, .int (iI (k + wd))), (4, .int (iI (b2 false))), (0, .ref dc), (1, .ref r), (2, .int (iI en)), (3, .ref r2)]) hx hb d_DC_readAll_75 hl (by decide) rfl (fun ls hl => ?_)
              refine lv_goto (tgt := 6) hx hb d_DC_readAll_77 (by decide) ?_
              exact ih (k + wd) (acc ++ uts (65533)) (fu2) (false) (iI cd) (iI wd) _ _ _ _ (by omega) (by omega) (by omega) (by omega) (by rw [hspl, hs1, if_pos (by omega), List.append_assoc]) (by rw [hgd, hs2]; rw [show decide (cd ≠ -1) = false from decide_eq_false (fun q => q bq33)]; simp) (hd3) (hrz3) (hr3) (fun b h7 h8 h9 => ((hk3 b h8 h9).trans (hk2 b h7)).trans (hkp b h7 h8 h9)) hw (lv_sub hl [0, 1, 2, 3, 4, 5] rfl)
          · refine lv_iconst (v := iI (1)) hx hb d_DC_readAll_36 rfl ?_
            refine lv_goto (tgt := 41) hx hb d_DC_readAll_37 (by decide) ?_
            rw [show (1 : Int) = b2 true from rfl]
            refine lv_istore (lv' := [(4, .int (iI (b2 true))), (5, .int (iI k)), (0, .ref dc), (1, .ref r), (2, .int (iI en)), (3, .ref r2)]) hx hb d_DC_readAll_41 hl (by decide) rfl (fun ls hl => ?_)
            refine lv_aload_n hx hb d_DC_readAll_43 rfl (lv_at hl 2 rfl) ?_
            refine gf_DC_21_DC X hw hd2 d_DC_readAll_44 ?_
            refine lv_iconst (v := iI (-1)) hx hb d_DC_readAll_47 rfl ?_
            refine di_icmp_ne (tgt := 56) hx hb d_DC_readAll_48 (by decide) ⟨by omega, by omega⟩ ⟨by omega, by omega⟩ (fun bq48 => ?_) (fun bq48 => ?_)
            · refine lv_aload_n hx hb d_DC_readAll_56 rfl (lv_at hl 2 rfl) ?_
              refine gf_DC_21_DC X hw hd2 d_DC_readAll_57 ?_
              refine lv_aload_n hx hb d_DC_readAll_60 rfl (lv_at hl 5 rfl) ?_
              refine cs_DC_26 X hz hw hl.1 (c_DC_appendCharacter l G f2 _ (cd) (by omega) (by omega) r2 q2 n2 (apl1 n2 us acc) (apl2 n2 us acc sp2) hru2) ⟨Nat.le_of_ble_eq_true rfl, Nat.le_of_ble_eq_true rfl⟩ ⟨by show 0 + 0 ≤ 0; omega, by show 0 + 0 ≤ 0; omega⟩ (Nat.le_of_ble_eq_true rfl) d_DC_readAll_61 (fun v f3 H locs hp hw hsz9 hkp9 hdm9 => ?_)
              obtain ⟨rfl, hr3, hk3⟩ := hp
              rw [apl_app1 hn0, apl_app2 hn0] at hr3
              have hd3 : f3 dc = some (.inr (0, [.int (iI cd), .int (iI wd)])) := (hk3 dc (dw_ne hd2 hru2.choose_spec.1 (by simp)) (dw_ne hd2 hru2.choose_spec.2.1 (by simp))).trans hd2
              have hrz3 : rw G f3 r q n Z sp := rw_same hrz2 (hk3 r hne.1 hne.2.2.1) (hk3 q hne.2.2.2 hne.2.1)
              refine W.eq (g2 := F0 m 64 ls []) rfl ?_
              refine lv_iload hx hb d_DC_readAll_64 (lv_at hl 1 rfl) ?_
              refine lv_aload_n hx hb d_DC_readAll_66 rfl (lv_at hl 2 rfl) ?_
              refine gf_DC_30_DC X hw hd3 d_DC_readAll_67 ?_
              refine lv_iconst (v := iI (1)) hx hb d_DC_readAll_70 rfl ?_
              refine di_max X hl.1 mw_616 ⟨by omega, by omega⟩ ⟨by omega, by omega⟩ (z := wd) (if_neg (by omega)) (Nat.le_of_ble_eq_true rfl) (Nat.le_of_ble_eq_true rfl) (by show 0 ≤ 0; omega) (by show 0 ≤ 0; omega) d_DC_readAll_71 ?_
              refine di_add hx hb d_DC_readAll_74 ?_
              refine lv_istore (lv' := [(5, .int (iI (k + wd))), (4, .int (iI (b2 true))), (0, .ref dc), (1, .ref r), (2, .int (iI en)), (3, .ref r2)]) hx hb d_DC_readAll_75 hl (by decide) rfl (fun ls hl => ?_)
              refine lv_goto (tgt := 6) hx hb d_DC_readAll_77 (by decide) ?_
              exact ih (k + wd) (acc ++ uts (cd)) (fu2) (true) (iI cd) (iI wd) _ _ _ _ (by omega) (by omega) (by omega) (by omega) (by rw [hspl, hs1, if_neg (by omega), List.append_assoc]) (by rw [hgd, hs2]; rw [hagt, show decide (cd ≠ -1) = true from decide_eq_true bq33]; rfl) (hd3) (hrz3) (hr3) (fun b h7 h8 h9 => ((hk3 b h8 h9).trans (hk2 b h7)).trans (hkp b h7 h8 h9)) hw (lv_sub hl [0, 1, 2, 3, 4, 5] rfl)
            · exact absurd (by omega) bq33
  exact loop (((Z.length : Int) + 4 - 0).toNat + 1) (0) ([]) (Z.length) (true) (c0) (w0) _ _ _ _ (by omega) (by omega) (by omega) (by omega) (rfl) (rfl) (hdc) (hrw) (by rw [apl1_nil, apl2_nil hn0]; exact hr2) (fun _ _ _ _ => rfl) hw (lv_sub hl [0, 1, 2, 3, 4, 5] rfl)
set_option maxRecDepth 100000 in
set_option maxHeartbeats 4000000 in
theorem c_DK_decode (l : Launch) (hlT : l.stackTraces = false) (G : ct_G) (f : dw_M) (sz : Nat) (x : Nat) (T Y : List (List Int)) (B Z : List Int) (hI : dkI G f x T Y B Z) (en : Int) (he : iR en) (st : Bool) : ct l y_DK_decode w_DK_decode (9) (145) G f sz [.ref x, .int (iI en), .int (iI (b2 st))] (fun v f' => v = some (.int (iI (T.length : Int))) ∧ (0 ≤ en ∧ en ≤ 4) ∧ ¬ (st = true ∧ dgd Z en = false) ∧ (dec Z en).length ≤ 60 ∧ T.length < 24 ∧ dkI G f' x (T ++ [dec Z en]) Y B []) (fun E f' => (E = "java/lang/IllegalArgumentException" ∧ ¬ (0 ≤ en ∧ en ≤ 4) ∨ E = "java/lang/UnsupportedOperationException" ∧ (0 ≤ en ∧ en ≤ 4) ∧ st = true ∧ dgd Z en = false ∨ E = "java/lang/IllegalStateException" ∧ (0 ≤ en ∧ en ≤ 4) ∧ ¬ (st = true ∧ dgd Z en = false) ∧ ¬ ((dec Z en).length ≤ 60 ∧ T.length < 24)) ∧ dkI G f' x T Y B Z) (5) (81) := by
  refine ct_of (own := "TextDesk") (nm := "decode") (ds := "(IZ)I") (by decide) (Nat.le_of_ble_eq_true rfl) ?_
  intro p e s m args below meth c ls X hnm hr hlk hnx hs0 hz hw hl
  have hx := X.1
  have hb := X.2.1
  have hl : lv_has ls 5 [(0, .ref x), (1, .int (iI en)), (2, .int (iI (b2 st)))] := hl
  have hG := X.E.ok
  obtain ⟨ta, sa, yr, dc, bu, dr, qy, qb, qd, gT, gS, c0, w0, D, sB, sZ, sD, hS⟩ := hI
  have rZ := hS.2.2.2.2.2.2.2.2.2.2
  have hbs := b2_01 st
  have hbg := b2_01 (dgd Z en)
  refine lv_iload_n hx hb d_DK_decode_0 rfl (lv_at hl 1 rfl) ?_
  refine cs_DK_147 X hz hw hl.1 (c_DK_refuseUnknownEncoding l hlT G f _ en he) ⟨Nat.le_of_ble_eq_true rfl, Nat.le_of_ble_eq_true rfl⟩ ⟨by show 0 + 1 ≤ 5; omega, by show 0 + 6 ≤ 81; omega⟩ (Nat.le_of_ble_eq_true rfl) d_DK_decode_1 (fun E ce q9 f8 H locs hpx hw _ _ _ hce hcv hcl => ?_) (fun v f9 H locs hp hw hsz9 hkp9 hdm9 => ?_)
  · obtain ⟨rfl, hno, hfe⟩ := hpx
    rw [hfe] at hw
    exact ct_out hnx hlk hw (⟨Or.inl ⟨rfl, hno⟩, hS.I⟩) hce hcv hcl (by omega) (by omega)
  obtain ⟨rfl, hen, hfe⟩ := hp
  rw [hfe] at hw
  refine W.eq (g2 := F0 m 4 ls []) rfl ?_
  refine lv_aload_n hx hb d_DK_decode_4 rfl (lv_at hl 0 rfl) ?_
  refine gf_DK_37_DK X hw hS.1 d_DK_decode_5 ?_
  refine cs_DK_70 X hz hw hl.1 hS.2.2.2.2.2.2.2.1.2.2.choose_spec.1 (c_RW_drop l G f _ dr qd 60 D sD hS.2.2.2.2.2.2.2.1.2.2) ⟨Nat.le_of_ble_eq_true rfl, Nat.le_of_ble_eq_true rfl⟩ ⟨by show 0 + 1 + 0 ≤ 5; omega, by show 0 + 6 + 0 ≤ 81; omega⟩ (Nat.le_of_ble_eq_true rfl) d_DK_decode_8 (fun v f2 H locs hp hw hsz9 hkp9 hdm9 => ?_)
  obtain ⟨rfl, hr_f2, hk_f2⟩ := hp
  have hx_f2 := exo_row hG hS.2.2.2.2.2.2.2.1.2.2 hr_f2 (fun b h8 _ => hk_f2 b h8)
  refine W.eq (g2 := F0 m 11 ls []) rfl ?_
  have hS_f2 := hS.draft hx_f2 hr_f2
  refine lv_aload_n hx hb d_DK_decode_11 rfl (lv_at hl 0 rfl) ?_
  refine gf_DK_30_DK X hw hS_f2.1 d_DK_decode_12 ?_
  refine lv_aload_n hx hb d_DK_decode_15 rfl (lv_at hl 0 rfl) ?_
  refine gf_DK_23_DK X hw hS_f2.1 d_DK_decode_16 ?_
  refine lv_iload_n hx hb d_DK_decode_19 rfl (lv_at hl 1 rfl) ?_
  refine lv_aload_n hx hb d_DK_decode_20 rfl (lv_at hl 0 rfl) ?_
  refine gf_DK_37_DK X hw hS_f2.1 d_DK_decode_21 ?_
  refine cs_DK_160 X hz hw hl.1 hS_f2.2.2.2.1 (c_DC_readAll l G f2 _ yr qy 200 Z sZ hS_f2.2.2.2.2.2.2.2.1.1 rZ dc c0 w0 hS_f2.2.2.2.1 en hen dr qd 60 [] 0 hS_f2.2.2.2.2.2.2.2.1.2.2 ⟨hS_f2.2.2.2.2.2.2.2.2.1.2.2.1.symm, hS_f2.2.2.2.2.2.2.2.2.1.2.2.2.2.2.symm, dw_ne hS_f2.2.2.2.2.2.2.2.1.1.choose_spec.1 hS_f2.2.2.2.2.2.2.2.1.2.2.choose_spec.2.1 (by simp), dw_ne hS_f2.2.2.2.2.2.2.2.1.1.choose_spec.2.1 hS_f2.2.2.2.2.2.2.2.1.2.2.choose_spec.1 (by simp)⟩) ⟨Nat.le_of_ble_eq_true rfl, Nat.le_of_ble_eq_true rfl⟩ ⟨by show 0 + 1 + 0 ≤ 5; omega, by show 0 + 6 + 0 ≤ 81; omega⟩ (Nat.le_of_ble_eq_true rfl) d_DK_decode_24 (fun v f3 H locs hp hw hsz9 hkp9 hdm9 => ?_)
  obtain ⟨rfl, hr3, ⟨c1, w1, hd3⟩, hk3⟩ := hp
  have hS_f3 := hS_f2.dcd hG hd3 hr3 hk3
  refine W.eq (g2 := F0 m 27 ls [.int (iI (b2 (dgd Z en)))]) rfl ?_
  refine lv_istore_n (lv' := [(3, .int (iI (b2 (dgd Z en)))), (0, .ref x), (1, .int (iI en)), (2, .int (iI (b2 st)))]) hx hb d_DK_decode_27 rfl hl (by decide) rfl (fun ls hl => ?_)
  refine lv_iload_n hx hb d_DK_decode_28 rfl (lv_at hl 3 rfl) ?_
  refine di_if_eq (tgt := 46) hx hb d_DK_decode_29 (by decide) ⟨by omega, by omega⟩ (fun bq29 => ?_) (fun bq29 => ?_)
  · refine lv_aload_n hx hb d_DK_decode_46 rfl (lv_at hl 1 rfl) ?_
    refine cs_DK_78 X hz hw hl.1 hS_f3.1 (c_DK_refuseSpilledDraft l hlT G f3 _ x ta sa yr dc bu dr qy qb qd gT gS c1 w1 T Y B Z (apl1 60 [] (dec Z en)) sB sZ (apl2 60 [] (dec Z en) 0) hS_f3 (apl2_01 (Or.inl rfl))) ⟨Nat.le_of_ble_eq_true rfl, Nat.le_of_ble_eq_true rfl⟩ ⟨by show 0 + 1 + 1 ≤ 5; omega, by show 0 + 6 + 6 ≤ 81; omega⟩ (Nat.le_of_ble_eq_true rfl) d_DK_decode_47 (fun E ce q9 f8 H locs hpx hw _ _ _ hce hcv hcl => ?_) (fun v f9 H locs hp hw hsz9 hkp9 hdm9 => ?_)
    · obtain ⟨rfl, hsp, hfe⟩ := hpx
      rw [hfe] at hw
      exact ct_out hnx hlk hw (⟨Or.inr (Or.inr ⟨rfl, hen, (fun q => by rw [b2_0 bq29] at q; cases q.1), fun q => by rw [apl2_0.mpr q.1] at hsp; cases hsp⟩), hS_f3.I⟩) hce hcv hcl (by omega) (by omega)
    obtain ⟨rfl, hsp, hfe⟩ := hp
    rw [hfe] at hw
    have hfit := apl2_0.mp hsp
    rw [apl1_fit (show ([] : List Int).length + (dec Z en).length ≤ 60 by simpa using hfit), List.nil_append] at hS_f3
    refine W.eq (g2 := F0 m 50 ls []) rfl ?_
    refine lv_aload_n hx hb d_DK_decode_50 rfl (lv_at hl 1 rfl) ?_
    refine lv_aload_n hx hb d_DK_decode_51 rfl (lv_at hl 1 rfl) ?_
    refine gf_DK_37_DK X hw hS_f3.1 d_DK_decode_52 ?_
    refine cs_DK_100 X hz hw hl.1 (c_DK_textOf l G f3 _ dr qd 60 (dec Z en) (apl2 60 [] (dec Z en) 0) ((dcl_rng rZ hen _ 0 (by omega))) (hfit) hS_f3.2.2.2.2.2.2.2.1.2.2) ⟨Nat.le_of_ble_eq_true rfl, Nat.le_of_ble_eq_true rfl⟩ ⟨by show 0 + 1 + 1 + 2 ≤ 5; omega, by show 0 + 6 + 6 + (3 + (dec Z en).length) ≤ 81; omega⟩ (Nat.le_of_ble_eq_true rfl) d_DK_decode_55 (fun v f4 H locs hp hw hsz9 hkp9 hdm9 => ?_)
    obtain ⟨tn, rfl, hn_tn, hlf_tn, hm_tn⟩ := hp
    have hS_f4 := hS_f3.more hm_tn
    refine W.eq (g2 := F0 m 58 ls [.ref tn, .ref x]) rfl ?_
    refine cs_DK_104 X hz hw hl.1 hS_f4.1 (c_DK_keepText l hlT G f4 _ tn (dec Z en) x ta sa yr dc bu dr qy qb qd gT gS c1 w1 T Y B Z (dec Z en) sB sZ (apl2 60 [] (dec Z en) 0) hS_f4 (fun _ => hlf_tn.tx _)) ⟨Nat.le_of_ble_eq_true rfl, Nat.le_of_ble_eq_true rfl⟩ ⟨by show 0 + 1 + 1 + 2 + 1 ≤ 5; omega, by show 0 + 6 + 6 + (3 + (dec Z en).length) + 6 ≤ 81; omega⟩ (Nat.le_of_ble_eq_true rfl) d_DK_decode_58 (fun E ce q9 f8 H locs hpx hw _ _ _ hce hcv hcl => ?_) (fun v f5 H locs hp hw hsz9 hkp9 hdm9 => ?_)
    · obtain ⟨rfl, hfull, hfe⟩ := hpx
      rw [hfe] at hw
      exact ct_out hnx hlk hw (⟨Or.inr (Or.inr ⟨rfl, hen, (fun q => by rw [b2_0 bq29] at q; cases q.1), fun q => by omega⟩), hS_f4.I⟩) hce hcv hcl (by omega) (by omega)
    obtain ⟨rfl, hTl, hS_f5⟩ := hp
    refine W.eq (g2 := F0 m 61 ls [.int (iI ((T.length : Int)))]) rfl ?_
    refine lv_istore (lv' := [(4, .int (iI ((T.length : Int)))), (3, .int (iI (b2 (dgd Z en)))), (0, .ref x), (1, .int (iI en)), (2, .int (iI (b2 st)))]) hx hb d_DK_decode_61 hl (by decide) rfl (fun ls hl => ?_)
    refine lv_aload_n hx hb d_DK_decode_63 rfl (lv_at hl 2 rfl) ?_
    refine gf_DK_23_DK X hw hS_f5.1 d_DK_decode_64 ?_
    refine cs_DK_70 X hz hw hl.1 hS_f5.2.2.2.2.2.2.2.1.1.choose_spec.1 (c_RW_drop l G f5 _ yr qy 200 Z sZ hS_f5.2.2.2.2.2.2.2.1.1) ⟨Nat.le_of_ble_eq_true rfl, Nat.le_of_ble_eq_true rfl⟩ ⟨by show 0 + 1 + 1 + 2 + 1 + 0 ≤ 5; omega, by show 0 + 6 + 6 + (3 + (dec Z en).length) + 6 + 0 ≤ 81; omega⟩ (Nat.le_of_ble_eq_true rfl) d_DK_decode_67 (fun v f6 H locs hp hw hsz9 hkp9 hdm9 => ?_)
    obtain ⟨rfl, hr_f6, hk_f6⟩ := hp
    have hx_f6 := exo_row hG hS_f5.2.2.2.2.2.2.2.1.1 hr_f6 (fun b h8 _ => hk_f6 b h8)
    refine W.eq (g2 := F0 m 70 ls []) rfl ?_
    have hS_f6 := hS_f5.byt hx_f6 hr_f6 mem_nil
    refine lv_iload hx hb d_DK_decode_70 (lv_at hl 0 rfl) ?_
    exact ct_iret hx hb hr  hlk hw (⟨rfl, hen, (fun q => by rw [b2_0 bq29] at q; cases q.1), hfit, hTl, hS_f6.I⟩) (by omega) (by omega) d_DK_decode_72
  · refine lv_iload_n hx hb d_DK_decode_32 rfl (lv_at hl 0 rfl) ?_
    refine di_if_ne (tgt := 46) hx hb d_DK_decode_33 (by decide) ⟨by omega, by omega⟩ (fun bq33 => ?_) (fun bq33 => ?_)
    · refine lv_aload_n hx hb d_DK_decode_46 rfl (lv_at hl 1 rfl) ?_
      refine cs_DK_78 X hz hw hl.1 hS_f3.1 (c_DK_refuseSpilledDraft l hlT G f3 _ x ta sa yr dc bu dr qy qb qd gT gS c1 w1 T Y B Z (apl1 60 [] (dec Z en)) sB sZ (apl2 60 [] (dec Z en) 0) hS_f3 (apl2_01 (Or.inl rfl))) ⟨Nat.le_of_ble_eq_true rfl, Nat.le_of_ble_eq_true rfl⟩ ⟨by show 0 + 1 + 1 ≤ 5; omega, by show 0 + 6 + 6 ≤ 81; omega⟩ (Nat.le_of_ble_eq_true rfl) d_DK_decode_47 (fun E ce q9 f8 H locs hpx hw _ _ _ hce hcv hcl => ?_) (fun v f9 H locs hp hw hsz9 hkp9 hdm9 => ?_)
      · obtain ⟨rfl, hsp, hfe⟩ := hpx
        rw [hfe] at hw
        exact ct_out hnx hlk hw (⟨Or.inr (Or.inr ⟨rfl, hen, (fun q => by rw [b2_1 bq33] at q; cases q.2), fun q => by rw [apl2_0.mpr q.1] at hsp; cases hsp⟩), hS_f3.I⟩) hce hcv hcl (by omega) (by omega)
      obtain ⟨rfl, hsp, hfe⟩ := hp
      rw [hfe] at hw
      have hfit := apl2_0.mp hsp
      rw [apl1_fit (show ([] : List Int).length + (dec Z en).length ≤ 60 by simpa using hfit), List.nil_append] at hS_f3
      refine W.eq (g2 := F0 m 50 ls []) rfl ?_
      refine lv_aload_n hx hb d_DK_decode_50 rfl (lv_at hl 1 rfl) ?_
      refine lv_aload_n hx hb d_DK_decode_51 rfl (lv_at hl 1 rfl) ?_
      refine gf_DK_37_DK X hw hS_f3.1 d_DK_decode_52 ?_
      refine cs_DK_100 X hz hw hl.1 (c_DK_textOf l G f3 _ dr qd 60 (dec Z en) (apl2 60 [] (dec Z en) 0) ((dcl_rng rZ hen _ 0 (by omega))) (hfit) hS_f3.2.2.2.2.2.2.2.1.2.2) ⟨Nat.le_of_ble_eq_true rfl, Nat.le_of_ble_eq_true rfl⟩ ⟨by show 0 + 1 + 1 + 2 ≤ 5; omega, by show 0 + 6 + 6 + (3 + (dec Z en).length) ≤ 81; omega⟩ (Nat.le_of_ble_eq_true rfl) d_DK_decode_55 (fun v f4 H locs hp hw hsz9 hkp9 hdm9 => ?_)
      obtain ⟨tn, rfl, hn_tn, hlf_tn, hm_tn⟩ := hp
      have hS_f4 := hS_f3.more hm_tn
      refine W.eq (g2 := F0 m 58 ls [.ref tn, .ref x]) rfl ?_
      refine cs_DK_104 X hz hw hl.1 hS_f4.1 (c_DK_keepText l hlT G f4 _ tn (dec Z en) x ta sa yr dc bu dr qy qb qd gT gS c1 w1 T Y B Z (dec Z en) sB sZ (apl2 60 [] (dec Z en) 0) hS_f4 (fun _ => hlf_tn.tx _)) ⟨Nat.le_of_ble_eq_true rfl, Nat.le_of_ble_eq_true rfl⟩ ⟨by show 0 + 1 + 1 + 2 + 1 ≤ 5; omega, by show 0 + 6 + 6 + (3 + (dec Z en).length) + 6 ≤ 81; omega⟩ (Nat.le_of_ble_eq_true rfl) d_DK_decode_58 (fun E ce q9 f8 H locs hpx hw _ _ _ hce hcv hcl => ?_) (fun v f5 H locs hp hw hsz9 hkp9 hdm9 => ?_)
      · obtain ⟨rfl, hfull, hfe⟩ := hpx
        rw [hfe] at hw
        exact ct_out hnx hlk hw (⟨Or.inr (Or.inr ⟨rfl, hen, (fun q => by rw [b2_1 bq33] at q; cases q.2), fun q => by omega⟩), hS_f4.I⟩) hce hcv hcl (by omega) (by omega)
      obtain ⟨rfl, hTl, hS_f5⟩ := hp
      refine W.eq (g2 := F0 m 61 ls [.int (iI ((T.length : Int)))]) rfl ?_
      refine lv_istore (lv' := [(4, .int (iI ((T.length : Int)))), (3, .int (iI (b2 (dgd Z en)))), (0, .ref x), (1, .int (iI en)), (2, .int (iI (b2 st)))]) hx hb d_DK_decode_61 hl (by decide) rfl (fun ls hl => ?_)
      refine lv_aload_n hx hb d_DK_decode_63 rfl (lv_at hl 2 rfl) ?_
      refine gf_DK_23_DK X hw hS_f5.1 d_DK_decode_64 ?_
      refine cs_DK_70 X hz hw hl.1 hS_f5.2.2.2.2.2.2.2.1.1.choose_spec.1 (c_RW_drop l G f5 _ yr qy 200 Z sZ hS_f5.2.2.2.2.2.2.2.1.1) ⟨Nat.le_of_ble_eq_true rfl, Nat.le_of_ble_eq_true rfl⟩ ⟨by show 0 + 1 + 1 + 2 + 1 + 0 ≤ 5; omega, by show 0 + 6 + 6 + (3 + (dec Z en).length) + 6 + 0 ≤ 81; omega⟩ (Nat.le_of_ble_eq_true rfl) d_DK_decode_67 (fun v f6 H locs hp hw hsz9 hkp9 hdm9 => ?_)
      obtain ⟨rfl, hr_f6, hk_f6⟩ := hp
      have hx_f6 := exo_row hG hS_f5.2.2.2.2.2.2.2.1.1 hr_f6 (fun b h8 _ => hk_f6 b h8)
      refine W.eq (g2 := F0 m 70 ls []) rfl ?_
      have hS_f6 := hS_f5.byt hx_f6 hr_f6 mem_nil
      refine lv_iload hx hb d_DK_decode_70 (lv_at hl 0 rfl) ?_
      exact ct_iret hx hb hr  hlk hw (⟨rfl, hen, (fun q => by rw [b2_1 bq33] at q; cases q.2), hfit, hTl, hS_f6.I⟩) (by omega) (by omega) d_DK_decode_72
    · exact th_UOE X hlT hz (is := 166) (text := "there is a bad row of bytes") (by decide +kernel) hw hl.1 hnx hlk (⟨Or.inr (Or.inl ⟨rfl, hen, b2_1 bq29, b2_0 (by omega)⟩), hS_f3.I⟩) ⟨by show 8 ≤ 9; omega, by show 120 ≤ 145; omega⟩ ⟨by show 0 + 1 + 1 ≤ 5; omega, by show 0 + 6 + 6 ≤ 81; omega⟩ ⟨by show 0 + 1 + 1 ≤ 5; omega, by show 0 + 6 + 6 ≤ 81; omega⟩ (Nat.le_of_ble_eq_true rfl) d_DK_decode_36 d_DK_decode_39 d_DK_decode_40 d_DK_decode_42 d_DK_decode_45
