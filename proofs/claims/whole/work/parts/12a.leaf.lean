section SL
variable {p : Program} {l : Launch} {e : Env} {R : Room} {s : State} {m : MethodId} {args : Array Value} {below : List Frame} {meth : Method} {c : Code} {H : Heap} {locs : List Loc} {cells slots : Nat} {Q : State → Prop}
variable {cc : ByteArray} {pc nL : Nat} {ls : Array Slot} {rest : List Value} {G : ct_G} {A : Nat → Prop} {a b : Nat} {f : dw_M} {H0 : Heap} {fr lo mc ms : Nat} {post : Option Value → dw_M → Prop} {px : String → dw_M → Prop}
theorem sl_RW_35 (X : cx G "TextDesk$Row" p s m args c cc nL) (hz : ct_z G A s) (hw : dw G.1 dk_cl A s.heap f H locs) (hls : ls.size = nL) {us : List Int} {k : Int} (ht : lf G f b us) (hk : iR k) (hR : 0 + 1 ≤ R.frames ∧ 8 + (2 + 11) + 0 ≤ R.locals) (hf : cells ≤ R.cells ∧ slots ≤ R.slots) (hW : (rest.map fun v => v.category).sum ≤ 8) (hdg : decode cc pc = .ok (.invokevirtual 35, 3))
    (kk : ∀ (H1 : Heap) (locs1 : List Loc), dw G.1 dk_cl A s.heap f H1 locs1 → W p l e R s m args below meth c H1 locs1 cells slots Q (F0 m (pc + 3) ls (.int (iI (gt us k)) :: rest))) : W p l e R s m args below meth c H locs cells slots Q (F0 m pc ls (.int (iI k) :: .ref b :: rest)) := by
  rcases ht with ht | ht
  · refine cs_RW_35_NT X hz hw hls ht.choose_spec.choose_spec.1 (c_NT_get l G f _ b us k hk ht) hR ⟨by omega, by omega⟩ hW hdg (fun v f9 H1 locs1 hp hw _ _ _ => ?_)
    obtain ⟨rfl, hfe⟩ := hp
    rw [hfe] at hw
    exact kk H1 locs1 hw
  · refine cs_RW_35_WT X hz hw hls ht.choose_spec.choose_spec.1 (c_WT_get l G f _ b us k hk ht) hR ⟨by omega, by omega⟩ hW hdg (fun v f9 H1 locs1 hp hw _ _ _ => ?_)
    obtain ⟨rfl, hfe⟩ := hp
    rw [hfe] at hw
    exact kk H1 locs1 hw
theorem sl_JT_43 (X : cx G "TextDesk$JoinedText" p s m args c cc nL) (hz : ct_z G A s) (hw : dw G.1 dk_cl A s.heap f H locs) (hls : ls.size = nL) {us : List Int} {k : Int} (ht : lf G f b us) (hk : iR k) (hR : 0 + 1 ≤ R.frames ∧ 8 + (2 + 11) + 0 ≤ R.locals) (hf : cells ≤ R.cells ∧ slots ≤ R.slots) (hW : (rest.map fun v => v.category).sum ≤ 8) (hdg : decode cc pc = .ok (.invokevirtual 43, 3))
    (kk : ∀ (H1 : Heap) (locs1 : List Loc), dw G.1 dk_cl A s.heap f H1 locs1 → W p l e R s m args below meth c H1 locs1 cells slots Q (F0 m (pc + 3) ls (.int (iI (gt us k)) :: rest))) : W p l e R s m args below meth c H locs cells slots Q (F0 m pc ls (.int (iI k) :: .ref b :: rest)) := by
  rcases ht with ht | ht
  · refine cs_JT_43_NT X hz hw hls ht.choose_spec.choose_spec.1 (c_NT_get l G f _ b us k hk ht) hR ⟨by omega, by omega⟩ hW hdg (fun v f9 H1 locs1 hp hw _ _ _ => ?_)
    obtain ⟨rfl, hfe⟩ := hp
    rw [hfe] at hw
    exact kk H1 locs1 hw
  · refine cs_JT_43_WT X hz hw hls ht.choose_spec.choose_spec.1 (c_WT_get l G f _ b us k hk ht) hR ⟨by omega, by omega⟩ hW hdg (fun v f9 H1 locs1 hp hw _ _ _ => ?_)
    obtain ⟨rfl, hfe⟩ := hp
    rw [hfe] at hw
    exact kk H1 locs1 hw
/-- the head of a text's cell, of any kind -/
theorem tx_head {G : ct_G} {f : dw_M} {d b : Nat} {us : List Int} (ht : tx G d f b us) : (∃ (q : Nat) (g : Nat → Int32), f b = some (.inr (1, [.int (iI us.length), .int (iI 1), .ref q])) ∧ nar us = 1) ∨ (∃ (q : Nat) (g : Nat → Int32), f b = some (.inr (2, [.int (iI us.length), .int (iI 0), .ref q])) ∧ nar us = 0) ∨ ∃ (x y : Nat) (fl : Option Nat), f b = some (.inr (3, [.int (iI us.length), .int (iI (nar us)), .ref x, .ref y, va_rf fl])) := by
  have hl : lf G f b us → (∃ (q : Nat) (g : Nat → Int32), f b = some (.inr (1, [.int (iI us.length), .int (iI 1), .ref q])) ∧ nar us = 1) ∨ (∃ (q : Nat) (g : Nat → Int32), f b = some (.inr (2, [.int (iI us.length), .int (iI 0), .ref q])) ∧ nar us = 0) ∨ ∃ (x y : Nat) (fl : Option Nat), f b = some (.inr (3, [.int (iI us.length), .int (iI (nar us)), .ref x, .ref y, va_rf fl])) := by
    intro h
    rcases h with ⟨q, g, h1, h2, h3, h4, h5⟩ | ⟨q, g, h1, h2, h3, h4, h5, h6⟩
    · exact Or.inl ⟨q, g, h1, nar_n h4⟩
    · exact Or.inr (Or.inl ⟨q, g, h1, nar_w h5⟩)
  cases d with
  | zero => exact hl ht
  | succ d =>
    rcases ht with h | ⟨x, y, ux, uy, fl, h1, -⟩
    · exact hl h
    · exact Or.inr (Or.inr ⟨x, y, fl, h1⟩)
theorem st_DK_77 (X : cx G "TextDesk" p s m args c cc nL) (hz : ct_z G A s) (hw : dw G.1 dk_cl A s.heap f H locs) (hls : ls.size = nL) {us : List Int} {d : Nat} (ht : tx G d f b us) (hR : 0 + 1 ≤ R.frames ∧ 8 + (1 + 11) + 0 ≤ R.locals) (hf : cells ≤ R.cells ∧ slots ≤ R.slots) (hW : (rest.map fun v => v.category).sum ≤ 8) (hdg : decode cc pc = .ok (.invokevirtual 77, 3))
    (kk : ∀ (H1 : Heap) (locs1 : List Loc), dw G.1 dk_cl A s.heap f H1 locs1 → W p l e R s m args below meth c H1 locs1 cells slots Q (F0 m (pc + 3) ls (.int (iI (us.length : Int)) :: rest))) : W p l e R s m args below meth c H locs cells slots Q (F0 m pc ls (.ref b :: rest)) := by
  rcases tx_head ht with ⟨q, g, h1, -⟩ | ⟨q, g, h1, -⟩ | ⟨x, y, fl, h1⟩
  · refine cs_DK_77_NT X hz hw hls h1 (c_TX_size_NT l G f _ b (us.length : Int) h1) hR ⟨by omega, by omega⟩ hW hdg (fun v f9 H1 locs1 hp hw _ _ _ => ?_)
    obtain ⟨rfl, hfe⟩ := hp
    rw [hfe] at hw
    exact kk H1 locs1 hw
  · refine cs_DK_77_WT X hz hw hls h1 (c_TX_size_WT l G f _ b (us.length : Int) h1) hR ⟨by omega, by omega⟩ hW hdg (fun v f9 H1 locs1 hp hw _ _ _ => ?_)
    obtain ⟨rfl, hfe⟩ := hp
    rw [hfe] at hw
    exact kk H1 locs1 hw
  · refine cs_DK_77_JT X hz hw hls h1 (c_TX_size_JT l G f _ b (us.length : Int) h1) hR ⟨by omega, by omega⟩ hW hdg (fun v f9 H1 locs1 hp hw _ _ _ => ?_)
    obtain ⟨rfl, hfe⟩ := hp
    rw [hfe] at hw
    exact kk H1 locs1 hw
theorem sq_RW_29 (X : cx G "TextDesk$Row" p s m args c cc nL) (hz : ct_z G A s) (hw : dw G.1 dk_cl A s.heap f H locs) (hls : ls.size = nL) {us : List Int} (ht : (∃ d, tx G d f b us) ∨ ∃ q n sp, rw G f b q n us sp) (hR : 0 + 1 ≤ R.frames ∧ 8 + (1 + 11) + 0 ≤ R.locals) (hf : cells ≤ R.cells ∧ slots ≤ R.slots) (hW : (rest.map fun v => v.category).sum ≤ 8) (hdg : decode cc pc = .ok (.invokevirtual 29, 3))
    (kk : ∀ (H1 : Heap) (locs1 : List Loc), dw G.1 dk_cl A s.heap f H1 locs1 → W p l e R s m args below meth c H1 locs1 cells slots Q (F0 m (pc + 3) ls (.int (iI (us.length : Int)) :: rest))) : W p l e R s m args below meth c H locs cells slots Q (F0 m pc ls (.ref b :: rest)) := by
  rcases ht with ⟨d, ht⟩ | ⟨q, n, sp, ht⟩
  rcases tx_head ht with ⟨q, g, h1, -⟩ | ⟨q, g, h1, -⟩ | ⟨x, y, fl, h1⟩
  · refine cs_RW_29_NT X hz hw hls h1 (c_TX_size_NT l G f _ b (us.length : Int) h1) hR ⟨by omega, by omega⟩ hW hdg (fun v f9 H1 locs1 hp hw _ _ _ => ?_)
    obtain ⟨rfl, hfe⟩ := hp
    rw [hfe] at hw
    exact kk H1 locs1 hw
  · refine cs_RW_29_WT X hz hw hls h1 (c_TX_size_WT l G f _ b (us.length : Int) h1) hR ⟨by omega, by omega⟩ hW hdg (fun v f9 H1 locs1 hp hw _ _ _ => ?_)
    obtain ⟨rfl, hfe⟩ := hp
    rw [hfe] at hw
    exact kk H1 locs1 hw
  · refine cs_RW_29_JT X hz hw hls h1 (c_TX_size_JT l G f _ b (us.length : Int) h1) hR ⟨by omega, by omega⟩ hW hdg (fun v f9 H1 locs1 hp hw _ _ _ => ?_)
    obtain ⟨rfl, hfe⟩ := hp
    rw [hfe] at hw
    exact kk H1 locs1 hw
  · refine cs_RW_29_RW X hz hw hls ht.choose_spec.1 (c_RW_size l G f _ b q n us sp ht) hR ⟨by omega, by omega⟩ hW hdg (fun v f9 H1 locs1 hp hw _ _ _ => ?_)
    obtain ⟨rfl, hfe⟩ := hp
    rw [hfe] at hw
    exact kk H1 locs1 hw
theorem sq_DK_182 (X : cx G "TextDesk" p s m args c cc nL) (hz : ct_z G A s) (hw : dw G.1 dk_cl A s.heap f H locs) (hls : ls.size = nL) {us : List Int} (ht : (∃ d, tx G d f b us) ∨ ∃ q n sp, rw G f b q n us sp) (hR : 0 + 1 ≤ R.frames ∧ 8 + (1 + 11) + 0 ≤ R.locals) (hf : cells ≤ R.cells ∧ slots ≤ R.slots) (hW : (rest.map fun v => v.category).sum ≤ 8) (hdg : decode cc pc = .ok (.invokevirtual 182, 3))
    (kk : ∀ (H1 : Heap) (locs1 : List Loc), dw G.1 dk_cl A s.heap f H1 locs1 → W p l e R s m args below meth c H1 locs1 cells slots Q (F0 m (pc + 3) ls (.int (iI (us.length : Int)) :: rest))) : W p l e R s m args below meth c H locs cells slots Q (F0 m pc ls (.ref b :: rest)) := by
  rcases ht with ⟨d, ht⟩ | ⟨q, n, sp, ht⟩
  rcases tx_head ht with ⟨q, g, h1, -⟩ | ⟨q, g, h1, -⟩ | ⟨x, y, fl, h1⟩
  · refine cs_DK_182_NT X hz hw hls h1 (c_TX_size_NT l G f _ b (us.length : Int) h1) hR ⟨by omega, by omega⟩ hW hdg (fun v f9 H1 locs1 hp hw _ _ _ => ?_)
    obtain ⟨rfl, hfe⟩ := hp
    rw [hfe] at hw
    exact kk H1 locs1 hw
  · refine cs_DK_182_WT X hz hw hls h1 (c_TX_size_WT l G f _ b (us.length : Int) h1) hR ⟨by omega, by omega⟩ hW hdg (fun v f9 H1 locs1 hp hw _ _ _ => ?_)
    obtain ⟨rfl, hfe⟩ := hp
    rw [hfe] at hw
    exact kk H1 locs1 hw
  · refine cs_DK_182_JT X hz hw hls h1 (c_TX_size_JT l G f _ b (us.length : Int) h1) hR ⟨by omega, by omega⟩ hW hdg (fun v f9 H1 locs1 hp hw _ _ _ => ?_)
    obtain ⟨rfl, hfe⟩ := hp
    rw [hfe] at hw
    exact kk H1 locs1 hw
  · refine cs_DK_182_RW X hz hw hls ht.choose_spec.1 (c_RW_size l G f _ b q n us sp ht) hR ⟨by omega, by omega⟩ hW hdg (fun v f9 H1 locs1 hp hw _ _ _ => ?_)
    obtain ⟨rfl, hfe⟩ := hp
    rw [hfe] at hw
    exact kk H1 locs1 hw
theorem st_JT_1 (X : cx G "TextDesk$JoinedText" p s m args c cc nL) (hz : ct_z G A s) (hw : dw G.1 dk_cl A s.heap f H locs) (hls : ls.size = nL) {us : List Int} {d : Nat} (ht : tx G d f b us) (hR : 0 + 1 ≤ R.frames ∧ 8 + (1 + 11) + 0 ≤ R.locals) (hf : cells ≤ R.cells ∧ slots ≤ R.slots) (hW : (rest.map fun v => v.category).sum ≤ 8) (hdg : decode cc pc = .ok (.invokevirtual 1, 3))
    (kk : ∀ (H1 : Heap) (locs1 : List Loc), dw G.1 dk_cl A s.heap f H1 locs1 → W p l e R s m args below meth c H1 locs1 cells slots Q (F0 m (pc + 3) ls (.int (iI (us.length : Int)) :: rest))) : W p l e R s m args below meth c H locs cells slots Q (F0 m pc ls (.ref b :: rest)) := by
  rcases tx_head ht with ⟨q, g, h1, -⟩ | ⟨q, g, h1, -⟩ | ⟨x, y, fl, h1⟩
  · refine cs_JT_1_NT X hz hw hls h1 (c_TX_size_NT l G f _ b (us.length : Int) h1) hR ⟨by omega, by omega⟩ hW hdg (fun v f9 H1 locs1 hp hw _ _ _ => ?_)
    obtain ⟨rfl, hfe⟩ := hp
    rw [hfe] at hw
    exact kk H1 locs1 hw
  · refine cs_JT_1_WT X hz hw hls h1 (c_TX_size_WT l G f _ b (us.length : Int) h1) hR ⟨by omega, by omega⟩ hW hdg (fun v f9 H1 locs1 hp hw _ _ _ => ?_)
    obtain ⟨rfl, hfe⟩ := hp
    rw [hfe] at hw
    exact kk H1 locs1 hw
  · refine cs_JT_1_JT X hz hw hls h1 (c_TX_size_JT l G f _ b (us.length : Int) h1) hR ⟨by omega, by omega⟩ hW hdg (fun v f9 H1 locs1 hp hw _ _ _ => ?_)
    obtain ⟨rfl, hfe⟩ := hp
    rw [hfe] at hw
    exact kk H1 locs1 hw
theorem st_JT_7 (X : cx G "TextDesk$JoinedText" p s m args c cc nL) (hz : ct_z G A s) (hw : dw G.1 dk_cl A s.heap f H locs) (hls : ls.size = nL) {us : List Int} {d : Nat} (ht : tx G d f b us) (hR : 0 + 1 ≤ R.frames ∧ 8 + (1 + 11) + 0 ≤ R.locals) (hf : cells ≤ R.cells ∧ slots ≤ R.slots) (hW : (rest.map fun v => v.category).sum ≤ 8) (hdg : decode cc pc = .ok (.invokevirtual 7, 3))
    (kk : ∀ (H1 : Heap) (locs1 : List Loc), dw G.1 dk_cl A s.heap f H1 locs1 → W p l e R s m args below meth c H1 locs1 cells slots Q (F0 m (pc + 3) ls (.int (iI (nar us)) :: rest))) : W p l e R s m args below meth c H locs cells slots Q (F0 m pc ls (.ref b :: rest)) := by
  rcases tx_head ht with ⟨q, g, h1, hn⟩ | ⟨q, g, h1, hn⟩ | ⟨x, y, fl, h1⟩
  · refine cs_JT_7_NT X hz hw hls h1 (c_TX_isNarrow_NT l G f _ b 1 (by decide) h1) hR ⟨by omega, by omega⟩ hW hdg (fun v f9 H1 locs1 hp hw _ _ _ => ?_)
    obtain ⟨rfl, hfe⟩ := hp
    rw [hfe] at hw
    rw [hn] at kk; exact kk H1 locs1 hw
  · refine cs_JT_7_WT X hz hw hls h1 (c_TX_isNarrow_WT l G f _ b 0 (by decide) h1) hR ⟨by omega, by omega⟩ hW hdg (fun v f9 H1 locs1 hp hw _ _ _ => ?_)
    obtain ⟨rfl, hfe⟩ := hp
    rw [hfe] at hw
    rw [hn] at kk; exact kk H1 locs1 hw
  · refine cs_JT_7_JT X hz hw hls h1 (c_TX_isNarrow_JT l G f _ b (nar us) (nar_01 us) h1) hR ⟨by omega, by omega⟩ hW hdg (fun v f9 H1 locs1 hp hw _ _ _ => ?_)
    obtain ⟨rfl, hfe⟩ := hp
    rw [hfe] at hw
    exact kk H1 locs1 hw
theorem st_DK_131 (X : cx G "TextDesk" p s m args c cc nL) (hz : ct_z G A s) (hw : dw G.1 dk_cl A s.heap f H locs) (hls : ls.size = nL) {us : List Int} {d : Nat} (ht : tx G d f b us) (hR : 0 + 1 ≤ R.frames ∧ 8 + (1 + 11) + 0 ≤ R.locals) (hf : cells ≤ R.cells ∧ slots ≤ R.slots) (hW : (rest.map fun v => v.category).sum ≤ 8) (hdg : decode cc pc = .ok (.invokevirtual 131, 3))
    (kk : ∀ (H1 : Heap) (locs1 : List Loc), dw G.1 dk_cl A s.heap f H1 locs1 → W p l e R s m args below meth c H1 locs1 cells slots Q (F0 m (pc + 3) ls (.int (iI (nar us)) :: rest))) : W p l e R s m args below meth c H locs cells slots Q (F0 m pc ls (.ref b :: rest)) := by
  rcases tx_head ht with ⟨q, g, h1, hn⟩ | ⟨q, g, h1, hn⟩ | ⟨x, y, fl, h1⟩
  · refine cs_DK_131_NT X hz hw hls h1 (c_TX_isNarrow_NT l G f _ b 1 (by decide) h1) hR ⟨by omega, by omega⟩ hW hdg (fun v f9 H1 locs1 hp hw _ _ _ => ?_)
    obtain ⟨rfl, hfe⟩ := hp
    rw [hfe] at hw
    rw [hn] at kk; exact kk H1 locs1 hw
  · refine cs_DK_131_WT X hz hw hls h1 (c_TX_isNarrow_WT l G f _ b 0 (by decide) h1) hR ⟨by omega, by omega⟩ hW hdg (fun v f9 H1 locs1 hp hw _ _ _ => ?_)
    obtain ⟨rfl, hfe⟩ := hp
    rw [hfe] at hw
    rw [hn] at kk; exact kk H1 locs1 hw
  · refine cs_DK_131_JT X hz hw hls h1 (c_TX_isNarrow_JT l G f _ b (nar us) (nar_01 us) h1) hR ⟨by omega, by omega⟩ hW hdg (fun v f9 H1 locs1 hp hw _ _ _ => ?_)
    obtain ⟨rfl, hfe⟩ := hp
    rw [hfe] at hw
    exact kk H1 locs1 hw
theorem st_EN_9 (X : cx G "TextDesk$Encoder" p s m args c cc nL) (hz : ct_z G A s) (hw : dw G.1 dk_cl A s.heap f H locs) (hls : ls.size = nL) {us : List Int} {d : Nat} (ht : tx G d f b us) (hR : 0 + 1 ≤ R.frames ∧ 8 + (1 + 11) + 0 ≤ R.locals) (hf : cells ≤ R.cells ∧ slots ≤ R.slots) (hW : (rest.map fun v => v.category).sum ≤ 8) (hdg : decode cc pc = .ok (.invokevirtual 9, 3))
    (kk : ∀ (H1 : Heap) (locs1 : List Loc), dw G.1 dk_cl A s.heap f H1 locs1 → W p l e R s m args below meth c H1 locs1 cells slots Q (F0 m (pc + 3) ls (.int (iI (us.length : Int)) :: rest))) : W p l e R s m args below meth c H locs cells slots Q (F0 m pc ls (.ref b :: rest)) := by
  rcases tx_head ht with ⟨q, g, h1, -⟩ | ⟨q, g, h1, -⟩ | ⟨x, y, fl, h1⟩
  · refine cs_EN_9_NT X hz hw hls h1 (c_TX_size_NT l G f _ b (us.length : Int) h1) hR ⟨by omega, by omega⟩ hW hdg (fun v f9 H1 locs1 hp hw _ _ _ => ?_)
    obtain ⟨rfl, hfe⟩ := hp
    rw [hfe] at hw
    exact kk H1 locs1 hw
  · refine cs_EN_9_WT X hz hw hls h1 (c_TX_size_WT l G f _ b (us.length : Int) h1) hR ⟨by omega, by omega⟩ hW hdg (fun v f9 H1 locs1 hp hw _ _ _ => ?_)
    obtain ⟨rfl, hfe⟩ := hp
    rw [hfe] at hw
    exact kk H1 locs1 hw
  · refine cs_EN_9_JT X hz hw hls h1 (c_TX_size_JT l G f _ b (us.length : Int) h1) hR ⟨by omega, by omega⟩ hW hdg (fun v f9 H1 locs1 hp hw _ _ _ => ?_)
    obtain ⟨rfl, hfe⟩ := hp
    rw [hfe] at hw
    exact kk H1 locs1 hw
end SL
