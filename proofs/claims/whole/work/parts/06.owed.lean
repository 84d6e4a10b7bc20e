/-- the reference holds words and a sign; the component holds the same, beside the microcode that its constructor wrote -/
def i_Rel (_ : Nat) (u : SX) (v : SY) : Prop := ∃ (ir ad : Int32) (mc : Nat → Int32), (∀ j, j < 68 → mc j = nI (mx_N j)) ∧ mz_ok v ∧ u = mz_up ir ad mc v
theorem i_up {k : Nat} {u : SX} {v : SY} (h : i_Rel k u v) : i_Rel (k + 3) u v := h
theorem i_vc0 : wpX_init (fun u => wpY_init (fun v => i_Rel 0 u v)) := by
  refine mx_init ?_
  exact ⟨0, 0, mx_C, mx_tab, ⟨mc_wd0, Or.inr (Or.inl rfl), fun _ => mc_wd0, fun _ => mc_wd0⟩, rfl⟩
theorem i_vc_poke {k : Nat} {u : SX} {v : SY} (I : i_Rel k u v) (hk : k + 3 ≤ 1536) (v1 : Int32) (v2 : Int32) : wpX_poke (fun r u' => wpY_poke (fun r' v' => r' = r ∧ i_Rel (k + 3) u' v') v v1 v2) u v1 v2 := by
  obtain ⟨ir, ad, mc, hm, ok, rfl⟩ := I
  obtain ⟨pc, sg, st, ct, rg, ce⟩ := v
  have ⟨h1, h2, h3, h4⟩ := ok
  have J : i_Rel (k + 3) (pc, ir, ad, sg, st, ct, mc, rg, ce) (pc, sg, st, ct, rg, ce) := ⟨ir, ad, mc, hm, ok, rfl⟩
  show wpX_poke _ (pc, ir, ad, sg, st, ct, mc, rg, ce) v1 v2
  unfold wpX_poke
  by_cases a : v1 < 0
  · refine mw_cell0 (Or.inl a) ?_
    refine br_t rfl ?_
    exact br_t a ⟨rfl, J⟩
  · rcases pk_ix v1 (n := 64) (by decide) with b | b | ⟨j, hj, rfl⟩
    · exact absurd b a
    · refine mw_cell0 (Or.inr b) ?_
      refine br_t rfl ?_
      exact br_f a (br_t (Int32.lt_of_lt_of_le (by decide) b) ⟨rfl, J⟩)
    · refine mw_cell1 hj ?_
      refine br_f (by decide) ?_
      have g : ¬ (63 : Int32) < nI j := nI_nlt (a := 63) (by omega) (by decide)
      rcases pk_ix v2 (n := 65536) (by decide) with b | b | ⟨w, hw, rfl⟩
      · refine mw_word0 (Or.inl b) ?_
        refine br_t rfl ?_
        refine br_f a (br_f g ?_)
        refine mw_y0 (Or.inl b) ?_
        exact br_t rfl ⟨rfl, J⟩
      · refine mw_word0 (Or.inr b) ?_
        refine br_t rfl ?_
        refine br_f a (br_f g ?_)
        refine mw_y0 (Or.inr b) ?_
        exact br_t rfl ⟨rfl, J⟩
      · refine mw_word1 hw ?_
        have hin : vp_in (nI j) 64 := vp_in_nI hj (by decide)
        refine br_f (by decide) ⟨hin, nm_e ?_⟩
        refine br_f a (br_f g ?_)
        refine mw_y1 hw ?_
        exact br_f (by decide) ⟨hin, nm_e ⟨rfl, ⟨ir, ad, mc, hm, ⟨h1, h2, h3, mz_upd _ h4 (mc_nI_wd hw)⟩, rfl⟩⟩⟩
theorem i_vc_setRegister {k : Nat} {u : SX} {v : SY} (I : i_Rel k u v) (hk : k + 3 ≤ 1536) (v1 : Int32) (v2 : Int32) : wpX_setRegister (fun r u' => wpY_setRegister (fun r' v' => r' = r ∧ i_Rel (k + 3) u' v') v v1 v2) u v1 v2 := by
  obtain ⟨ir, ad, mc, hm, ok, rfl⟩ := I
  obtain ⟨pc, sg, st, ct, rg, ce⟩ := v
  have ⟨h1, h2, h3, h4⟩ := ok
  have J : i_Rel (k + 3) (pc, ir, ad, sg, st, ct, mc, rg, ce) (pc, sg, st, ct, rg, ce) := ⟨ir, ad, mc, hm, ok, rfl⟩
  show wpX_setRegister _ (pc, ir, ad, sg, st, ct, mc, rg, ce) v1 v2
  unfold wpX_setRegister
  by_cases a : v1 < 0
  · refine mw_regi0 (Or.inl a) ?_
    refine br_t rfl ?_
    exact br_t a ⟨rfl, J⟩
  · rcases pk_ix v1 (n := 8) (by decide) with b | b | ⟨j, hj, rfl⟩
    · exact absurd b a
    · refine mw_regi0 (Or.inr b) ?_
      refine br_t rfl ?_
      exact br_f a (br_t (Int32.lt_of_lt_of_le (by decide) b) ⟨rfl, J⟩)
    · refine mw_regi1 hj ?_
      refine br_f (by decide) ?_
      have g : ¬ (7 : Int32) < nI j := nI_nlt (a := 7) (by omega) (by decide)
      rcases pk_ix v2 (n := 65536) (by decide) with b | b | ⟨w, hw, rfl⟩
      · refine mw_word0 (Or.inl b) ?_
        refine br_t rfl ?_
        refine br_f a (br_f g ?_)
        refine mw_y0 (Or.inl b) ?_
        exact br_t rfl ⟨rfl, J⟩
      · refine mw_word0 (Or.inr b) ?_
        refine br_t rfl ?_
        refine br_f a (br_f g ?_)
        refine mw_y0 (Or.inr b) ?_
        exact br_t rfl ⟨rfl, J⟩
      · refine mw_word1 hw ?_
        have hin : vp_in (nI j) 8 := vp_in_nI hj (by decide)
        refine br_f (by decide) ⟨hin, nm_e ?_⟩
        refine br_f a (br_f g ?_)
        refine mw_y1 hw ?_
        exact br_f (by decide) ⟨hin, nm_e ⟨rfl, ⟨ir, ad, mc, hm, ⟨h1, h2, mz_upd _ h3 (mc_nI_wd hw), h4⟩, rfl⟩⟩⟩
theorem i_vc_peek {k : Nat} {u : SX} {v : SY} (I : i_Rel k u v) (hk : k + 3 ≤ 1536) (v1 : Int32) : wpX_peek (fun r => wpY_peek (fun r' => r' = r ∧ i_Rel (k + 3) u v) v v1) u v1 := by
  obtain ⟨ir, ad, mc, hm, ok, rfl⟩ := I
  obtain ⟨pc, sg, st, ct, rg, ce⟩ := v
  have ⟨h1, h2, h3, h4⟩ := ok
  have J : i_Rel (k + 3) (pc, ir, ad, sg, st, ct, mc, rg, ce) (pc, sg, st, ct, rg, ce) := ⟨ir, ad, mc, hm, ok, rfl⟩
  show wpX_peek _ (pc, ir, ad, sg, st, ct, mc, rg, ce) v1
  unfold wpX_peek
  by_cases a : v1 < 0
  · refine mw_cell0 (Or.inl a) ?_
    refine br_t rfl ?_
    exact br_t a ⟨rfl, J⟩
  · rcases pk_ix v1 (n := 64) (by decide) with b | b | ⟨j, hj, rfl⟩
    · exact absurd b a
    · refine mw_cell0 (Or.inr b) ?_
      refine br_t rfl ?_
      exact br_f a (br_t (Int32.lt_of_lt_of_le (by decide) b) ⟨rfl, J⟩)
    · refine mw_cell1 hj ?_
      have g : ¬ (63 : Int32) < nI j := nI_nlt (a := 63) (by omega) (by decide)
      have hin : vp_in (nI j) 64 := vp_in_nI hj (by decide)
      refine br_f (by decide) ⟨hin, ?_⟩
      exact br_f a (br_f g ⟨hin, rfl, J⟩)
theorem i_vc_register {k : Nat} {u : SX} {v : SY} (I : i_Rel k u v) (hk : k + 3 ≤ 1536) (v1 : Int32) : wpX_register (fun r => wpY_register (fun r' => r' = r ∧ i_Rel (k + 3) u v) v v1) u v1 := by
  obtain ⟨ir, ad, mc, hm, ok, rfl⟩ := I
  obtain ⟨pc, sg, st, ct, rg, ce⟩ := v
  have ⟨h1, h2, h3, h4⟩ := ok
  have J : i_Rel (k + 3) (pc, ir, ad, sg, st, ct, mc, rg, ce) (pc, sg, st, ct, rg, ce) := ⟨ir, ad, mc, hm, ok, rfl⟩
  show wpX_register _ (pc, ir, ad, sg, st, ct, mc, rg, ce) v1
  unfold wpX_register
  by_cases a : v1 < 0
  · refine mw_regi0 (Or.inl a) ?_
    refine br_t rfl ?_
    exact br_t a ⟨rfl, J⟩
  · rcases pk_ix v1 (n := 8) (by decide) with b | b | ⟨j, hj, rfl⟩
    · exact absurd b a
    · refine mw_regi0 (Or.inr b) ?_
      refine br_t rfl ?_
      exact br_f a (br_t (Int32.lt_of_lt_of_le (by decide) b) ⟨rfl, J⟩)
    · refine mw_regi1 hj ?_
      have g : ¬ (7 : Int32) < nI j := nI_nlt (a := 7) (by omega) (by decide)
      have hin : vp_in (nI j) 8 := vp_in_nI hj (by decide)
      refine br_f (by decide) ⟨hin, ?_⟩
      exact br_f a (br_f g ⟨hin, rfl, J⟩)
theorem i_vc_start {k : Nat} {u : SX} {v : SY} (I : i_Rel k u v) (hk : k + 3 ≤ 1536) (v1 : Int32) : wpX_start (fun r u' => wpY_start (fun r' v' => r' = r ∧ i_Rel (k + 3) u' v') v v1) u v1 := by
  obtain ⟨ir, ad, mc, hm, ok, rfl⟩ := I
  obtain ⟨pc, sg, st, ct, rg, ce⟩ := v
  have ⟨h1, h2, h3, h4⟩ := ok
  have J : i_Rel (k + 3) (pc, ir, ad, sg, st, ct, mc, rg, ce) (pc, sg, st, ct, rg, ce) := ⟨ir, ad, mc, hm, ok, rfl⟩
  show wpX_start _ (pc, ir, ad, sg, st, ct, mc, rg, ce) v1
  unfold wpX_start wpY_start
  rcases pk_ix v1 (n := 65536) (by decide) with b | b | ⟨w, hw, rfl⟩
  · refine mw_word0 (Or.inl b) ?_
    refine br_t rfl ?_
    refine mw_y0 (Or.inl b) ?_
    exact br_t rfl ⟨rfl, J⟩
  · refine mw_word0 (Or.inr b) ?_
    refine br_t rfl ?_
    refine mw_y0 (Or.inr b) ?_
    exact br_t rfl ⟨rfl, J⟩
  · refine mw_word1 hw ?_
    refine br_f (by decide) ?_
    refine mw_y1 hw ?_
    exact br_f (by decide) ⟨rfl, ⟨ir, ad, mc, hm, ⟨mc_nI_wd hw, h2, h3, h4⟩, rfl⟩⟩
theorem i_vc_step {k : Nat} {u : SX} {v : SY} (I : i_Rel k u v) (hk : k + 3 ≤ 1536) (v1 : Int32) : wpX_step (fun r u' => wpY_step (fun r' v' => r' = r ∧ i_Rel (k + 3) u' v') v v1) u v1 := by
  obtain ⟨ir, ad, mc, hm, ok, rfl⟩ := I
  obtain ⟨pc, sg, st, ct, rg, ce⟩ := v
  have ⟨h1, h2, h3, h4⟩ := ok
  have J : i_Rel (k + 3) (pc, ir, ad, sg, st, ct, mc, rg, ce) (pc, sg, st, ct, rg, ce) := ⟨ir, ad, mc, hm, ok, rfl⟩
  show wpX_step _ (pc, ir, ad, sg, st, ct, mc, rg, ce) v1
  rcases pk_ix v1 (n := 101) (by decide) with b | b | ⟨j, hj, rfl⟩
  · have c : v1 ≤ 100 := Int32.le_trans (Int32.le_of_lt b) (by decide)
    have z : ¬ (0 : Int32) ≤ v1 := Int32.not_le.mpr b
    refine br_t c ⟨1, br_t (Int32.le_of_lt b) (nm_e ?_)⟩
    exact br_f z ⟨1, br_t (by decide) (nm_e ⟨rfl, ⟨ir, ad, mc, hm, ok, rfl⟩⟩)⟩
  · have c : ¬ v1 ≤ 100 := Int32.not_le.mpr (Int32.lt_of_lt_of_le (by decide) b)
    have z : (0 : Int32) ≤ v1 := Int32.le_trans (by decide) b
    obtain ⟨r, v, okv, hX, hY⟩ := mz_loop hm 100 (by decide) 100 0 pc ir ad sg st ct rg ce rfl ok
    exact br_f c ⟨101, hX _ (fun ir' ad' => br_t z (br_f c ⟨101, hY _ ⟨rfl, ⟨ir', ad', mc, hm, okv, rfl⟩⟩⟩))⟩
  · have c : nI j ≤ 100 := nI_le (b := 100) (by omega) (by decide)
    have z : (0 : Int32) ≤ nI j := nI_pos' (by omega)
    obtain ⟨r, v, okv, hX, hY⟩ := mz_loop hm j (by omega) j 0 pc ir ad sg st ct rg ce (by omega) ok
    exact br_t c ⟨j + 1, hX _ (fun ir' ad' => br_t z (br_t c ⟨j + 1, hY _ ⟨rfl, ⟨ir', ad', mc, hm, okv, rfl⟩⟩⟩))⟩
theorem i_vc_place {k : Nat} {u : SX} {v : SY} (I : i_Rel k u v) (hk : k + 3 ≤ 1536) : wpX_place (fun r => wpY_place (fun r' => r' = r ∧ i_Rel (k + 3) u v) v) u := by
  obtain ⟨ir, ad, mc, hm, ok, rfl⟩ := I
  obtain ⟨pc, sg, st, ct, rg, ce⟩ := v
  have ⟨h1, h2, h3, h4⟩ := ok
  have J : i_Rel (k + 3) (pc, ir, ad, sg, st, ct, mc, rg, ce) (pc, sg, st, ct, rg, ce) := ⟨ir, ad, mc, hm, ok, rfl⟩
  exact And.intro rfl J
theorem i_vc_sign {k : Nat} {u : SX} {v : SY} (I : i_Rel k u v) (hk : k + 3 ≤ 1536) : wpX_sign (fun r => wpY_sign (fun r' => r' = r ∧ i_Rel (k + 3) u v) v) u := by
  obtain ⟨ir, ad, mc, hm, ok, rfl⟩ := I
  obtain ⟨pc, sg, st, ct, rg, ce⟩ := v
  have ⟨h1, h2, h3, h4⟩ := ok
  have J : i_Rel (k + 3) (pc, ir, ad, sg, st, ct, mc, rg, ce) (pc, sg, st, ct, rg, ce) := ⟨ir, ad, mc, hm, ok, rfl⟩
  exact And.intro rfl J
theorem i_vc_status {k : Nat} {u : SX} {v : SY} (I : i_Rel k u v) (hk : k + 3 ≤ 1536) : wpX_status (fun r => wpY_status (fun r' => r' = r ∧ i_Rel (k + 3) u v) v) u := by
  obtain ⟨ir, ad, mc, hm, ok, rfl⟩ := I
  obtain ⟨pc, sg, st, ct, rg, ce⟩ := v
  have ⟨h1, h2, h3, h4⟩ := ok
  have J : i_Rel (k + 3) (pc, ir, ad, sg, st, ct, mc, rg, ce) (pc, sg, st, ct, rg, ce) := ⟨ir, ad, mc, hm, ok, rfl⟩
  exact And.intro rfl J
theorem i_vc_count {k : Nat} {u : SX} {v : SY} (I : i_Rel k u v) (hk : k + 3 ≤ 1536) : wpX_count (fun r => wpY_count (fun r' => r' = r ∧ i_Rel (k + 3) u v) v) u := by
  obtain ⟨ir, ad, mc, hm, ok, rfl⟩ := I
  obtain ⟨pc, sg, st, ct, rg, ce⟩ := v
  have ⟨h1, h2, h3, h4⟩ := ok
  have J : i_Rel (k + 3) (pc, ir, ad, sg, st, ct, mc, rg, ce) (pc, sg, st, ct, rg, ce) := ⟨ir, ad, mc, hm, ok, rfl⟩
  exact And.intro rfl J
