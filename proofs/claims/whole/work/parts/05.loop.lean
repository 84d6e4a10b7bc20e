/-! The loop of step on both sides, and the small tests -/
theorem mz_loop {mc : Nat → Int32} (hm : ∀ j, j < 68 → mc j = nI (mx_N j)) (n : Nat) (hn : n ≤ 100) : ∀ (d i : Nat) (pc ir ad sg st ct : Int32) (rg ce : Nat → Int32), i + d = n → mz_ok (pc, sg, st, ct, rg, ce) → ∃ (r : Int32) (v : SY), mz_ok v ∧ (∀ post : Int32 → SX → Prop, (∀ ir' ad', post r (mz_up ir' ad' mc v)) → wX_step_15 post (nI n) (d + 1) (nI i) pc ir ad sg st ct mc rg ce) ∧ (∀ post : Int32 → SY → Prop, post r v → wY_step_26 post (nI n) (d + 1) (nI i) (nI i) pc sg st ct rg ce) := by
  intro d
  induction d with
  | zero =>
    intro i pc ir ad sg st ct rg ce hi ok
    have h : nI n ≤ nI i := nI_le (by omega) (by omega)
    exact ⟨nI i, (pc, sg, st, ct + nI i, rg, ce), ok, fun post hp => br_t h (nm_e (hp ir ad)), fun post hp => br_t h (nm_e hp)⟩
  | succ d ih =>
    intro i pc ir ad sg st ct rg ce hi ok
    have h : ¬ nI n ≤ nI i := nI_ge (by omega) (by omega)
    by_cases hst : st = 0
    · have ⟨h1, h2, h3, h4⟩ := ok
      obtain ⟨w, hw, he⟩ := mc_wd_nI (h4 (pc &&& 63).toNatClampNeg)
      have he' : ce (pc &&& 63).toNatClampNeg = nI w := he
      have ho : w / 4096 < 16 := by omega
      have ok1 : mz_ok ((pc + 1) &&& 65535, sg, st, ct, rg, ce) := ⟨mc_wd_and _, h2, h3, h4⟩
      have ok2 : mz_ok (my_in (w / 4096) (nI w) ((pc + 1) &&& 65535, sg, st, ct, rg, ce)) := mz_okI ok1
      obtain ⟨a, ea⟩ := mz_all (ir := nI w) (ad := pc) (sg := sg) (st := st) (ct := ct) (mc := mc) (ce := ce) ho ok1.1 h3
      have ef := mz_fetch (pc := pc) (ir := ir) (ad := ad) (sg := sg) (st := st) (ct := ct) (mc := mc) (rg := rg) (ce := ce) h1 h4
      rw [he'] at ef
      have hx : ∀ post : SY → Prop, post (my_in (w / 4096) (nI w) ((pc + 1) &&& 65535, sg, st, ct, rg, ce)) → wpY_execute post (pc, sg, st, ct, rg, ce) := fun post hp => my_exec hw he' h2 hp
      generalize my_in (w / 4096) (nI w) ((pc + 1) &&& 65535, sg, st, ct, rg, ce) = v1 at ok2 ea hx
      obtain ⟨pc1, sg1, st1, ct1, rg1, ce1⟩ := v1
      obtain ⟨r, v, okv, hX, hY⟩ := ih (i + 1) pc1 (nI w) a sg1 st1 ct1 rg1 ce1 (by omega) ok2
      refine ⟨r, v, okv, fun post hp => br_f h (br_t hst ?_), fun post hp => br_f h (br_t hst (hx _ ?_))⟩
      · refine mx_run 16 (by decide) _ hm ?_
        rw [ef]
        dsimp only
        rw [mc_op15 hw]
        refine mx_run (w / 4096) (by omega) _ hm ?_
        rw [ea]
        exact nm_r (nI_1 i) (hX post hp)
      · exact nm_r (nI_1 i) (nm_r (nI_1 i) (hY post hp))
    · exact ⟨nI i, (pc, sg, st, ct + nI i, rg, ce), ok, fun post hp => br_f h (br_f hst (nm_e (hp ir ad))), fun post hp => br_f h (br_f hst (nm_e hp))⟩
theorem mw_cell0 {post : Int32 → Prop} {v : Int32} (h : v < 0 ∨ nI 64 ≤ v) (hp : post 0) : wpX_isCell post v := by
  by_cases q : v < 0
  · exact br_t q hp
  · exact br_f q (br_t (h.resolve_left q) hp)
theorem mw_cell1 {post : Int32 → Prop} {j : Nat} (hj : j < 64) (hp : post 1) : wpX_isCell post (nI j) := br_f (nI_pos (by omega)) (br_f (nI_ge (b := 64) hj (by decide)) hp)
theorem mw_regi0 {post : Int32 → Prop} {v : Int32} (h : v < 0 ∨ nI 8 ≤ v) (hp : post 0) : wpX_isRegister post v := by
  by_cases q : v < 0
  · exact br_t q hp
  · exact br_f q (br_t (h.resolve_left q) hp)
theorem mw_regi1 {post : Int32 → Prop} {j : Nat} (hj : j < 8) (hp : post 1) : wpX_isRegister post (nI j) := br_f (nI_pos (by omega)) (br_f (nI_ge (b := 8) hj (by decide)) hp)
theorem mw_word0 {post : Int32 → Prop} {v : Int32} (h : v < 0 ∨ nI 65536 ≤ v) (hp : post 0) : wpX_isWord post v := by
  by_cases q : v < 0
  · exact br_t q hp
  · exact br_f q (br_t (Int32.lt_of_lt_of_le (by decide) (h.resolve_left q)) hp)
theorem mw_word1 {post : Int32 → Prop} {j : Nat} (hj : j < 65536) (hp : post 1) : wpX_isWord post (nI j) := br_f (nI_pos (by omega)) (br_f (nI_nlt (a := 65535) (by omega) (by decide)) hp)
theorem mw_y0 {post : Int32 → Prop} {v : Int32} {s : SY} (h : v < 0 ∨ nI 65536 ≤ v) (hp : post 0) : wpY_isWord post s v := by
  by_cases q : v < 0
  · exact br_t q hp
  · exact br_f q (br_t (Int32.lt_of_lt_of_le (by decide) (h.resolve_left q)) hp)
theorem mw_y1 {post : Int32 → Prop} {j : Nat} {s : SY} (hj : j < 65536) (hp : post 1) : wpY_isWord post s (nI j) := br_f (nI_pos (by omega)) (br_f (nI_nlt (a := 65535) (by omega) (by decide)) hp)
