/-! The reference's methods against pure functions -/
section
variable {pc sg st ct : Int32} {rg ce : Nat → Int32}
theorem my_sg {post : Int32 → Prop} {w : Nat} (k : Nat) (hk : k < 17) (h0 : 0 < k) (hw : w < 65536) (h : post (mc_sx k (nI w))) : wpY_signed post (pc, sg, st, ct, rg, ce) (nI w) (nI k) := by
  have p := mc_p16 hk
  have p0 : 0 < 2 ^ k := Nat.two_pow_pos k
  have e1 := mc_pw k hk
  have e2 : (1 : Int32) <<< ((nI k - 1) &&& 31) = nI (2 ^ (k - 1)) := by
    obtain ⟨q, rfl⟩ : ∃ q, k = q + 1 := ⟨k - 1, by omega⟩
    rw [nI_pred]
    exact mc_pw q (by omega)
  have e3 : nI w - nI w / nI (2 ^ k) * nI (2 ^ k) = nI w &&& (nI (2 ^ k) - 1) := by
    rw [pk_rem (by omega) p0 (by omega), pk_andN (by omega) k (mc_mk k hk)]
  unfold wpY_signed
  dsimp only
  rw [e1, e2, e3]
  refine ⟨nI_ne0 p0 (by omega), nm_e ?_⟩
  unfold mc_sx at h
  split at h
  · exact br_t ‹_› h
  · exact br_f ‹_› h
/-- register d takes the word of x, and the sign follows -/
def my_gv (d x : Int32) (v : SY) : SY := match v with
  | (pc, _, st, ct, rg, ce) => (pc, mc_sgn (x &&& 65535), st, ct, upd rg d.toNatClampNeg (x &&& 65535), ce)
theorem my_s16 {w : Nat} (hw : w < 65536) : mc_sx 16 (nI w) = if w < 32768 then nI w else nI w - nI 65536 := by
  have e : nI w &&& (nI (2 ^ 16) - 1) = nI w := by
    rw [pk_andN (by omega) 16 (mc_mk 16 (by decide)), Nat.mod_eq_of_lt hw]
  unfold mc_sx
  rw [e]
  by_cases q : w < 32768
  · rw [if_pos q, if_pos (nI_lt (b := 2 ^ (16 - 1)) q (by decide))]
  · rw [if_neg q, if_neg (nI_nlt (b := 2 ^ (16 - 1)) (by omega) (by omega))]
theorem my_give {post : SY → Prop} {d x : Int32} (hd : vp_in d 8) (h : post (my_gv d x (pc, sg, st, ct, rg, ce))) : wpY_give post (pc, sg, st, ct, rg, ce) d x := by
  have h' : post (pc, mc_sgn (x &&& 65535), st, ct, upd rg d.toNatClampNeg (x &&& 65535), ce) := h
  unfold wpY_give
  refine ⟨hd, nm_e ⟨hd, ?_⟩⟩
  rw [pk_us]
  obtain ⟨w, hw, e⟩ := pk_andE x (m := 65535) 16 (by decide)
  rw [e] at h' ⊢
  refine my_sg 16 (by decide) (by decide) hw ?_
  rw [my_s16 hw]
  by_cases q : w < 32768
  · rw [if_pos q]
    have a : nI w < 32768 := nI_lt (b := 32768) q (by decide)
    refine br_t (nI_pos' (by omega)) ?_
    by_cases z : w = 0
    · have b : mc_sgn (nI w) = 0 := by
        unfold mc_sgn
        rw [if_pos a, if_pos (by rw [z]; rfl)]
      rw [b] at h'
      exact br_t (by rw [z]; decide) h'
    · have b : mc_sgn (nI w) = 1 := by
        unfold mc_sgn
        rw [if_pos a, if_neg (nI_ne0 (by omega) (by omega))]
      rw [b] at h'
      exact br_f (nI_nle (by omega) (by omega)) h'
  · rw [if_neg q]
    have a : ¬ nI w < 32768 := nI_nlt (b := 32768) (by omega) (by omega)
    have b : mc_sgn (nI w) = -1 := by
      unfold mc_sgn
      rw [if_neg a]
    rw [b] at h'
    have c : nI w - nI 65536 < 0 := pk_sneg (by omega) hw
    exact br_f (Int32.not_le.mpr c) h'
theorem my_taken {post : Int32 → Prop} {x : Int32} (hs : mc_sok sg) (h1 : (x >>> ((10 - sg) &&& 31)) &&& 1 = 1 → post 1) (h0 : ¬ (x >>> ((10 - sg) &&& 31)) &&& 1 = 1 → post 0) : wpY_taken post (pc, sg, st, ct, rg, ce) x := by
  obtain rfl | rfl | rfl := hs
  · rw [show (10 : Int32) - (-1) = 11 from by decide] at h1 h0
    exact br_f (by decide) (br_c h1 h0)
  · rw [show (10 : Int32) - 0 = 10 from by decide] at h1 h0
    exact br_t (by decide) (br_t rfl (br_c h1 h0))
  · rw [show (10 : Int32) - 1 = 9 from by decide] at h1 h0
    exact br_t (by decide) (br_f (by decide) (br_c h1 h0))
/-- what the calculations leave, z being the second input -/
def my_cz (o : Nat) (z x : Int32) (v : SY) : SY := match v with
  | (pc, sg, st, ct, rg, ce) => match o with
    | 1 => my_gv (mc_d x) (rg (mc_s x).toNatClampNeg + z) (pc, sg, st, ct, rg, ce)
    | 5 => my_gv (mc_d x) (rg (mc_s x).toNatClampNeg &&& z) (pc, sg, st, ct, rg, ce)
    | 9 => my_gv (mc_d x) (65535 - rg (mc_s x).toNatClampNeg) (pc, sg, st, ct, rg, ce)
    | 14 => my_gv (mc_d x) (pc + mc_sx 9 x) (pc, sg, st, ct, rg, ce)
    | _ => (pc, sg, st, ct, rg, ce)
def my_z (x : Int32) (rg : Nat → Int32) : Int32 := if (x >>> ((5 : Int32) &&& 31)) &&& 1 = 0 then rg (x &&& 7).toNatClampNeg else mc_sx 5 x
def my_mv (o : Nat) (x : Int32) (v : SY) : SY := match v with
  | (pc, sg, st, ct, rg, ce) => match o with
    | 2 => my_gv (mc_d x) (ce ((pc + mc_sx 9 x) &&& 63).toNatClampNeg) (pc, sg, st, ct, rg, ce)
    | 6 => my_gv (mc_d x) (ce ((rg (mc_s x).toNatClampNeg + mc_sx 6 x) &&& 63).toNatClampNeg) (pc, sg, st, ct, rg, ce)
    | 10 => my_gv (mc_d x) (ce (ce ((pc + mc_sx 9 x) &&& 63).toNatClampNeg &&& 63).toNatClampNeg) (pc, sg, st, ct, rg, ce)
    | 3 => (pc, sg, st, ct, rg, upd ce ((pc + mc_sx 9 x) &&& 63).toNatClampNeg (rg (mc_d x).toNatClampNeg))
    | 7 => (pc, sg, st, ct, rg, upd ce ((rg (mc_s x).toNatClampNeg + mc_sx 6 x) &&& 63).toNatClampNeg (rg (mc_d x).toNatClampNeg))
    | 11 => (pc, sg, st, ct, rg, upd ce (ce ((pc + mc_sx 9 x) &&& 63).toNatClampNeg &&& 63).toNatClampNeg (rg (mc_d x).toNatClampNeg))
    | _ => (pc, sg, st, ct, rg, ce)
def my_go (o : Nat) (x : Int32) (v : SY) : SY := match v with
  | (pc, sg, st, ct, rg, ce) => match o with
    | 0 => (if (x >>> ((10 - sg) &&& 31)) &&& 1 = 1 then (pc + mc_sx 9 x) &&& 65535 else pc, sg, st, ct, rg, ce)
    | 12 => (rg (mc_s x).toNatClampNeg, sg, st, ct, rg, ce)
    | 4 => (if (x >>> ((11 : Int32) &&& 31)) &&& 1 = 1 then (pc + mc_sx 11 x) &&& 65535 else rg (mc_s x).toNatClampNeg, sg, st, ct, upd rg 7 pc, ce)
    | 15 => (pc, sg, 1, ct, rg, ce)
    | 8 => (pc, sg, 2, ct, rg, ce)
    | 13 => (pc, sg, 2, ct, rg, ce)
    | _ => (pc, sg, st, ct, rg, ce)
theorem my_c43 {post : SY → Prop} {w : Nat} (o : Nat) (ho : o < 16) (hw : w < 65536) (z : Int32) (h : post (my_cz o z (nI w) (pc, sg, st, ct, rg, ce))) : wY_calculate_43 post (nI o) (nI w) (mc_d (nI w)) (mc_s (nI w)) z pc sg st ct rg ce := by
  have hd : vp_in (mc_d (nI w)) 8 := mc_in7 _
  have hs : vp_in (mc_s (nI w)) 8 := mc_in7 _
  refine my_sg 9 (by decide) (by decide) hw ?_
  obtain rfl | rfl | rfl | rfl | rfl | rfl | rfl | rfl | rfl | rfl | rfl | rfl | rfl | rfl | rfl | rfl : o = 0 ∨ o = 1 ∨ o = 2 ∨ o = 3 ∨ o = 4 ∨ o = 5 ∨ o = 6 ∨ o = 7 ∨ o = 8 ∨ o = 9 ∨ o = 10 ∨ o = 11 ∨ o = 12 ∨ o = 13 ∨ o = 14 ∨ o = 15 := by omega
  · exact br_f (by decide +kernel) (br_f (by decide +kernel) (br_f (by decide +kernel) (br_f (by decide +kernel) (h))))
  · exact br_t rfl (⟨hs, my_give hd (br_f (by decide +kernel) (br_f (by decide +kernel) (br_f (by decide +kernel) (h))))⟩)
  · exact br_f (by decide +kernel) (br_f (by decide +kernel) (br_f (by decide +kernel) (br_f (by decide +kernel) (h))))
  · exact br_f (by decide +kernel) (br_f (by decide +kernel) (br_f (by decide +kernel) (br_f (by decide +kernel) (h))))
  · exact br_f (by decide +kernel) (br_f (by decide +kernel) (br_f (by decide +kernel) (br_f (by decide +kernel) (h))))
  · exact br_f (by decide +kernel) (br_t rfl (⟨hs, my_give hd (br_f (by decide +kernel) (br_f (by decide +kernel) (h)))⟩))
  · exact br_f (by decide +kernel) (br_f (by decide +kernel) (br_f (by decide +kernel) (br_f (by decide +kernel) (h))))
  · exact br_f (by decide +kernel) (br_f (by decide +kernel) (br_f (by decide +kernel) (br_f (by decide +kernel) (h))))
  · exact br_f (by decide +kernel) (br_f (by decide +kernel) (br_f (by decide +kernel) (br_f (by decide +kernel) (h))))
  · exact br_f (by decide +kernel) (br_f (by decide +kernel) (br_t rfl (⟨hs, my_give hd (br_f (by decide +kernel) (h))⟩)))
  · exact br_f (by decide +kernel) (br_f (by decide +kernel) (br_f (by decide +kernel) (br_f (by decide +kernel) (h))))
  · exact br_f (by decide +kernel) (br_f (by decide +kernel) (br_f (by decide +kernel) (br_f (by decide +kernel) (h))))
  · exact br_f (by decide +kernel) (br_f (by decide +kernel) (br_f (by decide +kernel) (br_f (by decide +kernel) (h))))
  · exact br_f (by decide +kernel) (br_f (by decide +kernel) (br_f (by decide +kernel) (br_f (by decide +kernel) (h))))
  · exact br_f (by decide +kernel) (br_f (by decide +kernel) (br_f (by decide +kernel) (br_t rfl (my_give hd (h)))))
  · exact br_f (by decide +kernel) (br_f (by decide +kernel) (br_f (by decide +kernel) (br_f (by decide +kernel) (h))))
theorem my_calc {post : SY → Prop} {w : Nat} (o : Nat) (ho : o < 16) (hw : w < 65536) (h : post (my_cz o (my_z (nI w) rg) (nI w) (pc, sg, st, ct, rg, ce))) : wpY_calculate post (pc, sg, st, ct, rg, ce) (nI o) (nI w) := by
  unfold my_z at h
  refine nm_e (nm_e (br_c (fun q => ?_) (fun q => ?_)))
  · rw [if_pos q] at h
    exact ⟨mc_in7 _, my_c43 o ho hw _ h⟩
  · rw [if_neg q] at h
    refine my_sg 5 (by decide) (by decide) hw ?_
    exact my_c43 o ho hw _ h
theorem my_move {post : SY → Prop} {w : Nat} (o : Nat) (ho : o < 16) (hw : w < 65536) (h : post (my_mv o (nI w) (pc, sg, st, ct, rg, ce))) : wpY_move post (pc, sg, st, ct, rg, ce) (nI o) (nI w) := by
  have hd : vp_in (mc_d (nI w)) 8 := mc_in7 _
  refine nm_e ?_
  refine my_sg 9 (by decide) (by decide) hw ?_
  refine nm_e ⟨mc_in7 _, ?_⟩
  refine my_sg 6 (by decide) (by decide) hw ?_
  refine nm_e ⟨mc_in63 _, nm_e ?_⟩
  obtain rfl | rfl | rfl | rfl | rfl | rfl | rfl | rfl | rfl | rfl | rfl | rfl | rfl | rfl | rfl | rfl : o = 0 ∨ o = 1 ∨ o = 2 ∨ o = 3 ∨ o = 4 ∨ o = 5 ∨ o = 6 ∨ o = 7 ∨ o = 8 ∨ o = 9 ∨ o = 10 ∨ o = 11 ∨ o = 12 ∨ o = 13 ∨ o = 14 ∨ o = 15 := by omega
  · exact br_f (by decide +kernel) (br_f (by decide +kernel) (br_f (by decide +kernel) (br_f (by decide +kernel) (br_f (by decide +kernel) (br_f (by decide +kernel) (h))))))
  · exact br_f (by decide +kernel) (br_f (by decide +kernel) (br_f (by decide +kernel) (br_f (by decide +kernel) (br_f (by decide +kernel) (br_f (by decide +kernel) (h))))))
  · exact br_t rfl (⟨mc_in63 _, my_give hd (br_f (by decide +kernel) (br_f (by decide +kernel) (br_f (by decide +kernel) (br_f (by decide +kernel) (br_f (by decide +kernel) (h))))))⟩)
  · exact br_f (by decide +kernel) (br_f (by decide +kernel) (br_f (by decide +kernel) (br_t rfl (⟨hd, mc_in63 _, nm_e (br_f (by decide +kernel) (br_f (by decide +kernel) (h)))⟩))))
  · exact br_f (by decide +kernel) (br_f (by decide +kernel) (br_f (by decide +kernel) (br_f (by decide +kernel) (br_f (by decide +kernel) (br_f (by decide +kernel) (h))))))
  · exact br_f (by decide +kernel) (br_f (by decide +kernel) (br_f (by decide +kernel) (br_f (by decide +kernel) (br_f (by decide +kernel) (br_f (by decide +kernel) (h))))))
  · exact br_f (by decide +kernel) (br_t rfl (⟨mc_in63 _, my_give hd (br_f (by decide +kernel) (br_f (by decide +kernel) (br_f (by decide +kernel) (br_f (by decide +kernel) (h)))))⟩))
  · exact br_f (by decide +kernel) (br_f (by decide +kernel) (br_f (by decide +kernel) (br_f (by decide +kernel) (br_t rfl (⟨hd, mc_in63 _, nm_e (br_f (by decide +kernel) (h))⟩)))))
  · exact br_f (by decide +kernel) (br_f (by decide +kernel) (br_f (by decide +kernel) (br_f (by decide +kernel) (br_f (by decide +kernel) (br_f (by decide +kernel) (h))))))
  · exact br_f (by decide +kernel) (br_f (by decide +kernel) (br_f (by decide +kernel) (br_f (by decide +kernel) (br_f (by decide +kernel) (br_f (by decide +kernel) (h))))))
  · exact br_f (by decide +kernel) (br_f (by decide +kernel) (br_t rfl (⟨mc_in63 _, my_give hd (br_f (by decide +kernel) (br_f (by decide +kernel) (br_f (by decide +kernel) (h))))⟩)))
  · exact br_f (by decide +kernel) (br_f (by decide +kernel) (br_f (by decide +kernel) (br_f (by decide +kernel) (br_f (by decide +kernel) (br_t rfl (⟨hd, mc_in63 _, nm_e (h)⟩))))))
  · exact br_f (by decide +kernel) (br_f (by decide +kernel) (br_f (by decide +kernel) (br_f (by decide +kernel) (br_f (by decide +kernel) (br_f (by decide +kernel) (h))))))
  · exact br_f (by decide +kernel) (br_f (by decide +kernel) (br_f (by decide +kernel) (br_f (by decide +kernel) (br_f (by decide +kernel) (br_f (by decide +kernel) (h))))))
  · exact br_f (by decide +kernel) (br_f (by decide +kernel) (br_f (by decide +kernel) (br_f (by decide +kernel) (br_f (by decide +kernel) (br_f (by decide +kernel) (h))))))
  · exact br_f (by decide +kernel) (br_f (by decide +kernel) (br_f (by decide +kernel) (br_f (by decide +kernel) (br_f (by decide +kernel) (br_f (by decide +kernel) (h))))))
theorem my_gof {post : SY → Prop} {w : Nat} (o : Nat) (ho : o < 16) (hw : w < 65536) (hs : mc_sok sg) (h : post (my_go o (nI w) (pc, sg, st, ct, rg, ce))) : wpY_go post (pc, sg, st, ct, rg, ce) (nI o) (nI w) := by
  refine ⟨mc_in7 _, nm_e ?_⟩
  refine my_sg 9 (by decide) (by decide) hw ?_
  refine my_sg 11 (by decide) (by decide) hw ?_
  obtain rfl | rfl | rfl | rfl | rfl | rfl | rfl | rfl | rfl | rfl | rfl | rfl | rfl | rfl | rfl | rfl : o = 0 ∨ o = 1 ∨ o = 2 ∨ o = 3 ∨ o = 4 ∨ o = 5 ∨ o = 6 ∨ o = 7 ∨ o = 8 ∨ o = 9 ∨ o = 10 ∨ o = 11 ∨ o = 12 ∨ o = 13 ∨ o = 14 ∨ o = 15 := by omega
  · refine br_t rfl (my_taken hs (fun q => ?_) (fun q => ?_))
    · have h2 : post ((pc + mc_sx 9 (nI w)) &&& 65535, sg, st, ct, rg, ce) := by
        have e : my_go 0 (nI w) (pc, sg, st, ct, rg, ce) = ((pc + mc_sx 9 (nI w)) &&& 65535, sg, st, ct, rg, ce) := by
          unfold my_go
          dsimp only
          rw [if_pos q]
          exact rfl
        rw [e] at h
        exact h
      exact br_f (by decide) (br_f (by decide +kernel) (br_f (by decide +kernel) (br_f (by decide +kernel) (br_f (by decide +kernel) (br_f (by decide +kernel) h2)))))
    · have h2 : post (pc, sg, st, ct, rg, ce) := by
        have e : my_go 0 (nI w) (pc, sg, st, ct, rg, ce) = (pc, sg, st, ct, rg, ce) := by
          unfold my_go
          dsimp only
          rw [if_neg q]
          exact rfl
        rw [e] at h
        exact h
      exact br_t (by decide) (br_f (by decide +kernel) (br_f (by decide +kernel) (br_f (by decide +kernel) (br_f (by decide +kernel) (br_f (by decide +kernel) h2)))))
  · exact br_f (by decide +kernel) (br_f (by decide +kernel) (br_f (by decide +kernel) (br_f (by decide +kernel) (br_f (by decide +kernel) (br_f (by decide +kernel) h)))))
  · exact br_f (by decide +kernel) (br_f (by decide +kernel) (br_f (by decide +kernel) (br_f (by decide +kernel) (br_f (by decide +kernel) (br_f (by decide +kernel) h)))))
  · exact br_f (by decide +kernel) (br_f (by decide +kernel) (br_f (by decide +kernel) (br_f (by decide +kernel) (br_f (by decide +kernel) (br_f (by decide +kernel) h)))))
  · refine br_f (by decide +kernel) (br_f (by decide +kernel) (br_t rfl (nm_e (br_c (fun q => ?_) (fun q => ?_)))))
    · have h2 : post ((pc + mc_sx 11 (nI w)) &&& 65535, sg, st, ct, upd rg 7 pc, ce) := by
        have e : my_go 4 (nI w) (pc, sg, st, ct, rg, ce) = ((pc + mc_sx 11 (nI w)) &&& 65535, sg, st, ct, upd rg 7 pc, ce) := by
          unfold my_go
          dsimp only
          rw [if_pos q]
          exact rfl
        rw [e] at h
        exact h
      exact (br_f (by decide +kernel) (br_f (by decide +kernel) (br_f (by decide +kernel) h2)))
    · have h2 : post (rg (mc_s (nI w)).toNatClampNeg, sg, st, ct, upd rg 7 pc, ce) := by
        have e : my_go 4 (nI w) (pc, sg, st, ct, rg, ce) = (rg (mc_s (nI w)).toNatClampNeg, sg, st, ct, upd rg 7 pc, ce) := by
          unfold my_go
          dsimp only
          rw [if_neg q]
          exact rfl
        rw [e] at h
        exact h
      exact (br_f (by decide +kernel) (br_f (by decide +kernel) (br_f (by decide +kernel) h2)))
  · exact br_f (by decide +kernel) (br_f (by decide +kernel) (br_f (by decide +kernel) (br_f (by decide +kernel) (br_f (by decide +kernel) (br_f (by decide +kernel) h)))))
  · exact br_f (by decide +kernel) (br_f (by decide +kernel) (br_f (by decide +kernel) (br_f (by decide +kernel) (br_f (by decide +kernel) (br_f (by decide +kernel) h)))))
  · exact br_f (by decide +kernel) (br_f (by decide +kernel) (br_f (by decide +kernel) (br_f (by decide +kernel) (br_f (by decide +kernel) (br_f (by decide +kernel) h)))))
  · exact br_f (by decide +kernel) (br_f (by decide +kernel) (br_f (by decide +kernel) (br_f (by decide +kernel) (br_t rfl h))))
  · exact br_f (by decide +kernel) (br_f (by decide +kernel) (br_f (by decide +kernel) (br_f (by decide +kernel) (br_f (by decide +kernel) (br_f (by decide +kernel) h)))))
  · exact br_f (by decide +kernel) (br_f (by decide +kernel) (br_f (by decide +kernel) (br_f (by decide +kernel) (br_f (by decide +kernel) (br_f (by decide +kernel) h)))))
  · exact br_f (by decide +kernel) (br_f (by decide +kernel) (br_f (by decide +kernel) (br_f (by decide +kernel) (br_f (by decide +kernel) (br_f (by decide +kernel) h)))))
  · exact br_f (by decide +kernel) (br_t rfl (br_f (by decide +kernel) (br_f (by decide +kernel) (br_f (by decide +kernel) (br_f (by decide +kernel) h)))))
  · exact br_f (by decide +kernel) (br_f (by decide +kernel) (br_f (by decide +kernel) (br_f (by decide +kernel) (br_f (by decide +kernel) (br_t rfl h)))))
  · exact br_f (by decide +kernel) (br_f (by decide +kernel) (br_f (by decide +kernel) (br_f (by decide +kernel) (br_f (by decide +kernel) (br_f (by decide +kernel) h)))))
  · exact br_f (by decide +kernel) (br_f (by decide +kernel) (br_f (by decide +kernel) (br_t rfl (br_f (by decide +kernel) (br_f (by decide +kernel) h)))))
/-- one instruction x, PC being already one further -/
def my_in (o : Nat) (x : Int32) (v : SY) : SY := match v with
  | (pc, sg, st, ct, rg, ce) => my_go o x (my_mv o x (my_cz o (my_z x rg) x (pc, sg, st, ct, rg, ce)))
theorem my_sgG (d x : Int32) (v : SY) : mc_sok (my_gv d x v).2.1 := mc_sgn_ok _
theorem my_sgC {o : Nat} {z x : Int32} (hs : mc_sok sg) : mc_sok (my_cz o z x (pc, sg, st, ct, rg, ce)).2.1 := by
  unfold my_cz
  dsimp only
  split <;> first | exact my_sgG _ _ _ | exact hs
theorem my_sgM {o : Nat} {x : Int32} (hs : mc_sok sg) : mc_sok (my_mv o x (pc, sg, st, ct, rg, ce)).2.1 := by
  unfold my_mv
  dsimp only
  split <;> first | exact my_sgG _ _ _ | exact hs
theorem my_exec {post : SY → Prop} {w : Nat} (hw : w < 65536) (he : ce (pc &&& 63).toNatClampNeg = nI w) (hs : mc_sok sg) (h : post (my_in (w / 4096) (nI w) ((pc + 1) &&& 65535, sg, st, ct, rg, ce))) : wpY_execute post (pc, sg, st, ct, rg, ce) := by
  have ho : w / 4096 < 16 := by omega
  refine ⟨mc_in63 _, nm_r he (nm_r (mc_op hw) ?_)⟩
  unfold wpY_word
  dsimp only
  refine my_calc _ ho hw ?_
  have hs1 := my_sgC (o := w / 4096) (z := my_z (nI w) rg) (x := nI w) (pc := (pc + 1) &&& 65535) (st := st) (ct := ct) (rg := rg) (ce := ce) hs
  have h1 : post (my_go (w / 4096) (nI w) (my_mv (w / 4096) (nI w) (my_cz (w / 4096) (my_z (nI w) rg) (nI w) ((pc + 1) &&& 65535, sg, st, ct, rg, ce)))) := h
  generalize my_cz (w / 4096) (my_z (nI w) rg) (nI w) ((pc + 1) &&& 65535, sg, st, ct, rg, ce) = v1 at h1 hs1 ⊢
  obtain ⟨pc1, sg1, st1, ct1, rg1, ce1⟩ := v1
  dsimp only at hs1 ⊢
  refine my_move _ ho hw ?_
  have hs2 := my_sgM (o := w / 4096) (x := nI w) (pc := pc1) (st := st1) (ct := ct1) (rg := rg1) (ce := ce1) hs1
  generalize my_mv (w / 4096) (nI w) (pc1, sg1, st1, ct1, rg1, ce1) = v2 at h1 hs2 ⊢
  obtain ⟨pc2, sg2, st2, ct2, rg2, ce2⟩ := v2
  dsimp only at hs2 ⊢
  exact my_gof _ ho hw hs2 h1
end
