/-! Each routine of the component does what the reference's instruction does -/
def mz_up (ir ad : Int32) (mc : Nat → Int32) (v : SY) : SX := match v with
  | (pc, sg, st, ct, rg, ce) => (pc, ir, ad, sg, st, ct, mc, rg, ce)
section
variable {pc ir ad sg st ct : Int32} {mc rg ce : Nat → Int32}
theorem mz_t {m : Nat} (h : mx_ac (m % 8) ir sg = true) : mx_ro m (pc, ir, ad, sg, st, ct, mc, rg, ce) = mx_pf m pc ir ad sg st ct mc rg ce := by
  unfold mx_ro
  dsimp only
  rw [h]
theorem mz_f {m : Nat} (h : mx_ac (m % 8) ir sg = false) : mx_ro m (pc, ir, ad, sg, st, ct, mc, rg, ce) = (pc, ir, ad, sg, st, ct, mc, rg, ce) := by
  unfold mx_ro
  dsimp only
  rw [h]
theorem mz_fetch (hp : mc_wd pc) (hc : ∀ j, mc_wd (ce j)) : mx_r4 16 (pc, ir, ad, sg, st, ct, mc, rg, ce) = ((pc + 1) &&& 65535, ce (pc &&& 63).toNatClampNeg, pc, sg, st, ct, mc, rg, ce) := by
  have e : mx_r4 16 (pc, ir, ad, sg, st, ct, mc, rg, ce) = ((pc + 1) &&& 65535, (ce (((pc + 0) &&& 65535) &&& 63).toNatClampNeg + 0) &&& 65535, (pc + 0) &&& 65535, sg, st, ct, mc, rg, ce) := rfl
  rw [e, mc_p0 hp, mc_p0 (hc _)]
theorem mz_o9 (hr : ∀ j, mc_wd (rg j)) : ∃ a, mx_r4 9 (pc, ir, ad, sg, st, ct, mc, rg, ce) = mz_up ir a mc (my_in 9 ir (pc, sg, st, ct, rg, ce)) := by
  refine ⟨ad, ?_⟩
  have e : (rg (mc_s ir).toNatClampNeg ^^^ (-1)) &&& 65535 = (65535 - rg (mc_s ir).toNatClampNeg) &&& 65535 := mc_not (hr _)
  show (pc, ir, ad, mc_sgn ((rg (mc_s ir).toNatClampNeg ^^^ (-1)) &&& 65535), st, ct, mc, upd rg (mc_d ir).toNatClampNeg ((rg (mc_s ir).toNatClampNeg ^^^ (-1)) &&& 65535), ce) = (pc, ir, ad, mc_sgn ((65535 - rg (mc_s ir).toNatClampNeg) &&& 65535), st, ct, mc, upd rg (mc_d ir).toNatClampNeg ((65535 - rg (mc_s ir).toNatClampNeg) &&& 65535), ce)
  rw [e]
theorem mz_o14  : ∃ a, mx_r4 14 (pc, ir, ad, sg, st, ct, mc, rg, ce) = mz_up ir a mc (my_in 14 ir (pc, sg, st, ct, rg, ce)) := by
  exact ⟨ad, rfl⟩
theorem mz_o2  : ∃ a, mx_r4 2 (pc, ir, ad, sg, st, ct, mc, rg, ce) = mz_up ir a mc (my_in 2 ir (pc, sg, st, ct, rg, ce)) := by
  refine ⟨((pc + mc_sx 9 ir) &&& 65535), ?_⟩
  have e : (ce (((pc + mc_sx 9 ir) &&& 65535) &&& 63).toNatClampNeg + 0) &&& 65535 = (ce ((pc + mc_sx 9 ir) &&& 63).toNatClampNeg) &&& 65535 := by rw [mc_a63, Int32.add_zero]
  show (pc, ir, ((pc + mc_sx 9 ir) &&& 65535), mc_sgn ((ce (((pc + mc_sx 9 ir) &&& 65535) &&& 63).toNatClampNeg + 0) &&& 65535), st, ct, mc, upd rg (mc_d ir).toNatClampNeg ((ce (((pc + mc_sx 9 ir) &&& 65535) &&& 63).toNatClampNeg + 0) &&& 65535), ce) = (pc, ir, ((pc + mc_sx 9 ir) &&& 65535), mc_sgn ((ce ((pc + mc_sx 9 ir) &&& 63).toNatClampNeg) &&& 65535), st, ct, mc, upd rg (mc_d ir).toNatClampNeg ((ce ((pc + mc_sx 9 ir) &&& 63).toNatClampNeg) &&& 65535), ce)
  rw [e]
theorem mz_o6  : ∃ a, mx_r4 6 (pc, ir, ad, sg, st, ct, mc, rg, ce) = mz_up ir a mc (my_in 6 ir (pc, sg, st, ct, rg, ce)) := by
  refine ⟨((rg (mc_s ir).toNatClampNeg + mc_sx 6 ir) &&& 65535), ?_⟩
  have e : (ce (((rg (mc_s ir).toNatClampNeg + mc_sx 6 ir) &&& 65535) &&& 63).toNatClampNeg + 0) &&& 65535 = (ce ((rg (mc_s ir).toNatClampNeg + mc_sx 6 ir) &&& 63).toNatClampNeg) &&& 65535 := by rw [mc_a63, Int32.add_zero]
  show (pc, ir, ((rg (mc_s ir).toNatClampNeg + mc_sx 6 ir) &&& 65535), mc_sgn ((ce (((rg (mc_s ir).toNatClampNeg + mc_sx 6 ir) &&& 65535) &&& 63).toNatClampNeg + 0) &&& 65535), st, ct, mc, upd rg (mc_d ir).toNatClampNeg ((ce (((rg (mc_s ir).toNatClampNeg + mc_sx 6 ir) &&& 65535) &&& 63).toNatClampNeg + 0) &&& 65535), ce) = (pc, ir, ((rg (mc_s ir).toNatClampNeg + mc_sx 6 ir) &&& 65535), mc_sgn ((ce ((rg (mc_s ir).toNatClampNeg + mc_sx 6 ir) &&& 63).toNatClampNeg) &&& 65535), st, ct, mc, upd rg (mc_d ir).toNatClampNeg ((ce ((rg (mc_s ir).toNatClampNeg + mc_sx 6 ir) &&& 63).toNatClampNeg) &&& 65535), ce)
  rw [e]
theorem mz_o10  : ∃ a, mx_r4 10 (pc, ir, ad, sg, st, ct, mc, rg, ce) = mz_up ir a mc (my_in 10 ir (pc, sg, st, ct, rg, ce)) := by
  refine ⟨((ce (((pc + mc_sx 9 ir) &&& 65535) &&& 63).toNatClampNeg + 0) &&& 65535), ?_⟩
  have e : (ce (((ce (((pc + mc_sx 9 ir) &&& 65535) &&& 63).toNatClampNeg + 0) &&& 65535) &&& 63).toNatClampNeg + 0) &&& 65535 = (ce (ce ((pc + mc_sx 9 ir) &&& 63).toNatClampNeg &&& 63).toNatClampNeg) &&& 65535 := by simp only [mc_a63, Int32.add_zero]
  show (pc, ir, ((ce (((pc + mc_sx 9 ir) &&& 65535) &&& 63).toNatClampNeg + 0) &&& 65535), mc_sgn ((ce (((ce (((pc + mc_sx 9 ir) &&& 65535) &&& 63).toNatClampNeg + 0) &&& 65535) &&& 63).toNatClampNeg + 0) &&& 65535), st, ct, mc, upd rg (mc_d ir).toNatClampNeg ((ce (((ce (((pc + mc_sx 9 ir) &&& 65535) &&& 63).toNatClampNeg + 0) &&& 65535) &&& 63).toNatClampNeg + 0) &&& 65535), ce) = (pc, ir, ((ce (((pc + mc_sx 9 ir) &&& 65535) &&& 63).toNatClampNeg + 0) &&& 65535), mc_sgn ((ce (ce ((pc + mc_sx 9 ir) &&& 63).toNatClampNeg &&& 63).toNatClampNeg) &&& 65535), st, ct, mc, upd rg (mc_d ir).toNatClampNeg ((ce (ce ((pc + mc_sx 9 ir) &&& 63).toNatClampNeg &&& 63).toNatClampNeg) &&& 65535), ce)
  rw [e]
theorem mz_o3 (hr : ∀ j, mc_wd (rg j)) : ∃ a, mx_r4 3 (pc, ir, ad, sg, st, ct, mc, rg, ce) = mz_up ir a mc (my_in 3 ir (pc, sg, st, ct, rg, ce)) := by
  refine ⟨((pc + mc_sx 9 ir) &&& 65535), ?_⟩
  have e : upd ce (((pc + mc_sx 9 ir) &&& 65535) &&& 63).toNatClampNeg ((rg (mc_d ir).toNatClampNeg + 0) &&& 65535) = upd ce ((pc + mc_sx 9 ir) &&& 63).toNatClampNeg (rg (mc_d ir).toNatClampNeg) := by rw [mc_a63, mc_p0 (hr _)]
  show (pc, ir, ((pc + mc_sx 9 ir) &&& 65535), sg, st, ct, mc, rg, upd ce (((pc + mc_sx 9 ir) &&& 65535) &&& 63).toNatClampNeg ((rg (mc_d ir).toNatClampNeg + 0) &&& 65535)) = (pc, ir, ((pc + mc_sx 9 ir) &&& 65535), sg, st, ct, mc, rg, upd ce ((pc + mc_sx 9 ir) &&& 63).toNatClampNeg (rg (mc_d ir).toNatClampNeg))
  rw [e]
theorem mz_o7 (hr : ∀ j, mc_wd (rg j)) : ∃ a, mx_r4 7 (pc, ir, ad, sg, st, ct, mc, rg, ce) = mz_up ir a mc (my_in 7 ir (pc, sg, st, ct, rg, ce)) := by
  refine ⟨((rg (mc_s ir).toNatClampNeg + mc_sx 6 ir) &&& 65535), ?_⟩
  have e : upd ce (((rg (mc_s ir).toNatClampNeg + mc_sx 6 ir) &&& 65535) &&& 63).toNatClampNeg ((rg (mc_d ir).toNatClampNeg + 0) &&& 65535) = upd ce ((rg (mc_s ir).toNatClampNeg + mc_sx 6 ir) &&& 63).toNatClampNeg (rg (mc_d ir).toNatClampNeg) := by rw [mc_a63, mc_p0 (hr _)]
  show (pc, ir, ((rg (mc_s ir).toNatClampNeg + mc_sx 6 ir) &&& 65535), sg, st, ct, mc, rg, upd ce (((rg (mc_s ir).toNatClampNeg + mc_sx 6 ir) &&& 65535) &&& 63).toNatClampNeg ((rg (mc_d ir).toNatClampNeg + 0) &&& 65535)) = (pc, ir, ((rg (mc_s ir).toNatClampNeg + mc_sx 6 ir) &&& 65535), sg, st, ct, mc, rg, upd ce ((rg (mc_s ir).toNatClampNeg + mc_sx 6 ir) &&& 63).toNatClampNeg (rg (mc_d ir).toNatClampNeg))
  rw [e]
theorem mz_o11 (hr : ∀ j, mc_wd (rg j)) : ∃ a, mx_r4 11 (pc, ir, ad, sg, st, ct, mc, rg, ce) = mz_up ir a mc (my_in 11 ir (pc, sg, st, ct, rg, ce)) := by
  refine ⟨((ce (((pc + mc_sx 9 ir) &&& 65535) &&& 63).toNatClampNeg + 0) &&& 65535), ?_⟩
  have e : upd ce (((ce (((pc + mc_sx 9 ir) &&& 65535) &&& 63).toNatClampNeg + 0) &&& 65535) &&& 63).toNatClampNeg ((rg (mc_d ir).toNatClampNeg + 0) &&& 65535) = upd ce (ce ((pc + mc_sx 9 ir) &&& 63).toNatClampNeg &&& 63).toNatClampNeg (rg (mc_d ir).toNatClampNeg) := by rw [mc_p0 (hr _)]; simp only [mc_a63, Int32.add_zero]
  show (pc, ir, ((ce (((pc + mc_sx 9 ir) &&& 65535) &&& 63).toNatClampNeg + 0) &&& 65535), sg, st, ct, mc, rg, upd ce (((ce (((pc + mc_sx 9 ir) &&& 65535) &&& 63).toNatClampNeg + 0) &&& 65535) &&& 63).toNatClampNeg ((rg (mc_d ir).toNatClampNeg + 0) &&& 65535)) = (pc, ir, ((ce (((pc + mc_sx 9 ir) &&& 65535) &&& 63).toNatClampNeg + 0) &&& 65535), sg, st, ct, mc, rg, upd ce (ce ((pc + mc_sx 9 ir) &&& 63).toNatClampNeg &&& 63).toNatClampNeg (rg (mc_d ir).toNatClampNeg))
  rw [e]
theorem mz_o12 (hr : ∀ j, mc_wd (rg j)) : ∃ a, mx_r4 12 (pc, ir, ad, sg, st, ct, mc, rg, ce) = mz_up ir a mc (my_in 12 ir (pc, sg, st, ct, rg, ce)) := by
  refine ⟨ad, ?_⟩
  show ((rg (mc_s ir).toNatClampNeg + 0) &&& 65535, ir, ad, sg, st, ct, mc, rg, ce) = (rg (mc_s ir).toNatClampNeg, ir, ad, sg, st, ct, mc, rg, ce)
  rw [mc_p0 (hr _)]
theorem mz_o15  : ∃ a, mx_r4 15 (pc, ir, ad, sg, st, ct, mc, rg, ce) = mz_up ir a mc (my_in 15 ir (pc, sg, st, ct, rg, ce)) := by
  exact ⟨ad, rfl⟩
theorem mz_o8  : ∃ a, mx_r4 8 (pc, ir, ad, sg, st, ct, mc, rg, ce) = mz_up ir a mc (my_in 8 ir (pc, sg, st, ct, rg, ce)) := by
  exact ⟨ad, rfl⟩
theorem mz_o13  : ∃ a, mx_r4 13 (pc, ir, ad, sg, st, ct, mc, rg, ce) = mz_up ir a mc (my_in 13 ir (pc, sg, st, ct, rg, ce)) := by
  exact ⟨ad, rfl⟩
theorem mz_o1  : ∃ a, mx_r4 1 (pc, ir, ad, sg, st, ct, mc, rg, ce) = mz_up ir a mc (my_in 1 ir (pc, sg, st, ct, rg, ce)) := by
  by_cases q : (ir >>> ((5 : Int32) &&& 31)) &&& 1 = 0
  · refine ⟨ad, ?_⟩
    have z : my_z ir rg = rg (ir &&& 7).toNatClampNeg := if_pos q
    have e1 : mx_ro 393793 (pc, ir, ad, sg, st, ct, mc, rg, ce) = (pc, ir, ad, mc_sgn ((rg (mc_s ir).toNatClampNeg + rg (ir &&& 7).toNatClampNeg) &&& 65535), st, ct, mc, upd rg (mc_d ir).toNatClampNeg ((rg (mc_s ir).toNatClampNeg + rg (ir &&& 7).toNatClampNeg) &&& 65535), ce) := mz_t (m := 393793) (decide_eq_true q)
    have e2 : mx_ro 394050 (pc, ir, ad, mc_sgn ((rg (mc_s ir).toNatClampNeg + rg (ir &&& 7).toNatClampNeg) &&& 65535), st, ct, mc, upd rg (mc_d ir).toNatClampNeg ((rg (mc_s ir).toNatClampNeg + rg (ir &&& 7).toNatClampNeg) &&& 65535), ce) = (pc, ir, ad, mc_sgn ((rg (mc_s ir).toNatClampNeg + rg (ir &&& 7).toNatClampNeg) &&& 65535), st, ct, mc, upd rg (mc_d ir).toNatClampNeg ((rg (mc_s ir).toNatClampNeg + rg (ir &&& 7).toNatClampNeg) &&& 65535), ce) := mz_f (m := 394050) (decide_eq_false (by rw [q]; decide))
    have e3 : mx_r4 1 (pc, ir, ad, sg, st, ct, mc, rg, ce) = mx_ro 0 (mx_ro 0 (mx_ro 394050 (mx_ro 393793 (pc, ir, ad, sg, st, ct, mc, rg, ce)))) := rfl
    rw [e3, e1, e2]
    show (pc, ir, ad, mc_sgn ((rg (mc_s ir).toNatClampNeg + rg (ir &&& 7).toNatClampNeg) &&& 65535), st, ct, mc, upd rg (mc_d ir).toNatClampNeg ((rg (mc_s ir).toNatClampNeg + rg (ir &&& 7).toNatClampNeg) &&& 65535), ce) = (pc, ir, ad, mc_sgn ((rg (mc_s ir).toNatClampNeg + my_z ir rg) &&& 65535), st, ct, mc, upd rg (mc_d ir).toNatClampNeg ((rg (mc_s ir).toNatClampNeg + my_z ir rg) &&& 65535), ce)
    rw [z]
  · refine ⟨ad, ?_⟩
    have z : my_z ir rg = mc_sx 5 ir := if_neg q
    have q1 : (ir >>> ((5 : Int32) &&& 31)) &&& 1 = 1 := (mc_b01 _).resolve_left q
    have e1 : mx_ro 393793 (pc, ir, ad, sg, st, ct, mc, rg, ce) = (pc, ir, ad, sg, st, ct, mc, rg, ce) := mz_f (m := 393793) (decide_eq_false q)
    have e2 : mx_ro 394050 (pc, ir, ad, sg, st, ct, mc, rg, ce) = (pc, ir, ad, mc_sgn ((rg (mc_s ir).toNatClampNeg + mc_sx 5 ir) &&& 65535), st, ct, mc, upd rg (mc_d ir).toNatClampNeg ((rg (mc_s ir).toNatClampNeg + mc_sx 5 ir) &&& 65535), ce) := mz_t (m := 394050) (decide_eq_true q1)
    have e3 : mx_r4 1 (pc, ir, ad, sg, st, ct, mc, rg, ce) = mx_ro 0 (mx_ro 0 (mx_ro 394050 (mx_ro 393793 (pc, ir, ad, sg, st, ct, mc, rg, ce)))) := rfl
    rw [e3, e1, e2]
    show (pc, ir, ad, mc_sgn ((rg (mc_s ir).toNatClampNeg + mc_sx 5 ir) &&& 65535), st, ct, mc, upd rg (mc_d ir).toNatClampNeg ((rg (mc_s ir).toNatClampNeg + mc_sx 5 ir) &&& 65535), ce) = (pc, ir, ad, mc_sgn ((rg (mc_s ir).toNatClampNeg + my_z ir rg) &&& 65535), st, ct, mc, upd rg (mc_d ir).toNatClampNeg ((rg (mc_s ir).toNatClampNeg + my_z ir rg) &&& 65535), ce)
    rw [z]
theorem mz_o5  : ∃ a, mx_r4 5 (pc, ir, ad, sg, st, ct, mc, rg, ce) = mz_up ir a mc (my_in 5 ir (pc, sg, st, ct, rg, ce)) := by
  by_cases q : (ir >>> ((5 : Int32) &&& 31)) &&& 1 = 0
  · refine ⟨ad, ?_⟩
    have z : my_z ir rg = rg (ir &&& 7).toNatClampNeg := if_pos q
    have e1 : mx_ro 397889 (pc, ir, ad, sg, st, ct, mc, rg, ce) = (pc, ir, ad, mc_sgn ((rg (mc_s ir).toNatClampNeg &&& rg (ir &&& 7).toNatClampNeg) &&& 65535), st, ct, mc, upd rg (mc_d ir).toNatClampNeg ((rg (mc_s ir).toNatClampNeg &&& rg (ir &&& 7).toNatClampNeg) &&& 65535), ce) := mz_t (m := 397889) (decide_eq_true q)
    have e2 : mx_ro 398146 (pc, ir, ad, mc_sgn ((rg (mc_s ir).toNatClampNeg &&& rg (ir &&& 7).toNatClampNeg) &&& 65535), st, ct, mc, upd rg (mc_d ir).toNatClampNeg ((rg (mc_s ir).toNatClampNeg &&& rg (ir &&& 7).toNatClampNeg) &&& 65535), ce) = (pc, ir, ad, mc_sgn ((rg (mc_s ir).toNatClampNeg &&& rg (ir &&& 7).toNatClampNeg) &&& 65535), st, ct, mc, upd rg (mc_d ir).toNatClampNeg ((rg (mc_s ir).toNatClampNeg &&& rg (ir &&& 7).toNatClampNeg) &&& 65535), ce) := mz_f (m := 398146) (decide_eq_false (by rw [q]; decide))
    have e3 : mx_r4 5 (pc, ir, ad, sg, st, ct, mc, rg, ce) = mx_ro 0 (mx_ro 0 (mx_ro 398146 (mx_ro 397889 (pc, ir, ad, sg, st, ct, mc, rg, ce)))) := rfl
    rw [e3, e1, e2]
    show (pc, ir, ad, mc_sgn ((rg (mc_s ir).toNatClampNeg &&& rg (ir &&& 7).toNatClampNeg) &&& 65535), st, ct, mc, upd rg (mc_d ir).toNatClampNeg ((rg (mc_s ir).toNatClampNeg &&& rg (ir &&& 7).toNatClampNeg) &&& 65535), ce) = (pc, ir, ad, mc_sgn ((rg (mc_s ir).toNatClampNeg &&& my_z ir rg) &&& 65535), st, ct, mc, upd rg (mc_d ir).toNatClampNeg ((rg (mc_s ir).toNatClampNeg &&& my_z ir rg) &&& 65535), ce)
    rw [z]
  · refine ⟨ad, ?_⟩
    have z : my_z ir rg = mc_sx 5 ir := if_neg q
    have q1 : (ir >>> ((5 : Int32) &&& 31)) &&& 1 = 1 := (mc_b01 _).resolve_left q
    have e1 : mx_ro 397889 (pc, ir, ad, sg, st, ct, mc, rg, ce) = (pc, ir, ad, sg, st, ct, mc, rg, ce) := mz_f (m := 397889) (decide_eq_false q)
    have e2 : mx_ro 398146 (pc, ir, ad, sg, st, ct, mc, rg, ce) = (pc, ir, ad, mc_sgn ((rg (mc_s ir).toNatClampNeg &&& mc_sx 5 ir) &&& 65535), st, ct, mc, upd rg (mc_d ir).toNatClampNeg ((rg (mc_s ir).toNatClampNeg &&& mc_sx 5 ir) &&& 65535), ce) := mz_t (m := 398146) (decide_eq_true q1)
    have e3 : mx_r4 5 (pc, ir, ad, sg, st, ct, mc, rg, ce) = mx_ro 0 (mx_ro 0 (mx_ro 398146 (mx_ro 397889 (pc, ir, ad, sg, st, ct, mc, rg, ce)))) := rfl
    rw [e3, e1, e2]
    show (pc, ir, ad, mc_sgn ((rg (mc_s ir).toNatClampNeg &&& mc_sx 5 ir) &&& 65535), st, ct, mc, upd rg (mc_d ir).toNatClampNeg ((rg (mc_s ir).toNatClampNeg &&& mc_sx 5 ir) &&& 65535), ce) = (pc, ir, ad, mc_sgn ((rg (mc_s ir).toNatClampNeg &&& my_z ir rg) &&& 65535), st, ct, mc, upd rg (mc_d ir).toNatClampNeg ((rg (mc_s ir).toNatClampNeg &&& my_z ir rg) &&& 65535), ce)
    rw [z]
theorem mz_o0  : ∃ a, mx_r4 0 (pc, ir, ad, sg, st, ct, mc, rg, ce) = mz_up ir a mc (my_in 0 ir (pc, sg, st, ct, rg, ce)) := by
  refine ⟨ad, ?_⟩
  have e3 : mx_r4 0 (pc, ir, ad, sg, st, ct, mc, rg, ce) = mx_ro 0 (mx_ro 0 (mx_ro 0 (mx_ro 66837 (pc, ir, ad, sg, st, ct, mc, rg, ce)))) := rfl
  have e4 : mz_up ir ad mc (my_in 0 ir (pc, sg, st, ct, rg, ce)) = (if (ir >>> ((10 - sg) &&& 31)) &&& 1 = 1 then (pc + mc_sx 9 ir) &&& 65535 else pc, ir, ad, sg, st, ct, mc, rg, ce) := rfl
  by_cases q : (ir >>> ((10 - sg) &&& 31)) &&& 1 = 1
  · have e1 : mx_ro 66837 (pc, ir, ad, sg, st, ct, mc, rg, ce) = ((pc + mc_sx 9 ir) &&& 65535, ir, ad, sg, st, ct, mc, rg, ce) := mz_t (m := 66837) (decide_eq_true q)
    rw [e3, e4, e1, if_pos q]
    rfl
  · have e1 : mx_ro 66837 (pc, ir, ad, sg, st, ct, mc, rg, ce) = (pc, ir, ad, sg, st, ct, mc, rg, ce) := mz_f (m := 66837) (decide_eq_false q)
    rw [e3, e4, e1, if_neg q]
    rfl
theorem mz_o4 (hp : mc_wd pc) (hr : ∀ j, mc_wd (rg j)) : ∃ a, mx_r4 4 (pc, ir, ad, sg, st, ct, mc, rg, ce) = mz_up ir a mc (my_in 4 ir (pc, sg, st, ct, rg, ce)) := by
  have e3 : mx_r4 4 (pc, ir, ad, sg, st, ct, mc, rg, ce) = mx_ro 65568 (mx_ro 327696 (mx_ro 198164 (mx_ro 196675 (pc, ir, ad, sg, st, ct, mc, rg, ce)))) := rfl
  have e4 : ∀ a, mz_up ir a mc (my_in 4 ir (pc, sg, st, ct, rg, ce)) = (if (ir >>> ((11 : Int32) &&& 31)) &&& 1 = 1 then ((pc + mc_sx 11 ir) &&& 65535) else rg (mc_s ir).toNatClampNeg, ir, a, sg, st, ct, mc, upd rg 7 pc, ce) := fun _ => rfl
  have e5 : ∀ a, mx_ro 65568 (mx_ro 327696 (pc, ir, a, sg, st, ct, mc, rg, ce)) = ((a + 0) &&& 65535, ir, a, sg, st, ct, mc, upd rg 7 ((pc + 0) &&& 65535), ce) := fun _ => rfl
  by_cases q : (ir >>> ((11 : Int32) &&& 31)) &&& 1 = 1
  · refine ⟨((pc + mc_sx 11 ir) &&& 65535), ?_⟩
    have e1 : mx_ro 196675 (pc, ir, ad, sg, st, ct, mc, rg, ce) = (pc, ir, ad, sg, st, ct, mc, rg, ce) := mz_f (m := 196675) (decide_eq_false (by rw [q]; decide))
    have e2 : mx_ro 198164 (pc, ir, ad, sg, st, ct, mc, rg, ce) = (pc, ir, ((pc + mc_sx 11 ir) &&& 65535), sg, st, ct, mc, rg, ce) := mz_t (m := 198164) (decide_eq_true q)
    rw [e3, e1, e2, e4, e5, if_pos q, mc_p0 hp, mc_p0 (mc_wd_and _)]
  · have q1 : (ir >>> ((11 : Int32) &&& 31)) &&& 1 = 0 := (mc_b01 _).resolve_right q
    refine ⟨rg (mc_s ir).toNatClampNeg, ?_⟩
    have e1 : mx_ro 196675 (pc, ir, ad, sg, st, ct, mc, rg, ce) = (pc, ir, rg (mc_s ir).toNatClampNeg, sg, st, ct, mc, rg, ce) := by
      have e0 : mx_ro 196675 (pc, ir, ad, sg, st, ct, mc, rg, ce) = (pc, ir, ((rg (mc_s ir).toNatClampNeg + 0) &&& 65535), sg, st, ct, mc, rg, ce) := mz_t (m := 196675) (decide_eq_true q1)
      rw [e0, mc_p0 (hr _)]
    have e2 : mx_ro 198164 (pc, ir, rg (mc_s ir).toNatClampNeg, sg, st, ct, mc, rg, ce) = (pc, ir, rg (mc_s ir).toNatClampNeg, sg, st, ct, mc, rg, ce) := mz_f (m := 198164) (decide_eq_false q)
    rw [e3, e1, e2, e4, e5, if_neg q, mc_p0 hp, mc_p0 (hr _)]
theorem mz_all {o : Nat} (ho : o < 16) (hp : mc_wd pc) (hr : ∀ j, mc_wd (rg j)) : ∃ a, mx_r4 o (pc, ir, ad, sg, st, ct, mc, rg, ce) = mz_up ir a mc (my_in o ir (pc, sg, st, ct, rg, ce)) := by
  obtain rfl | rfl | rfl | rfl | rfl | rfl | rfl | rfl | rfl | rfl | rfl | rfl | rfl | rfl | rfl | rfl : o = 0 ∨ o = 1 ∨ o = 2 ∨ o = 3 ∨ o = 4 ∨ o = 5 ∨ o = 6 ∨ o = 7 ∨ o = 8 ∨ o = 9 ∨ o = 10 ∨ o = 11 ∨ o = 12 ∨ o = 13 ∨ o = 14 ∨ o = 15 := by omega
  · exact mz_o0
  · exact mz_o1
  · exact mz_o2
  · exact mz_o3 hr
  · exact mz_o4 hp hr
  · exact mz_o5
  · exact mz_o6
  · exact mz_o7 hr
  · exact mz_o8
  · exact mz_o9 hr
  · exact mz_o10
  · exact mz_o11 hr
  · exact mz_o12 hr
  · exact mz_o13
  · exact mz_o14
  · exact mz_o15
end
/-- all that is held is a word, and the sign is one of three -/
def mz_ok (v : SY) : Prop := mc_wd v.1 ∧ mc_sok v.2.1 ∧ (∀ j, mc_wd (v.2.2.2.2.1 j)) ∧ (∀ j, mc_wd (v.2.2.2.2.2 j))
theorem mz_upd {f : Nat → Int32} {x : Int32} (k : Nat) (hf : ∀ j, mc_wd (f j)) (hx : mc_wd x) : ∀ j, mc_wd (upd f k x j) := by
  intro j
  by_cases h : j = k
  · rw [h, pk_us]
    exact hx
  · rw [pk_un h]
    exact hf j
theorem mz_okG {d x : Int32} {v : SY} (h : mz_ok v) : mz_ok (my_gv d x v) := by
  obtain ⟨pc, sg, st, ct, rg, ce⟩ := v
  obtain ⟨h1, h2, h3, h4⟩ := h
  exact ⟨h1, mc_sgn_ok _, mz_upd _ h3 (mc_wd_and _), h4⟩
theorem mz_okC {o : Nat} {z x : Int32} {v : SY} (h : mz_ok v) : mz_ok (my_cz o z x v) := by
  obtain ⟨pc, sg, st, ct, rg, ce⟩ := v
  unfold my_cz
  dsimp only
  split <;> first | exact mz_okG h | exact h
theorem mz_okM {o : Nat} {x : Int32} {v : SY} (h : mz_ok v) : mz_ok (my_mv o x v) := by
  obtain ⟨pc, sg, st, ct, rg, ce⟩ := v
  have ⟨h1, h2, h3, h4⟩ := h
  unfold my_mv
  dsimp only
  split <;> first | exact mz_okG h | exact ⟨h1, h2, h3, mz_upd _ h4 (h3 _)⟩ | exact h
theorem mz_okO {o : Nat} {x : Int32} {v : SY} (h : mz_ok v) : mz_ok (my_go o x v) := by
  obtain ⟨pc, sg, st, ct, rg, ce⟩ := v
  have ⟨h1, h2, h3, h4⟩ := h
  have a : mc_wd (if (x >>> ((10 - sg) &&& 31)) &&& 1 = 1 then (pc + mc_sx 9 x) &&& 65535 else pc) := by
    split
    · exact mc_wd_and _
    · exact h1
  have b : mc_wd (if (x >>> ((11 : Int32) &&& 31)) &&& 1 = 1 then (pc + mc_sx 11 x) &&& 65535 else rg (mc_s x).toNatClampNeg) := by
    split
    · exact mc_wd_and _
    · exact h3 _
  unfold my_go
  dsimp only
  split <;> first | exact h | exact ⟨a, h2, h3, h4⟩ | exact ⟨h3 _, h2, h3, h4⟩ | exact ⟨b, h2, mz_upd _ h3 h1, h4⟩ | exact ⟨h1, h2, h3, h4⟩
theorem mz_okI {o : Nat} {x : Int32} {v : SY} (h : mz_ok v) : mz_ok (my_in o x v) := by
  obtain ⟨pc, sg, st, ct, rg, ce⟩ := v
  exact mz_okO (mz_okM (mz_okC h))
