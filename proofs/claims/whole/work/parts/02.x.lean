/-! The component's methods against pure functions; the table of its microcode -/
def mx_N (j : Nat) : Nat := match j with
  | 0 => 66837
  | 4 => 393793
  | 5 => 394050
  | 8 => 197904
  | 9 => 393264
  | 12 => 197904
  | 13 => 262224
  | 16 => 196675
  | 17 => 198164
  | 18 => 327696
  | 19 => 65568
  | 20 => 397889
  | 21 => 398146
  | 24 => 197696
  | 25 => 393264
  | 28 => 197696
  | 29 => 262224
  | 32 => 524288
  | 36 => 401472
  | 40 => 197904
  | 41 => 196656
  | 42 => 393264
  | 44 => 197904
  | 45 => 196656
  | 46 => 262224
  | 48 => 65600
  | 52 => 524288
  | 56 => 394512
  | 60 => 458752
  | 64 => 196624
  | 65 => 131120
  | 66 => 65808
  | _ => 0
theorem mx_e7 : ∀ j, j < 68 → nI (mx_N j) &&& 7 = nI (mx_N j % 8) := by decide +kernel
theorem mx_eL : ∀ j, j < 68 → nI (mx_N j) &&& 112 = nI (16 * (mx_N j / 16 % 8)) := by decide +kernel
theorem mx_eR : ∀ j, j < 68 → nI (mx_N j) &&& 1792 = nI (256 * (mx_N j / 256 % 8)) := by decide +kernel
theorem mx_eF : ∀ j, j < 68 → nI (mx_N j) &&& 12288 = nI (4096 * (mx_N j / 4096 % 4)) := by decide +kernel
theorem mx_eT : ∀ j, j < 68 → nI (mx_N j) &&& 983040 = nI (65536 * (mx_N j / 65536 % 16)) := by decide +kernel
theorem mx_b7 : ∀ j, j < 68 → mx_N j % 8 < 6 := by decide +kernel
theorem mx_bL : ∀ j, j < 68 → mx_N j / 16 % 8 < 6 := by decide +kernel
theorem mx_bR : ∀ j, j < 68 → mx_N j / 256 % 8 < 7 := by decide +kernel
theorem mx_bF : ∀ j, j < 68 → mx_N j / 4096 % 4 < 3 := by decide +kernel
theorem mx_bT : ∀ j, j < 68 → mx_N j / 65536 % 16 < 9 := by decide +kernel
def mx_ac (a : Nat) (ir sg : Int32) : Bool := match a with
  | 1 => decide ((ir >>> ((5 : Int32) &&& 31)) &&& 1 = 0)
  | 2 => decide ((ir >>> ((5 : Int32) &&& 31)) &&& 1 = 1)
  | 3 => decide ((ir >>> ((11 : Int32) &&& 31)) &&& 1 = 0)
  | 4 => decide ((ir >>> ((11 : Int32) &&& 31)) &&& 1 = 1)
  | 5 => decide ((ir >>> ((10 - sg) &&& 31)) &&& 1 = 1)
  | _ => true
def mx_lf (l : Nat) (pc ir ad : Int32) (rg ce : Nat → Int32) : Int32 := match l with
  | 1 => pc
  | 2 => ad
  | 3 => ce (ad &&& 63).toNatClampNeg
  | 4 => rg ((ir >>> ((6 : Int32) &&& 31)) &&& 7).toNatClampNeg
  | 5 => rg ((ir >>> ((9 : Int32) &&& 31)) &&& 7).toNatClampNeg
  | _ => 0
def mx_rt (r : Nat) (ir : Int32) (rg : Nat → Int32) : Int32 := match r with
  | 1 => 1
  | 2 => rg (ir &&& 7).toNatClampNeg
  | 3 => mc_sx 5 ir
  | 4 => mc_sx 6 ir
  | 5 => mc_sx 9 ir
  | 6 => mc_sx 11 ir
  | _ => 0
def mx_jn (f : Nat) (x y : Int32) : Int32 := match f with
  | 1 => (x &&& y) &&& 65535
  | 2 => (x ^^^ (-1)) &&& 65535
  | _ => (x + y) &&& 65535
def mx_sd (t : Nat) (x : Int32) (pc ir ad sg st ct : Int32) (mc rg ce : Nat → Int32) : SX := match t with
  | 1 => (x, ir, ad, sg, st, ct, mc, rg, ce)
  | 2 => (pc, x, ad, sg, st, ct, mc, rg, ce)
  | 3 => (pc, ir, x, sg, st, ct, mc, rg, ce)
  | 4 => (pc, ir, ad, sg, st, ct, mc, rg, upd ce (ad &&& 63).toNatClampNeg x)
  | 5 => (pc, ir, ad, sg, st, ct, mc, upd rg 7 x, ce)
  | 6 => (pc, ir, ad, mc_sgn x, st, ct, mc, upd rg ((ir >>> ((9 : Int32) &&& 31)) &&& 7).toNatClampNeg x, ce)
  | 7 => (pc, ir, ad, sg, 1, ct, mc, rg, ce)
  | 8 => (pc, ir, ad, sg, 2, ct, mc, rg, ce)
  | _ => (pc, ir, ad, sg, st, ct, mc, rg, ce)
def mx_pf (m : Nat) (pc ir ad sg st ct : Int32) (mc rg ce : Nat → Int32) : SX := mx_sd (m / 65536 % 16) (mx_jn (m / 4096 % 4) (mx_lf (m / 16 % 8) pc ir ad rg ce) (mx_rt (m / 256 % 8) ir rg)) pc ir ad sg st ct mc rg ce
/-- one row of microcode -/
def mx_ro (m : Nat) (u : SX) : SX := match u with
  | (pc, ir, ad, sg, st, ct, mc, rg, ce) => match mx_ac (m % 8) ir sg with
    | true => mx_pf m pc ir ad sg st ct mc rg ce
    | false => (pc, ir, ad, sg, st, ct, mc, rg, ce)
/-- one routine: four rows -/
def mx_r4 (R : Nat) (u : SX) : SX := mx_ro (mx_N (R * 4 + 3)) (mx_ro (mx_N (R * 4 + 2)) (mx_ro (mx_N (R * 4 + 1)) (mx_ro (mx_N (R * 4 + 0)) u)))
section
variable {pc ir ad sg st ct : Int32} {mc rg ce : Nat → Int32}
theorem mx_acts {post : Int32 → Prop} {m : Int32} (a : Nat) (ha : a < 6) (hm : m &&& 7 = nI a) (ht : mx_ac a ir sg = true → post 1) (hf : mx_ac a ir sg = false → post 0) : wpX_acts post (pc, ir, ad, sg, st, ct, mc, rg, ce) m := by
  refine nm_r hm ?_
  obtain rfl | rfl | rfl | rfl | rfl | rfl : a = 0 ∨ a = 1 ∨ a = 2 ∨ a = 3 ∨ a = 4 ∨ a = 5 := by omega
  · exact br_t (by decide +kernel) (ht rfl)
  · exact br_f (by decide +kernel) (br_f (by decide +kernel) (br_t (by decide +kernel) (br_c (fun h => ht (decide_eq_true h)) (fun h => hf (decide_eq_false h)))))
  · exact br_f (by decide +kernel) (br_f (by decide +kernel) (br_f (by decide +kernel) (br_t (by decide +kernel) (br_c (fun h => ht (decide_eq_true h)) (fun h => hf (decide_eq_false h))))))
  · exact br_f (by decide +kernel) (br_f (by decide +kernel) (br_f (by decide +kernel) (br_f (by decide +kernel) (br_t (by decide +kernel) (br_c (fun h => ht (decide_eq_true h)) (fun h => hf (decide_eq_false h)))))))
  · exact br_f (by decide +kernel) (br_f (by decide +kernel) (br_f (by decide +kernel) (br_f (by decide +kernel) (br_f (by decide +kernel) (br_t (by decide +kernel) (br_c (fun h => ht (decide_eq_true h)) (fun h => hf (decide_eq_false h))))))))
  · exact br_f (by decide +kernel) (br_f (by decide +kernel) (br_f (by decide +kernel) (br_f (by decide +kernel) (br_f (by decide +kernel) (br_f (by decide +kernel) (br_t (by decide +kernel) (br_c (fun h => ht (decide_eq_true h)) (fun h => hf (decide_eq_false h)))))))))
theorem mx_left {post : Int32 → Prop} {m : Int32} (l : Nat) (hl : l < 6) (hm : m &&& 112 = nI (16 * l)) (h : post (mx_lf l pc ir ad rg ce)) : wpX_leftInput post (pc, ir, ad, sg, st, ct, mc, rg, ce) m := by
  refine nm_r hm ?_
  obtain rfl | rfl | rfl | rfl | rfl | rfl : l = 0 ∨ l = 1 ∨ l = 2 ∨ l = 3 ∨ l = 4 ∨ l = 5 := by omega
  · exact br_f (by decide +kernel) (br_f (by decide +kernel) (br_f (by decide +kernel) (br_f (by decide +kernel) (br_f (by decide +kernel) (h)))))
  · exact br_t (by decide +kernel) (h)
  · exact br_f (by decide +kernel) (br_t (by decide +kernel) (h))
  · exact br_f (by decide +kernel) (br_f (by decide +kernel) (br_t (by decide +kernel) (⟨mc_in63 _, h⟩)))
  · exact br_f (by decide +kernel) (br_f (by decide +kernel) (br_f (by decide +kernel) (br_t (by decide +kernel) (⟨mc_in7 _, h⟩))))
  · exact br_f (by decide +kernel) (br_f (by decide +kernel) (br_f (by decide +kernel) (br_f (by decide +kernel) (br_t (by decide +kernel) (⟨mc_in7 _, h⟩)))))
theorem mx_sl {post : Int32 → Prop} (k : Nat) (hk : k < 17) (h0 : 0 < k) (h : post (mc_sx k ir)) : wpX_signedLowest post (pc, ir, ad, sg, st, ct, mc, rg, ce) (nI k) := by
  refine nm_r (mc_pw k hk) (nm_e ⟨by decide, ?_⟩)
  rw [mc_hf k hk h0]
  unfold mc_sx at h
  split at h
  · exact br_t ‹_› h
  · exact br_f ‹_› h
theorem mx_right {post : Int32 → Prop} {m : Int32} (r : Nat) (hr : r < 7) (hm : m &&& 1792 = nI (256 * r)) (h : post (mx_rt r ir rg)) : wpX_rightInput post (pc, ir, ad, sg, st, ct, mc, rg, ce) m := by
  refine nm_r hm ?_
  obtain rfl | rfl | rfl | rfl | rfl | rfl | rfl : r = 0 ∨ r = 1 ∨ r = 2 ∨ r = 3 ∨ r = 4 ∨ r = 5 ∨ r = 6 := by omega
  · exact br_f (by decide +kernel) (br_f (by decide +kernel) (br_f (by decide +kernel) (br_f (by decide +kernel) (br_f (by decide +kernel) (br_f (by decide +kernel) (h))))))
  · exact br_t (by decide +kernel) (h)
  · exact br_f (by decide +kernel) (br_t (by decide +kernel) (⟨mc_in7 _, h⟩))
  · exact br_f (by decide +kernel) (br_f (by decide +kernel) (br_t (by decide +kernel) (mx_sl 5 (by decide) (by decide) h)))
  · exact br_f (by decide +kernel) (br_f (by decide +kernel) (br_f (by decide +kernel) (br_t (by decide +kernel) (mx_sl 6 (by decide) (by decide) h))))
  · exact br_f (by decide +kernel) (br_f (by decide +kernel) (br_f (by decide +kernel) (br_f (by decide +kernel) (br_t (by decide +kernel) (mx_sl 9 (by decide) (by decide) h)))))
  · exact br_f (by decide +kernel) (br_f (by decide +kernel) (br_f (by decide +kernel) (br_f (by decide +kernel) (br_f (by decide +kernel) (br_t (by decide +kernel) (mx_sl 11 (by decide) (by decide) h))))))
theorem mx_join {post : Int32 → Prop} {m x y : Int32} (f : Nat) (hf : f < 3) (hm : m &&& 12288 = nI (4096 * f)) (h : post (mx_jn f x y)) : wpX_joined post m x y := by
  refine nm_r hm ?_
  obtain rfl | rfl | rfl : f = 0 ∨ f = 1 ∨ f = 2 := by omega
  · exact br_f (by decide +kernel) (br_f (by decide +kernel) (h))
  · exact br_t (by decide +kernel) (h)
  · exact br_f (by decide +kernel) (br_t (by decide +kernel) (h))
theorem mx_sgn {post : Int32 → Prop} {x : Int32} (h : post (mc_sgn x)) : wpX_signOf post x := by
  unfold mc_sgn at h
  split at h
  · split at h
    · exact br_t ‹_› (br_t ‹_› h)
    · exact br_t ‹_› (br_f ‹_› h)
  · exact br_f ‹_› h
theorem mx_send {post : SX → Prop} {m x : Int32} (t : Nat) (ht : t < 9) (hm : m &&& 983040 = nI (65536 * t)) (h : post (mx_sd t x pc ir ad sg st ct mc rg ce)) : wpX_send post (pc, ir, ad, sg, st, ct, mc, rg, ce) m x := by
  refine nm_r hm ?_
  obtain rfl | rfl | rfl | rfl | rfl | rfl | rfl | rfl | rfl : t = 0 ∨ t = 1 ∨ t = 2 ∨ t = 3 ∨ t = 4 ∨ t = 5 ∨ t = 6 ∨ t = 7 ∨ t = 8 := by omega
  · exact br_f (by decide +kernel) (br_f (by decide +kernel) (br_f (by decide +kernel) (br_f (by decide +kernel) (br_f (by decide +kernel) (br_f (by decide +kernel) (br_f (by decide +kernel) (br_f (by decide +kernel) (h))))))))
  · exact br_t (by decide +kernel) (h)
  · exact br_f (by decide +kernel) (br_t (by decide +kernel) (h))
  · exact br_f (by decide +kernel) (br_f (by decide +kernel) (br_t (by decide +kernel) (h)))
  · exact br_f (by decide +kernel) (br_f (by decide +kernel) (br_f (by decide +kernel) (br_t (by decide +kernel) (⟨mc_in63 _, nm_e h⟩))))
  · exact br_f (by decide +kernel) (br_f (by decide +kernel) (br_f (by decide +kernel) (br_f (by decide +kernel) (br_t (by decide +kernel) (nm_e h)))))
  · exact br_f (by decide +kernel) (br_f (by decide +kernel) (br_f (by decide +kernel) (br_f (by decide +kernel) (br_f (by decide +kernel) (br_t (by decide +kernel) (⟨mc_in7 _, nm_e (mx_sgn h)⟩))))))
  · exact br_f (by decide +kernel) (br_f (by decide +kernel) (br_f (by decide +kernel) (br_f (by decide +kernel) (br_f (by decide +kernel) (br_f (by decide +kernel) (br_t (by decide +kernel) (h)))))))
  · exact br_f (by decide +kernel) (br_f (by decide +kernel) (br_f (by decide +kernel) (br_f (by decide +kernel) (br_f (by decide +kernel) (br_f (by decide +kernel) (br_f (by decide +kernel) (br_t (by decide +kernel) (h))))))))
theorem mx_perf {post : SX → Prop} (j : Nat) (hj : j < 68) (h : post (mx_pf (mx_N j) pc ir ad sg st ct mc rg ce)) : wpX_perform post (pc, ir, ad, sg, st, ct, mc, rg, ce) (nI (mx_N j)) := by
  unfold wpX_perform
  refine mx_left _ (mx_bL j hj) (mx_eL j hj) ?_
  refine mx_right _ (mx_bR j hj) (mx_eR j hj) ?_
  refine mx_join _ (mx_bF j hj) (mx_eF j hj) ?_
  exact mx_send _ (mx_bT j hj) (mx_eT j hj) h
end
/-- the loop's head at a whole state -/
def mx_W (post : SX → Prop) (R : Int32) (n : Nat) (i : Int32) (u : SX) : Prop := match u with
  | (pc, ir, ad, sg, st, ct, mc, rg, ce) => wX_runRoutine_2 post R n i pc ir ad sg st ct mc rg ce
def mx_mc (u : SX) : Nat → Int32 := u.2.2.2.2.2.2.1
theorem mx_row {post : SX → Prop} (R i n : Nat) (hR : R < 17) (hi : i < 4) (u : SX) (hm : mx_mc u (R * 4 + i) = nI (mx_N (R * 4 + i))) (h : mx_W post (nI R) n (nI (i + 1)) (mx_ro (mx_N (R * 4 + i)) u)) : mx_W post (nI R) (n + 1) (nI i) u := by
  obtain ⟨pc, ir, ad, sg, st, ct, mc, rg, ce⟩ := u
  have e : nI R * 4 + nI i = nI (R * 4 + i) := by
    rw [show (4 : Int32) = nI 4 from rfl, pk_mul, nI_add]
  have hj : R * 4 + i < 68 := by omega
  have hm' : mc (nI R * 4 + nI i).toNatClampNeg = nI (mx_N (R * 4 + i)) := by
    rw [e, nI_clamp (by omega)]
    exact hm
  have hin : vp_in (nI R * 4 + nI i) 68 := by
    rw [e]
    exact vp_in_nI hj (by omega)
  show wX_runRoutine_2 post (nI R) (n + 1) (nI i) pc ir ad sg st ct mc rg ce
  refine br_f (nI_ge (b := 4) hi (by decide)) ⟨hin, nm_r hm' ?_⟩
  refine mx_acts _ (mx_b7 _ hj) (mx_e7 _ hj) (fun q => ?_) (fun q => ?_)
  · refine br_f (by decide) (mx_perf _ hj ?_)
    have h2 : mx_W post (nI R) n (nI (i + 1)) (mx_pf (mx_N (R * 4 + i)) pc ir ad sg st ct mc rg ce) := by
      unfold mx_ro at h
      dsimp only at h
      rw [q] at h
      exact h
    generalize mx_pf (mx_N (R * 4 + i)) pc ir ad sg st ct mc rg ce = u' at h2 ⊢
    obtain ⟨pc', ir', ad', sg', st', ct', mc', rg', ce'⟩ := u'
    exact nm_r (nI_1 i) h2
  · refine br_t (by decide) (nm_r (nI_1 i) ?_)
    unfold mx_ro at h
    dsimp only at h
    rw [q] at h
    exact h
theorem mx_mcS (t : Nat) (x pc ir ad sg st ct : Int32) (mc rg ce : Nat → Int32) : mx_mc (mx_sd t x pc ir ad sg st ct mc rg ce) = mc := by
  unfold mx_sd
  split <;> rfl
theorem mx_mcR (m : Nat) (u : SX) : mx_mc (mx_ro m u) = mx_mc u := by
  obtain ⟨pc, ir, ad, sg, st, ct, mc, rg, ce⟩ := u
  unfold mx_ro
  dsimp only
  split
  · exact mx_mcS _ _ _ _ _ _ _ _ _ _ _
  · rfl
theorem mx_run {post : SX → Prop} (R : Nat) (hR : R < 17) (u : SX) (hm : ∀ j, j < 68 → mx_mc u j = nI (mx_N j)) (h : post (mx_r4 R u)) : wpX_runRoutine post u (nI R) := by
  have a : mx_W post (nI R) 5 (nI 0) u := by
    refine mx_row R 0 4 hR (by omega) u (hm _ (by omega)) ?_
    refine mx_row R 1 3 hR (by omega) _ (by rw [mx_mcR]; exact hm _ (by omega)) ?_
    refine mx_row R 2 2 hR (by omega) _ (by rw [mx_mcR, mx_mcR]; exact hm _ (by omega)) ?_
    refine mx_row R 3 1 hR (by omega) _ (by rw [mx_mcR, mx_mcR, mx_mcR]; exact hm _ (by omega)) ?_
    have h2 : post (mx_ro (mx_N (R * 4 + 3)) (mx_ro (mx_N (R * 4 + 2)) (mx_ro (mx_N (R * 4 + 1)) (mx_ro (mx_N (R * 4 + 0)) u)))) := h
    generalize mx_ro (mx_N (R * 4 + 3)) (mx_ro (mx_N (R * 4 + 2)) (mx_ro (mx_N (R * 4 + 1)) (mx_ro (mx_N (R * 4 + 0)) u))) = u' at h2 ⊢
    obtain ⟨pc', ir', ad', sg', st', ct', mc', rg', ce'⟩ := u'
    exact br_t (by decide) h2
  obtain ⟨pc, ir, ad, sg, st, ct, mc, rg, ce⟩ := u
  exact ⟨5, a⟩
section
variable {pc ir ad sg st ct : Int32} {mc rg ce : Nat → Int32}
theorem mx_wr {post : SX → Prop} (R i : Nat) {m : Int32} (hR : R < 17) (hi : i < 4) (h : post (pc, ir, ad, sg, st, ct, upd mc (R * 4 + i) m, rg, ce)) : wpX_writeRow post (pc, ir, ad, sg, st, ct, mc, rg, ce) (nI R) (nI i) m := by
  have e : nI R * 4 + nI i = nI (R * 4 + i) := by
    rw [show (4 : Int32) = nI 4 from rfl, pk_mul, nI_add]
  have hj : R * 4 + i < 68 := by omega
  have e2 : (nI R * 4 + nI i).toNatClampNeg = R * 4 + i := by rw [e, nI_clamp (by omega)]
  have hin : vp_in (nI R * 4 + nI i) 68 := by
    rw [e]
    exact vp_in_nI hj (by omega)
  exact ⟨hin, nm_r (congrArg (fun z => upd mc z m) e2) h⟩
theorem mx_writeFetchRoutine {post : SX → Prop} (h : post (pc, ir, ad, sg, st, ct, upd (upd (upd mc 64 196624) 65 131120) 66 65808, rg, ce)) : wpX_writeFetchRoutine post (pc, ir, ad, sg, st, ct, mc, rg, ce) := by
  unfold wpX_writeFetchRoutine
  refine mx_wr 16 0 (by decide) (by decide) ?_
  refine mx_wr 16 1 (by decide) (by decide) ?_
  refine mx_wr 16 2 (by decide) (by decide) ?_
  exact h
theorem mx_writeCalculationRoutines {post : SX → Prop} (h : post (pc, ir, ad, sg, st, ct, upd (upd (upd (upd (upd (upd mc 4 393793) 5 394050) 20 397889) 21 398146) 36 401472) 56 394512, rg, ce)) : wpX_writeCalculationRoutines post (pc, ir, ad, sg, st, ct, mc, rg, ce) := by
  unfold wpX_writeCalculationRoutines
  refine mx_wr 1 0 (by decide) (by decide) ?_
  refine mx_wr 1 1 (by decide) (by decide) ?_
  refine mx_wr 5 0 (by decide) (by decide) ?_
  refine mx_wr 5 1 (by decide) (by decide) ?_
  refine mx_wr 9 0 (by decide) (by decide) ?_
  refine mx_wr 14 0 (by decide) (by decide) ?_
  exact h
theorem mx_writeLoadRoutines {post : SX → Prop} (h : post (pc, ir, ad, sg, st, ct, upd (upd (upd (upd (upd (upd (upd mc 8 197904) 9 393264) 24 197696) 25 393264) 40 197904) 41 196656) 42 393264, rg, ce)) : wpX_writeLoadRoutines post (pc, ir, ad, sg, st, ct, mc, rg, ce) := by
  unfold wpX_writeLoadRoutines
  refine mx_wr 2 0 (by decide) (by decide) ?_
  refine mx_wr 2 1 (by decide) (by decide) ?_
  refine mx_wr 6 0 (by decide) (by decide) ?_
  refine mx_wr 6 1 (by decide) (by decide) ?_
  refine mx_wr 10 0 (by decide) (by decide) ?_
  refine mx_wr 10 1 (by decide) (by decide) ?_
  refine mx_wr 10 2 (by decide) (by decide) ?_
  exact h
theorem mx_writeStoreRoutines {post : SX → Prop} (h : post (pc, ir, ad, sg, st, ct, upd (upd (upd (upd (upd (upd (upd mc 12 197904) 13 262224) 28 197696) 29 262224) 44 197904) 45 196656) 46 262224, rg, ce)) : wpX_writeStoreRoutines post (pc, ir, ad, sg, st, ct, mc, rg, ce) := by
  unfold wpX_writeStoreRoutines
  refine mx_wr 3 0 (by decide) (by decide) ?_
  refine mx_wr 3 1 (by decide) (by decide) ?_
  refine mx_wr 7 0 (by decide) (by decide) ?_
  refine mx_wr 7 1 (by decide) (by decide) ?_
  refine mx_wr 11 0 (by decide) (by decide) ?_
  refine mx_wr 11 1 (by decide) (by decide) ?_
  refine mx_wr 11 2 (by decide) (by decide) ?_
  exact h
theorem mx_writeControlRoutines {post : SX → Prop} (h : post (pc, ir, ad, sg, st, ct, upd (upd (upd (upd (upd (upd (upd (upd (upd mc 0 66837) 48 65600) 16 196675) 17 198164) 18 327696) 19 65568) 60 458752) 32 524288) 52 524288, rg, ce)) : wpX_writeControlRoutines post (pc, ir, ad, sg, st, ct, mc, rg, ce) := by
  unfold wpX_writeControlRoutines
  refine mx_wr 0 0 (by decide) (by decide) ?_
  refine mx_wr 12 0 (by decide) (by decide) ?_
  refine mx_wr 4 0 (by decide) (by decide) ?_
  refine mx_wr 4 1 (by decide) (by decide) ?_
  refine mx_wr 4 2 (by decide) (by decide) ?_
  refine mx_wr 4 3 (by decide) (by decide) ?_
  refine mx_wr 15 0 (by decide) (by decide) ?_
  refine mx_wr 8 0 (by decide) (by decide) ?_
  refine mx_wr 13 0 (by decide) (by decide) ?_
  exact h
end
/-- the microcode as the constructor leaves it -/
def mx_C : Nat → Int32 := upd (upd (upd (upd (upd (upd (upd (upd (upd (upd (upd (upd (upd (upd (upd (upd (upd (upd (upd (upd (upd (upd (upd (upd (upd (upd (upd (upd (upd (upd (upd (upd ((fun _ => 0)) 64 196624) 65 131120) 66 65808) 4 393793) 5 394050) 20 397889) 21 398146) 36 401472) 56 394512) 8 197904) 9 393264) 24 197696) 25 393264) 40 197904) 41 196656) 42 393264) 12 197904) 13 262224) 28 197696) 29 262224) 44 197904) 45 196656) 46 262224) 0 66837) 48 65600) 16 196675) 17 198164) 18 327696) 19 65568) 60 458752) 32 524288) 52 524288
theorem mx_tab : ∀ j, j < 68 → mx_C j = nI (mx_N j) := by decide +kernel
theorem mx_init {post : SX → Prop} (h : post (0, 0, 0, 0, 0, 0, mx_C, (fun _ => 0), (fun _ => 0))) : wpX_init post := by
  unfold wpX_init
  refine mx_writeFetchRoutine ?_
  refine mx_writeCalculationRoutines ?_
  refine mx_writeLoadRoutines ?_
  refine mx_writeStoreRoutines ?_
  refine mx_writeControlRoutines ?_
  exact h
