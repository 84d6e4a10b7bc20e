section
theorem pk_us {f : Nat → Int32} {k : Nat} {x : Int32} : upd f k x k = x := if_pos rfl
theorem pk_un {f : Nat → Int32} {k j : Nat} {x : Int32} (h : j ≠ k) : upd f k x j = f j := if_neg h
theorem pk_sub {a b : Nat} (h : b ≤ a) : nI a - nI b = nI (a - b) := by
  obtain ⟨c, rfl⟩ : ∃ c, a = c + b := ⟨a - b, by omega⟩
  rw [← nI_add, Int32.add_sub_cancel, Nat.add_sub_cancel]
theorem pk_m1 (n : Nat) : nI (n + 1) + (-1) = nI n := by
  rw [← nI_1, Int32.add_assoc, show (1 : Int32) + (-1) = 0 from rfl, Int32.add_zero]
theorem pk_mul (a b : Nat) : nI a * nI b = nI (a * b) := (Int32.ofNat_mul a b).symm
theorem pk_div {a d : Nat} (ha : a < 2 ^ 31) (h0 : 0 < d) (hd : d < 2 ^ 31) : nI a / nI d = nI (a / d) := by
  apply Int32.toInt_inj.mp
  rw [lg_idiv_nonneg (by rw [nI_toInt ha]; omega) (by rw [nI_toInt hd]; omega), nI_toInt ha, nI_toInt hd, nI_toInt (Nat.lt_of_le_of_lt (Nat.div_le_self a d) ha)]
  first | rfl | exact (Int.natCast_ediv _ _).symm
theorem pk_rem {a d : Nat} (ha : a < 2 ^ 31) (h0 : 0 < d) (hd : d < 2 ^ 31) : nI a - nI a / nI d * nI d = nI (a % d) := by
  rw [pk_div ha h0 hd, pk_mul, pk_sub (Nat.div_mul_le_self a d)]
  exact congrArg nI (by have := Nat.div_add_mod' a d; omega)
theorem pk_sub_toInt {a b : Nat} (ha : a < 2 ^ 30) (hb : b < 2 ^ 30) : (nI a - nI b).toInt = (a : Int) - b := by
  rw [Int32.toInt_sub, nI_toInt (by omega), nI_toInt (by omega)]
  exact Int.bmod_eq_of_le (by omega) (by omega)
theorem pk_sneg {a b : Nat} (hb : b < 2 ^ 30) (h : a < b) : nI a - nI b < 0 := by
  rw [Int32.lt_iff_toInt_lt, pk_sub_toInt (by omega) hb, show (0 : Int32).toInt = 0 from by decide]
  omega
theorem pk_ix (x : Int32) {n : Nat} (hn : n < 2 ^ 31) : x < 0 ∨ nI n ≤ x ∨ ∃ j : Nat, j < n ∧ x = nI j := by
  by_cases h : x < 0
  · exact Or.inl h
  · obtain ⟨j, hj, rfl⟩ := nI_of h
    by_cases h2 : j < n
    · exact Or.inr (Or.inr ⟨j, h2, rfl⟩)
    · exact Or.inr (Or.inl (nI_le (by omega) hj))
theorem pk_le {x y : Int32} {A B : Prop} (a b : Nat) (f : a ≤ b → A) (g : b < a → B) (hx : x = nI a := by rfl) (hy : y = nI b := by rfl) (ha : a < 2 ^ 31 := by omega) (hb : b < 2 ^ 31 := by omega) : (x ≤ y → A) ∧ (¬ x ≤ y → B) := by
  subst hx hy
  rw [nI_leI ha hb]
  exact ⟨f, fun z => g (by omega)⟩
theorem pk_lt {x y : Int32} {A B : Prop} (a b : Nat) (f : a < b → A) (g : b ≤ a → B) (hx : x = nI a := by rfl) (hy : y = nI b := by rfl) (ha : a < 2 ^ 31 := by omega) (hb : b < 2 ^ 31 := by omega) : (x < y → A) ∧ (¬ x < y → B) := by
  subst hx hy
  rw [nI_ltI ha hb]
  exact ⟨f, fun z => g (by omega)⟩
theorem pk_eq {x y : Int32} {A B : Prop} (a b : Nat) (f : a = b → A) (g : a ≠ b → B) (hx : x = nI a := by rfl) (hy : y = nI b := by rfl) (ha : a < 2 ^ 31 := by omega) (hb : b < 2 ^ 31 := by omega) : (x = y → A) ∧ (¬ x = y → B) := by
  subst hx hy
  rw [nI_eq ha hb]
  exact ⟨f, g⟩
theorem pk_in {x : Int32} (n N : Nat) (h : n < N) (hx : x = nI n := by rfl) (hN : N < 2 ^ 31 := by omega) : vp_in x N := by
  subst hx
  exact vp_in_nI h hN
theorem pk_cl {x : Int32} (n : Nat) (hx : x = nI n := by rfl) (h : n < 2 ^ 31 := by omega) : x.toNatClampNeg = n := by
  subst hx
  exact nI_clamp h
theorem pk_tn {n : Nat} (h : n < 2 ^ 32) : (nI n).toBitVec.toNat = n := Nat.mod_eq_of_lt h
theorem pk_and (x : Int32) {m : Int32} (k : Nat) (hm : m.toBitVec.toNat = 2 ^ k - 1) : x &&& m = nI (x.toBitVec.toNat % 2 ^ k) := by
  apply Int32.toBitVec_inj.mp
  apply BitVec.eq_of_toNat_eq
  rw [Int32.toBitVec_and, BitVec.toNat_and, hm, Nat.and_two_pow_sub_one_eq_mod]
  show _ = (BitVec.ofNat 32 _).toNat
  rw [BitVec.toNat_ofNat]
  exact (Nat.mod_eq_of_lt (Nat.lt_of_le_of_lt (Nat.mod_le _ _) x.toBitVec.isLt)).symm
theorem pk_andN {n : Nat} (h : n < 2 ^ 32) {m : Int32} (k : Nat) (hm : m.toBitVec.toNat = 2 ^ k - 1) : nI n &&& m = nI (n % 2 ^ k) := by
  rw [pk_and _ k hm, pk_tn h]
theorem pk_andE (x : Int32) {m : Int32} (k : Nat) (hm : m.toBitVec.toNat = 2 ^ k - 1) : ∃ j : Nat, j < 2 ^ k ∧ x &&& m = nI j := ⟨_, Nat.mod_lt _ (Nat.two_pow_pos k), pk_and x k hm⟩
theorem pk_andIn (x : Int32) {m : Int32} (k : Nat) (hm : m.toBitVec.toNat = 2 ^ k - 1) (hk : k ≤ 30) : vp_in (x &&& m) (2 ^ k) := by
  obtain ⟨j, hj, e⟩ := pk_andE x k hm
  rw [e]
  exact vp_in_nI hj (Nat.lt_of_le_of_lt (Nat.pow_le_pow_right (by decide) hk) (by decide))
theorem pk_shl (a s : Int32) (k : Nat) (hs : (s.toBitVec.smod 32).toNat = k) : (a <<< s).toBitVec.toNat = a.toBitVec.toNat * 2 ^ k % 2 ^ 32 := by
  show (a.toBitVec <<< (s.toBitVec.smod 32).toNat).toNat = _
  rw [hs, BitVec.toNat_shiftLeft, Nat.shiftLeft_eq]
theorem pk_shlN {n : Nat} (s : Int32) (k : Nat) (hs : (s.toBitVec.smod 32).toNat = k) (h : n * 2 ^ k < 2 ^ 32) : nI n <<< s = nI (n * 2 ^ k) := by
  apply Int32.toBitVec_inj.mp
  apply BitVec.eq_of_toNat_eq
  have hn : n < 2 ^ 32 := Nat.lt_of_le_of_lt (Nat.le_mul_of_pos_right n (Nat.two_pow_pos k)) h
  rw [pk_shl _ _ k hs, pk_tn hn, pk_tn h, Nat.mod_eq_of_lt h]
theorem pk_shr (a s : Int32) (k : Nat) (hs : (s.toBitVec.smod 32).toNat = k) : (a >>> s).toInt = a.toInt >>> k := by
  show (a.toBitVec.sshiftRight (s.toBitVec.smod 32).toNat).toInt = _
  rw [hs, BitVec.toInt_sshiftRight]
  rfl
theorem pk_shrN {n : Nat} (h : n < 2 ^ 31) (s : Int32) (k : Nat) (hs : (s.toBitVec.smod 32).toNat = k) : nI n >>> s = nI (n / 2 ^ k) := by
  apply Int32.toInt_inj.mp
  have h2 : n / 2 ^ k ≤ n := Nat.div_le_self _ _
  rw [pk_shr _ _ k hs, nI_toInt h, nI_toInt (by omega), Int.shiftRight_eq_div_pow]
  rfl
/-- a word: sixteen bits -/
def mc_wd (x : Int32) : Prop := x &&& 65535 = x
theorem mc_wd_and (x : Int32) : mc_wd (x &&& 65535) := by
  unfold mc_wd
  rw [Int32.and_assoc, Int32.and_self]
theorem mc_a63 (x : Int32) : (x &&& 65535) &&& 63 = x &&& 63 := by
  rw [Int32.and_assoc, show (65535 : Int32) &&& 63 = 63 from by decide]
theorem mc_wd_nI {x : Int32} (h : mc_wd x) : ∃ w : Nat, w < 65536 ∧ x = nI w := by
  obtain ⟨j, hj, e⟩ := pk_andE x (m := 65535) 16 (by decide)
  exact ⟨j, hj, h.symm.trans e⟩
theorem mc_nI_wd {w : Nat} (h : w < 65536) : mc_wd (nI w) := by
  unfold mc_wd
  rw [pk_andN (m := 65535) (by omega) 16 (by decide), Nat.mod_eq_of_lt h]
theorem mc_wd0 : mc_wd 0 := by unfold mc_wd; decide
theorem mc_p0 {x : Int32} (h : mc_wd x) : (x + 0) &&& 65535 = x := by rw [Int32.add_zero]; exact h
theorem mc_not {x : Int32} (h : mc_wd x) : (x ^^^ (-1)) &&& 65535 = (65535 - x) &&& 65535 := by
  obtain ⟨w, hw, rfl⟩ := mc_wd_nI h
  have e1 : (nI w ^^^ (-1)).toBitVec.toNat = 2 ^ 32 - 1 - w := by
    rw [Int32.toBitVec_xor, show (-1 : Int32).toBitVec = BitVec.allOnes 32 from by decide, BitVec.xor_allOnes, BitVec.toNat_not, pk_tn (by omega)]
  have e2 : (65535 : Int32) - nI w = nI (65535 - w) := by
    rw [← pk_sub (by omega)]
    rfl
  rw [pk_and (nI w ^^^ (-1)) (m := 65535) 16 (by decide), e1, e2, pk_andN (m := 65535) (by omega) 16 (by decide)]
  exact congrArg nI (by omega)
theorem mc_b01 (x : Int32) : x &&& 1 = 0 ∨ x &&& 1 = 1 := by
  obtain ⟨j, hj, e⟩ := pk_andE x (m := 1) 1 (by decide)
  rw [e]
  obtain rfl | rfl : j = 0 ∨ j = 1 := by omega
  · exact Or.inl rfl
  · exact Or.inr rfl
theorem mc_op {w : Nat} (h : w < 65536) : nI w >>> ((12 : Int32) &&& 31) = nI (w / 4096) := pk_shrN (by omega) _ 12 (by decide)
theorem mc_op15 {w : Nat} (h : w < 65536) : (nI w >>> ((12 : Int32) &&& 31)) &&& 15 = nI (w / 4096) := by
  rw [mc_op h, pk_andN (m := 15) (by omega) 4 (by decide)]
  exact congrArg nI (by omega)
/-- the sign of a word's signed reading -/
def mc_sgn (x : Int32) : Int32 := if x < 32768 then (if x = 0 then 0 else 1) else -1
def mc_sok (s : Int32) : Prop := s = -1 ∨ s = 0 ∨ s = 1
theorem mc_sgn_ok (x : Int32) : mc_sok (mc_sgn x) := by
  unfold mc_sgn mc_sok
  split
  · split
    · exact Or.inr (Or.inl rfl)
    · exact Or.inr (Or.inr rfl)
  · exact Or.inl rfl
/-- the signed reading of the lowest k bits of x -/
def mc_sx (k : Nat) (x : Int32) : Int32 := if (x &&& (nI (2 ^ k) - 1)) < nI (2 ^ (k - 1)) then x &&& (nI (2 ^ k) - 1) else (x &&& (nI (2 ^ k) - 1)) - nI (2 ^ k)
theorem mc_pw : ∀ k, k < 17 → (1 : Int32) <<< (nI k &&& 31) = nI (2 ^ k) := by decide +kernel
theorem mc_mk : ∀ k, k < 17 → (nI (2 ^ k) - 1).toBitVec.toNat = 2 ^ k - 1 := by decide +kernel
theorem mc_hf : ∀ k, k < 17 → 0 < k → nI (2 ^ k) / 2 = nI (2 ^ (k - 1)) := by decide +kernel
theorem mc_p16 {k : Nat} (h : k < 17) : 2 ^ k ≤ 65536 := Nat.pow_le_pow_right (n := 2) (by decide) (show k ≤ 16 by omega)
/-- the bits of an instruction: register d, s, t, and the named bit -/
def mc_d (x : Int32) : Int32 := (x >>> ((9 : Int32) &&& 31)) &&& 7
def mc_s (x : Int32) : Int32 := (x >>> ((6 : Int32) &&& 31)) &&& 7
theorem mc_in7 (x : Int32) : vp_in (x &&& 7) 8 := pk_andIn x 3 (by decide) (by decide)
theorem mc_in63 (x : Int32) : vp_in (x &&& 63) 64 := pk_andIn x 6 (by decide) (by decide)
end
section
/-! The component's methods against pure functions; the table of its microcode -/
def mx_N (j : Nat) : Nat := match j with
  | 0 => 66837
  | 4 => 393793
  | 5 => 394050
  | 8 => 197904
  | 9 => 393264
  | 12 => 197904
  | 13 => 262224
  | 16 => 196675
  | 17 => 198164
  | 18 => 327696
  | 19 => 65568
  | 20 => 397889
  | 21 => 398146
  | 24 => 197696
  | 25 => 393264
  | 28 => 197696
  | 29 => 262224
  | 32 => 524288
  | 36 => 401472
  | 40 => 197904
  | 41 => 196656
  | 42 => 393264
  | 44 => 197904
  | 45 => 196656
  | 46 => 262224
  | 48 => 65600
  | 52 => 524288
  | 56 => 394512
  | 60 => 458752
  | 64 => 196624
  | 65 => 131120
  | 66 => 65808
  | _ => 0
theorem mx_e7 : ∀ j, j < 68 → nI (mx_N j) &&& 7 = nI (mx_N j % 8) := by decide +kernel
theorem mx_eL : ∀ j, j < 68 → nI (mx_N j) &&& 112 = nI (16 * (mx_N j / 16 % 8)) := by decide +kernel
theorem mx_eR : ∀ j, j < 68 → nI (mx_N j) &&& 1792 = nI (256 * (mx_N j / 256 % 8)) := by decide +kernel
theorem mx_eF : ∀ j, j < 68 → nI (mx_N j) &&& 12288 = nI (4096 * (mx_N j / 4096 % 4)) := by decide +kernel
theorem mx_eT : ∀ j, j < 68 → nI (mx_N j) &&& 983040 = nI (65536 * (mx_N j / 65536 % 16)) := by decide +kernel
theorem mx_b7 : ∀ j, j < 68 → mx_N j % 8 < 6 := by decide +kernel
theorem mx_bL : ∀ j, j < 68 → mx_N j / 16 % 8 < 6 := by decide +kernel
theorem mx_bR : ∀ j, j < 68 → mx_N j / 256 % 8 < 7 := by decide +kernel
theorem mx_bF : ∀ j, j < 68 → mx_N j / 4096 % 4 < 3 := by decide +kernel
theorem mx_bT : ∀ j, j < 68 → mx_N j / 65536 % 16 < 9 := by decide +kernel
def mx_ac (a : Nat) (ir sg : Int32) : Bool := match a with
  | 1 => decide ((ir >>> ((5 : Int32) &&& 31)) &&& 1 = 0)
  | 2 => decide ((ir >>> ((5 : Int32) &&& 31)) &&& 1 = 1)
  | 3 => decide ((ir >>> ((11 : Int32) &&& 31)) &&& 1 = 0)
  | 4 => decide ((ir >>> ((11 : Int32) &&& 31)) &&& 1 = 1)
  | 5 => decide ((ir >>> ((10 - sg) &&& 31)) &&& 1 = 1)
  | _ => true
def mx_lf (l : Nat) (pc ir ad : Int32) (rg ce : Nat → Int32) : Int32 := match l with
  | 1 => pc
  | 2 => ad
  | 3 => ce (ad &&& 63).toNatClampNeg
  | 4 => rg ((ir >>> ((6 : Int32) &&& 31)) &&& 7).toNatClampNeg
  | 5 => rg ((ir >>> ((9 : Int32) &&& 31)) &&& 7).toNatClampNeg
  | _ => 0
def mx_rt (r : Nat) (ir : Int32) (rg : Nat → Int32) : Int32 := match r with
  | 1 => 1
  | 2 => rg (ir &&& 7).toNatClampNeg
  | 3 => mc_sx 5 ir
  | 4 => mc_sx 6 ir
  | 5 => mc_sx 9 ir
  | 6 => mc_sx 11 ir
  | _ => 0
def mx_jn (f : Nat) (x y : Int32) : Int32 := match f with
  | 1 => (x &&& y) &&& 65535
  | 2 => (x ^^^ (-1)) &&& 65535
  | _ => (x + y) &&& 65535
def mx_sd (t : Nat) (x : Int32) (pc ir ad sg st ct : Int32) (mc rg ce : Nat → Int32) : SX := match t with
  | 1 => (x, ir, ad, sg, st, ct, mc, rg, ce)
  | 2 => (pc, x, ad, sg, st, ct, mc, rg, ce)
  | 3 => (pc, ir, x, sg, st, ct, mc, rg, ce)
  | 4 => (pc, ir, ad, sg, st, ct, mc, rg, upd ce (ad &&& 63).toNatClampNeg x)
  | 5 => (pc, ir, ad, sg, st, ct, mc, upd rg 7 x, ce)
  | 6 => (pc, ir, ad, mc_sgn x, st, ct, mc, upd rg ((ir >>> ((9 : Int32) &&& 31)) &&& 7).toNatClampNeg x, ce)
  | 7 => (pc, ir, ad, sg, 1, ct, mc, rg, ce)
  | 8 => (pc, ir, ad, sg, 2, ct, mc, rg, ce)
  | _ => (pc, ir, ad, sg, st, ct, mc, rg, ce)
def mx_pf (m : Nat) (pc ir ad sg st ct : Int32) (mc rg ce : Nat → Int32) : SX := mx_sd (m / 65536 % 16) (mx_jn (m / 4096 % 4) (mx_lf (m / 16 % 8) pc ir ad rg ce) (mx_rt (m / 256 % 8) ir rg)) pc ir ad sg st ct mc rg ce
/-- one row of microcode -/
def mx_ro (m : Nat) (u : SX) : SX := match u with
  | (pc, ir, ad, sg, st, ct, mc, rg, ce) => match mx_ac (m % 8) ir sg with
    | true => mx_pf m pc ir ad sg st ct mc rg ce
    | false => (pc, ir, ad, sg, st, ct, mc, rg, ce)
/-- one routine: four rows -/
def mx_r4 (R : Nat) (u : SX) : SX := mx_ro (mx_N (R * 4 + 3)) (mx_ro (mx_N (R * 4 + 2)) (mx_ro (mx_N (R * 4 + 1)) (mx_ro (mx_N (R * 4 + 0)) u)))
section
variable {pc ir ad sg st ct : Int32} {mc rg ce : Nat → Int32}
theorem mx_acts {post : Int32 → Prop} {m : Int32} (a : Nat) (ha : a < 6) (hm : m &&& 7 = nI a) (ht : mx_ac a ir sg = true → post 1) (hf : mx_ac a ir sg = false → post 0) : wpX_acts post (pc, ir, ad, sg, st, ct, mc, rg, ce) m := by
  refine nm_r hm ?_
  obtain rfl | rfl | rfl | rfl | rfl | rfl : a = 0 ∨ a = 1 ∨ a = 2 ∨ a = 3 ∨ a = 4 ∨ a = 5 := by omega
  · exact br_t (by decide +kernel) (ht rfl)
  · exact br_f (by decide +kernel) (br_f (by decide +kernel) (br_t (by decide +kernel) (br_c (fun h => ht (decide_eq_true h)) (fun h => hf (decide_eq_false h)))))
  · exact br_f (by decide +kernel) (br_f (by decide +kernel) (br_f (by decide +kernel) (br_t (by decide +kernel) (br_c (fun h => ht (decide_eq_true h)) (fun h => hf (decide_eq_false h))))))
  · exact br_f (by decide +kernel) (br_f (by decide +kernel) (br_f (by decide +kernel) (br_f (by decide +kernel) (br_t (by decide +kernel) (br_c (fun h => ht (decide_eq_true h)) (fun h => hf (decide_eq_false h)))))))
  · exact br_f (by decide +kernel) (br_f (by decide +kernel) (br_f (by decide +kernel) (br_f (by decide +kernel) (br_f (by decide +kernel) (br_t (by decide +kernel) (br_c (fun h => ht (decide_eq_true h)) (fun h => hf (decide_eq_false h))))))))
  · exact br_f (by decide +kernel) (br_f (by decide +kernel) (br_f (by decide +kernel) (br_f (by decide +kernel) (br_f (by decide +kernel) (br_f (by decide +kernel) (br_t (by decide +kernel) (br_c (fun h => ht (decide_eq_true h)) (fun h => hf (decide_eq_false h)))))))))
theorem mx_left {post : Int32 → Prop} {m : Int32} (l : Nat) (hl : l < 6) (hm : m &&& 112 = nI (16 * l)) (h : post (mx_lf l pc ir ad rg ce)) : wpX_leftInput post (pc, ir, ad, sg, st, ct, mc, rg, ce) m := by
  refine nm_r hm ?_
  obtain rfl | rfl | rfl | rfl | rfl | rfl : l = 0 ∨ l = 1 ∨ l = 2 ∨ l = 3 ∨ l = 4 ∨ l = 5 := by omega
  · exact br_f (by decide +kernel) (br_f (by decide +kernel) (br_f (by decide +kernel) (br_f (by decide +kernel) (br_f (by decide +kernel) (h)))))
  · exact br_t (by decide +kernel) (h)
  · exact br_f (by decide +kernel) (br_t (by decide +kernel) (h))
  · exact br_f (by decide +kernel) (br_f (by decide +kernel) (br_t (by decide +kernel) (⟨mc_in63 _, h⟩)))
  · exact br_f (by decide +kernel) (br_f (by decide +kernel) (br_f (by decide +kernel) (br_t (by decide +kernel) (⟨mc_in7 _, h⟩))))
  · exact br_f (by decide +kernel) (br_f (by decide +kernel) (br_f (by decide +kernel) (br_f (by decide +kernel) (br_t (by decide +kernel) (⟨mc_in7 _, h⟩)))))
theorem mx_sl {post : Int32 → Prop} (k : Nat) (hk : k < 17) (h0 : 0 < k) (h : post (mc_sx k ir)) : wpX_signedLowest post (pc, ir, ad, sg, st, ct, mc, rg, ce) (nI k) := by
  refine nm_r (mc_pw k hk) (nm_e ⟨by decide, ?_⟩)
  rw [mc_hf k hk h0]
  unfold mc_sx at h
  split at h
  · exact br_t ‹_› h
  · exact br_f ‹_› h
theorem mx_right {post : Int32 → Prop} {m : Int32} (r : Nat) (hr : r < 7) (hm : m &&& 1792 = nI (256 * r)) (h : post (mx_rt r ir rg)) : wpX_rightInput post (pc, ir, ad, sg, st, ct, mc, rg, ce) m := by
  refine nm_r hm ?_
  obtain rfl | rfl | rfl | rfl | rfl | rfl | rfl : r = 0 ∨ r = 1 ∨ r = 2 ∨ r = 3 ∨ r = 4 ∨ r = 5 ∨ r = 6 := by omega
  · exact br_f (by decide +kernel) (br_f (by decide +kernel) (br_f (by decide +kernel) (br_f (by decide +kernel) (br_f (by decide +kernel) (br_f (by decide +kernel) (h))))))
  · exact br_t (by decide +kernel) (h)
  · exact br_f (by decide +kernel) (br_t (by decide +kernel) (⟨mc_in7 _, h⟩))
  · exact br_f (by decide +kernel) (br_f (by decide +kernel) (br_t (by decide +kernel) (mx_sl 5 (by decide) (by decide) h)))
  · exact br_f (by decide +kernel) (br_f (by decide +kernel) (br_f (by decide +kernel) (br_t (by decide +kernel) (mx_sl 6 (by decide) (by decide) h))))
  · exact br_f (by decide +kernel) (br_f (by decide +kernel) (br_f (by decide +kernel) (br_f (by decide +kernel) (br_t (by decide +kernel) (mx_sl 9 (by decide) (by decide) h)))))
  · exact br_f (by decide +kernel) (br_f (by decide +kernel) (br_f (by decide +kernel) (br_f (by decide +kernel) (br_f (by decide +kernel) (br_t (by decide +kernel) (mx_sl 11 (by decide) (by decide) h))))))
theorem mx_join {post : Int32 → Prop} {m x y : Int32} (f : Nat) (hf : f < 3) (hm : m &&& 12288 = nI (4096 * f)) (h : post (mx_jn f x y)) : wpX_joined post m x y := by
  refine nm_r hm ?_
  obtain rfl | rfl | rfl : f = 0 ∨ f = 1 ∨ f = 2 := by omega
  · exact br_f (by decide +kernel) (br_f (by decide +kernel) (h))
  · exact br_t (by decide +kernel) (h)
  · exact br_f (by decide +kernel) (br_t (by decide +kernel) (h))
theorem mx_sgn {post : Int32 → Prop} {x : Int32} (h : post (mc_sgn x)) : wpX_signOf post x := by
  unfold mc_sgn at h
  split at h
  · split at h
    · exact br_t ‹_› (br_t ‹_› h)
    · exact br_t ‹_› (br_f ‹_› h)
  · exact br_f ‹_› h
theorem mx_send {post : SX → Prop} {m x : Int32} (t : Nat) (ht : t < 9) (hm : m &&& 983040 = nI (65536 * t)) (h : post (mx_sd t x pc ir ad sg st ct mc rg ce)) : wpX_send post (pc, ir, ad, sg, st, ct, mc, rg, ce) m x := by
  refine nm_r hm ?_
  obtain rfl | rfl | rfl | rfl | rfl | rfl | rfl | rfl | rfl : t = 0 ∨ t = 1 ∨ t = 2 ∨ t = 3 ∨ t = 4 ∨ t = 5 ∨ t = 6 ∨ t = 7 ∨ t = 8 := by omega
  · exact br_f (by decide +kernel) (br_f (by decide +kernel) (br_f (by decide +kernel) (br_f (by decide +kernel) (br_f (by decide +kernel) (br_f (by decide +kernel) (br_f (by decide +kernel) (br_f (by decide +kernel) (h))))))))
  · exact br_t (by decide +kernel) (h)
  · exact br_f (by decide +kernel) (br_t (by decide +kernel) (h))
  · exact br_f (by decide +kernel) (br_f (by decide +kernel) (br_t (by decide +kernel) (h)))
  · exact br_f (by decide +kernel) (br_f (by decide +kernel) (br_f (by decide +kernel) (br_t (by decide +kernel) (⟨mc_in63 _, nm_e h⟩))))
  · exact br_f (by decide +kernel) (br_f (by decide +kernel) (br_f (by decide +kernel) (br_f (by decide +kernel) (br_t (by decide +kernel) (nm_e h)))))
  · exact br_f (by decide +kernel) (br_f (by decide +kernel) (br_f (by decide +kernel) (br_f (by decide +kernel) (br_f (by decide +kernel) (br_t (by decide +kernel) (⟨mc_in7 _, nm_e (mx_sgn h)⟩))))))
  · exact br_f (by decide +kernel) (br_f (by decide +kernel) (br_f (by decide +kernel) (br_f (by decide +kernel) (br_f (by decide +kernel) (br_f (by decide +kernel) (br_t (by decide +kernel) (h)))))))
  · exact br_f (by decide +kernel) (br_f (by decide +kernel) (br_f (by decide +kernel) (br_f (by decide +kernel) (br_f (by decide +kernel) (br_f (by decide +kernel) (br_f (by decide +kernel) (br_t (by decide +kernel) (h))))))))
theorem mx_perf {post : SX → Prop} (j : Nat) (hj : j < 68) (h : post (mx_pf (mx_N j) pc ir ad sg st ct mc rg ce)) : wpX_perform post (pc, ir, ad, sg, st, ct, mc, rg, ce) (nI (mx_N j)) := by
  unfold wpX_perform
  refine mx_left _ (mx_bL j hj) (mx_eL j hj) ?_
  refine mx_right _ (mx_bR j hj) (mx_eR j hj) ?_
  refine mx_join _ (mx_bF j hj) (mx_eF j hj) ?_
  exact mx_send _ (mx_bT j hj) (mx_eT j hj) h
end
/-- the loop's head at a whole state -/
def mx_W (post : SX → Prop) (R : Int32) (n : Nat) (i : Int32) (u : SX) : Prop := match u with
  | (pc, ir, ad, sg, st, ct, mc, rg, ce) => wX_runRoutine_2 post R n i pc ir ad sg st ct mc rg ce
def mx_mc (u : SX) : Nat → Int32 := u.2.2.2.2.2.2.1
theorem mx_row {post : SX → Prop} (R i n : Nat) (hR : R < 17) (hi : i < 4) (u : SX) (hm : mx_mc u (R * 4 + i) = nI (mx_N (R * 4 + i))) (h : mx_W post (nI R) n (nI (i + 1)) (mx_ro (mx_N (R * 4 + i)) u)) : mx_W post (nI R) (n + 1) (nI i) u := by
  obtain ⟨pc, ir, ad, sg, st, ct, mc, rg, ce⟩ := u
  have e : nI R * 4 + nI i = nI (R * 4 + i) := by
    rw [show (4 : Int32) = nI 4 from rfl, pk_mul, nI_add]
  have hj : R * 4 + i < 68 := by omega
  have hm' : mc (nI R * 4 + nI i).toNatClampNeg = nI (mx_N (R * 4 + i)) := by
    rw [e, nI_clamp (by omega)]
    exact hm
  have hin : vp_in (nI R * 4 + nI i) 68 := by
    rw [e]
    exact vp_in_nI hj (by omega)
  show wX_runRoutine_2 post (nI R) (n + 1) (nI i) pc ir ad sg st ct mc rg ce
  refine br_f (nI_ge (b := 4) hi (by decide)) ⟨hin, nm_r hm' ?_⟩
  refine mx_acts _ (mx_b7 _ hj) (mx_e7 _ hj) (fun q => ?_) (fun q => ?_)
  · refine br_f (by decide) (mx_perf _ hj ?_)
    have h2 : mx_W post (nI R) n (nI (i + 1)) (mx_pf (mx_N (R * 4 + i)) pc ir ad sg st ct mc rg ce) := by
      unfold mx_ro at h
      dsimp only at h
      rw [q] at h
      exact h
    generalize mx_pf (mx_N (R * 4 + i)) pc ir ad sg st ct mc rg ce = u' at h2 ⊢
    obtain ⟨pc', ir', ad', sg', st', ct', mc', rg', ce'⟩ := u'
    exact nm_r (nI_1 i) h2
  · refine br_t (by decide) (nm_r (nI_1 i) ?_)
    unfold mx_ro at h
    dsimp only at h
    rw [q] at h
    exact h
theorem mx_mcS (t : Nat) (x pc ir ad sg st ct : Int32) (mc rg ce : Nat → Int32) : mx_mc (mx_sd t x pc ir ad sg st ct mc rg ce) = mc := by
  unfold mx_sd
  split <;> rfl
theorem mx_mcR (m : Nat) (u : SX) : mx_mc (mx_ro m u) = mx_mc u := by
  obtain ⟨pc, ir, ad, sg, st, ct, mc, rg, ce⟩ := u
  unfold mx_ro
  dsimp only
  split
  · exact mx_mcS _ _ _ _ _ _ _ _ _ _ _
  · rfl
theorem mx_run {post : SX → Prop} (R : Nat) (hR : R < 17) (u : SX) (hm : ∀ j, j < 68 → mx_mc u j = nI (mx_N j)) (h : post (mx_r4 R u)) : wpX_runRoutine post u (nI R) := by
  have a : mx_W post (nI R) 5 (nI 0) u := by
    refine mx_row R 0 4 hR (by omega) u (hm _ (by omega)) ?_
    refine mx_row R 1 3 hR (by omega) _ (by rw [mx_mcR]; exact hm _ (by omega)) ?_
    refine mx_row R 2 2 hR (by omega) _ (by rw [mx_mcR, mx_mcR]; exact hm _ (by omega)) ?_
    refine mx_row R 3 1 hR (by omega) _ (by rw [mx_mcR, mx_mcR, mx_mcR]; exact hm _ (by omega)) ?_
    have h2 : post (mx_ro (mx_N (R * 4 + 3)) (mx_ro (mx_N (R * 4 + 2)) (mx_ro (mx_N (R * 4 + 1)) (mx_ro (mx_N (R * 4 + 0)) u)))) := h
    generalize mx_ro (mx_N (R * 4 + 3)) (mx_ro (mx_N (R * 4 + 2)) (mx_ro (mx_N (R * 4 + 1)) (mx_ro (mx_N (R * 4 + 0)) u))) = u' at h2 ⊢
    obtain ⟨pc', ir', ad', sg', st', ct', mc', rg', ce'⟩ := u'
    exact br_t (by decide) h2
  obtain ⟨pc, ir, ad, sg, st, ct, mc, rg, ce⟩ := u
  exact ⟨5, a⟩
section
variable {pc ir ad sg st ct : Int32} {mc rg ce : Nat → Int32}
theorem mx_wr {post : SX → Prop} (R i : Nat) {m : Int32} (hR : R < 17) (hi : i < 4) (h : post (pc, ir, ad, sg, st, ct, upd mc (R * 4 + i) m, rg, ce)) : wpX_writeRow post (pc, ir, ad, sg, st, ct, mc, rg, ce) (nI R) (nI i) m := by
  have e : nI R * 4 + nI i = nI (R * 4 + i) := by
    rw [show (4 : Int32) = nI 4 from rfl, pk_mul, nI_add]
  have hj : R * 4 + i < 68 := by omega
  have e2 : (nI R * 4 + nI i).toNatClampNeg = R * 4 + i := by rw [e, nI_clamp (by omega)]
  have hin : vp_in (nI R * 4 + nI i) 68 := by
    rw [e]
    exact vp_in_nI hj (by omega)
  exact ⟨hin, nm_r (congrArg (fun z => upd mc z m) e2) h⟩
theorem mx_writeFetchRoutine {post : SX → Prop} (h : post (pc, ir, ad, sg, st, ct, upd (upd (upd mc 64 196624) 65 131120) 66 65808, rg, ce)) : wpX_writeFetchRoutine post (pc, ir, ad, sg, st, ct, mc, rg, ce) := by
  unfold wpX_writeFetchRoutine
  refine mx_wr 16 0 (by decide) (by decide) ?_
  refine mx_wr 16 1 (by decide) (by decide) ?_
  refine mx_wr 16 2 (by decide) (by decide) ?_
  exact h
theorem mx_writeCalculationRoutines {post : SX → Prop} (h : post (pc, ir, ad, sg, st, ct, upd (upd (upd (upd (upd (upd mc 4 393793) 5 394050) 20 397889) 21 398146) 36 401472) 56 394512, rg, ce)) : wpX_writeCalculationRoutines post (pc, ir, ad, sg, st, ct, mc, rg, ce) := by
  unfold wpX_writeCalculationRoutines
  refine mx_wr 1 0 (by decide) (by decide) ?_
  refine mx_wr 1 1 (by decide) (by decide) ?_
  refine mx_wr 5 0 (by decide) (by decide) ?_
  refine mx_wr 5 1 (by decide) (by decide) ?_
  refine mx_wr 9 0 (by decide) (by decide) ?_
  refine mx_wr 14 0 (by decide) (by decide) ?_
  exact h
theorem mx_writeLoadRoutines {post : SX → Prop} (h : post (pc, ir, ad, sg, st, ct, upd (upd (upd (upd (upd (upd (upd mc 8 197904) 9 393264) 24 197696) 25 393264) 40 197904) 41 196656) 42 393264, rg, ce)) : wpX_writeLoadRoutines post (pc, ir, ad, sg, st, ct, mc, rg, ce) := by
  unfold wpX_writeLoadRoutines
  refine mx_wr 2 0 (by decide) (by decide) ?_
  refine mx_wr 2 1 (by decide) (by decide) ?_
  refine mx_wr 6 0 (by decide) (by decide) ?_
  refine mx_wr 6 1 (by decide) (by decide) ?_
  refine mx_wr 10 0 (by decide) (by decide) ?_
  refine mx_wr 10 1 (by decide) (by decide) ?_
  refine mx_wr 10 2 (by decide) (by decide) ?_
  exact h
theorem mx_writeStoreRoutines {post : SX → Prop} (h : post (pc, ir, ad, sg, st, ct, upd (upd (upd (upd (upd (upd (upd mc 12 197904) 13 262224) 28 197696) 29 262224) 44 197904) 45 196656) 46 262224, rg, ce)) : wpX_writeStoreRoutines post (pc, ir, ad, sg, st, ct, mc, rg, ce) := by
  unfold wpX_writeStoreRoutines
  refine mx_wr 3 0 (by decide) (by decide) ?_
  refine mx_wr 3 1 (by decide) (by decide) ?_
  refine mx_wr 7 0 (by decide) (by decide) ?_
  refine mx_wr 7 1 (by decide) (by decide) ?_
  refine mx_wr 11 0 (by decide) (by decide) ?_
  refine mx_wr 11 1 (by decide) (by decide) ?_
  refine mx_wr 11 2 (by decide) (by decide) ?_
  exact h
theorem mx_writeControlRoutines {post : SX → Prop} (h : post (pc, ir, ad, sg, st, ct, upd (upd (upd (upd (upd (upd (upd (upd (upd mc 0 66837) 48 65600) 16 196675) 17 198164) 18 327696) 19 65568) 60 458752) 32 524288) 52 524288, rg, ce)) : wpX_writeControlRoutines post (pc, ir, ad, sg, st, ct, mc, rg, ce) := by
  unfold wpX_writeControlRoutines
  refine mx_wr 0 0 (by decide) (by decide) ?_
  refine mx_wr 12 0 (by decide) (by decide) ?_
  refine mx_wr 4 0 (by decide) (by decide) ?_
  refine mx_wr 4 1 (by decide) (by decide) ?_
  refine mx_wr 4 2 (by decide) (by decide) ?_
  refine mx_wr 4 3 (by decide) (by decide) ?_
  refine mx_wr 15 0 (by decide) (by decide) ?_
  refine mx_wr 8 0 (by decide) (by decide) ?_
  refine mx_wr 13 0 (by decide) (by decide) ?_
  exact h
end
/-- the microcode as the constructor leaves it -/
def mx_C : Nat → Int32 := upd (upd (upd (upd (upd (upd (upd (upd (upd (upd (upd (upd (upd (upd (upd (upd (upd (upd (upd (upd (upd (upd (upd (upd (upd (upd (upd (upd (upd (upd (upd (upd ((fun _ => 0)) 64 196624) 65 131120) 66 65808) 4 393793) 5 394050) 20 397889) 21 398146) 36 401472) 56 394512) 8 197904) 9 393264) 24 197696) 25 393264) 40 197904) 41 196656) 42 393264) 12 197904) 13 262224) 28 197696) 29 262224) 44 197904) 45 196656) 46 262224) 0 66837) 48 65600) 16 196675) 17 198164) 18 327696) 19 65568) 60 458752) 32 524288) 52 524288
theorem mx_tab : ∀ j, j < 68 → mx_C j = nI (mx_N j) := by decide +kernel
theorem mx_init {post : SX → Prop} (h : post (0, 0, 0, 0, 0, 0, mx_C, (fun _ => 0), (fun _ => 0))) : wpX_init post := by
  unfold wpX_init
  refine mx_writeFetchRoutine ?_
  refine mx_writeCalculationRoutines ?_
  refine mx_writeLoadRoutines ?_
  refine mx_writeStoreRoutines ?_
  refine mx_writeControlRoutines ?_
  exact h
end
section
/-! The reference's methods against pure functions -/
section
variable {pc sg st ct : Int32} {rg ce : Nat → Int32}
theorem my_sg {post : Int32 → Prop} {w : Nat} (k : Nat) (hk : k < 17) (h0 : 0 < k) (hw : w < 65536) (h : post (mc_sx k (nI w))) : wpY_signed post (pc, sg, st, ct, rg, ce) (nI w) (nI k) := by
  have p := mc_p16 hk
  have p0 : 0 < 2 ^ k := Nat.two_pow_pos k
  have e1 := mc_pw k hk
  have e2 : (1 : Int32) <<< ((nI k - 1) &&& 31) = nI (2 ^ (k - 1)) := by
    obtain ⟨q, rfl⟩ : ∃ q, k = q + 1 := ⟨k - 1, by omega⟩
    rw [nI_pred]
    exact mc_pw q (by omega)
  have e3 : nI w - nI w / nI (2 ^ k) * nI (2 ^ k) = nI w &&& (nI (2 ^ k) - 1) := by
    rw [pk_rem (by omega) p0 (by omega), pk_andN (by omega) k (mc_mk k hk)]
  unfold wpY_signed
  dsimp only
  rw [e1, e2, e3]
  refine ⟨nI_ne0 p0 (by omega), nm_e ?_⟩
  unfold mc_sx at h
  split at h
  · exact br_t ‹_› h
  · exact br_f ‹_› h
/-- register d takes the word of x, and the sign follows -/
def my_gv (d x : Int32) (v : SY) : SY := match v with
  | (pc, _, st, ct, rg, ce) => (pc, mc_sgn (x &&& 65535), st, ct, upd rg d.toNatClampNeg (x &&& 65535), ce)
theorem my_s16 {w : Nat} (hw : w < 65536) : mc_sx 16 (nI w) = if w < 32768 then nI w else nI w - nI 65536 := by
  have e : nI w &&& (nI (2 ^ 16) - 1) = nI w := by
    rw [pk_andN (by omega) 16 (mc_mk 16 (by decide)), Nat.mod_eq_of_lt hw]
  unfold mc_sx
  rw [e]
  by_cases q : w < 32768
  · rw [if_pos q, if_pos (nI_lt (b := 2 ^ (16 - 1)) q (by decide))]
  · rw [if_neg q, if_neg (nI_nlt (b := 2 ^ (16 - 1)) (by omega) (by omega))]
theorem my_give {post : SY → Prop} {d x : Int32} (hd : vp_in d 8) (h : post (my_gv d x (pc, sg, st, ct, rg, ce))) : wpY_give post (pc, sg, st, ct, rg, ce) d x := by
  have h' : post (pc, mc_sgn (x &&& 65535), st, ct, upd rg d.toNatClampNeg (x &&& 65535), ce) := h
  unfold wpY_give
  refine ⟨hd, nm_e ⟨hd, ?_⟩⟩
  rw [pk_us]
  obtain ⟨w, hw, e⟩ := pk_andE x (m := 65535) 16 (by decide)
  rw [e] at h' ⊢
  refine my_sg 16 (by decide) (by decide) hw ?_
  rw [my_s16 hw]
  by_cases q : w < 32768
  · rw [if_pos q]
    have a : nI w < 32768 := nI_lt (b := 32768) q (by decide)
    refine br_t (nI_pos' (by omega)) ?_
    by_cases z : w = 0
    · have b : mc_sgn (nI w) = 0 := by
        unfold mc_sgn
        rw [if_pos a, if_pos (by rw [z]; rfl)]
      rw [b] at h'
      exact br_t (by rw [z]; decide) h'
    · have b : mc_sgn (nI w) = 1 := by
        unfold mc_sgn
        rw [if_pos a, if_neg (nI_ne0 (by omega) (by omega))]
      rw [b] at h'
      exact br_f (nI_nle (by omega) (by omega)) h'
  · rw [if_neg q]
    have a : ¬ nI w < 32768 := nI_nlt (b := 32768) (by omega) (by omega)
    have b : mc_sgn (nI w) = -1 := by
      unfold mc_sgn
      rw [if_neg a]
    rw [b] at h'
    have c : nI w - nI 65536 < 0 := pk_sneg (by omega) hw
    exact br_f (Int32.not_le.mpr c) h'
theorem my_taken {post : Int32 → Prop} {x : Int32} (hs : mc_sok sg) (h1 : (x >>> ((10 - sg) &&& 31)) &&& 1 = 1 → post 1) (h0 : ¬ (x >>> ((10 - sg) &&& 31)) &&& 1 = 1 → post 0) : wpY_taken post (pc, sg, st, ct, rg, ce) x := by
  obtain rfl | rfl | rfl := hs
  · rw [show (10 : Int32) - (-1) = 11 from by decide] at h1 h0
    exact br_f (by decide) (br_c h1 h0)
  · rw [show (10 : Int32) - 0 = 10 from by decide] at h1 h0
    exact br_t (by decide) (br_t rfl (br_c h1 h0))
  · rw [show (10 : Int32) - 1 = 9 from by decide] at h1 h0
    exact br_t (by decide) (br_f (by decide) (br_c h1 h0))
/-- what the calculations leave, z being the second input -/
def my_cz (o : Nat) (z x : Int32) (v : SY) : SY := match v with
  | (pc, sg, st, ct, rg, ce) => match o with
    | 1 => my_gv (mc_d x) (rg (mc_s x).toNatClampNeg + z) (pc, sg, st, ct, rg, ce)
    | 5 => my_gv (mc_d x) (rg (mc_s x).toNatClampNeg &&& z) (pc, sg, st, ct, rg, ce)
    | 9 => my_gv (mc_d x) (65535 - rg (mc_s x).toNatClampNeg) (pc, sg, st, ct, rg, ce)
    | 14 => my_gv (mc_d x) (pc + mc_sx 9 x) (pc, sg, st, ct, rg, ce)
    | _ => (pc, sg, st, ct, rg, ce)
def my_z (x : Int32) (rg : Nat → Int32) : Int32 := if (x >>> ((5 : Int32) &&& 31)) &&& 1 = 0 then rg (x &&& 7).toNatClampNeg else mc_sx 5 x
def my_mv (o : Nat) (x : Int32) (v : SY) : SY := match v with
  | (pc, sg, st, ct, rg, ce) => match o with
    | 2 => my_gv (mc_d x) (ce ((pc + mc_sx 9 x) &&& 63).toNatClampNeg) (pc, sg, st, ct, rg, ce)
    | 6 => my_gv (mc_d x) (ce ((rg (mc_s x).toNatClampNeg + mc_sx 6 x) &&& 63).toNatClampNeg) (pc, sg, st, ct, rg, ce)
    | 10 => my_gv (mc_d x) (ce (ce ((pc + mc_sx 9 x) &&& 63).toNatClampNeg &&& 63).toNatClampNeg) (pc, sg, st, ct, rg, ce)
    | 3 => (pc, sg, st, ct, rg, upd ce ((pc + mc_sx 9 x) &&& 63).toNatClampNeg (rg (mc_d x).toNatClampNeg))
    | 7 => (pc, sg, st, ct, rg, upd ce ((rg (mc_s x).toNatClampNeg + mc_sx 6 x) &&& 63).toNatClampNeg (rg (mc_d x).toNatClampNeg))
    | 11 => (pc, sg, st, ct, rg, upd ce (ce ((pc + mc_sx 9 x) &&& 63).toNatClampNeg &&& 63).toNatClampNeg (rg (mc_d x).toNatClampNeg))
    | _ => (pc, sg, st, ct, rg, ce)
def my_go (o : Nat) (x : Int32) (v : SY) : SY := match v with
  | (pc, sg, st, ct, rg, ce) => match o with
    | 0 => (if (x >>> ((10 - sg) &&& 31)) &&& 1 = 1 then (pc + mc_sx 9 x) &&& 65535 else pc, sg, st, ct, rg, ce)
    | 12 => (rg (mc_s x).toNatClampNeg, sg, st, ct, rg, ce)
    | 4 => (if (x >>> ((11 : Int32) &&& 31)) &&& 1 = 1 then (pc + mc_sx 11 x) &&& 65535 else rg (mc_s x).toNatClampNeg, sg, st, ct, upd rg 7 pc, ce)
    | 15 => (pc, sg, 1, ct, rg, ce)
    | 8 => (pc, sg, 2, ct, rg, ce)
    | 13 => (pc, sg, 2, ct, rg, ce)
    | _ => (pc, sg, st, ct, rg, ce)
theorem my_c43 {post : SY → Prop} {w : Nat} (o : Nat) (ho : o < 16) (hw : w < 65536) (z : Int32) (h : post (my_cz o z (nI w) (pc, sg, st, ct, rg, ce))) : wY_calculate_43 post (nI o) (nI w) (mc_d (nI w)) (mc_s (nI w)) z pc sg st ct rg ce := by
  have hd : vp_in (mc_d (nI w)) 8 := mc_in7 _
  have hs : vp_in (mc_s (nI w)) 8 := mc_in7 _
  refine my_sg 9 (by decide) (by decide) hw ?_
  obtain rfl | rfl | rfl | rfl | rfl | rfl | rfl | rfl | rfl | rfl | rfl | rfl | rfl | rfl | rfl | rfl : o = 0 ∨ o = 1 ∨ o = 2 ∨ o = 3 ∨ o = 4 ∨ o = 5 ∨ o = 6 ∨ o = 7 ∨ o = 8 ∨ o = 9 ∨ o = 10 ∨ o = 11 ∨ o = 12 ∨ o = 13 ∨ o = 14 ∨ o = 15 := by omega
  · exact br_f (by decide +kernel) (br_f (by decide +kernel) (br_f (by decide +kernel) (br_f (by decide +kernel) (h))))
  · exact br_t rfl (⟨hs, my_give hd (br_f (by decide +kernel) (br_f (by decide +kernel) (br_f (by decide +kernel) (h))))⟩)
  · exact br_f (by decide +kernel) (br_f (by decide +kernel) (br_f (by decide +kernel) (br_f (by decide +kernel) (h))))
  · exact br_f (by decide +kernel) (br_f (by decide +kernel) (br_f (by decide +kernel) (br_f (by decide +kernel) (h))))
  · exact br_f (by decide +kernel) (br_f (by decide +kernel) (br_f (by decide +kernel) (br_f (by decide +kernel) (h))))
  · exact br_f (by decide +kernel) (br_t rfl (⟨hs, my_give hd (br_f (by decide +kernel) (br_f (by decide +kernel) (h)))⟩))
  · exact br_f (by decide +kernel) (br_f (by decide +kernel) (br_f (by decide +kernel) (br_f (by decide +kernel) (h))))
  · exact br_f (by decide +kernel) (br_f (by decide +kernel) (br_f (by decide +kernel) (br_f (by decide +kernel) (h))))
  · exact br_f (by decide +kernel) (br_f (by decide +kernel) (br_f (by decide +kernel) (br_f (by decide +kernel) (h))))
  · exact br_f (by decide +kernel) (br_f (by decide +kernel) (br_t rfl (⟨hs, my_give hd (br_f (by decide +kernel) (h))⟩)))
  · exact br_f (by decide +kernel) (br_f (by decide +kernel) (br_f (by decide +kernel) (br_f (by decide +kernel) (h))))
  · exact br_f (by decide +kernel) (br_f (by decide +kernel) (br_f (by decide +kernel) (br_f (by decide +kernel) (h))))
  · exact br_f (by decide +kernel) (br_f (by decide +kernel) (br_f (by decide +kernel) (br_f (by decide +kernel) (h))))
  · exact br_f (by decide +kernel) (br_f (by decide +kernel) (br_f (by decide +kernel) (br_f (by decide +kernel) (h))))
  · exact br_f (by decide +kernel) (br_f (by decide +kernel) (br_f (by decide +kernel) (br_t rfl (my_give hd (h)))))
  · exact br_f (by decide +kernel) (br_f (by decide +kernel) (br_f (by decide +kernel) (br_f (by decide +kernel) (h))))
theorem my_calc {post : SY → Prop} {w : Nat} (o : Nat) (ho : o < 16) (hw : w < 65536) (h : post (my_cz o (my_z (nI w) rg) (nI w) (pc, sg, st, ct, rg, ce))) : wpY_calculate post (pc, sg, st, ct, rg, ce) (nI o) (nI w) := by
  unfold my_z at h
  refine nm_e (nm_e (br_c (fun q => ?_) (fun q => ?_)))
  · rw [if_pos q] at h
    exact ⟨mc_in7 _, my_c43 o ho hw _ h⟩
  · rw [if_neg q] at h
    refine my_sg 5 (by decide) (by decide) hw ?_
    exact my_c43 o ho hw _ h
theorem my_move {post : SY → Prop} {w : Nat} (o : Nat) (ho : o < 16) (hw : w < 65536) (h : post (my_mv o (nI w) (pc, sg, st, ct, rg, ce))) : wpY_move post (pc, sg, st, ct, rg, ce) (nI o) (nI w) := by
  have hd : vp_in (mc_d (nI w)) 8 := mc_in7 _
  refine nm_e ?_
  refine my_sg 9 (by decide) (by decide) hw ?_
  refine nm_e ⟨mc_in7 _, ?_⟩
  refine my_sg 6 (by decide) (by decide) hw ?_
  refine nm_e ⟨mc_in63 _, nm_e ?_⟩
  obtain rfl | rfl | rfl | rfl | rfl | rfl | rfl | rfl | rfl | rfl | rfl | rfl | rfl | rfl | rfl | rfl : o = 0 ∨ o = 1 ∨ o = 2 ∨ o = 3 ∨ o = 4 ∨ o = 5 ∨ o = 6 ∨ o = 7 ∨ o = 8 ∨ o = 9 ∨ o = 10 ∨ o = 11 ∨ o = 12 ∨ o = 13 ∨ o = 14 ∨ o = 15 := by omega
  · exact br_f (by decide +kernel) (br_f (by decide +kernel) (br_f (by decide +kernel) (br_f (by decide +kernel) (br_f (by decide +kernel) (br_f (by decide +kernel) (h))))))
  · exact br_f (by decide +kernel) (br_f (by decide +kernel) (br_f (by decide +kernel) (br_f (by decide +kernel) (br_f (by decide +kernel) (br_f (by decide +kernel) (h))))))
  · exact br_t rfl (⟨mc_in63 _, my_give hd (br_f (by decide +kernel) (br_f (by decide +kernel) (br_f (by decide +kernel) (br_f (by decide +kernel) (br_f (by decide +kernel) (h))))))⟩)
  · exact br_f (by decide +kernel) (br_f (by decide +kernel) (br_f (by decide +kernel) (br_t rfl (⟨hd, mc_in63 _, nm_e (br_f (by decide +kernel) (br_f (by decide +kernel) (h)))⟩))))
  · exact br_f (by decide +kernel) (br_f (by decide +kernel) (br_f (by decide +kernel) (br_f (by decide +kernel) (br_f (by decide +kernel) (br_f (by decide +kernel) (h))))))
  · exact br_f (by decide +kernel) (br_f (by decide +kernel) (br_f (by decide +kernel) (br_f (by decide +kernel) (br_f (by decide +kernel) (br_f (by decide +kernel) (h))))))
  · exact br_f (by decide +kernel) (br_t rfl (⟨mc_in63 _, my_give hd (br_f (by decide +kernel) (br_f (by decide +kernel) (br_f (by decide +kernel) (br_f (by decide +kernel) (h)))))⟩))
  · exact br_f (by decide +kernel) (br_f (by decide +kernel) (br_f (by decide +kernel) (br_f (by decide +kernel) (br_t rfl (⟨hd, mc_in63 _, nm_e (br_f (by decide +kernel) (h))⟩)))))
  · exact br_f (by decide +kernel) (br_f (by decide +kernel) (br_f (by decide +kernel) (br_f (by decide +kernel) (br_f (by decide +kernel) (br_f (by decide +kernel) (h))))))
  · exact br_f (by decide +kernel) (br_f (by decide +kernel) (br_f (by decide +kernel) (br_f (by decide +kernel) (br_f (by decide +kernel) (br_f (by decide +kernel) (h))))))
  · exact br_f (by decide +kernel) (br_f (by decide +kernel) (br_t rfl (⟨mc_in63 _, my_give hd (br_f (by decide +kernel) (br_f (by decide +kernel) (br_f (by decide +kernel) (h))))⟩)))
  · exact br_f (by decide +kernel) (br_f (by decide +kernel) (br_f (by decide +kernel) (br_f (by decide +kernel) (br_f (by decide +kernel) (br_t rfl (⟨hd, mc_in63 _, nm_e (h)⟩))))))
  · exact br_f (by decide +kernel) (br_f (by decide +kernel) (br_f (by decide +kernel) (br_f (by decide +kernel) (br_f (by decide +kernel) (br_f (by decide +kernel) (h))))))
  · exact br_f (by decide +kernel) (br_f (by decide +kernel) (br_f (by decide +kernel) (br_f (by decide +kernel) (br_f (by decide +kernel) (br_f (by decide +kernel) (h))))))
  · exact br_f (by decide +kernel) (br_f (by decide +kernel) (br_f (by decide +kernel) (br_f (by decide +kernel) (br_f (by decide +kernel) (br_f (by decide +kernel) (h))))))
  · exact br_f (by decide +kernel) (br_f (by decide +kernel) (br_f (by decide +kernel) (br_f (by decide +kernel) (br_f (by decide +kernel) (br_f (by decide +kernel) (h))))))
theorem my_gof {post : SY → Prop} {w : Nat} (o : Nat) (ho : o < 16) (hw : w < 65536) (hs : mc_sok sg) (h : post (my_go o (nI w) (pc, sg, st, ct, rg, ce))) : wpY_go post (pc, sg, st, ct, rg, ce) (nI o) (nI w) := by
  refine ⟨mc_in7 _, nm_e ?_⟩
  refine my_sg 9 (by decide) (by decide) hw ?_
  refine my_sg 11 (by decide) (by decide) hw ?_
  obtain rfl | rfl | rfl | rfl | rfl | rfl | rfl | rfl | rfl | rfl | rfl | rfl | rfl | rfl | rfl | rfl : o = 0 ∨ o = 1 ∨ o = 2 ∨ o = 3 ∨ o = 4 ∨ o = 5 ∨ o = 6 ∨ o = 7 ∨ o = 8 ∨ o = 9 ∨ o = 10 ∨ o = 11 ∨ o = 12 ∨ o = 13 ∨ o = 14 ∨ o = 15 := by omega
  · refine br_t rfl (my_taken hs (fun q => ?_) (fun q => ?_))
    · have h2 : post ((pc + mc_sx 9 (nI w)) &&& 65535, sg, st, ct, rg, ce) := by
        have e : my_go 0 (nI w) (pc, sg, st, ct, rg, ce) = ((pc + mc_sx 9 (nI w)) &&& 65535, sg, st, ct, rg, ce) := by
          unfold my_go
          dsimp only
          rw [if_pos q]
          exact rfl
        rw [e] at h
        exact h
      exact br_f (by decide) (br_f (by decide +kernel) (br_f (by decide +kernel) (br_f (by decide +kernel) (br_f (by decide +kernel) (br_f (by decide +kernel) h2)))))
    · have h2 : post (pc, sg, st, ct, rg, ce) := by
        have e : my_go 0 (nI w) (pc, sg, st, ct, rg, ce) = (pc, sg, st, ct, rg, ce) := by
          unfold my_go
          dsimp only
          rw [if_neg q]
          exact rfl
        rw [e] at h
        exact h
      exact br_t (by decide) (br_f (by decide +kernel) (br_f (by decide +kernel) (br_f (by decide +kernel) (br_f (by decide +kernel) (br_f (by decide +kernel) h2)))))
  · exact br_f (by decide +kernel) (br_f (by decide +kernel) (br_f (by decide +kernel) (br_f (by decide +kernel) (br_f (by decide +kernel) (br_f (by decide +kernel) h)))))
  · exact br_f (by decide +kernel) (br_f (by decide +kernel) (br_f (by decide +kernel) (br_f (by decide +kernel) (br_f (by decide +kernel) (br_f (by decide +kernel) h)))))
  · exact br_f (by decide +kernel) (br_f (by decide +kernel) (br_f (by decide +kernel) (br_f (by decide +kernel) (br_f (by decide +kernel) (br_f (by decide +kernel) h)))))
  · refine br_f (by decide +kernel) (br_f (by decide +kernel) (br_t rfl (nm_e (br_c (fun q => ?_) (fun q => ?_)))))
    · have h2 : post ((pc + mc_sx 11 (nI w)) &&& 65535, sg, st, ct, upd rg 7 pc, ce) := by
        have e : my_go 4 (nI w) (pc, sg, st, ct, rg, ce) = ((pc + mc_sx 11 (nI w)) &&& 65535, sg, st, ct, upd rg 7 pc, ce) := by
          unfold my_go
          dsimp only
          rw [if_pos q]
          exact rfl
        rw [e] at h
        exact h
      exact (br_f (by decide +kernel) (br_f (by decide +kernel) (br_f (by decide +kernel) h2)))
    · have h2 : post (rg (mc_s (nI w)).toNatClampNeg, sg, st, ct, upd rg 7 pc, ce) := by
        have e : my_go 4 (nI w) (pc, sg, st, ct, rg, ce) = (rg (mc_s (nI w)).toNatClampNeg, sg, st, ct, upd rg 7 pc, ce) := by
          unfold my_go
          dsimp only
          rw [if_neg q]
          exact rfl
        rw [e] at h
        exact h
      exact (br_f (by decide +kernel) (br_f (by decide +kernel) (br_f (by decide +kernel) h2)))
  · exact br_f (by decide +kernel) (br_f (by decide +kernel) (br_f (by decide +kernel) (br_f (by decide +kernel) (br_f (by decide +kernel) (br_f (by decide +kernel) h)))))
  · exact br_f (by decide +kernel) (br_f (by decide +kernel) (br_f (by decide +kernel) (br_f (by decide +kernel) (br_f (by decide +kernel) (br_f (by decide +kernel) h)))))
  · exact br_f (by decide +kernel) (br_f (by decide +kernel) (br_f (by decide +kernel) (br_f (by decide +kernel) (br_f (by decide +kernel) (br_f (by decide +kernel) h)))))
  · exact br_f (by decide +kernel) (br_f (by decide +kernel) (br_f (by decide +kernel) (br_f (by decide +kernel) (br_t rfl h))))
  · exact br_f (by decide +kernel) (br_f (by decide +kernel) (br_f (by decide +kernel) (br_f (by decide +kernel) (br_f (by decide +kernel) (br_f (by decide +kernel) h)))))
  · exact br_f (by decide +kernel) (br_f (by decide +kernel) (br_f (by decide +kernel) (br_f (by decide +kernel) (br_f (by decide +kernel) (br_f (by decide +kernel) h)))))
  · exact br_f (by decide +kernel) (br_f (by decide +kernel) (br_f (by decide +kernel) (br_f (by decide +kernel) (br_f (by decide +kernel) (br_f (by decide +kernel) h)))))
  · exact br_f (by decide +kernel) (br_t rfl (br_f (by decide +kernel) (br_f (by decide +kernel) (br_f (by decide +kernel) (br_f (by decide +kernel) h)))))
  · exact br_f (by decide +kernel) (br_f (by decide +kernel) (br_f (by decide +kernel) (br_f (by decide +kernel) (br_f (by decide +kernel) (br_t rfl h)))))
  · exact br_f (by decide +kernel) (br_f (by decide +kernel) (br_f (by decide +kernel) (br_f (by decide +kernel) (br_f (by decide +kernel) (br_f (by decide +kernel) h)))))
  · exact br_f (by decide +kernel) (br_f (by decide +kernel) (br_f (by decide +kernel) (br_t rfl (br_f (by decide +kernel) (br_f (by decide +kernel) h)))))
/-- one instruction x, PC being already one further -/
def my_in (o : Nat) (x : Int32) (v : SY) : SY := match v with
  | (pc, sg, st, ct, rg, ce) => my_go o x (my_mv o x (my_cz o (my_z x rg) x (pc, sg, st, ct, rg, ce)))
theorem my_sgG (d x : Int32) (v : SY) : mc_sok (my_gv d x v).2.1 := mc_sgn_ok _
theorem my_sgC {o : Nat} {z x : Int32} (hs : mc_sok sg) : mc_sok (my_cz o z x (pc, sg, st, ct, rg, ce)).2.1 := by
  unfold my_cz
  dsimp only
  split <;> first | exact my_sgG _ _ _ | exact hs
theorem my_sgM {o : Nat} {x : Int32} (hs : mc_sok sg) : mc_sok (my_mv o x (pc, sg, st, ct, rg, ce)).2.1 := by
  unfold my_mv
  dsimp only
  split <;> first | exact my_sgG _ _ _ | exact hs
theorem my_exec {post : SY → Prop} {w : Nat} (hw : w < 65536) (he : ce (pc &&& 63).toNatClampNeg = nI w) (hs : mc_sok sg) (h : post (my_in (w / 4096) (nI w) ((pc + 1) &&& 65535, sg, st, ct, rg, ce))) : wpY_execute post (pc, sg, st, ct, rg, ce) := by
  have ho : w / 4096 < 16 := by omega
  refine ⟨mc_in63 _, nm_r he (nm_r (mc_op hw) ?_)⟩
  unfold wpY_word
  dsimp only
  refine my_calc _ ho hw ?_
  have hs1 := my_sgC (o := w / 4096) (z := my_z (nI w) rg) (x := nI w) (pc := (pc + 1) &&& 65535) (st := st) (ct := ct) (rg := rg) (ce := ce) hs
  have h1 : post (my_go (w / 4096) (nI w) (my_mv (w / 4096) (nI w) (my_cz (w / 4096) (my_z (nI w) rg) (nI w) ((pc + 1) &&& 65535, sg, st, ct, rg, ce)))) := h
  generalize my_cz (w / 4096) (my_z (nI w) rg) (nI w) ((pc + 1) &&& 65535, sg, st, ct, rg, ce) = v1 at h1 hs1 ⊢
  obtain ⟨pc1, sg1, st1, ct1, rg1, ce1⟩ := v1
  dsimp only at hs1 ⊢
  refine my_move _ ho hw ?_
  have hs2 := my_sgM (o := w / 4096) (x := nI w) (pc := pc1) (st := st1) (ct := ct1) (rg := rg1) (ce := ce1) hs1
  generalize my_mv (w / 4096) (nI w) (pc1, sg1, st1, ct1, rg1, ce1) = v2 at h1 hs2 ⊢
  obtain ⟨pc2, sg2, st2, ct2, rg2, ce2⟩ := v2
  dsimp only at hs2 ⊢
  exact my_gof _ ho hw hs2 h1
end
end
section
/-! Each routine of the component does what the reference's instruction does -/
def mz_up (ir ad : Int32) (mc : Nat → Int32) (v : SY) : SX := match v with
  | (pc, sg, st, ct, rg, ce) => (pc, ir, ad, sg, st, ct, mc, rg, ce)
section
variable {pc ir ad sg st ct : Int32} {mc rg ce : Nat → Int32}
theorem mz_t {m : Nat} (h : mx_ac (m % 8) ir sg = true) : mx_ro m (pc, ir, ad, sg, st, ct, mc, rg, ce) = mx_pf m pc ir ad sg st ct mc rg ce := by
  unfold mx_ro
  dsimp only
  rw [h]
theorem mz_f {m : Nat} (h : mx_ac (m % 8) ir sg = false) : mx_ro m (pc, ir, ad, sg, st, ct, mc, rg, ce) = (pc, ir, ad, sg, st, ct, mc, rg, ce) := by
  unfold mx_ro
  dsimp only
  rw [h]
theorem mz_fetch (hp : mc_wd pc) (hc : ∀ j, mc_wd (ce j)) : mx_r4 16 (pc, ir, ad, sg, st, ct, mc, rg, ce) = ((pc + 1) &&& 65535, ce (pc &&& 63).toNatClampNeg, pc, sg, st, ct, mc, rg, ce) := by
  have e : mx_r4 16 (pc, ir, ad, sg, st, ct, mc, rg, ce) = ((pc + 1) &&& 65535, (ce (((pc + 0) &&& 65535) &&& 63).toNatClampNeg + 0) &&& 65535, (pc + 0) &&& 65535, sg, st, ct, mc, rg, ce) := rfl
  rw [e, mc_p0 hp, mc_p0 (hc _)]
theorem mz_o9 (hr : ∀ j, mc_wd (rg j)) : ∃ a, mx_r4 9 (pc, ir, ad, sg, st, ct, mc, rg, ce) = mz_up ir a mc (my_in 9 ir (pc, sg, st, ct, rg, ce)) := by
  refine ⟨ad, ?_⟩
  have e : (rg (mc_s ir).toNatClampNeg ^^^ (-1)) &&& 65535 = (65535 - rg (mc_s ir).toNatClampNeg) &&& 65535 := mc_not (hr _)
  show (pc, ir, ad, mc_sgn ((rg (mc_s ir).toNatClampNeg ^^^ (-1)) &&& 65535), st, ct, mc, upd rg (mc_d ir).toNatClampNeg ((rg (mc_s ir).toNatClampNeg ^^^ (-1)) &&& 65535), ce) = (pc, ir, ad, mc_sgn ((65535 - rg (mc_s ir).toNatClampNeg) &&& 65535), st, ct, mc, upd rg (mc_d ir).toNatClampNeg ((65535 - rg (mc_s ir).toNatClampNeg) &&& 65535), ce)
  rw [e]
theorem mz_o14  : ∃ a, mx_r4 14 (pc, ir, ad, sg, st, ct, mc, rg, ce) = mz_up ir a mc (my_in 14 ir (pc, sg, st, ct, rg, ce)) := by
  exact ⟨ad, rfl⟩
theorem mz_o2  : ∃ a, mx_r4 2 (pc, ir, ad, sg, st, ct, mc, rg, ce) = mz_up ir a mc (my_in 2 ir (pc, sg, st, ct, rg, ce)) := by
  refine ⟨((pc + mc_sx 9 ir) &&& 65535), ?_⟩
  have e : (ce (((pc + mc_sx 9 ir) &&& 65535) &&& 63).toNatClampNeg + 0) &&& 65535 = (ce ((pc + mc_sx 9 ir) &&& 63).toNatClampNeg) &&& 65535 := by rw [mc_a63, Int32.add_zero]
  show (pc, ir, ((pc + mc_sx 9 ir) &&& 65535), mc_sgn ((ce (((pc + mc_sx 9 ir) &&& 65535) &&& 63).toNatClampNeg + 0) &&& 65535), st, ct, mc, upd rg (mc_d ir).toNatClampNeg ((ce (((pc + mc_sx 9 ir) &&& 65535) &&& 63).toNatClampNeg + 0) &&& 65535), ce) = (pc, ir, ((pc + mc_sx 9 ir) &&& 65535), mc_sgn ((ce ((pc + mc_sx 9 ir) &&& 63).toNatClampNeg) &&& 65535), st, ct, mc, upd rg (mc_d ir).toNatClampNeg ((ce ((pc + mc_sx 9 ir) &&& 63).toNatClampNeg) &&& 65535), ce)
  rw [e]
theorem mz_o6  : ∃ a, mx_r4 6 (pc, ir, ad, sg, st, ct, mc, rg, ce) = mz_up ir a mc (my_in 6 ir (pc, sg, st, ct, rg, ce)) := by
  refine ⟨((rg (mc_s ir).toNatClampNeg + mc_sx 6 ir) &&& 65535), ?_⟩
  have e : (ce (((rg (mc_s ir).toNatClampNeg + mc_sx 6 ir) &&& 65535) &&& 63).toNatClampNeg + 0) &&& 65535 = (ce ((rg (mc_s ir).toNatClampNeg + mc_sx 6 ir) &&& 63).toNatClampNeg) &&& 65535 := by rw [mc_a63, Int32.add_zero]
  show (pc, ir, ((rg (mc_s ir).toNatClampNeg + mc_sx 6 ir) &&& 65535), mc_sgn ((ce (((rg (mc_s ir).toNatClampNeg + mc_sx 6 ir) &&& 65535) &&& 63).toNatClampNeg + 0) &&& 65535), st, ct, mc, upd rg (mc_d ir).toNatClampNeg ((ce (((rg (mc_s ir).toNatClampNeg + mc_sx 6 ir) &&& 65535) &&& 63).toNatClampNeg + 0) &&& 65535), ce) = (pc, ir, ((rg (mc_s ir).toNatClampNeg + mc_sx 6 ir) &&& 65535), mc_sgn ((ce ((rg (mc_s ir).toNatClampNeg + mc_sx 6 ir) &&& 63).toNatClampNeg) &&& 65535), st, ct, mc, upd rg (mc_d ir).toNatClampNeg ((ce ((rg (mc_s ir).toNatClampNeg + mc_sx 6 ir) &&& 63).toNatClampNeg) &&& 65535), ce)
  rw [e]
theorem mz_o10  : ∃ a, mx_r4 10 (pc, ir, ad, sg, st, ct, mc, rg, ce) = mz_up ir a mc (my_in 10 ir (pc, sg, st, ct, rg, ce)) := by
  refine ⟨((ce (((pc + mc_sx 9 ir) &&& 65535) &&& 63).toNatClampNeg + 0) &&& 65535), ?_⟩
  have e : (ce (((ce (((pc + mc_sx 9 ir) &&& 65535) &&& 63).toNatClampNeg + 0) &&& 65535) &&& 63).toNatClampNeg + 0) &&& 65535 = (ce (ce ((pc + mc_sx 9 ir) &&& 63).toNatClampNeg &&& 63).toNatClampNeg) &&& 65535 := by simp only [mc_a63, Int32.add_zero]
  show (pc, ir, ((ce (((pc + mc_sx 9 ir) &&& 65535) &&& 63).toNatClampNeg + 0) &&& 65535), mc_sgn ((ce (((ce (((pc + mc_sx 9 ir) &&& 65535) &&& 63).toNatClampNeg + 0) &&& 65535) &&& 63).toNatClampNeg + 0) &&& 65535), st, ct, mc, upd rg (mc_d ir).toNatClampNeg ((ce (((ce (((pc + mc_sx 9 ir) &&& 65535) &&& 63).toNatClampNeg + 0) &&& 65535) &&& 63).toNatClampNeg + 0) &&& 65535), ce) = (pc, ir, ((ce (((pc + mc_sx 9 ir) &&& 65535) &&& 63).toNatClampNeg + 0) &&& 65535), mc_sgn ((ce (ce ((pc + mc_sx 9 ir) &&& 63).toNatClampNeg &&& 63).toNatClampNeg) &&& 65535), st, ct, mc, upd rg (mc_d ir).toNatClampNeg ((ce (ce ((pc + mc_sx 9 ir) &&& 63).toNatClampNeg &&& 63).toNatClampNeg) &&& 65535), ce)
  rw [e]
theorem mz_o3 (hr : ∀ j, mc_wd (rg j)) : ∃ a, mx_r4 3 (pc, ir, ad, sg, st, ct, mc, rg, ce) = mz_up ir a mc (my_in 3 ir (pc, sg, st, ct, rg, ce)) := by
  refine ⟨((pc + mc_sx 9 ir) &&& 65535), ?_⟩
  have e : upd ce (((pc + mc_sx 9 ir) &&& 65535) &&& 63).toNatClampNeg ((rg (mc_d ir).toNatClampNeg + 0) &&& 65535) = upd ce ((pc + mc_sx 9 ir) &&& 63).toNatClampNeg (rg (mc_d ir).toNatClampNeg) := by rw [mc_a63, mc_p0 (hr _)]
  show (pc, ir, ((pc + mc_sx 9 ir) &&& 65535), sg, st, ct, mc, rg, upd ce (((pc + mc_sx 9 ir) &&& 65535) &&& 63).toNatClampNeg ((rg (mc_d ir).toNatClampNeg + 0) &&& 65535)) = (pc, ir, ((pc + mc_sx 9 ir) &&& 65535), sg, st, ct, mc, rg, upd ce ((pc + mc_sx 9 ir) &&& 63).toNatClampNeg (rg (mc_d ir).toNatClampNeg))
  rw [e]
theorem mz_o7 (hr : ∀ j, mc_wd (rg j)) : ∃ a, mx_r4 7 (pc, ir, ad, sg, st, ct, mc, rg, ce) = mz_up ir a mc (my_in 7 ir (pc, sg, st, ct, rg, ce)) := by
  refine ⟨((rg (mc_s ir).toNatClampNeg + mc_sx 6 ir) &&& 65535), ?_⟩
  have e : upd ce (((rg (mc_s ir).toNatClampNeg + mc_sx 6 ir) &&& 65535) &&& 63).toNatClampNeg ((rg (mc_d ir).toNatClampNeg + 0) &&& 65535) = upd ce ((rg (mc_s ir).toNatClampNeg + mc_sx 6 ir) &&& 63).toNatClampNeg (rg (mc_d ir).toNatClampNeg) := by rw [mc_a63, mc_p0 (hr _)]
  show (pc, ir, ((rg (mc_s ir).toNatClampNeg + mc_sx 6 ir) &&& 65535), sg, st, ct, mc, rg, upd ce (((rg (mc_s ir).toNatClampNeg + mc_sx 6 ir) &&& 65535) &&& 63).toNatClampNeg ((rg (mc_d ir).toNatClampNeg + 0) &&& 65535)) = (pc, ir, ((rg (mc_s ir).toNatClampNeg + mc_sx 6 ir) &&& 65535), sg, st, ct, mc, rg, upd ce ((rg (mc_s ir).toNatClampNeg + mc_sx 6 ir) &&& 63).toNatClampNeg (rg (mc_d ir).toNatClampNeg))
  rw [e]
theorem mz_o11 (hr : ∀ j, mc_wd (rg j)) : ∃ a, mx_r4 11 (pc, ir, ad, sg, st, ct, mc, rg, ce) = mz_up ir a mc (my_in 11 ir (pc, sg, st, ct, rg, ce)) := by
  refine ⟨((ce (((pc + mc_sx 9 ir) &&& 65535) &&& 63).toNatClampNeg + 0) &&& 65535), ?_⟩
  have e : upd ce (((ce (((pc + mc_sx 9 ir) &&& 65535) &&& 63).toNatClampNeg + 0) &&& 65535) &&& 63).toNatClampNeg ((rg (mc_d ir).toNatClampNeg + 0) &&& 65535) = upd ce (ce ((pc + mc_sx 9 ir) &&& 63).toNatClampNeg &&& 63).toNatClampNeg (rg (mc_d ir).toNatClampNeg) := by rw [mc_p0 (hr _)]; simp only [mc_a63, Int32.add_zero]
  show (pc, ir, ((ce (((pc + mc_sx 9 ir) &&& 65535) &&& 63).toNatClampNeg + 0) &&& 65535), sg, st, ct, mc, rg, upd ce (((ce (((pc + mc_sx 9 ir) &&& 65535) &&& 63).toNatClampNeg + 0) &&& 65535) &&& 63).toNatClampNeg ((rg (mc_d ir).toNatClampNeg + 0) &&& 65535)) = (pc, ir, ((ce (((pc + mc_sx 9 ir) &&& 65535) &&& 63).toNatClampNeg + 0) &&& 65535), sg, st, ct, mc, rg, upd ce (ce ((pc + mc_sx 9 ir) &&& 63).toNatClampNeg &&& 63).toNatClampNeg (rg (mc_d ir).toNatClampNeg))
  rw [e]
theorem mz_o12 (hr : ∀ j, mc_wd (rg j)) : ∃ a, mx_r4 12 (pc, ir, ad, sg, st, ct, mc, rg, ce) = mz_up ir a mc (my_in 12 ir (pc, sg, st, ct, rg, ce)) := by
  refine ⟨ad, ?_⟩
  show ((rg (mc_s ir).toNatClampNeg + 0) &&& 65535, ir, ad, sg, st, ct, mc, rg, ce) = (rg (mc_s ir).toNatClampNeg, ir, ad, sg, st, ct, mc, rg, ce)
  rw [mc_p0 (hr _)]
theorem mz_o15  : ∃ a, mx_r4 15 (pc, ir, ad, sg, st, ct, mc, rg, ce) = mz_up ir a mc (my_in 15 ir (pc, sg, st, ct, rg, ce)) := by
  exact ⟨ad, rfl⟩
theorem mz_o8  : ∃ a, mx_r4 8 (pc, ir, ad, sg, st, ct, mc, rg, ce) = mz_up ir a mc (my_in 8 ir (pc, sg, st, ct, rg, ce)) := by
  exact ⟨ad, rfl⟩
theorem mz_o13  : ∃ a, mx_r4 13 (pc, ir, ad, sg, st, ct, mc, rg, ce) = mz_up ir a mc (my_in 13 ir (pc, sg, st, ct, rg, ce)) := by
  exact ⟨ad, rfl⟩
theorem mz_o1  : ∃ a, mx_r4 1 (pc, ir, ad, sg, st, ct, mc, rg, ce) = mz_up ir a mc (my_in 1 ir (pc, sg, st, ct, rg, ce)) := by
  by_cases q : (ir >>> ((5 : Int32) &&& 31)) &&& 1 = 0
  · refine ⟨ad, ?_⟩
    have z : my_z ir rg = rg (ir &&& 7).toNatClampNeg := if_pos q
    have e1 : mx_ro 393793 (pc, ir, ad, sg, st, ct, mc, rg, ce) = (pc, ir, ad, mc_sgn ((rg (mc_s ir).toNatClampNeg + rg (ir &&& 7).toNatClampNeg) &&& 65535), st, ct, mc, upd rg (mc_d ir).toNatClampNeg ((rg (mc_s ir).toNatClampNeg + rg (ir &&& 7).toNatClampNeg) &&& 65535), ce) := mz_t (m := 393793) (decide_eq_true q)
    have e2 : mx_ro 394050 (pc, ir, ad, mc_sgn ((rg (mc_s ir).toNatClampNeg + rg (ir &&& 7).toNatClampNeg) &&& 65535), st, ct, mc, upd rg (mc_d ir).toNatClampNeg ((rg (mc_s ir).toNatClampNeg + rg (ir &&& 7).toNatClampNeg) &&& 65535), ce) = (pc, ir, ad, mc_sgn ((rg (mc_s ir).toNatClampNeg + rg (ir &&& 7).toNatClampNeg) &&& 65535), st, ct, mc, upd rg (mc_d ir).toNatClampNeg ((rg (mc_s ir).toNatClampNeg + rg (ir &&& 7).toNatClampNeg) &&& 65535), ce) := mz_f (m := 394050) (decide_eq_false (by rw [q]; decide))
    have e3 : mx_r4 1 (pc, ir, ad, sg, st, ct, mc, rg, ce) = mx_ro 0 (mx_ro 0 (mx_ro 394050 (mx_ro 393793 (pc, ir, ad, sg, st, ct, mc, rg, ce)))) := rfl
    rw [e3, e1, e2]
    show (pc, ir, ad, mc_sgn ((rg (mc_s ir).toNatClampNeg + rg (ir &&& 7).toNatClampNeg) &&& 65535), st, ct, mc, upd rg (mc_d ir).toNatClampNeg ((rg (mc_s ir).toNatClampNeg + rg (ir &&& 7).toNatClampNeg) &&& 65535), ce) = (pc, ir, ad, mc_sgn ((rg (mc_s ir).toNatClampNeg + my_z ir rg) &&& 65535), st, ct, mc, upd rg (mc_d ir).toNatClampNeg ((rg (mc_s ir).toNatClampNeg + my_z ir rg) &&& 65535), ce)
    rw [z]
  · refine ⟨ad, ?_⟩
    have z : my_z ir rg = mc_sx 5 ir := if_neg q
    have q1 : (ir >>> ((5 : Int32) &&& 31)) &&& 1 = 1 := (mc_b01 _).resolve_left q
    have e1 : mx_ro 393793 (pc, ir, ad, sg, st, ct, mc, rg, ce) = (pc, ir, ad, sg, st, ct, mc, rg, ce) := mz_f (m := 393793) (decide_eq_false q)
    have e2 : mx_ro 394050 (pc, ir, ad, sg, st, ct, mc, rg, ce) = (pc, ir, ad, mc_sgn ((rg (mc_s ir).toNatClampNeg + mc_sx 5 ir) &&& 65535), st, ct, mc, upd rg (mc_d ir).toNatClampNeg ((rg (mc_s ir).toNatClampNeg + mc_sx 5 ir) &&& 65535), ce) := mz_t (m := 394050) (decide_eq_true q1)
    have e3 : mx_r4 1 (pc, ir, ad, sg, st, ct, mc, rg, ce) = mx_ro 0 (mx_ro 0 (mx_ro 394050 (mx_ro 393793 (pc, ir, ad, sg, st, ct, mc, rg, ce)))) := rfl
    rw [e3, e1, e2]
    show (pc, ir, ad, mc_sgn ((rg (mc_s ir).toNatClampNeg + mc_sx 5 ir) &&& 65535), st, ct, mc, upd rg (mc_d ir).toNatClampNeg ((rg (mc_s ir).toNatClampNeg + mc_sx 5 ir) &&& 65535), ce) = (pc, ir, ad, mc_sgn ((rg (mc_s ir).toNatClampNeg + my_z ir rg) &&& 65535), st, ct, mc, upd rg (mc_d ir).toNatClampNeg ((rg (mc_s ir).toNatClampNeg + my_z ir rg) &&& 65535), ce)
    rw [z]
theorem mz_o5  : ∃ a, mx_r4 5 (pc, ir, ad, sg, st, ct, mc, rg, ce) = mz_up ir a mc (my_in 5 ir (pc, sg, st, ct, rg, ce)) := by
  by_cases q : (ir >>> ((5 : Int32) &&& 31)) &&& 1 = 0
  · refine ⟨ad, ?_⟩
    have z : my_z ir rg = rg (ir &&& 7).toNatClampNeg := if_pos q
    have e1 : mx_ro 397889 (pc, ir, ad, sg, st, ct, mc, rg, ce) = (pc, ir, ad, mc_sgn ((rg (mc_s ir).toNatClampNeg &&& rg (ir &&& 7).toNatClampNeg) &&& 65535), st, ct, mc, upd rg (mc_d ir).toNatClampNeg ((rg (mc_s ir).toNatClampNeg &&& rg (ir &&& 7).toNatClampNeg) &&& 65535), ce) := mz_t (m := 397889) (decide_eq_true q)
    have e2 : mx_ro 398146 (pc, ir, ad, mc_sgn ((rg (mc_s ir).toNatClampNeg &&& rg (ir &&& 7).toNatClampNeg) &&& 65535), st, ct, mc, upd rg (mc_d ir).toNatClampNeg ((rg (mc_s ir).toNatClampNeg &&& rg (ir &&& 7).toNatClampNeg) &&& 65535), ce) = (pc, ir, ad, mc_sgn ((rg (mc_s ir).toNatClampNeg &&& rg (ir &&& 7).toNatClampNeg) &&& 65535), st, ct, mc, upd rg (mc_d ir).toNatClampNeg ((rg (mc_s ir).toNatClampNeg &&& rg (ir &&& 7).toNatClampNeg) &&& 65535), ce) := mz_f (m := 398146) (decide_eq_false (by rw [q]; decide))
    have e3 : mx_r4 5 (pc, ir, ad, sg, st, ct, mc, rg, ce) = mx_ro 0 (mx_ro 0 (mx_ro 398146 (mx_ro 397889 (pc, ir, ad, sg, st, ct, mc, rg, ce)))) := rfl
    rw [e3, e1, e2]
    show (pc, ir, ad, mc_sgn ((rg (mc_s ir).toNatClampNeg &&& rg (ir &&& 7).toNatClampNeg) &&& 65535), st, ct, mc, upd rg (mc_d ir).toNatClampNeg ((rg (mc_s ir).toNatClampNeg &&& rg (ir &&& 7).toNatClampNeg) &&& 65535), ce) = (pc, ir, ad, mc_sgn ((rg (mc_s ir).toNatClampNeg &&& my_z ir rg) &&& 65535), st, ct, mc, upd rg (mc_d ir).toNatClampNeg ((rg (mc_s ir).toNatClampNeg &&& my_z ir rg) &&& 65535), ce)
    rw [z]
  · refine ⟨ad, ?_⟩
    have z : my_z ir rg = mc_sx 5 ir := if_neg q
    have q1 : (ir >>> ((5 : Int32) &&& 31)) &&& 1 = 1 := (mc_b01 _).resolve_left q
    have e1 : mx_ro 397889 (pc, ir, ad, sg, st, ct, mc, rg, ce) = (pc, ir, ad, sg, st, ct, mc, rg, ce) := mz_f (m := 397889) (decide_eq_false q)
    have e2 : mx_ro 398146 (pc, ir, ad, sg, st, ct, mc, rg, ce) = (pc, ir, ad, mc_sgn ((rg (mc_s ir).toNatClampNeg &&& mc_sx 5 ir) &&& 65535), st, ct, mc, upd rg (mc_d ir).toNatClampNeg ((rg (mc_s ir).toNatClampNeg &&& mc_sx 5 ir) &&& 65535), ce) := mz_t (m := 398146) (decide_eq_true q1)
    have e3 : mx_r4 5 (pc, ir, ad, sg, st, ct, mc, rg, ce) = mx_ro 0 (mx_ro 0 (mx_ro 398146 (mx_ro 397889 (pc, ir, ad, sg, st, ct, mc, rg, ce)))) := rfl
    rw [e3, e1, e2]
    show (pc, ir, ad, mc_sgn ((rg (mc_s ir).toNatClampNeg &&& mc_sx 5 ir) &&& 65535), st, ct, mc, upd rg (mc_d ir).toNatClampNeg ((rg (mc_s ir).toNatClampNeg &&& mc_sx 5 ir) &&& 65535), ce) = (pc, ir, ad, mc_sgn ((rg (mc_s ir).toNatClampNeg &&& my_z ir rg) &&& 65535), st, ct, mc, upd rg (mc_d ir).toNatClampNeg ((rg (mc_s ir).toNatClampNeg &&& my_z ir rg) &&& 65535), ce)
    rw [z]
theorem mz_o0  : ∃ a, mx_r4 0 (pc, ir, ad, sg, st, ct, mc, rg, ce) = mz_up ir a mc (my_in 0 ir (pc, sg, st, ct, rg, ce)) := by
  refine ⟨ad, ?_⟩
  have e3 : mx_r4 0 (pc, ir, ad, sg, st, ct, mc, rg, ce) = mx_ro 0 (mx_ro 0 (mx_ro 0 (mx_ro 66837 (pc, ir, ad, sg, st, ct, mc, rg, ce)))) := rfl
  have e4 : mz_up ir ad mc (my_in 0 ir (pc, sg, st, ct, rg, ce)) = (if (ir >>> ((10 - sg) &&& 31)) &&& 1 = 1 then (pc + mc_sx 9 ir) &&& 65535 else pc, ir, ad, sg, st, ct, mc, rg, ce) := rfl
  by_cases q : (ir >>> ((10 - sg) &&& 31)) &&& 1 = 1
  · have e1 : mx_ro 66837 (pc, ir, ad, sg, st, ct, mc, rg, ce) = ((pc + mc_sx 9 ir) &&& 65535, ir, ad, sg, st, ct, mc, rg, ce) := mz_t (m := 66837) (decide_eq_true q)
    rw [e3, e4, e1, if_pos q]
    rfl
  · have e1 : mx_ro 66837 (pc, ir, ad, sg, st, ct, mc, rg, ce) = (pc, ir, ad, sg, st, ct, mc, rg, ce) := mz_f (m := 66837) (decide_eq_false q)
    rw [e3, e4, e1, if_neg q]
    rfl
theorem mz_o4 (hp : mc_wd pc) (hr : ∀ j, mc_wd (rg j)) : ∃ a, mx_r4 4 (pc, ir, ad, sg, st, ct, mc, rg, ce) = mz_up ir a mc (my_in 4 ir (pc, sg, st, ct, rg, ce)) := by
  have e3 : mx_r4 4 (pc, ir, ad, sg, st, ct, mc, rg, ce) = mx_ro 65568 (mx_ro 327696 (mx_ro 198164 (mx_ro 196675 (pc, ir, ad, sg, st, ct, mc, rg, ce)))) := rfl
  have e4 : ∀ a, mz_up ir a mc (my_in 4 ir (pc, sg, st, ct, rg, ce)) = (if (ir >>> ((11 : Int32) &&& 31)) &&& 1 = 1 then ((pc + mc_sx 11 ir) &&& 65535) else rg (mc_s ir).toNatClampNeg, ir, a, sg, st, ct, mc, upd rg 7 pc, ce) := fun _ => rfl
  have e5 : ∀ a, mx_ro 65568 (mx_ro 327696 (pc, ir, a, sg, st, ct, mc, rg, ce)) = ((a + 0) &&& 65535, ir, a, sg, st, ct, mc, upd rg 7 ((pc + 0) &&& 65535), ce) := fun _ => rfl
  by_cases q : (ir >>> ((11 : Int32) &&& 31)) &&& 1 = 1
  · refine ⟨((pc + mc_sx 11 ir) &&& 65535), ?_⟩
    have e1 : mx_ro 196675 (pc, ir, ad, sg, st, ct, mc, rg, ce) = (pc, ir, ad, sg, st, ct, mc, rg, ce) := mz_f (m := 196675) (decide_eq_false (by rw [q]; decide))
    have e2 : mx_ro 198164 (pc, ir, ad, sg, st, ct, mc, rg, ce) = (pc, ir, ((pc + mc_sx 11 ir) &&& 65535), sg, st, ct, mc, rg, ce) := mz_t (m := 198164) (decide_eq_true q)
    rw [e3, e1, e2, e4, e5, if_pos q, mc_p0 hp, mc_p0 (mc_wd_and _)]
  · have q1 : (ir >>> ((11 : Int32) &&& 31)) &&& 1 = 0 := (mc_b01 _).resolve_right q
    refine ⟨rg (mc_s ir).toNatClampNeg, ?_⟩
    have e1 : mx_ro 196675 (pc, ir, ad, sg, st, ct, mc, rg, ce) = (pc, ir, rg (mc_s ir).toNatClampNeg, sg, st, ct, mc, rg, ce) := by
      have e0 : mx_ro 196675 (pc, ir, ad, sg, st, ct, mc, rg, ce) = (pc, ir, ((rg (mc_s ir).toNatClampNeg + 0) &&& 65535), sg, st, ct, mc, rg, ce) := mz_t (m := 196675) (decide_eq_true q1)
      rw [e0, mc_p0 (hr _)]
    have e2 : mx_ro 198164 (pc, ir, rg (mc_s ir).toNatClampNeg, sg, st, ct, mc, rg, ce) = (pc, ir, rg (mc_s ir).toNatClampNeg, sg, st, ct, mc, rg, ce) := mz_f (m := 198164) (decide_eq_false q)
    rw [e3, e1, e2, e4, e5, if_neg q, mc_p0 hp, mc_p0 (hr _)]
theorem mz_all {o : Nat} (ho : o < 16) (hp : mc_wd pc) (hr : ∀ j, mc_wd (rg j)) : ∃ a, mx_r4 o (pc, ir, ad, sg, st, ct, mc, rg, ce) = mz_up ir a mc (my_in o ir (pc, sg, st, ct, rg, ce)) := by
  obtain rfl | rfl | rfl | rfl | rfl | rfl | rfl | rfl | rfl | rfl | rfl | rfl | rfl | rfl | rfl | rfl : o = 0 ∨ o = 1 ∨ o = 2 ∨ o = 3 ∨ o = 4 ∨ o = 5 ∨ o = 6 ∨ o = 7 ∨ o = 8 ∨ o = 9 ∨ o = 10 ∨ o = 11 ∨ o = 12 ∨ o = 13 ∨ o = 14 ∨ o = 15 := by omega
  · exact mz_o0
  · exact mz_o1
  · exact mz_o2
  · exact mz_o3 hr
  · exact mz_o4 hp hr
  · exact mz_o5
  · exact mz_o6
  · exact mz_o7 hr
  · exact mz_o8
  · exact mz_o9 hr
  · exact mz_o10
  · exact mz_o11 hr
  · exact mz_o12 hr
  · exact mz_o13
  · exact mz_o14
  · exact mz_o15
end
/-- all that is held is a word, and the sign is one of three -/
def mz_ok (v : SY) : Prop := mc_wd v.1 ∧ mc_sok v.2.1 ∧ (∀ j, mc_wd (v.2.2.2.2.1 j)) ∧ (∀ j, mc_wd (v.2.2.2.2.2 j))
theorem mz_upd {f : Nat → Int32} {x : Int32} (k : Nat) (hf : ∀ j, mc_wd (f j)) (hx : mc_wd x) : ∀ j, mc_wd (upd f k x j) := by
  intro j
  by_cases h : j = k
  · rw [h, pk_us]
    exact hx
  · rw [pk_un h]
    exact hf j
theorem mz_okG {d x : Int32} {v : SY} (h : mz_ok v) : mz_ok (my_gv d x v) := by
  obtain ⟨pc, sg, st, ct, rg, ce⟩ := v
  obtain ⟨h1, h2, h3, h4⟩ := h
  exact ⟨h1, mc_sgn_ok _, mz_upd _ h3 (mc_wd_and _), h4⟩
theorem mz_okC {o : Nat} {z x : Int32} {v : SY} (h : mz_ok v) : mz_ok (my_cz o z x v) := by
  obtain ⟨pc, sg, st, ct, rg, ce⟩ := v
  unfold my_cz
  dsimp only
  split <;> first | exact mz_okG h | exact h
theorem mz_okM {o : Nat} {x : Int32} {v : SY} (h : mz_ok v) : mz_ok (my_mv o x v) := by
  obtain ⟨pc, sg, st, ct, rg, ce⟩ := v
  have ⟨h1, h2, h3, h4⟩ := h
  unfold my_mv
  dsimp only
  split <;> first | exact mz_okG h | exact ⟨h1, h2, h3, mz_upd _ h4 (h3 _)⟩ | exact h
theorem mz_okO {o : Nat} {x : Int32} {v : SY} (h : mz_ok v) : mz_ok (my_go o x v) := by
  obtain ⟨pc, sg, st, ct, rg, ce⟩ := v
  have ⟨h1, h2, h3, h4⟩ := h
  have a : mc_wd (if (x >>> ((10 - sg) &&& 31)) &&& 1 = 1 then (pc + mc_sx 9 x) &&& 65535 else pc) := by
    split
    · exact mc_wd_and _
    · exact h1
  have b : mc_wd (if (x >>> ((11 : Int32) &&& 31)) &&& 1 = 1 then (pc + mc_sx 11 x) &&& 65535 else rg (mc_s x).toNatClampNeg) := by
    split
    · exact mc_wd_and _
    · exact h3 _
  unfold my_go
  dsimp only
  split <;> first | exact h | exact ⟨a, h2, h3, h4⟩ | exact ⟨h3 _, h2, h3, h4⟩ | exact ⟨b, h2, mz_upd _ h3 h1, h4⟩ | exact ⟨h1, h2, h3, h4⟩
theorem mz_okI {o : Nat} {x : Int32} {v : SY} (h : mz_ok v) : mz_ok (my_in o x v) := by
  obtain ⟨pc, sg, st, ct, rg, ce⟩ := v
  exact mz_okO (mz_okM (mz_okC h))
end
section
/-! The loop of step on both sides, and the small tests -/
theorem mz_loop {mc : Nat → Int32} (hm : ∀ j, j < 68 → mc j = nI (mx_N j)) (n : Nat) (hn : n ≤ 100) : ∀ (d i : Nat) (pc ir ad sg st ct : Int32) (rg ce : Nat → Int32), i + d = n → mz_ok (pc, sg, st, ct, rg, ce) → ∃ (r : Int32) (v : SY), mz_ok v ∧ (∀ post : Int32 → SX → Prop, (∀ ir' ad', post r (mz_up ir' ad' mc v)) → wX_step_15 post (nI n) (d + 1) (nI i) pc ir ad sg st ct mc rg ce) ∧ (∀ post : Int32 → SY → Prop, post r v → wY_step_26 post (nI n) (d + 1) (nI i) (nI i) pc sg st ct rg ce) := by
  intro d
  induction d with
  | zero =>
    intro i pc ir ad sg st ct rg ce hi ok
    have h : nI n ≤ nI i := nI_le (by omega) (by omega)
    exact ⟨nI i, (pc, sg, st, ct + nI i, rg, ce), ok, fun post hp => br_t h (nm_e (hp ir ad)), fun post hp => br_t h (nm_e hp)⟩
  | succ d ih =>
    intro i pc ir ad sg st ct rg ce hi ok
    have h : ¬ nI n ≤ nI i := nI_ge (by omega) (by omega)
    by_cases hst : st = 0
    · have ⟨h1, h2, h3, h4⟩ := ok
      obtain ⟨w, hw, he⟩ := mc_wd_nI (h4 (pc &&& 63).toNatClampNeg)
      have he' : ce (pc &&& 63).toNatClampNeg = nI w := he
      have ho : w / 4096 < 16 := by omega
      have ok1 : mz_ok ((pc + 1) &&& 65535, sg, st, ct, rg, ce) := ⟨mc_wd_and _, h2, h3, h4⟩
      have ok2 : mz_ok (my_in (w / 4096) (nI w) ((pc + 1) &&& 65535, sg, st, ct, rg, ce)) := mz_okI ok1
      obtain ⟨a, ea⟩ := mz_all (ir := nI w) (ad := pc) (sg := sg) (st := st) (ct := ct) (mc := mc) (ce := ce) ho ok1.1 h3
      have ef := mz_fetch (pc := pc) (ir := ir) (ad := ad) (sg := sg) (st := st) (ct := ct) (mc := mc) (rg := rg) (ce := ce) h1 h4
      rw [he'] at ef
      have hx : ∀ post : SY → Prop, post (my_in (w / 4096) (nI w) ((pc + 1) &&& 65535, sg, st, ct, rg, ce)) → wpY_execute post (pc, sg, st, ct, rg, ce) := fun post hp => my_exec hw he' h2 hp
      generalize my_in (w / 4096) (nI w) ((pc + 1) &&& 65535, sg, st, ct, rg, ce) = v1 at ok2 ea hx
      obtain ⟨pc1, sg1, st1, ct1, rg1, ce1⟩ := v1
      obtain ⟨r, v, okv, hX, hY⟩ := ih (i + 1) pc1 (nI w) a sg1 st1 ct1 rg1 ce1 (by omega) ok2
      refine ⟨r, v, okv, fun post hp => br_f h (br_t hst ?_), fun post hp => br_f h (br_t hst (hx _ ?_))⟩
      · refine mx_run 16 (by decide) _ hm ?_
        rw [ef]
        dsimp only
        rw [mc_op15 hw]
        refine mx_run (w / 4096) (by omega) _ hm ?_
        rw [ea]
        exact nm_r (nI_1 i) (hX post hp)
      · exact nm_r (nI_1 i) (nm_r (nI_1 i) (hY post hp))
    · exact ⟨nI i, (pc, sg, st, ct + nI i, rg, ce), ok, fun post hp => br_f h (br_f hst (nm_e (hp ir ad))), fun post hp => br_f h (br_f hst (nm_e hp))⟩
theorem mw_cell0 {post : Int32 → Prop} {v : Int32} (h : v < 0 ∨ nI 64 ≤ v) (hp : post 0) : wpX_isCell post v := by
  by_cases q : v < 0
  · exact br_t q hp
  · exact br_f q (br_t (h.resolve_left q) hp)
theorem mw_cell1 {post : Int32 → Prop} {j : Nat} (hj : j < 64) (hp : post 1) : wpX_isCell post (nI j) := br_f (nI_pos (by omega)) (br_f (nI_ge (b := 64) hj (by decide)) hp)
theorem mw_regi0 {post : Int32 → Prop} {v : Int32} (h : v < 0 ∨ nI 8 ≤ v) (hp : post 0) : wpX_isRegister post v := by
  by_cases q : v < 0
  · exact br_t q hp
  · exact br_f q (br_t (h.resolve_left q) hp)
theorem mw_regi1 {post : Int32 → Prop} {j : Nat} (hj : j < 8) (hp : post 1) : wpX_isRegister post (nI j) := br_f (nI_pos (by omega)) (br_f (nI_ge (b := 8) hj (by decide)) hp)
theorem mw_word0 {post : Int32 → Prop} {v : Int32} (h : v < 0 ∨ nI 65536 ≤ v) (hp : post 0) : wpX_isWord post v := by
  by_cases q : v < 0
  · exact br_t q hp
  · exact br_f q (br_t (Int32.lt_of_lt_of_le (by decide) (h.resolve_left q)) hp)
theorem mw_word1 {post : Int32 → Prop} {j : Nat} (hj : j < 65536) (hp : post 1) : wpX_isWord post (nI j) := br_f (nI_pos (by omega)) (br_f (nI_nlt (a := 65535) (by omega) (by decide)) hp)
theorem mw_y0 {post : Int32 → Prop} {v : Int32} {s : SY} (h : v < 0 ∨ nI 65536 ≤ v) (hp : post 0) : wpY_isWord post s v := by
  by_cases q : v < 0
  · exact br_t q hp
  · exact br_f q (br_t (Int32.lt_of_lt_of_le (by decide) (h.resolve_left q)) hp)
theorem mw_y1 {post : Int32 → Prop} {j : Nat} {s : SY} (hj : j < 65536) (hp : post 1) : wpY_isWord post s (nI j) := br_f (nI_pos (by omega)) (br_f (nI_nlt (a := 65535) (by omega) (by decide)) hp)
end
section
/-- the reference holds words and a sign; the component holds the same, beside the microcode that its constructor wrote -/
def i_Rel (_ : Nat) (u : SX) (v : SY) : Prop := ∃ (ir ad : Int32) (mc : Nat → Int32), (∀ j, j < 68 → mc j = nI (mx_N j)) ∧ mz_ok v ∧ u = mz_up ir ad mc v
theorem i_up {k : Nat} {u : SX} {v : SY} (h : i_Rel k u v) : i_Rel (k + 3) u v := h
theorem i_vc0 : wpX_init (fun u => wpY_init (fun v => i_Rel 0 u v)) := by
  refine mx_init ?_
  exact ⟨0, 0, mx_C, mx_tab, ⟨mc_wd0, Or.inr (Or.inl rfl), fun _ => mc_wd0, fun _ => mc_wd0⟩, rfl⟩
theorem i_vc_poke {k : Nat} {u : SX} {v : SY} (I : i_Rel k u v) (hk : k + 3 ≤ 1536) (v1 : Int32) (v2 : Int32) : wpX_poke (fun r u' => wpY_poke (fun r' v' => r' = r ∧ i_Rel (k + 3) u' v') v v1 v2) u v1 v2 := by
  obtain ⟨ir, ad, mc, hm, ok, rfl⟩ := I
  obtain ⟨pc, sg, st, ct, rg, ce⟩ := v
  have ⟨h1, h2, h3, h4⟩ := ok
  have J : i_Rel (k + 3) (pc, ir, ad, sg, st, ct, mc, rg, ce) (pc, sg, st, ct, rg, ce) := ⟨ir, ad, mc, hm, ok, rfl⟩
  show wpX_poke _ (pc, ir, ad, sg, st, ct, mc, rg, ce) v1 v2
  unfold wpX_poke
  by_cases a : v1 < 0
  · refine mw_cell0 (Or.inl a) ?_
    refine br_t rfl ?_
    exact br_t a ⟨rfl, J⟩
  · rcases pk_ix v1 (n := 64) (by decide) with b | b | ⟨j, hj, rfl⟩
    · exact absurd b a
    · refine mw_cell0 (Or.inr b) ?_
      refine br_t rfl ?_
      exact br_f a (br_t (Int32.lt_of_lt_of_le (by decide) b) ⟨rfl, J⟩)
    · refine mw_cell1 hj ?_
      refine br_f (by decide) ?_
      have g : ¬ (63 : Int32) < nI j := nI_nlt (a := 63) (by omega) (by decide)
      rcases pk_ix v2 (n := 65536) (by decide) with b | b | ⟨w, hw, rfl⟩
      · refine mw_word0 (Or.inl b) ?_
        refine br_t rfl ?_
        refine br_f a (br_f g ?_)
        refine mw_y0 (Or.inl b) ?_
        exact br_t rfl ⟨rfl, J⟩
      · refine mw_word0 (Or.inr b) ?_
        refine br_t rfl ?_
        refine br_f a (br_f g ?_)
        refine mw_y0 (Or.inr b) ?_
        exact br_t rfl ⟨rfl, J⟩
      · refine mw_word1 hw ?_
        have hin : vp_in (nI j) 64 := vp_in_nI hj (by decide)
        refine br_f (by decide) ⟨hin, nm_e ?_⟩
        refine br_f a (br_f g ?_)
        refine mw_y1 hw ?_
        exact br_f (by decide) ⟨hin, nm_e ⟨rfl, ⟨ir, ad, mc, hm, ⟨h1, h2, h3, mz_upd _ h4 (mc_nI_wd hw)⟩, rfl⟩⟩⟩
theorem i_vc_setRegister {k : Nat} {u : SX} {v : SY} (I : i_Rel k u v) (hk : k + 3 ≤ 1536) (v1 : Int32) (v2 : Int32) : wpX_setRegister (fun r u' => wpY_setRegister (fun r' v' => r' = r ∧ i_Rel (k + 3) u' v') v v1 v2) u v1 v2 := by
  obtain ⟨ir, ad, mc, hm, ok, rfl⟩ := I
  obtain ⟨pc, sg, st, ct, rg, ce⟩ := v
  have ⟨h1, h2, h3, h4⟩ := ok
  have J : i_Rel (k + 3) (pc, ir, ad, sg, st, ct, mc, rg, ce) (pc, sg, st, ct, rg, ce) := ⟨ir, ad, mc, hm, ok, rfl⟩
  show wpX_setRegister _ (pc, ir, ad, sg, st, ct, mc, rg, ce) v1 v2
  unfold wpX_setRegister
  by_cases a : v1 < 0
  · refine mw_regi0 (Or.inl a) ?_
    refine br_t rfl ?_
    exact br_t a ⟨rfl, J⟩
  · rcases pk_ix v1 (n := 8) (by decide) with b | b | ⟨j, hj, rfl⟩
    · exact absurd b a
    · refine mw_regi0 (Or.inr b) ?_
      refine br_t rfl ?_
      exact br_f a (br_t (Int32.lt_of_lt_of_le (by decide) b) ⟨rfl, J⟩)
    · refine mw_regi1 hj ?_
      refine br_f (by decide) ?_
      have g : ¬ (7 : Int32) < nI j := nI_nlt (a := 7) (by omega) (by decide)
      rcases pk_ix v2 (n := 65536) (by decide) with b | b | ⟨w, hw, rfl⟩
      · refine mw_word0 (Or.inl b) ?_
        refine br_t rfl ?_
        refine br_f a (br_f g ?_)
        refine mw_y0 (Or.inl b) ?_
        exact br_t rfl ⟨rfl, J⟩
      · refine mw_word0 (Or.inr b) ?_
        refine br_t rfl ?_
        refine br_f a (br_f g ?_)
        refine mw_y0 (Or.inr b) ?_
        exact br_t rfl ⟨rfl, J⟩
      · refine mw_word1 hw ?_
        have hin : vp_in (nI j) 8 := vp_in_nI hj (by decide)
        refine br_f (by decide) ⟨hin, nm_e ?_⟩
        refine br_f a (br_f g ?_)
        refine mw_y1 hw ?_
        exact br_f (by decide) ⟨hin, nm_e ⟨rfl, ⟨ir, ad, mc, hm, ⟨h1, h2, mz_upd _ h3 (mc_nI_wd hw), h4⟩, rfl⟩⟩⟩
theorem i_vc_peek {k : Nat} {u : SX} {v : SY} (I : i_Rel k u v) (hk : k + 3 ≤ 1536) (v1 : Int32) : wpX_peek (fun r => wpY_peek (fun r' => r' = r ∧ i_Rel (k + 3) u v) v v1) u v1 := by
  obtain ⟨ir, ad, mc, hm, ok, rfl⟩ := I
  obtain ⟨pc, sg, st, ct, rg, ce⟩ := v
  have ⟨h1, h2, h3, h4⟩ := ok
  have J : i_Rel (k + 3) (pc, ir, ad, sg, st, ct, mc, rg, ce) (pc, sg, st, ct, rg, ce) := ⟨ir, ad, mc, hm, ok, rfl⟩
  show wpX_peek _ (pc, ir, ad, sg, st, ct, mc, rg, ce) v1
  unfold wpX_peek
  by_cases a : v1 < 0
  · refine mw_cell0 (Or.inl a) ?_
    refine br_t rfl ?_
    exact br_t a ⟨rfl, J⟩
  · rcases pk_ix v1 (n := 64) (by decide) with b | b | ⟨j, hj, rfl⟩
    · exact absurd b a
    · refine mw_cell0 (Or.inr b) ?_
      refine br_t rfl ?_
      exact br_f a (br_t (Int32.lt_of_lt_of_le (by decide) b) ⟨rfl, J⟩)
    · refine mw_cell1 hj ?_
      have g : ¬ (63 : Int32) < nI j := nI_nlt (a := 63) (by omega) (by decide)
      have hin : vp_in (nI j) 64 := vp_in_nI hj (by decide)
      refine br_f (by decide) ⟨hin, ?_⟩
      exact br_f a (br_f g ⟨hin, rfl, J⟩)
theorem i_vc_register {k : Nat} {u : SX} {v : SY} (I : i_Rel k u v) (hk : k + 3 ≤ 1536) (v1 : Int32) : wpX_register (fun r => wpY_register (fun r' => r' = r ∧ i_Rel (k + 3) u v) v v1) u v1 := by
  obtain ⟨ir, ad, mc, hm, ok, rfl⟩ := I
  obtain ⟨pc, sg, st, ct, rg, ce⟩ := v
  have ⟨h1, h2, h3, h4⟩ := ok
  have J : i_Rel (k + 3) (pc, ir, ad, sg, st, ct, mc, rg, ce) (pc, sg, st, ct, rg, ce) := ⟨ir, ad, mc, hm, ok, rfl⟩
  show wpX_register _ (pc, ir, ad, sg, st, ct, mc, rg, ce) v1
  unfold wpX_register
  by_cases a : v1 < 0
  · refine mw_regi0 (Or.inl a) ?_
    refine br_t rfl ?_
    exact br_t a ⟨rfl, J⟩
  · rcases pk_ix v1 (n := 8) (by decide) with b | b | ⟨j, hj, rfl⟩
    · exact absurd b a
    · refine mw_regi0 (Or.inr b) ?_
      refine br_t rfl ?_
      exact br_f a (br_t (Int32.lt_of_lt_of_le (by decide) b) ⟨rfl, J⟩)
    · refine mw_regi1 hj ?_
      have g : ¬ (7 : Int32) < nI j := nI_nlt (a := 7) (by omega) (by decide)
      have hin : vp_in (nI j) 8 := vp_in_nI hj (by decide)
      refine br_f (by decide) ⟨hin, ?_⟩
      exact br_f a (br_f g ⟨hin, rfl, J⟩)
theorem i_vc_start {k : Nat} {u : SX} {v : SY} (I : i_Rel k u v) (hk : k + 3 ≤ 1536) (v1 : Int32) : wpX_start (fun r u' => wpY_start (fun r' v' => r' = r ∧ i_Rel (k + 3) u' v') v v1) u v1 := by
  obtain ⟨ir, ad, mc, hm, ok, rfl⟩ := I
  obtain ⟨pc, sg, st, ct, rg, ce⟩ := v
  have ⟨h1, h2, h3, h4⟩ := ok
  have J : i_Rel (k + 3) (pc, ir, ad, sg, st, ct, mc, rg, ce) (pc, sg, st, ct, rg, ce) := ⟨ir, ad, mc, hm, ok, rfl⟩
  show wpX_start _ (pc, ir, ad, sg, st, ct, mc, rg, ce) v1
  unfold wpX_start wpY_start
  rcases pk_ix v1 (n := 65536) (by decide) with b | b | ⟨w, hw, rfl⟩
  · refine mw_word0 (Or.inl b) ?_
    refine br_t rfl ?_
    refine mw_y0 (Or.inl b) ?_
    exact br_t rfl ⟨rfl, J⟩
  · refine mw_word0 (Or.inr b) ?_
    refine br_t rfl ?_
    refine mw_y0 (Or.inr b) ?_
    exact br_t rfl ⟨rfl, J⟩
  · refine mw_word1 hw ?_
    refine br_f (by decide) ?_
    refine mw_y1 hw ?_
    exact br_f (by decide) ⟨rfl, ⟨ir, ad, mc, hm, ⟨mc_nI_wd hw, h2, h3, h4⟩, rfl⟩⟩
theorem i_vc_step {k : Nat} {u : SX} {v : SY} (I : i_Rel k u v) (hk : k + 3 ≤ 1536) (v1 : Int32) : wpX_step (fun r u' => wpY_step (fun r' v' => r' = r ∧ i_Rel (k + 3) u' v') v v1) u v1 := by
  obtain ⟨ir, ad, mc, hm, ok, rfl⟩ := I
  obtain ⟨pc, sg, st, ct, rg, ce⟩ := v
  have ⟨h1, h2, h3, h4⟩ := ok
  have J : i_Rel (k + 3) (pc, ir, ad, sg, st, ct, mc, rg, ce) (pc, sg, st, ct, rg, ce) := ⟨ir, ad, mc, hm, ok, rfl⟩
  show wpX_step _ (pc, ir, ad, sg, st, ct, mc, rg, ce) v1
  rcases pk_ix v1 (n := 101) (by decide) with b | b | ⟨j, hj, rfl⟩
  · have c : v1 ≤ 100 := Int32.le_trans (Int32.le_of_lt b) (by decide)
    have z : ¬ (0 : Int32) ≤ v1 := Int32.not_le.mpr b
    refine br_t c ⟨1, br_t (Int32.le_of_lt b) (nm_e ?_)⟩
    exact br_f z ⟨1, br_t (by decide) (nm_e ⟨rfl, ⟨ir, ad, mc, hm, ok, rfl⟩⟩)⟩
  · have c : ¬ v1 ≤ 100 := Int32.not_le.mpr (Int32.lt_of_lt_of_le (by decide) b)
    have z : (0 : Int32) ≤ v1 := Int32.le_trans (by decide) b
    obtain ⟨r, v, okv, hX, hY⟩ := mz_loop hm 100 (by decide) 100 0 pc ir ad sg st ct rg ce rfl ok
    exact br_f c ⟨101, hX _ (fun ir' ad' => br_t z (br_f c ⟨101, hY _ ⟨rfl, ⟨ir', ad', mc, hm, okv, rfl⟩⟩⟩))⟩
  · have c : nI j ≤ 100 := nI_le (b := 100) (by omega) (by decide)
    have z : (0 : Int32) ≤ nI j := nI_pos' (by omega)
    obtain ⟨r, v, okv, hX, hY⟩ := mz_loop hm j (by omega) j 0 pc ir ad sg st ct rg ce (by omega) ok
    exact br_t c ⟨j + 1, hX _ (fun ir' ad' => br_t z (br_t c ⟨j + 1, hY _ ⟨rfl, ⟨ir', ad', mc, hm, okv, rfl⟩⟩⟩))⟩
theorem i_vc_place {k : Nat} {u : SX} {v : SY} (I : i_Rel k u v) (hk : k + 3 ≤ 1536) : wpX_place (fun r => wpY_place (fun r' => r' = r ∧ i_Rel (k + 3) u v) v) u := by
  obtain ⟨ir, ad, mc, hm, ok, rfl⟩ := I
  obtain ⟨pc, sg, st, ct, rg, ce⟩ := v
  have ⟨h1, h2, h3, h4⟩ := ok
  have J : i_Rel (k + 3) (pc, ir, ad, sg, st, ct, mc, rg, ce) (pc, sg, st, ct, rg, ce) := ⟨ir, ad, mc, hm, ok, rfl⟩
  exact And.intro rfl J
theorem i_vc_sign {k : Nat} {u : SX} {v : SY} (I : i_Rel k u v) (hk : k + 3 ≤ 1536) : wpX_sign (fun r => wpY_sign (fun r' => r' = r ∧ i_Rel (k + 3) u v) v) u := by
  obtain ⟨ir, ad, mc, hm, ok, rfl⟩ := I
  obtain ⟨pc, sg, st, ct, rg, ce⟩ := v
  have ⟨h1, h2, h3, h4⟩ := ok
  have J : i_Rel (k + 3) (pc, ir, ad, sg, st, ct, mc, rg, ce) (pc, sg, st, ct, rg, ce) := ⟨ir, ad, mc, hm, ok, rfl⟩
  exact And.intro rfl J
theorem i_vc_status {k : Nat} {u : SX} {v : SY} (I : i_Rel k u v) (hk : k + 3 ≤ 1536) : wpX_status (fun r => wpY_status (fun r' => r' = r ∧ i_Rel (k + 3) u v) v) u := by
  obtain ⟨ir, ad, mc, hm, ok, rfl⟩ := I
  obtain ⟨pc, sg, st, ct, rg, ce⟩ := v
  have ⟨h1, h2, h3, h4⟩ := ok
  have J : i_Rel (k + 3) (pc, ir, ad, sg, st, ct, mc, rg, ce) (pc, sg, st, ct, rg, ce) := ⟨ir, ad, mc, hm, ok, rfl⟩
  exact And.intro rfl J
theorem i_vc_count {k : Nat} {u : SX} {v : SY} (I : i_Rel k u v) (hk : k + 3 ≤ 1536) : wpX_count (fun r => wpY_count (fun r' => r' = r ∧ i_Rel (k + 3) u v) v) u := by
  obtain ⟨ir, ad, mc, hm, ok, rfl⟩ := I
  obtain ⟨pc, sg, st, ct, rg, ce⟩ := v
  have ⟨h1, h2, h3, h4⟩ := ok
  have J : i_Rel (k + 3) (pc, ir, ad, sg, st, ct, mc, rg, ce) (pc, sg, st, ct, rg, ce) := ⟨ir, ad, mc, hm, ok, rfl⟩
  exact And.intro rfl J
end
