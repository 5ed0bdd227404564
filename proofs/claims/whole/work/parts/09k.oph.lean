/-! the loads in one long, thoughts, places, terms -/
theorem wb_tb (n : Nat) : (lN n).toBitVec = BitVec.ofNat 64 n := rfl
theorem wb_inj {a b : Int64} (h : a.toBitVec = b.toBitVec) : a = b := Int64.toBitVec_inj.mp h
theorem wb_c : ∀ k, k < 64 → ((nI k).toInt64 &&& 63) = lN k := by decide +kernel
theorem wb_sm : ∀ k, k < 64 → (BitVec.ofNat 64 k).smod 64 = BitVec.ofNat 64 k := by decide +kernel
theorem wb_lt2 {a b : Nat} (h : a < b) : 2 ^ a < 2 ^ b := Nat.pow_lt_pow_right (by decide) h
theorem wb_shl (n : Nat) {k : Nat} (hk : k < 64) : lN n <<< ((nI k).toInt64 &&& 63) = lN (n * 2 ^ k) := by
  rw [wb_c k hk]
  apply wb_inj
  rw [Int64.toBitVec_shiftLeft, wb_tb, wb_tb, wb_tb, wb_sm k hk]
  apply BitVec.eq_of_toNat_eq
  rw [BitVec.shiftLeft_eq', BitVec.toNat_shiftLeft, BitVec.toNat_ofNat, BitVec.toNat_ofNat, BitVec.toNat_ofNat, Nat.mod_eq_of_lt (show k < 2 ^ 64 by omega), Nat.shiftLeft_eq, Nat.mul_mod, Nat.mod_mod, ← Nat.mul_mod]
theorem wb_and {a b : Nat} (ha : a < 2 ^ 64) (hb : b < 2 ^ 64) : lN a &&& lN b = lN (a &&& b) := by
  apply wb_inj
  rw [Int64.toBitVec_and, wb_tb, wb_tb, wb_tb]
  apply BitVec.eq_of_toNat_eq
  rw [BitVec.toNat_and, BitVec.toNat_ofNat, BitVec.toNat_ofNat, BitVec.toNat_ofNat, Nat.mod_eq_of_lt ha, Nat.mod_eq_of_lt hb, Nat.mod_eq_of_lt (Nat.and_lt_two_pow _ hb)]
theorem wb_mask {n k : Nat} (hn : n < 2 ^ 64) (hk : k < 64) : lN n &&& lN (2 ^ k - 1) = lN (n % 2 ^ k) := by
  rw [wb_and hn (by have := wb_lt2 hk; omega), Nat.and_two_pow_sub_one_eq_mod]
theorem pf_lI {a : Nat} (h : a < 2 ^ 63) : (lN a).toInt = (a : Int) := lg_ofNat_toInt h
theorem pf_shr {a d : Nat} {D : Int64} (hD : (D.toBitVec.smod 64).toNat = d) (h : a < 2 ^ 62) : lN a >>> D = lN (a / 2 ^ d) := by
  have hd : a / 2 ^ d ≤ a := Nat.div_le_self _ _
  apply Int64.toInt_inj.mp
  have e : (lN a >>> D).toInt = (lN a).toInt >>> d := by
    rw [← hD]
    exact BitVec.toInt_sshiftRight ..
  rw [e, Int.shiftRight_eq_div_pow, pf_lI (by omega), pf_lI (by omega)]
  rfl
def lrP (kf : Nat → Nat → Int32) (c i : Nat) : Bool := !clF kf c && hs (kf 2 c) i
def lrN (kf : Nat → Nat → Int32) : Nat → Nat
  | 0 => 0
  | n + 1 => lrN kf n + (if lrP kf (n / 9) (n % 9) = true then 2 ^ (6 * (n % 9)) else 0)
theorem lr_N (kf : Nat → Nat → Int32) : ∀ n, lrS kf n = lN (lrN kf n)
  | 0 => rfl
  | n + 1 => by
    rw [lrS, lrN, lr_N kf n]
    by_cases c : (!clF kf (n / 9) && hs (kf 2 (n / 9)) (n % 9)) = true
    · rw [if_pos c, if_pos (show lrP kf (n / 9) (n % 9) = true from c), show (1 : Int64) = lN 1 from rfl, wb_shl 1 (by omega), Nat.one_mul, lN_add]
    · rw [if_neg c, if_neg (show ¬ lrP kf (n / 9) (n % 9) = true from c)]; rfl
theorem lr_row (kf : Nat → Nat → Int32) (c : Nat) : ∀ j, j ≤ 9 → lrN kf (c * 9 + j) = lrN kf (c * 9) + fb_sm (fun i => (if lrP kf c i = true then 1 else 0) * 64 ^ i) j
  | 0, _ => rfl
  | j + 1, h => by
    have ih := lr_row kf c j (by omega)
    show lrN kf (c * 9 + j) + (if lrP kf ((c * 9 + j) / 9) ((c * 9 + j) % 9) = true then 2 ^ (6 * ((c * 9 + j) % 9)) else 0) = _
    rw [ih, fb_sm_succ, show (c * 9 + j) / 9 = c by omega, show (c * 9 + j) % 9 = j by omega, Nat.add_assoc]
    congr 2
    by_cases q : lrP kf c j = true
    · rw [if_pos q, if_pos q, Nat.one_mul, Nat.pow_mul]
    · rw [if_neg q, if_neg q, Nat.zero_mul]
theorem lr_dig (kf : Nat → Nat → Int32) : ∀ c, lrN kf (c * 9) = fb_sm (fun i => fb_ct (fun k => lrP kf k i) c * 64 ^ i) 9
  | 0 => by
    rw [Nat.zero_mul]
    symm
    show fb_sm (fun i => 0 * 64 ^ i) 9 = 0
    simp only [Nat.zero_mul]
    rw [fb_sm_const]
  | c + 1 => by
    rw [show (c + 1) * 9 = c * 9 + 9 by omega, lr_row kf c 9 (Nat.le_refl _), lr_dig kf c, ← fb_sm_add]
    refine fb_sm_cong (fun i _ => ?_)
    rw [← Nat.add_mul, fb_ct_succ]
theorem dig_at {a : Nat → Nat} (h : ∀ i, a i < 64) {j : Nat} (hj : j < 9) : fb_sm (fun i => a i * 64 ^ i) 9 / 2 ^ (6 * j) % 2 ^ 6 = a j ∧ fb_sm (fun i => a i * 64 ^ i) 9 < 2 ^ 54 := by
  have e : fb_sm (fun i => a i * 64 ^ i) 9 = 0 + a 0 * 1 + a 1 * 64 + a 2 * 4096 + a 3 * 262144 + a 4 * 16777216 + a 5 * 1073741824 + a 6 * 68719476736 + a 7 * 4398046511104 + a 8 * 281474976710656 := rfl
  rw [e]
  have h0 := h 0
  have h1 := h 1
  have h2 := h 2
  have h3 := h 3
  have h4 := h 4
  have h5 := h 5
  have h6 := h 6
  have h7 := h 7
  have h8 := h 8
  have hj9 : j = 0 ∨ j = 1 ∨ j = 2 ∨ j = 3 ∨ j = 4 ∨ j = 5 ∨ j = 6 ∨ j = 7 ∨ j = 8 := by omega
  refine ⟨?_, by omega⟩
  rcases hj9 with rfl | rfl | rfl | rfl | rfl | rfl | rfl | rfl | rfl
  · show (_ : Nat) / 1 % 64 = a 0
    omega
  · show (_ : Nat) / 64 % 64 = a 1
    omega
  · show (_ : Nat) / 4096 % 64 = a 2
    omega
  · show (_ : Nat) / 262144 % 64 = a 3
    omega
  · show (_ : Nat) / 16777216 % 64 = a 4
    omega
  · show (_ : Nat) / 1073741824 % 64 = a 5
    omega
  · show (_ : Nat) / 68719476736 % 64 = a 6
    omega
  · show (_ : Nat) / 4398046511104 % 64 = a 7
    omega
  · show (_ : Nat) / 281474976710656 % 64 = a 8
    omega
section OPH
variable {z : CS} {g l d : Nat → Int32}
theorem lr_is (kf : Nat → Nat → Int32) {cn j : Nat} (hcn : cn ≤ 10) (hj : j < 9) : lrF kf cn j = nI (ldF kf cn j) := by
  have D := dig_at (a := fun i => fb_ct (fun k => lrP kf k i) cn) (fun i => by have := fb_ct_le (fun k => lrP kf k i) cn; show fb_ct (fun k => lrP kf k i) cn < 64; omega) hj
  unfold lrF
  rw [lr_N, lr_dig, wb_c (6 * j) (by omega), pf_shr (d := 6 * j) (by rw [show (lN (6 * j)).toBitVec = BitVec.ofNat 64 (6 * j) from rfl, show (64 : BitVec 64) = 64 from rfl, wb_sm (6 * j) (by omega), BitVec.toNat_ofNat]; omega) (by omega)]
  have e := wb_mask (n := fb_sm (fun i => fb_ct (fun k => lrP kf k i) cn * 64 ^ i) 9 / 2 ^ (6 * j)) (k := 6) (Nat.lt_of_le_of_lt (Nat.div_le_self _ _) (by omega)) (by decide)
  rw [show (63 : Int64) = lN (2 ^ 6 - 1) from rfl, e, D.1, lN_i]
  rfl
end OPH
