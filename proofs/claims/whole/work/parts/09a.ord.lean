/-! sets of small numbers by their bits, counts, and the n-th of an order -/
def bt (x : Int32) (i : Nat) : Bool := x.toBitVec.getLsbD i
theorem b_ext {x y : Int32} (h : ∀ i, i < 32 → bt x i = bt y i) : x = y := Int32.toBitVec_inj.mp (BitVec.eq_of_getLsbD_eq (fun i hi => h i hi))
theorem b_or (x y : Int32) (i : Nat) : bt (x ||| y) i = (bt x i || bt y i) := by unfold bt; rw [Int32.toBitVec_or, BitVec.getLsbD_or]
theorem b_and (x y : Int32) (i : Nat) : bt (x &&& y) i = (bt x i && bt y i) := by unfold bt; rw [Int32.toBitVec_and, BitVec.getLsbD_and]
theorem b_xor (x y : Int32) (i : Nat) : bt (x ^^^ y) i = (bt x i ^^ bt y i) := by unfold bt; rw [Int32.toBitVec_xor, BitVec.getLsbD_xor]
theorem b_m1 : ∀ i, i < 32 → bt (-1) i = true := by decide +kernel
theorem b_0 (i : Nat) : bt 0 i = false := BitVec.getLsbD_zero
theorem s_l : ∀ n, n < 32 → ((nI n &&& 31).toBitVec.smod 32).toNat = n := by decide +kernel
theorem b_shl (n : Nat) (hn : n < 32) (x : Int32) {i : Nat} (hi : i < 32) : bt (x <<< (nI n &&& 31)) i = (decide (n ≤ i) && bt x (i - n)) := by
  unfold bt
  rw [Int32.toBitVec_shiftLeft]
  show (x.toBitVec <<< ((nI n &&& 31).toBitVec.smod 32).toNat).getLsbD i = _
  rw [s_l n hn, BitVec.getLsbD_shiftLeft]
  rcases Nat.lt_or_ge i n with h | h
  · simp [h, Nat.not_le.mpr h]
  · simp [hi, h, Nat.not_lt.mpr h]
theorem b_sshr (n : Nat) (hn : n < 32) (x : Int32) {i : Nat} (hi : i < 32) : bt (x >>> (nI n &&& 31)) i = if n + i < 32 then bt x (n + i) else bt x 31 := by
  unfold bt
  rw [Int32.toBitVec_shiftRight]
  show (x.toBitVec.sshiftRight ((nI n &&& 31).toBitVec.smod 32).toNat).getLsbD i = _
  rw [s_l n hn, BitVec.getLsbD_sshiftRight, BitVec.msb_eq_getLsbD_last]
  simp [hi]
theorem b_1 : ∀ i, i < 32 → 0 < i → bt (nI 1) i = false := by decide +kernel
theorem bt_10 : bt (nI 1) 0 = true := by decide +kernel
theorem hs_bt (x : Int32) {k : Nat} (hk : k < 32) : hs x k = bt x k := by
  unfold hs
  have h1 : bt (x >>> (nI k &&& 31)) 0 = bt x k := by
    rw [b_sshr k hk x (by decide), if_pos (by omega), Nat.add_zero]
  rw [← h1]
  generalize x >>> (nI k &&& 31) = y
  have key : (y &&& nI 1 = nI 1) ↔ bt y 0 = true := by
    constructor
    · intro h
      have h2 : bt (y &&& nI 1) 0 = bt (nI 1) 0 := by rw [h]
      rw [b_and, bt_10, Bool.and_true] at h2
      exact h2
    · intro h
      apply b_ext
      intro i hi
      rw [b_and]
      rcases Nat.eq_zero_or_pos i with z | z
      · rw [z, h]; rfl
      · rw [b_1 i hi z]; exact Bool.and_false _
  cases e : bt y 0 with
  | true => exact decide_eq_true (key.mpr e)
  | false => exact decide_eq_false (fun h => by rw [key.mp h] at e; cases e)
theorem bt_one {k i : Nat} (hk : k < 32) (hi : i < 32) : bt (nI 1 <<< (nI k &&& 31)) i = decide (i = k) := by
  rw [b_shl k hk _ hi]
  rcases Nat.lt_trichotomy i k with h | h | h
  · rw [decide_eq_false (show ¬ k ≤ i by omega), decide_eq_false (show ¬ i = k by omega)]; rfl
  · subst h; rw [Nat.sub_self, decide_eq_true (Nat.le_refl _), decide_eq_true rfl, bt_10]; rfl
  · rw [decide_eq_true (show k ≤ i by omega), b_1 (i - k) (by omega) (by omega), decide_eq_false (show ¬ i = k by omega)]; rfl
theorem hs_or (x : Int32) {k i : Nat} (hk : k < 32) (hi : i < 32) : hs (x ||| (nI 1 <<< (nI k &&& 31))) i = (hs x i || decide (i = k)) := by
  rw [hs_bt _ hi, hs_bt _ hi, b_or, bt_one hk hi]
theorem hs_xor (x : Int32) {k i : Nat} (hk : k < 32) (hi : i < 32) : hs (x ^^^ (nI 1 <<< (nI k &&& 31))) i = (hs x i ^^ decide (i = k)) := by
  rw [hs_bt _ hi, hs_bt _ hi, b_xor, bt_one hk hi]
theorem hs_andn (x : Int32) {k i : Nat} (hk : k < 32) (hi : i < 32) : hs (x &&& ((nI 1 <<< (nI k &&& 31)) ^^^ -1)) i = (hs x i && !decide (i = k)) := by
  rw [hs_bt _ hi, hs_bt _ hi, b_and, b_xor, bt_one hk hi, b_m1 i hi, Bool.xor_true]
theorem hs_ext {x y : Int32} (h : ∀ i, i < 32 → hs x i = hs y i) : x = y := b_ext (fun i hi => by rw [← hs_bt _ hi, ← hs_bt _ hi]; exact h i hi)
theorem hs_n0 (k : Nat) : hs (nI 0) k = false := by rw [nI_0]; exact hs_0 k
theorem or_n0 (x : Int32) : x ||| nI 0 = x := by
  apply b_ext; intro i hi; rw [b_or, show nI 0 = 0 from nI_0, b_0, Bool.or_false]
theorem fb_ct_lt {p q : Nat → Bool} {i : Nat} (hp : p i = false) (hq : q i = true) : ∀ {n : Nat}, i < n → (∀ k, k < n → p k = true → q k = true) → fb_ct p n < fb_ct q n
  | 0, h, _ => absurd h (Nat.not_lt_zero _)
  | n + 1, h, hh => by
    rw [fb_ct_succ, fb_ct_succ]
    rcases Nat.lt_or_ge i n with z | z
    · have ih := fb_ct_lt (p := p) (q := q) hp hq z (fun k hk => hh k (by omega))
      have h2 : (if p n = true then 1 else 0) ≤ (if q n = true then 1 else 0) := by
        by_cases e : p n = true
        · rw [if_pos e, if_pos (hh n (by omega) e)]; exact Nat.le_refl _
        · rw [if_neg e]; exact Nat.zero_le _
      omega
    · obtain rfl : i = n := by omega
      have h3 : fb_ct p i ≤ fb_ct q i := fb_ct_sub (fun k hk => hh k (by omega))
      rw [hp, hq]
      simp only [Bool.false_eq_true, if_false, if_true]
      omega
theorem fb_ct_one {p : Nat → Bool} : ∀ {n : Nat}, (∀ a b, a < n → b < n → p a = true → p b = true → a = b) → fb_ct p n ≤ 1
  | 0, _ => Nat.zero_le _
  | n + 1, h => by
    rw [fb_ct_succ]
    have ih := fb_ct_one (p := p) (n := n) (fun a b ha hb => h a b (by omega) (by omega))
    by_cases e : p n = true
    · have z : fb_ct p n = 0 := fb_ct_zero.mpr (fun k hk => by
        cases e2 : p k with
        | false => rfl
        | true => have := h k n (by omega) (by omega) e2 e; omega)
      rw [z, if_pos e]
      exact Nat.le_refl _
    · rw [if_neg e]
      omega
theorem fb_ct_ins {p q : Nat → Bool} {i n : Nat} (hi : i < n) (hp : p i = false) (h : ∀ k, k < n → q k = (p k || decide (k = i))) : fb_ct q n = fb_ct p n + 1 := by
  have e1 : fb_ct q n = fb_ct (fun k => if k = i then true else p k) n := fb_ct_cong (fun k hk => by
    show q k = if k = i then true else p k
    rw [h k hk]
    by_cases e : k = i
    · rw [if_pos e, decide_eq_true e, Bool.or_true]
    · rw [if_neg e, decide_eq_false e, Bool.or_false])
  have e2 := fb_ct_upd p true (i := i) (n := n) hi
  rw [hp] at e2
  simp only [Bool.false_eq_true, if_false, if_true] at e2
  omega
def lk (key : Nat → Int) (a b : Nat) : Bool := decide (key a < key b)
def rk (key : Nat → Int) (p : Nat → Bool) (n k : Nat) : Nat := fb_ct (fun o => p o && lk key o k) n
def kinj (key : Nat → Int) (n : Nat) : Prop := ∀ a b, a < n → b < n → key a = key b → a = b
theorem lk_t {key : Nat → Int} {a b : Nat} : lk key a b = true ↔ key a < key b := decide_eq_true_iff
theorem rk_lt {key : Nat → Int} {p : Nat → Bool} {n a b : Nat} (ha : a < n) (pa : p a = true) (h : key a < key b) : rk key p n a < rk key p n b :=
  fb_ct_lt (i := a) (by rw [pa]; exact decide_eq_false (Int.lt_irrefl _)) (by rw [pa]; exact decide_eq_true h) ha (fun k _ hq => by
    rw [Bool.and_eq_true, lk_t] at hq ⊢
    exact ⟨hq.1, by omega⟩)
theorem rk_inj {key : Nat → Int} {p : Nat → Bool} {n a b : Nat} (hj : kinj key n) (ha : a < n) (hb : b < n) (pa : p a = true) (pb : p b = true) (h : rk key p n a = rk key p n b) : a = b := by
  rcases Int.lt_trichotomy (key a) (key b) with z | z | z
  · have := rk_lt (n := n) ha pa z; omega
  · exact hj a b ha hb z
  · have := rk_lt (n := n) hb pb z; omega
theorem rk_n {key : Nat → Int} {p : Nat → Bool} {n a : Nat} (ha : a < n) : rk key p n a < n := by
  have h : rk key p n a < fb_ct (fun _ => true) n := fb_ct_lt (i := a) (by rw [Bool.and_eq_false_iff]; exact Or.inr (decide_eq_false (Int.lt_irrefl _))) rfl ha (fun _ _ _ => rfl)
  exact Nat.lt_of_lt_of_le h (fb_ct_le _ _)
theorem fnd_none {q : Nat → Bool} {n : Nat} (h : ∀ k, k < n → q k = false) : fnd q n = none := by
  cases e : fnd q n with
  | none => rfl
  | some k => have := (fnd_some e).1; rw [h k (fnd_lt e)] at this; cases this
theorem fnd_uniq {q : Nat → Bool} {n m : Nat} (hm : m < n) (hq : q m = true) (h : ∀ k, k < n → q k = true → k = m) : fnd q n = some m := by
  cases e : fnd q n with
  | none => rw [fnd_all e m hm] at hq; cases hq
  | some k => rw [h k (fnd_lt e) (fnd_some e).1]
theorem bst_p {p : Nat → Bool} {lt : Nat → Nat → Bool} {b : Nat} : ∀ {n : Nat}, bst p lt n = some b → p b = true
  | 0, h => by cases h
  | n + 1, h => by
    by_cases q : p n = true
    · cases e : bst p lt n with
      | none => rw [bst_new q e] at h; cases h; exact q
      | some z =>
        cases r : lt n z with
        | true => rw [bst_win q e r] at h; cases h; exact q
        | false => rw [bst_lose q e r] at h; cases h; exact bst_p e
    · rw [bst_no (eq_false_of_ne_true q)] at h; exact bst_p h
theorem bst_none {p : Nat → Bool} {lt : Nat → Nat → Bool} : ∀ {n : Nat}, bst p lt n = none → ∀ k, k < n → p k = false
  | 0, _, k, hk => absurd hk (Nat.not_lt_zero _)
  | n + 1, h, k, hk => by
    by_cases q : p n = true
    · cases e : bst p lt n with
      | none => rw [bst_new q e] at h; cases h
      | some z =>
        cases r : lt n z with
        | true => rw [bst_win q e r] at h; cases h
        | false => rw [bst_lose q e r] at h; cases h
    · rw [bst_no (eq_false_of_ne_true q)] at h
      rcases Nat.lt_or_ge k n with z | z
      · exact bst_none h k z
      · rw [show k = n by omega]; exact eq_false_of_ne_true q
theorem bst_cong {p q : Nat → Bool} {lt lt2 : Nat → Nat → Bool} : ∀ {n : Nat}, (∀ k, k < n → p k = q k) → (∀ a b, b < a → a < n → p a = true → p b = true → lt a b = lt2 a b) → bst p lt n = bst q lt2 n
  | 0, _, _ => rfl
  | n + 1, h, h2 => by
    have ih := bst_cong (p := p) (q := q) (lt := lt) (lt2 := lt2) (n := n) (fun k hk => h k (by omega)) (fun a b hb ha => h2 a b hb (by omega))
    by_cases z : p n = true
    · have z2 : q n = true := by rw [← h n (by omega)]; exact z
      cases e : bst p lt n with
      | none => rw [bst_new z e, bst_new z2 (by rw [← ih]; exact e)]
      | some b =>
        have hb := bst_lt e
        have e2 : lt n b = lt2 n b := h2 n b hb (by omega) z (bst_p e)
        cases r : lt n b with
        | true => rw [bst_win z e r, bst_win z2 (by rw [← ih]; exact e) (by rw [← e2]; exact r)]
        | false => rw [bst_lose z e r, bst_lose z2 (by rw [← ih]; exact e) (by rw [← e2]; exact r)]
    · have z2 : q n = false := by rw [← h n (by omega)]; exact eq_false_of_ne_true z
      rw [bst_no (eq_false_of_ne_true z), bst_no z2, ih]
theorem bst_min {p : Nat → Bool} {key : Nat → Int} {m : Nat} : ∀ {n : Nat}, bst p (lk key) n = some m → ∀ k, k < n → p k = true → key m ≤ key k
  | 0, h, _, _, _ => by cases h
  | n + 1, h, k, hk, pk => by
    by_cases q : p n = true
    · cases e : bst p (lk key) n with
      | none =>
        rw [bst_new q e] at h
        rw [← Option.some.inj h]
        rcases Nat.lt_or_ge k n with z | z
        · rw [bst_none e k z] at pk; cases pk
        · rw [show k = n by omega]; exact Int.le_refl _
      | some b =>
        have ih := bst_min e
        cases r : lk key n b with
        | true =>
          rw [bst_win q e r] at h
          rw [← Option.some.inj h]
          rcases Nat.lt_or_ge k n with z | z
          · have := ih k z pk; have := lk_t.mp r; omega
          · rw [show k = n by omega]; exact Int.le_refl _
        | false =>
          rw [bst_lose q e r] at h
          rw [← Option.some.inj h]
          rcases Nat.lt_or_ge k n with z | z
          · exact ih k z pk
          · have hkn : k = n := by omega
            subst hkn
            have := of_decide_eq_false r
            omega
    · rw [bst_no (eq_false_of_ne_true q)] at h
      rcases Nat.lt_or_ge k n with z | z
      · exact bst_min h k z pk
      · rw [show k = n by omega] at pk; exact absurd pk q
theorem rk_few {key : Nat → Int} {p : Nat → Bool} {n : Nat} (hj : kinj key n) : ∀ r, fb_ct (fun o => p o && decide (rk key p n o < r)) n ≤ r
  | 0 => by
    rw [fb_ct_zero.mpr (fun k _ => by rw [decide_eq_false (Nat.not_lt_zero _), Bool.and_false])]
    exact Nat.le_refl _
  | r + 1 => by
    have ih := rk_few (p := p) hj r
    have e1 : fb_ct (fun o => p o && decide (rk key p n o < r + 1)) n = fb_ct (fun o => (p o && decide (rk key p n o < r)) || (p o && decide (rk key p n o = r))) n := fb_ct_cong (fun k _ => by
      show (p k && decide (rk key p n k < r + 1)) = ((p k && decide (rk key p n k < r)) || (p k && decide (rk key p n k = r)))
      rw [← Bool.and_or_distrib_left]
      congr 1
      rw [← Bool.decide_or]
      exact decide_eq_decide.mpr (by omega))
    have e2 := fb_ct_or (p := fun o => p o && decide (rk key p n o < r)) (q := fun o => p o && decide (rk key p n o = r)) (n := n) (fun k _ hh => by
      have h1 := of_decide_eq_true (Bool.and_eq_true_iff.mp hh.1).2
      have h2 := of_decide_eq_true (Bool.and_eq_true_iff.mp hh.2).2
      omega)
    have e3 : fb_ct (fun o => p o && decide (rk key p n o = r)) n ≤ 1 := fb_ct_one (fun a b ha hb qa qb => by
      have a1 := Bool.and_eq_true_iff.mp qa
      have b1 := Bool.and_eq_true_iff.mp qb
      exact rk_inj hj ha hb a1.1 b1.1 ((of_decide_eq_true a1.2).trans (of_decide_eq_true b1.2).symm))
    rw [e1, e2]
    omega
theorem bst_rank {key : Nat → Int} {p : Nat → Bool} {n m r : Nat} (hj : kinj key n) (h : bst (fun i => p i && decide (r ≤ rk key p n i)) (lk key) n = some m) : p m = true ∧ rk key p n m = r := by
  have hm := bst_lt h
  have hp := Bool.and_eq_true_iff.mp (bst_p h)
  have hr := of_decide_eq_true hp.2
  refine ⟨hp.1, ?_⟩
  have e1 : rk key p n m = fb_ct (fun o => p o && decide (rk key p n o < r)) n := fb_ct_cong (fun o ho => by
    show (p o && lk key o m) = (p o && decide (rk key p n o < r))
    cases po : p o with
    | false => rfl
    | true =>
      rw [Bool.true_and, Bool.true_and]
      refine decide_eq_decide.mpr ⟨fun q => ?_, fun q => ?_⟩
      · rcases Nat.lt_or_ge (rk key p n o) r with z | z
        · exact z
        · have := bst_min h o ho (by rw [po, decide_eq_true z]; rfl)
          omega
      · rcases Int.lt_trichotomy (key o) (key m) with z | z | z
        · exact z
        · have := hj o m ho hm z
          subst this
          omega
        · have := rk_lt (n := n) hm hp.1 z
          omega)
  have := rk_few (p := p) hj r
  omega
def nthO (key : Nat → Int) (p : Nat → Bool) (n r : Nat) : Option Nat := fnd (fun k => p k && decide (rk key p n k = r)) n
theorem nthO_some {key : Nat → Int} {p : Nat → Bool} {n r m : Nat} (h : nthO key p n r = some m) : m < n ∧ p m = true ∧ rk key p n m = r := by
  have h1 := Bool.and_eq_true_iff.mp (fnd_some h).1
  exact ⟨fnd_lt h, h1.1, of_decide_eq_true h1.2⟩
theorem nthO_is {key : Nat → Int} {p : Nat → Bool} {n m : Nat} (hj : kinj key n) (hm : m < n) (pm : p m = true) : nthO key p n (rk key p n m) = some m :=
  fnd_uniq hm (by rw [pm, decide_eq_true rfl]; rfl) (fun k hk q => by
    have h1 := Bool.and_eq_true_iff.mp q
    exact rk_inj hj hk hm h1.1 pm (of_decide_eq_true h1.2))
theorem nthO_bst {key : Nat → Int} {p : Nat → Bool} {n r : Nat} (hj : kinj key n) : bst (fun i => p i && decide (r ≤ rk key p n i)) (lk key) n = nthO key p n r := by
  cases e : bst (fun i => p i && decide (r ≤ rk key p n i)) (lk key) n with
  | none =>
    symm
    refine fnd_none (fun k hk => ?_)
    have h1 := bst_none e k hk
    rw [Bool.and_eq_false_iff] at h1 ⊢
    rcases h1 with z | z
    · exact Or.inl z
    · have := of_decide_eq_false z
      exact Or.inr (decide_eq_false (by omega))
  | some m =>
    have h1 := bst_rank hj e
    rw [← h1.2]
    exact (nthO_is hj (bst_lt e) h1.1).symm
theorem nthO_up {key : Nat → Int} {p : Nat → Bool} {n r : Nat} (hj : kinj key n) (h : nthO key p n r = none) : ∀ k, k < n → p k = true → rk key p n k < r := fun k hk pk => by
  rw [← nthO_bst hj] at h
  have h1 := bst_none h k hk
  rw [pk, Bool.true_and] at h1
  have := of_decide_eq_false h1
  omega
theorem nth_is {key : Nat → Int} {p : Nat → Bool} {n : Nat} {first : Int32 → Option Nat} (hj : kinj key n) (hn : n ≤ 31) (hf : ∀ out, first out = bst (fun i => p i && !hs out i) (lk key) n) : ∀ r, (∀ i, i < 32 → hs (nthS first r).1 i = (decide (i < n) && (p i && decide (rk key p n i < r)))) ∧ (nthS first r).2 = nthO key p n r
  | 0 => by
    refine ⟨fun i _ => ?_, ?_⟩
    · show hs (nI 0) i = _
      rw [hs_n0, decide_eq_false (Nat.not_lt_zero _), Bool.and_false, Bool.and_false]
    · show first (nI 0) = _
      rw [hf, ← nthO_bst hj]
      exact bst_cong (fun k _ => by rw [hs_n0, decide_eq_true (Nat.zero_le _)]; rfl) (fun _ _ _ _ _ _ => rfl)
  | r + 1 => by
    obtain ⟨h1, h2⟩ := nth_is hj hn hf r
    cases e : (nthS first r).2 with
    | none =>
      have e1 : nthS first (r + 1) = nthS first r := by rw [nthS, e]
      rw [e] at h2
      have hu := nthO_up hj h2.symm
      rw [e1]
      refine ⟨fun i hi => ?_, ?_⟩
      · rw [h1 i hi]
        rcases Nat.lt_or_ge i n with z | z
        · cases pi : p i with
          | false => rfl
          | true => have := hu i z pi; rw [decide_eq_true this, decide_eq_true (show rk key p n i < r + 1 by omega)]
        · rw [decide_eq_false (show ¬ i < n by omega)]; rfl
      · rw [e]
        symm
        exact fnd_none (fun k hk => by
          cases pk : p k with
          | false => rfl
          | true => have := hu k hk pk; rw [decide_eq_false (show ¬ rk key p n k = r + 1 by omega)]; rfl)
    | some b =>
      have e1 : nthS first (r + 1) = ((nthS first r).1 ||| (nI 1 <<< (nI b &&& 31)), first ((nthS first r).1 ||| (nI 1 <<< (nI b &&& 31)))) := by rw [nthS, e]
      rw [e] at h2
      have hb := nthO_some h2.symm
      have hm : ∀ i, i < 32 → hs ((nthS first r).1 ||| (nI 1 <<< (nI b &&& 31))) i = (decide (i < n) && (p i && decide (rk key p n i < r + 1))) := fun i hi => by
        rw [hs_or _ (by omega) hi, h1 i hi]
        rcases Nat.lt_or_ge i n with z | z
        · rw [decide_eq_true z, Bool.true_and, Bool.true_and]
          by_cases ei : i = b
          · subst ei
            rw [decide_eq_true rfl, Bool.or_true, hb.2.1, hb.2.2, decide_eq_true (Nat.lt_succ_self r)]; rfl
          · rw [decide_eq_false ei, Bool.or_false]
            cases pi : p i with
            | false => rfl
            | true =>
              rw [Bool.true_and, Bool.true_and]
              refine decide_eq_decide.mpr ⟨fun q => by omega, fun q => ?_⟩
              rcases Nat.lt_or_ge (rk key p n i) r with y | y
              · exact y
              · exact absurd (rk_inj hj z hb.1 pi hb.2.1 (by rw [hb.2.2]; omega)) ei
        · rw [decide_eq_false (show ¬ i < n by omega), decide_eq_false (show ¬ i = b by omega)]; rfl
      rw [e1]
      refine ⟨hm, ?_⟩
      show first _ = _
      rw [hf, ← nthO_bst hj]
      refine bst_cong (fun k hk => ?_) (fun _ _ _ _ _ _ => rfl)
      rw [hm k (by omega), decide_eq_true hk, Bool.true_and]
      cases pk : p k with
      | false => rfl
      | true =>
        rw [Bool.true_and, Bool.true_and, Bool.true_and, ← decide_not]
        exact decide_eq_decide.mpr (by omega)
theorem nth_snd {first : Int32 → Option Nat} : ∀ r, (nthS first r).2 = first (nthS first r).1
  | 0 => rfl
  | r + 1 => by
    cases e : (nthS first r).2 with
    | none =>
      have e1 : nthS first (r + 1) = nthS first r := by rw [nthS, e]
      rw [e1]; exact nth_snd r
    | some b =>
      have e1 : nthS first (r + 1) = ((nthS first r).1 ||| (nI 1 <<< (nI b &&& 31)), first ((nthS first r).1 ||| (nI 1 <<< (nI b &&& 31)))) := by rw [nthS, e]
      rw [e1]
/-- found by its place: what stands at the place v -/
theorem fnd_place {key : Nat → Int} {p : Nat → Bool} {n : Nat} {v : Int32} (hn : n ≤ 31) : fnd (fun k => p k && decide (nI (rk key p n k) = v)) n = if isIx v n = true then nthO key p n v.toNatClampNeg else none := by
  cases h : isIx v n with
  | true =>
    rw [if_pos rfl]
    obtain ⟨j, hj, e⟩ := isIx_n h (by omega)
    subst e
    rw [nI_clamp (by omega)]
    refine fnd_ext (fun k hk => ?_)
    have := rk_n (key := key) (p := p) hk
    congr 1
    exact decide_eq_decide.mpr (nI_eq (by omega) (by omega))
  | false =>
    rw [if_neg (by decide)]
    refine fnd_none (fun k hk => ?_)
    rw [Bool.and_eq_false_iff]
    refine Or.inr (decide_eq_false (fun e => ?_))
    exact isIx_f h (rk key p n k) (rk_n hk) (by omega) e.symm
