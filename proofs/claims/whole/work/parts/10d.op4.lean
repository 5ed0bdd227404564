/-! a text run on both sides -/
section OPR
variable {c z : CS} {rz : Nat → CS} {hd ct : Nat} {rs dt : Int32} {tc : Nat → Nat} {tl : Nat} {lc : Nat → Int32} {ln : Nat} {sv : Bool} {er : Int32} {x : Nat → Int32} {f : Nat → Nat → Int32}
theorem rn_x (j : Nat) (h2 : j ≠ 2) (h3 : j ≠ 3) (h4 : j ≠ 4) (h7 : j ≠ 7) (h8 : j ≠ 8) (h10 : j ≠ 10) (h11 : j ≠ 11) : (rn0 x f tl).1 j = x j := by
  unfold rn0
  show upd (upd (upd (upd (upd (upd (upd x 2 (nI 1)) 3 (nI 0)) 4 (nI 0)) 7 (nI 0)) 8 (-1)) 10 (nI (itR (f 4) tl (f 8)).2.1)) 11 (nI (itR (f 4) tl (f 8)).2.2.1) j = x j
  rw [pkx h11, pkx h10, pkx h8, pkx h7, pkx h4, pkx h3, pkx h2]
theorem rn_2 : (rn0 x f tl).1 2 = b2i true := rfl
theorem rn_4 : (rn0 x f tl).1 4 = nI 0 := rfl
theorem rn_7 : (rn0 x f tl).1 7 = nI 0 := rfl
theorem rn_8 : (rn0 x f tl).1 8 = -1 := rfl
theorem rn_11 : (rn0 x f tl).1 11 = nI (itR (f 4) tl (f 8)).2.2.1 := rfl
theorem rn_f (j : Nat) (h3 : j ≠ 3) (h8 : j ≠ 8) : (rn0 x f tl).2 j = f j := by
  unfold rn0
  show va_up (va_up f 3 (fb_put (f 3) (fun k => f 0 (0 + k)) 0 124)) 8 (itR (f 4) tl (f 8)).2.2.2 j = f j
  rw [va_up_ne _ _ h8, va_up_ne _ _ h3]
theorem rn_f3 : (rn0 x f tl).2 3 = fb_put (f 3) (fun k => f 0 (0 + k)) 0 124 := rfl
theorem rn_f8 : (rn0 x f tl).2 8 = (itR (f 4) tl (f 8)).2.2.2 := by
  show va_up (va_up f 3 (fb_put (f 3) (fun k => f 0 (0 + k)) 0 124)) 8 (itR (f 4) tl (f 8)).2.2.2 8 = (itR (f 4) tl (f 8)).2.2.2
  rw [va_up_self]
theorem row3 {g3 g0 : Nat → Int32} {k : Nat} (hk : k < 124) : fb_put g3 (fun k => g0 (0 + k)) 0 124 k = g0 k := by
  rw [fb_put_in (Nat.zero_le _) (by omega)]
  show g0 (0 + (k - 0)) = g0 k
  rw [Nat.sub_zero, Nat.zero_add]
theorem run_ords (R : RR c z rz hd ct rs dt tc tl lc ln sv er x f) (ok : (itR (f 4) tl (f 8)).1 = true) (kd fi se nu : Int32) : ORDS tc tl kd fi se nu ((rn0 x f tl).2 8) (itR (f 4) tl (f 8)).2.2.1 := by
  rw [rn_f8]
  exact fun k hk => ((parse (td0 := f 8) (kd := kd) (fi := fi) (se := se) (nu := nu) R.T).1 ok).2.2 kd fi se nu k hk
theorem run_cr (R : RR c z rz hd ct rs dt tc tl lc ln sv er x f) (ok : (itR (f 4) tl (f 8)).1 = true) (kd fi se nu : Int32) (k : Nat) (hk : k ≤ (itR (f 4) tl (f 8)).2.2.1) : CR rs dt (rn0 x f tl) (cyS tc tl kd fi se nu c rs dt k) (crY (rn0 x f tl) k) :=
  cr_all (ct := ct) R.I (by rw [rn_f 0 (by decide) (by decide)]; exact R.G) (by rw [rn_x 1 (by decide) (by decide) (by decide) (by decide) (by decide) (by decide) (by decide)]; exact R.x1) R.H.2.1 rn_2 rn_4 (by rw [rn_x 5 (by decide) (by decide) (by decide) (by decide) (by decide) (by decide) (by decide)]; exact R.x5) (by rw [rn_x 6 (by decide) (by decide) (by decide) (by decide) (by decide) (by decide) (by decide)]; exact R.x6) (run_ords R ok kd fi se nu) k hk
/-- what the model's run wants -/
theorem run_hy (R : RR c z rz hd ct rs dt tc tl lc ln sv er x f) (hok : (itR (f 4) tl (f 8)).1 = true) : (∀ k, k ≤ (itR (f 4) tl (f 8)).2.2.1 → (crY (rn0 x f tl) k).2.1 4 = 0 → mOk (crY (rn0 x f tl) k).2) ∧ (∀ k, k < (itR (f 4) tl (f 8)).2.2.1 → (crY (rn0 x f tl) k).2.1 4 = 0 → ∃ w : Nat, w ≤ 7 ∧ (crY (rn0 x f tl) k).2.2 8 (3 * k) = nI w) ∧ (∀ k, k ≤ (itR (f 4) tl (f 8)).2.2.1 → (crY (rn0 x f tl) k).2.1 11 = nI (itR (f 4) tl (f 8)).2.2.1) ∧ ∀ k, k ≤ (itR (f 4) tl (f 8)).2.2.1 → (crY (rn0 x f tl) k).2.1 4 ≤ 0 → (crY (rn0 x f tl) k).2.1 4 = 0 := by
  have C := fun k hk => run_cr R hok 0 0 0 0 k hk
  refine ⟨fun k hk h => ?_, fun k hk h => ?_, fun k hk => ?_, fun k hk h => ?_⟩
  · exact (cr_mk (ct := ct) (C k hk) (by rw [rn_x 1 (by decide) (by decide) (by decide) (by decide) (by decide) (by decide) (by decide)]; exact R.x1) R.H.2.1 rn_2 ((cr_code (C k hk)).mp h)).2.2.2.2.2
  · obtain ⟨w, w7, _, t2, _⟩ := run_ords R hok 0 0 0 0 k hk
    have f8 := (C k (by omega)).2.2.2.2.2.2.2 8 (by decide) (by decide) (by decide)
    exact ⟨w, w7, by rw [f8]; exact t2⟩
  · rw [(C k hk).2.2.2.2.2.2.1 11 (by decide) (by decide) (by decide) (by decide)]; exact rn_11
  · have e := C k hk
    rcases (show (cyS tc tl 0 0 0 0 c rs dt k).1 = 0 ∨ (cyS tc tl 0 0 0 0 c rs dt k).1 = 1 ∨ (cyS tc tl 0 0 0 0 c rs dt k).1 = 2 by have := e.2.2.2.1; omega) with y | y | y
    · exact (cr_code e).mpr y
    · rw [(e.2.1 y).1] at h; exact absurd h (by decide +kernel)
    · rcases (e.2.2.1 y).1 with q | q <;> (rw [q] at h; exact absurd h (by decide +kernel))
/-- what the class's run wants of its text -/
theorem run_par (R : RR c z rz hd ct rs dt tc tl lc ln sv er x f) (kd fi se nu : Int32) : (feR tc tl kd fi se nu).1 = -1 → ∀ k, k < (feR tc tl kd fi se nu).2.1 → ∃ w : Nat, w ≤ 7 ∧ (feS tc tl (feR tc tl kd fi se nu).2.2.2.1 (feR tc tl kd fi se nu).2.2.2.2.1 (feR tc tl kd fi se nu).2.2.2.2.2.1 (feR tc tl kd fi se nu).2.2.2.2.2.2 (k + 1)).2.1 = nI w := by
  intro h k hk
  have P := parse (td0 := f 8) (kd := kd) (fi := fi) (se := se) (nu := nu) R.T
  cases e : (itR (f 4) tl (f 8)).1 with
  | false => exact absurd h (P.2 e).1
  | true =>
    obtain ⟨_, e2, e3⟩ := P.1 e
    obtain ⟨w, w7, t, _⟩ := e3 _ _ _ _ k (by rw [← e2]; exact hk)
    exact ⟨w, w7, t⟩
theorem tx0 {g : Nat → Int32} {tc9 : Nat → Nat} : TXT tc9 0 g := ⟨Nat.zero_le _, fun _ h => absurd h (Nat.not_lt_zero _)⟩
end OPR
theorem op_run {D : va_G} {cA : Nat → ClassId} {U : Nat → Nat} {rg : Nat → Option Nat} {c z : CS} {rz : Nat → CS} {hd ct : Nat} {rs dt : Int32} {mf : Nat → Nat → Int32} {mn : Nat} {tc : Nat → Nat} {tl to : Nat} {kd fi se : Int32} {ta : Nat} {nu : Int32} {lc : Nat → Int32} {ln : Nat} {sv : Bool} {er : Int32} {x : Nat → Int32} {f : Nat → Nat → Int32} {H : Heap} {rr : Int32} {k : Nat}  (R : RR c z rz hd ct rs dt tc tl lc ln sv er x f) (C : (k = 0 ∧ (feR tc tl kd fi se nu).1 = -1 ∧ (cyS tc tl (feR tc tl kd fi se nu).2.2.2.1 (feR tc tl kd fi se nu).2.2.2.2.1 (feR tc tl kd fi se nu).2.2.2.2.2.1 (feR tc tl kd fi se nu).2.2.2.2.2.2 c rs dt (feR tc tl kd fi se nu).2.1).1 = 0 ∧ rr = nI (feR tc tl kd fi se nu).2.1 ∧ ∃ (to9 ta9 : Nat) (kd9 fi9 se9 nu9 : Int32) (rz9 : Nat → CS), (∀ j, j ≠ hd → rz9 j = rz j) ∧ rz9 hd = c ∧ va_P D vwCl (uw cA U rg ((cyS tc tl (feR tc tl kd fi se nu).2.2.2.1 (feR tc tl kd fi se nu).2.2.2.2.1 (feR tc tl kd fi se nu).2.2.2.2.2.1 (feR tc tl kd fi se nu).2.2.2.2.2.2 c rs dt (feR tc tl kd fi se nu).2.1).2.1) z rz9 ((hUp hd)) ((hCt ct)) ((cyS tc tl (feR tc tl kd fi se nu).2.2.2.1 (feR tc tl kd fi se nu).2.2.2.2.1 (feR tc tl kd fi se nu).2.2.2.2.2.1 (feR tc tl kd fi se nu).2.2.2.2.2.2 c rs dt (feR tc tl kd fi se nu).2.1).2.2.1) ((cyS tc tl (feR tc tl kd fi se nu).2.2.2.1 (feR tc tl kd fi se nu).2.2.2.2.1 (feR tc tl kd fi se nu).2.2.2.2.2.1 (feR tc tl kd fi se nu).2.2.2.2.2.2 c rs dt (feR tc tl kd fi se nu).2.1).2.2.2) mf mn tc 0 to9 kd9 fi9 se9 ta9 nu9 lc ln sv ((-1))) H) ∨ (k = 1 ∧ ((¬ (feR tc tl kd fi se nu).1 = -1 ∧ ∃ (to9 ta9 : Nat) (kd9 fi9 se9 nu9 : Int32), va_P D vwCl (uw cA U rg c z rz hd ct rs dt mf mn tc 0 to9 kd9 fi9 se9 ta9 nu9 lc ln sv ((feR tc tl kd fi se nu).1)) H) ∨ ((feR tc tl kd fi se nu).1 = -1 ∧ (cyS tc tl (feR tc tl kd fi se nu).2.2.2.1 (feR tc tl kd fi se nu).2.2.2.2.1 (feR tc tl kd fi se nu).2.2.2.2.2.1 (feR tc tl kd fi se nu).2.2.2.2.2.2 c rs dt (feR tc tl kd fi se nu).2.1).1 = 1 ∧ ∃ (to9 ta9 : Nat) (kd9 fi9 se9 nu9 : Int32) (rz9 : Nat → CS), (∀ j, j ≠ hd → rz9 j = rz j) ∧ va_P D vwCl (uw cA U rg c z rz9 hd ct ((cyS tc tl (feR tc tl kd fi se nu).2.2.2.1 (feR tc tl kd fi se nu).2.2.2.2.1 (feR tc tl kd fi se nu).2.2.2.2.2.1 (feR tc tl kd fi se nu).2.2.2.2.2.2 c rs dt (feR tc tl kd fi se nu).2.1).2.2.1) ((cyS tc tl (feR tc tl kd fi se nu).2.2.2.1 (feR tc tl kd fi se nu).2.2.2.2.1 (feR tc tl kd fi se nu).2.2.2.2.2.1 (feR tc tl kd fi se nu).2.2.2.2.2.2 c rs dt (feR tc tl kd fi se nu).2.1).2.2.2) mf mn tc 0 to9 kd9 fi9 se9 ta9 nu9 lc ln sv ((-1))) H))) ∨ (k = 2 ∧ (feR tc tl kd fi se nu).1 = -1 ∧ (cyS tc tl (feR tc tl kd fi se nu).2.2.2.1 (feR tc tl kd fi se nu).2.2.2.2.1 (feR tc tl kd fi se nu).2.2.2.2.2.1 (feR tc tl kd fi se nu).2.2.2.2.2.2 c rs dt (feR tc tl kd fi se nu).2.1).1 = 2 ∧ ∃ (to9 ta9 : Nat) (kd9 fi9 se9 nu9 : Int32) (rz9 : Nat → CS), (∀ j, j ≠ hd → rz9 j = rz j) ∧ va_P D vwCl (uw cA U rg c z rz9 hd ct ((cyS tc tl (feR tc tl kd fi se nu).2.2.2.1 (feR tc tl kd fi se nu).2.2.2.2.1 (feR tc tl kd fi se nu).2.2.2.2.2.1 (feR tc tl kd fi se nu).2.2.2.2.2.2 c rs dt (feR tc tl kd fi se nu).2.1).2.2.1) ((cyS tc tl (feR tc tl kd fi se nu).2.2.2.1 (feR tc tl kd fi se nu).2.2.2.2.1 (feR tc tl kd fi se nu).2.2.2.2.2.1 (feR tc tl kd fi se nu).2.2.2.2.2.2 c rs dt (feR tc tl kd fi se nu).2.1).2.2.2) mf mn tc 0 to9 kd9 fi9 se9 ta9 nu9 lc ln sv ((-1))) H)) : OPC D cA U rg k rr (rnM x f tl) H := by
  have P := parse (td0 := f 8) (kd := kd) (fi := fi) (se := se) (nu := nu) R.T
  cases ok : (itR (f 4) tl (f 8)).1 with
  | false =>
    obtain ⟨p1, p2⟩ := P.2 ok
    rcases C with ⟨rfl, h1, _⟩ | ⟨rfl, ⟨_, to9, ta9, kd9, fi9, se9, nu9, hP⟩ | ⟨h1, _⟩⟩ | ⟨rfl, h1, _⟩
    · exact absurd h1 p1
    · rw [rnM, if_neg (bnt ok)]
      rw [p2] at hP
      have o : ∀ j, j ≠ 3 → j ≠ 4 → j ≠ 7 → j ≠ 8 → j ≠ 10 → j ≠ 11 → (rnF x f tl).1 j = x j := fun j h3 h4 h7 h8 h10 h11 => by
        show upd (upd (upd (upd (upd (upd x 3 (nI 0)) 4 (nI 1)) 7 (nI 0)) 8 (nI (itR (f 4) tl (f 8)).2.1)) 10 (nI (itR (f 4) tl (f 8)).2.1)) 11 (nI (itR (f 4) tl (f 8)).2.2.1) j = x j
        rw [pkx h11, pkx h10, pkx h8, pkx h7, pkx h4, pkx h3]
      have g : ∀ j, j ≠ 8 → (rnF x f tl).2 j = f j := fun j h8 => va_up_ne _ _ h8
      have e4 : (rnF x f tl).1 4 = nI 1 := rfl
      have e7 : (rnF x f tl).1 7 = nI 0 := rfl
      have e8 : (rnF x f tl).1 8 = nI (itR (f 4) tl (f 8)).2.1 := rfl
      have RF : RR c z rz hd ct rs dt tc 0 lc ln sv (nI (itR (f 4) tl (f 8)).2.1) (rnF x f tl).1 (rnF x f tl).2 := ⟨R.I, by rw [g 0 (by decide)]; exact R.G, by rw [g 1 (by decide)]; exact R.H, (o 1 (by decide) (by decide) (by decide) (by decide) (by decide) (by decide)).trans R.x1, (o 5 (by decide) (by decide) (by decide) (by decide) (by decide) (by decide)).trans R.x5, (o 6 (by decide) (by decide) (by decide) (by decide) (by decide) (by decide)).trans R.x6, tx0, e7, e8, by rw [o 9 (by decide) (by decide) (by decide) (by decide) (by decide) (by decide), g 5 (by decide)]; exact R.L, (o 0 (by decide) (by decide) (by decide) (by decide) (by decide) (by decide)).trans R.x0, by rw [g 2 (by decide)]; exact R.S, (o 2 (by decide) (by decide) (by decide) (by decide) (by decide) (by decide)).trans R.x2⟩
      exact OPC_mk (x' := (rnF x f tl).1) (f' := (rnF x f tl).2) e4 (fun q => absurd q (by decide)) (LST_of hP RF)
    · exact absurd h1 p1
    · exact absurd h1 p1
  | true =>
    obtain ⟨p1, p2, _⟩ := P.1 ok
    have CRm := run_cr R ok (feR tc tl kd fi se nu).2.2.2.1 (feR tc tl kd fi se nu).2.2.2.2.1 (feR tc tl kd fi se nu).2.2.2.2.2.1 (feR tc tl kd fi se nu).2.2.2.2.2.2 (itR (f 4) tl (f 8)).2.2.1 (Nat.le_refl _)
    rw [p2] at C
    have eR : rnM x f tl = rnE (crY (rn0 x f tl) (itR (f 4) tl (f 8)).2.2.1) (itR (f 4) tl (f 8)).2.2.1 := by rw [rnM, if_pos ok]
    generalize cyS tc tl (feR tc tl kd fi se nu).2.2.2.1 (feR tc tl kd fi se nu).2.2.2.2.1 (feR tc tl kd fi se nu).2.2.2.2.2.1 (feR tc tl kd fi se nu).2.2.2.2.2.2 c rs dt (itR (f 4) tl (f 8)).2.2.1 = Y at C CRm
    rw [eR]
    generalize hM : crY (rn0 x f tl) (itR (f 4) tl (f 8)).2.2.1 = M at CRm
    have xo : ∀ j, j ≠ 2 → j ≠ 3 → j ≠ 4 → j ≠ 5 → j ≠ 6 → j ≠ 7 → j ≠ 8 → j ≠ 10 → j ≠ 11 → M.2.1 j = x j := fun j h2 h3 h4 h5 h6 h7 h8 h10 h11 => (CRm.2.2.2.2.2.2.1 j h3 h4 h5 h6).trans (rn_x j h2 h3 h4 h7 h8 h10 h11)
    have x7 : M.2.1 7 = nI 0 := (CRm.2.2.2.2.2.2.1 7 (by decide) (by decide) (by decide) (by decide)).trans rn_7
    have x8 : M.2.1 8 = -1 := (CRm.2.2.2.2.2.2.1 8 (by decide) (by decide) (by decide) (by decide)).trans rn_8
    have fo : ∀ j, j ≠ 0 → j ≠ 6 → j ≠ 7 → j ≠ 3 → j ≠ 8 → M.2.2 j = f j := fun j h0 h6 h7 h3 h8 => (CRm.2.2.2.2.2.2.2 j h0 h6 h7).trans (rn_f j h3 h8)
    have f3 : M.2.2 3 = fb_put (f 3) (fun k => f 0 (0 + k)) 0 124 := (CRm.2.2.2.2.2.2.2 3 (by decide) (by decide) (by decide)).trans rn_f3
    have x1 : M.2.1 1 = nI ct := (xo 1 (by decide) (by decide) (by decide) (by decide) (by decide) (by decide) (by decide) (by decide) (by decide)).trans R.x1
    have c8 := R.H.2.1
    have eh : mh9 M.2 = ct := by show (M.2.1 1).toNatClampNeg = _; rw [x1, nI_clamp (by omega)]
    have back : ∀ (rz9 : Nat → CS) (n : Nat), n ≠ 0 → ¬ M.2.1 4 = 0 → (if M.2.1 3 = 0 then nI 1 else nI 2) = nI n → (∀ j, j ≠ hd → rz9 j = rz j) → RR c z rz9 hd ct Y.2.2.1 Y.2.2.2 tc 0 lc ln sv (-1) (rnE M (itR (f 4) tl (f 8)).2.2.1).2.1 (rnE M (itR (f 4) tl (f 8)).2.2.1).2.2 ∧ (rnE M (itR (f 4) tl (f 8)).2.2.1).2.1 4 = nI n := by
      intro rz9 n hn h4 h3 hz
      rw [rnE, if_neg h4]
      have a : ∀ j, j ≠ 2 → j ≠ 4 → upd (upd M.2.1 2 (nI 0)) 4 (if M.2.1 3 = 0 then nI 1 else nI 2) j = M.2.1 j := fun j h2 h4 => by rw [pkx h4, pkx h2]
      refine ⟨⟨R.I, ?_, ?_, ?_, ?_, ?_, tx0, ?_, ?_, ?_, ?_, ?_, ?_⟩, ?_⟩
      · show RG c (va_up M.2.2 0 (fb_put (M.2.2 0) (fun k => M.2.2 3 (0 + k)) 0 124) 0)
        rw [va_up_self]
        exact R.G.cong R.I (fun k hk => by rw [row3 hk, f3, row3 hk])
      · show HI rz9 hd ct (va_up M.2.2 0 (fb_put (M.2.2 0) (fun k => M.2.2 3 (0 + k)) 0 124) 1)
        rw [va_up_ne _ _ (by decide), fo 1 (by decide) (by decide) (by decide) (by decide) (by decide)]
        exact HI_cong R.H hz
      · exact (a 1 (by decide) (by decide)).trans x1
      · exact (a 5 (by decide) (by decide)).trans CRm.2.2.2.2.1
      · exact (a 6 (by decide) (by decide)).trans CRm.2.2.2.2.2.1
      · exact (a 7 (by decide) (by decide)).trans x7
      · exact (a 8 (by decide) (by decide)).trans x8
      · have e9 : M.2.1 9 = x 9 := xo 9 (by decide) (by decide) (by decide) (by decide) (by decide) (by decide) (by decide) (by decide) (by decide)
        have e5 : va_up M.2.2 0 (fb_put (M.2.2 0) (fun k => M.2.2 3 (0 + k)) 0 124) 5 = f 5 := by rw [va_up_ne _ _ (by decide), fo 5 (by decide) (by decide) (by decide) (by decide) (by decide)]
        refine ⟨R.L.1, (a 9 (by decide) (by decide)).trans (e9.trans R.L.2.1), fun k hk => ?_⟩
        show lc k = va_up M.2.2 0 (fb_put (M.2.2 0) (fun k => M.2.2 3 (0 + k)) 0 124) 5 k ∧ _
        rw [e5]; exact R.L.2.2 k hk
      · exact (a 0 (by decide) (by decide)).trans ((xo 0 (by decide) (by decide) (by decide) (by decide) (by decide) (by decide) (by decide) (by decide) (by decide)).trans R.x0)
      · intro hs
        refine ⟨(R.S hs).1, ?_⟩
        show RG z (va_up M.2.2 0 (fb_put (M.2.2 0) (fun k => M.2.2 3 (0 + k)) 0 124) 2)
        rw [va_up_ne _ _ (by decide), fo 2 (by decide) (by decide) (by decide) (by decide) (by decide)]
        exact (R.S hs).2
      · show upd (upd M.2.1 2 (nI 0)) 4 (if M.2.1 3 = 0 then nI 1 else nI 2) 2 = b2i false
        rw [pkx (by decide), pk_us]; rfl
      · show upd (upd M.2.1 2 (nI 0)) 4 (if M.2.1 3 = 0 then nI 1 else nI 2) 4 = nI n
        rw [pk_us]; exact h3
    rcases C with ⟨rfl, _, h2, h3, to9, ta9, kd9, fi9, se9, nu9, rz9, hz1, hz2, hP⟩ | ⟨rfl, ⟨h1, _⟩ | ⟨_, h2, to9, ta9, kd9, fi9, se9, nu9, rz9, hz1, hP⟩⟩ | ⟨rfl, _, h2, to9, ta9, kd9, fi9, se9, nu9, rz9, hz1, hP⟩
    · obtain ⟨m4, mI, mG, mr⟩ := CRm.1 h2
      have m0 : M.2.1 4 = 0 := by rw [m4]; exact nI_0
      have er : rz9 = va_up rz hd c := funext fun j => by
        by_cases e : j = hd
        · rw [e, va_up_self]; exact hz2
        · rw [va_up_ne _ _ e]; exact hz1 j e
      rw [er] at hP
      rw [rnE, if_pos m0, eh]
      have a : ∀ j, j ≠ 1 → j ≠ 2 → j ≠ 4 → upd (upd (upd M.2.1 1 (nI (kpC false ct))) 2 (nI 0)) 4 (nI 0) j = M.2.1 j := fun j h1 h2 h4 => by rw [pkx h4, pkx h2, pkx h1]
      refine OPC_mk (by rw [pk_us]) (fun _ => h3.symm) (LST_of hP ⟨mI, ?_, ?_, ?_, ?_, ?_, tx0, ?_, ?_, ?_, ?_, ?_, ?_⟩)
      · rw [va_up_ne _ _ (by decide)]; exact mG
      · rw [va_up_self, fo 1 (by decide) (by decide) (by decide) (by decide) (by decide)]
        exact HI_keep R.H R.I (R.G.cong R.I (fun k hk => by rw [f3, row3 hk]))
      · rw [pkx (by decide), pkx (by decide), pk_us, hCt_is c8]
      · exact (a 5 (by decide) (by decide) (by decide)).trans CRm.2.2.2.2.1
      · exact (a 6 (by decide) (by decide) (by decide)).trans CRm.2.2.2.2.2.1
      · exact (a 7 (by decide) (by decide) (by decide)).trans x7
      · exact (a 8 (by decide) (by decide) (by decide)).trans x8
      · have e9 : M.2.1 9 = x 9 := xo 9 (by decide) (by decide) (by decide) (by decide) (by decide) (by decide) (by decide) (by decide) (by decide)
        have e5 : va_up M.2.2 1 (kpK false (M.2.2 3) (M.2.2 1) ct) 5 = f 5 := by rw [va_up_ne _ _ (by decide), fo 5 (by decide) (by decide) (by decide) (by decide) (by decide)]
        exact ⟨R.L.1, (a 9 (by decide) (by decide) (by decide)).trans (e9.trans R.L.2.1), fun k hk => by rw [e5]; exact R.L.2.2 k hk⟩
      · exact (a 0 (by decide) (by decide) (by decide)).trans ((xo 0 (by decide) (by decide) (by decide) (by decide) (by decide) (by decide) (by decide) (by decide) (by decide)).trans R.x0)
      · intro hs
        rw [va_up_ne _ _ (by decide), fo 2 (by decide) (by decide) (by decide) (by decide) (by decide)]
        exact R.S hs
      · rw [pkx (by decide), pk_us]; rfl
    · exact absurd p1 h1
    · have q := CRm.2.1 h2
      have n4 : ¬ M.2.1 4 = 0 := by rw [q.1]; decide +kernel
      obtain ⟨b1, b2⟩ := back rz9 1 (by decide) n4 (by rw [q.2.1, nI_0, if_pos rfl]) hz1
      exact ⟨b2, fun q => absurd q (by decide), LST_of hP b1⟩
    · have q := CRm.2.2.1 h2
      have n4 : ¬ M.2.1 4 = 0 := by rcases q.1 with y | y <;> (rw [y]; decide +kernel)
      obtain ⟨b1, b2⟩ := back rz9 2 (by decide) n4 (by rw [q.2, if_neg (by decide +kernel)]) hz1
      exact ⟨b2, fun q => absurd q (by decide), LST_of hP b1⟩
