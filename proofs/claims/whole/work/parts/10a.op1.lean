/-! both whole states -/
def RR (c z : CS) (rz : Nat → CS) (hd ct : Nat) (rs dt : Int32) (tc : Nat → Nat) (tl : Nat) (lc : Nat → Int32) (ln : Nat) (sv : Bool) (er : Int32) (x : Nat → Int32) (f : Nat → Nat → Int32) : Prop :=
  RI c ∧ RG c (f 0) ∧ HI rz hd ct (f 1) ∧ x 1 = nI ct ∧ x 5 = rs ∧ x 6 = dt ∧ TXT tc tl (f 4) ∧ x 7 = nI tl ∧ x 8 = er ∧ (ln ≤ 32 ∧ x 9 = nI ln ∧ ∀ k, k < ln → lc k = f 5 k ∧ ∃ w : Nat, w < 65536 ∧ lc k = nI w) ∧ x 0 = b2i sv ∧ (sv = true → RI z ∧ RG z (f 2)) ∧ x 2 = b2i false
def LST (D : va_G) (cA : Nat → ClassId) (U : Nat → Nat) (rg : Nat → Option Nat) (x : Nat → Int32) (f : Nat → Nat → Int32) (H : Heap) : Prop :=
  ∃ (c z : CS) (rz : Nat → CS) (hd ct : Nat) (rs dt : Int32) (mf : Nat → Nat → Int32) (mn : Nat) (tc : Nat → Nat) (tl to : Nat) (kd fi se : Int32) (ta : Nat) (nu : Int32) (lc : Nat → Int32) (ln : Nat) (sv : Bool) (er : Int32), RR c z rz hd ct rs dt tc tl lc ln sv er x f ∧ va_P D vwCl (uw cA U rg c z rz hd ct rs dt mf mn tc tl to kd fi se ta nu lc ln sv er) H
theorem LST_of {D : va_G} {cA : Nat → ClassId} {U : Nat → Nat} {rg : Nat → Option Nat} {c z : CS} {rz : Nat → CS} {hd ct : Nat} {rs dt : Int32} {mf : Nat → Nat → Int32} {mn : Nat} {tc : Nat → Nat} {tl to : Nat} {kd fi se : Int32} {ta : Nat} {nu : Int32} {lc : Nat → Int32} {ln : Nat} {sv : Bool} {er : Int32} {x : Nat → Int32} {f : Nat → Nat → Int32} {H : Heap} (hP : va_P D vwCl (uw cA U rg c z rz hd ct rs dt mf mn tc tl to kd fi se ta nu lc ln sv er) H) (R : RR c z rz hd ct rs dt tc tl lc ln sv er x f) : LST D cA U rg x f H := ⟨_, _, _, _, _, _, _, _, _, _, _, _, _, _, _, _, _, _, _, _, _, R, hP⟩
def OPC (D : va_G) (cA : Nat → ClassId) (U : Nat → Nat) (rg : Nat → Option Nat) (k : Nat) (rr : Int32) (M : Int32 × MX) (H : Heap) : Prop := M.2.1 4 = nI k ∧ (k = 0 → M.1 = rr) ∧ LST D cA U rg M.2.1 M.2.2 H
section RRs
variable {c z : CS} {rz : Nat → CS} {hd ct : Nat} {rs dt : Int32} {tc : Nat → Nat} {tl : Nat} {lc : Nat → Int32} {ln : Nat} {sv : Bool} {er : Int32} {x : Nat → Int32} {f : Nat → Nat → Int32}
theorem RR.I (h : RR c z rz hd ct rs dt tc tl lc ln sv er x f) : RI c := h.1
theorem RR.G (h : RR c z rz hd ct rs dt tc tl lc ln sv er x f) : RG c (f 0) := h.2.1
theorem RR.H (h : RR c z rz hd ct rs dt tc tl lc ln sv er x f) : HI rz hd ct (f 1) := h.2.2.1
theorem RR.x1 (h : RR c z rz hd ct rs dt tc tl lc ln sv er x f) : x 1 = nI ct := h.2.2.2.1
theorem RR.x5 (h : RR c z rz hd ct rs dt tc tl lc ln sv er x f) : x 5 = rs := h.2.2.2.2.1
theorem RR.x6 (h : RR c z rz hd ct rs dt tc tl lc ln sv er x f) : x 6 = dt := h.2.2.2.2.2.1
theorem RR.T (h : RR c z rz hd ct rs dt tc tl lc ln sv er x f) : TXT tc tl (f 4) := h.2.2.2.2.2.2.1
theorem RR.x7 (h : RR c z rz hd ct rs dt tc tl lc ln sv er x f) : x 7 = nI tl := h.2.2.2.2.2.2.2.1
theorem RR.x8 (h : RR c z rz hd ct rs dt tc tl lc ln sv er x f) : x 8 = er := h.2.2.2.2.2.2.2.2.1
theorem RR.L (h : RR c z rz hd ct rs dt tc tl lc ln sv er x f) : ln ≤ 32 ∧ x 9 = nI ln ∧ ∀ k, k < ln → lc k = f 5 k ∧ ∃ w : Nat, w < 65536 ∧ lc k = nI w := h.2.2.2.2.2.2.2.2.2.1
theorem RR.x0 (h : RR c z rz hd ct rs dt tc tl lc ln sv er x f) : x 0 = b2i sv := h.2.2.2.2.2.2.2.2.2.2.1
theorem RR.S (h : RR c z rz hd ct rs dt tc tl lc ln sv er x f) : sv = true → RI z ∧ RG z (f 2) := h.2.2.2.2.2.2.2.2.2.2.2.1
theorem RR.x2 (h : RR c z rz hd ct rs dt tc tl lc ln sv er x f) : x 2 = b2i false := h.2.2.2.2.2.2.2.2.2.2.2.2
/-- what doesn't count may change -/
theorem RR.fr {x' : Nat → Int32} {f' : Nat → Nat → Int32} (h : RR c z rz hd ct rs dt tc tl lc ln sv er x f) (hx : ∀ j, j < 10 → j ≠ 3 → j ≠ 4 → x' j = x j) (hf : ∀ j, j ≤ 5 → j ≠ 3 → f' j = f j) : RR c z rz hd ct rs dt tc tl lc ln sv er x' f' := by
  unfold RR
  rw [hf 0 (by decide) (by decide), hf 1 (by decide) (by decide), hf 2 (by decide) (by decide), hf 4 (by decide) (by decide), hf 5 (by decide) (by decide), hx 0 (by decide) (by decide) (by decide), hx 1 (by decide) (by decide) (by decide), hx 2 (by decide) (by decide) (by decide), hx 5 (by decide) (by decide) (by decide), hx 6 (by decide) (by decide) (by decide), hx 7 (by decide) (by decide) (by decide), hx 8 (by decide) (by decide) (by decide), hx 9 (by decide) (by decide) (by decide)]
  exact h
theorem RR.fail (h : RR c z rz hd ct rs dt tc tl lc ln sv er x f) (n : Nat) : RR c z rz hd ct rs dt tc tl lc ln sv er (failX x n) f := h.fr (fun j _ h3 h4 => fX_o h3 h4) (fun _ _ _ => rfl)
theorem RR.up4 (h : RR c z rz hd ct rs dt tc tl lc ln sv er x f) (v : Int32) : RR c z rz hd ct rs dt tc tl lc ln sv er (upd x 4 v) f := h.fr (fun j _ _ h4 => pk_un h4) (fun _ _ _ => rfl)
theorem RR.m67 {l9 d9 : Nat → Int32} (h : RR c z rz hd ct rs dt tc tl lc ln sv er x f) : RR c z rz hd ct rs dt tc tl lc ln sv er x (va_up (va_up f 6 l9) 7 d9) := h.fr (fun _ _ _ _ => rfl) (fun j hj _ => by rw [va_up_ne _ _ (by omega), va_up_ne _ _ (by omega)])
theorem RR.ref (h : RR c z rz hd ct rs dt tc tl lc ln sv er x f) (n : Nat) (e : RS) : RR c z rz hd ct e.1 e.2 tc tl lc ln sv er (refX x n e.1 e.2) f := by
  have o : ∀ j, j < 10 → j ≠ 3 → j ≠ 4 → j ≠ 5 → j ≠ 6 → refX x n e.1 e.2 j = x j := fun j _ h3 h4 h5 h6 => rX_o h3 h4 h5 h6
  exact ⟨h.I, h.G, h.H, (o 1 (by decide) (by decide) (by decide) (by decide) (by decide)).trans h.x1, rX_5, rX_6, h.T, (o 7 (by decide) (by decide) (by decide) (by decide) (by decide)).trans h.x7, (o 8 (by decide) (by decide) (by decide) (by decide) (by decide)).trans h.x8, by rw [o 9 (by decide) (by decide) (by decide) (by decide) (by decide)]; exact h.L, (o 0 (by decide) (by decide) (by decide) (by decide) (by decide)).trans h.x0, h.S, (o 2 (by decide) (by decide) (by decide) (by decide) (by decide)).trans h.x2⟩
theorem RR.keep {res : Int32} {c' : CS} {M : Int32 × MX} (h : RR c z rz hd ct rs dt tc tl lc ln sv er x f) (K : OK3 res c' x f false ct M) : RR c' z (va_up rz hd c) (hUp hd) (hCt ct) rs dt tc tl lc ln sv er M.2.1 M.2.2 := by
  obtain ⟨k1, k2, k3, k4, k5, k6, k7, k8⟩ := K
  have e := hCt_is h.H.2.1
  refine ⟨k2, k3, by rw [k7]; exact HI_keep h.H h.I h.G, by rw [k4, e], (k6 5 (by decide) (by decide) (by decide)).trans h.x5, (k6 6 (by decide) (by decide) (by decide)).trans h.x6, by rw [k8 4 (by decide) (by decide) (by decide) (by decide)]; exact h.T, (k6 7 (by decide) (by decide) (by decide)).trans h.x7, (k6 8 (by decide) (by decide) (by decide)).trans h.x8, by rw [k6 9 (by decide) (by decide) (by decide), k8 5 (by decide) (by decide) (by decide) (by decide)]; exact h.L, (k6 0 (by decide) (by decide) (by decide)).trans h.x0, by rw [k8 2 (by decide) (by decide) (by decide) (by decide)]; exact h.S, (k6 2 (by decide) (by decide) (by decide)).trans h.x2⟩
end RRs
section OPCs
variable {D : va_G} {cA : Nat → ClassId} {U : Nat → Nat} {rg : Nat → Option Nat} {c z : CS} {rz : Nat → CS} {hd ct : Nat} {rs dt : Int32} {mf : Nat → Nat → Int32} {mn : Nat} {tc : Nat → Nat} {tl to : Nat} {kd fi se : Int32} {ta : Nat} {nu : Int32} {lc : Nat → Int32} {ln : Nat} {sv : Bool} {er : Int32} {x : Nat → Int32} {f : Nat → Nat → Int32} {H : Heap} {rr : Int32} {M : Int32 × MX}
theorem OPC_f {n : Nat} (hn : n ≠ 0) (e : M.2 = (failX x n, f)) (hP : va_P D vwCl (uw cA U rg c z rz hd ct rs dt mf mn tc tl to kd fi se ta nu lc ln sv er) H) (R : RR c z rz hd ct rs dt tc tl lc ln sv er x f) : OPC D cA U rg n rr M H := by
  have e1 : M.2.1 = failX x n := by rw [e]
  have e2 : M.2.2 = f := by rw [e]
  exact ⟨by rw [e1]; exact fX_4, fun q => absurd q hn, by rw [e1, e2]; exact LST_of hP (R.fail n)⟩
theorem OPC_r {n : Nat} {e9 : RS} (hn : n ≠ 0) (e : M.2 = (refX x n e9.1 e9.2, f)) (hP : va_P D vwCl (uw cA U rg c z rz hd ct e9.1 e9.2 mf mn tc tl to kd fi se ta nu lc ln sv er) H) (R : RR c z rz hd ct rs dt tc tl lc ln sv er x f) : OPC D cA U rg n rr M H := by
  have e1 : M.2.1 = refX x n e9.1 e9.2 := by rw [e]
  have e2 : M.2.2 = f := by rw [e]
  exact ⟨by rw [e1]; exact rX_4, fun q => absurd q hn, by rw [e1, e2]; exact LST_of hP (R.ref n e9)⟩
theorem OPC_0 (e1 : M.1 = rr) (e2 : M.2 = (failX x 0, f)) (hP : va_P D vwCl (uw cA U rg c z rz hd ct rs dt mf mn tc tl to kd fi se ta nu lc ln sv er) H) (R : RR c z rz hd ct rs dt tc tl lc ln sv er x f) : OPC D cA U rg 0 rr M H := by
  have e3 : M.2.1 = failX x 0 := by rw [e2]
  have e4 : M.2.2 = f := by rw [e2]
  exact ⟨by rw [e3]; exact fX_4, fun _ => e1, by rw [e3, e4]; exact LST_of hP (R.fail 0)⟩
end OPCs
/-- an order that was wrong, refused, carried out -/
theorem some_D {o : Option RS} {d : RS} (h : o.isSome = true) : ∃ e, o = some e ∧ o.getD d = e := by
  obtain ⟨e, he⟩ := Option.isSome_iff_exists.mp h
  exact ⟨e, he, by rw [he]; rfl⟩
theorem op_juror {D : va_G} {cA : Nat → ClassId} {U : Nat → Nat} {rg : Nat → Option Nat} {c z : CS} {rz : Nat → CS} {hd ct : Nat} {rs dt : Int32} {mf : Nat → Nat → Int32} {mn : Nat} {tc : Nat → Nat} {tl to : Nat} {kd fi se : Int32} {ta : Nat} {nu : Int32} {lc : Nat → Int32} {ln : Nat} {sv : Bool} {er : Int32} {x : Nat → Int32} {f : Nat → Nat → Int32} {H : Heap} {rr : Int32} {k : Nat} {a b : Int32} (R : RR c z rz hd ct rs dt tc tl lc ln sv er x f) (C : (k = 0 ∧ jrr a b = true ∧ rfJ (zjn c) = none ∧ rr = nI (zjn c) ∧ va_P D vwCl (uw cA U rg (zAddJ c a b) z (va_up rz hd c) (hUp hd) (hCt ct) rs dt mf mn tc tl to kd fi se ta nu lc ln sv er) H) ∨ (k = 1 ∧ jrr a b = false ∧ va_P D vwCl (uw cA U rg c z rz hd ct rs dt mf mn tc tl to kd fi se ta nu lc ln sv er) H) ∨ (k = 2 ∧ jrr a b = true ∧ (rfJ (zjn c)).isSome = true ∧ va_P D vwCl (uw cA U rg c z rz hd ct (((rfJ (zjn c)).getD (rs, dt)).1) (((rfJ (zjn c)).getD (rs, dt)).2) mf mn tc tl to kd fi se ta nu lc ln sv er) H)) : OPC D cA U rg k rr (jrM x f (zjn c) false ct a b) H := by
  have O := o_juror (x := x) (f := f) (w := false) (ch := ct) R.I R.G a b
  rcases C with ⟨rfl, h1, h2, h3, hP⟩ | ⟨rfl, h1, hP⟩ | ⟨rfl, h1, h2, hP⟩
  · have K := O.2.2 h1 h2
    exact ⟨K.2.2.2.2.1, fun _ => K.1.trans h3.symm, LST_of hP (R.keep K)⟩
  · exact OPC_f (by decide) (O.1 h1) hP R
  · obtain ⟨e9, he, hd9⟩ := some_D (d := (rs, dt)) h2
    rw [hd9] at hP
    exact OPC_r (by decide) (O.2.1 h1 e9 he) hP R
theorem op_bring {D : va_G} {cA : Nat → ClassId} {U : Nat → Nat} {rg : Nat → Option Nat} {c z : CS} {rz : Nat → CS} {hd ct : Nat} {rs dt : Int32} {mf : Nat → Nat → Int32} {mn : Nat} {tc : Nat → Nat} {tl to : Nat} {kd fi se : Int32} {ta : Nat} {nu : Int32} {lc : Nat → Int32} {ln : Nat} {sv : Bool} {er : Int32} {x : Nat → Int32} {f : Nat → Nat → Int32} {H : Heap} {rr : Int32} {k : Nat} {a b : Int32} (R : RR c z rz hd ct rs dt tc tl lc ln sv er x f) (C : (k = 0 ∧ csr a b = true ∧ rfK (zcn c) = none ∧ rr = nI (zcn c) ∧ va_P D vwCl (uw cA U rg (zAddK c a b) z (va_up rz hd c) (hUp hd) (hCt ct) rs dt mf mn tc tl to kd fi se ta nu lc ln sv er) H) ∨ (k = 1 ∧ csr a b = false ∧ va_P D vwCl (uw cA U rg c z rz hd ct rs dt mf mn tc tl to kd fi se ta nu lc ln sv er) H) ∨ (k = 2 ∧ csr a b = true ∧ (rfK (zcn c)).isSome = true ∧ va_P D vwCl (uw cA U rg c z rz hd ct (((rfK (zcn c)).getD (rs, dt)).1) (((rfK (zcn c)).getD (rs, dt)).2) mf mn tc tl to kd fi se ta nu lc ln sv er) H)) : OPC D cA U rg k rr (brM x f (zcn c) false ct a b) H := by
  have O := o_bring (x := x) (f := f) (w := false) (ch := ct) R.I R.G a b
  rcases C with ⟨rfl, h1, h2, h3, hP⟩ | ⟨rfl, h1, hP⟩ | ⟨rfl, h1, h2, hP⟩
  · have K := O.2.2 h1 h2
    exact ⟨K.2.2.2.2.1, fun _ => K.1.trans h3.symm, LST_of hP (R.keep K)⟩
  · exact OPC_f (by decide) (O.1 h1) hP R
  · obtain ⟨e9, he, hd9⟩ := some_D (d := (rs, dt)) h2
    rw [hd9] at hP
    exact OPC_r (by decide) (O.2.1 h1 e9 he) hP R
theorem op_call {D : va_G} {cA : Nat → ClassId} {U : Nat → Nat} {rg : Nat → Option Nat} {c z : CS} {rz : Nat → CS} {hd ct : Nat} {rs dt : Int32} {mf : Nat → Nat → Int32} {mn : Nat} {tc : Nat → Nat} {tl to : Nat} {kd fi se : Int32} {ta : Nat} {nu : Int32} {lc : Nat → Int32} {ln : Nat} {sv : Bool} {er : Int32} {x : Nat → Int32} {f : Nat → Nat → Int32} {H : Heap} {rr : Int32} {k : Nat} {v : Int32} (R : RR c z rz hd ct rs dt tc tl lc ln sv er x f) (C : (k = 0 ∧ ∃ q : Nat, q < zcn c ∧ v = nI q ∧ rfCall (zK c) (zjn c) (zcn c) q = none ∧ rr = zPan c ∧ va_P D vwCl (uw cA U rg (zCall c q) z (va_up rz hd c) (hUp hd) (hCt ct) rs dt mf mn tc tl to kd fi se ta nu lc ln sv er) H) ∨ (k = 1 ∧ isIx v (zcn c) = false ∧ va_P D vwCl (uw cA U rg c z rz hd ct rs dt mf mn tc tl to kd fi se ta nu lc ln sv er) H) ∨ (k = 2 ∧ ∃ q : Nat, q < zcn c ∧ v = nI q ∧ (rfCall (zK c) (zjn c) (zcn c) q).isSome = true ∧ va_P D vwCl (uw cA U rg c z rz hd ct (((rfCall (zK c) (zjn c) (zcn c) q).getD (rs, dt)).1) (((rfCall (zK c) (zjn c) (zcn c) q).getD (rs, dt)).2) mf mn tc tl to kd fi se ta nu lc ln sv er) H)) : OPC D cA U rg k rr (caM x f (zjn c) (zcn c) false ct v) H := by
  have hcn := R.I.cn
  rcases C with ⟨rfl, q, hq, e, h2, h3, hP⟩ | ⟨rfl, h1, hP⟩ | ⟨rfl, q, hq, e, h2, hP⟩
  · have hx : isIx v (zcn c) = true := by rw [e]; exact isIx_t hq (by omega)
    have hn : v.toNatClampNeg = q := by rw [e, nI_clamp (by omega)]
    have O := o_call (x := x) (f := f) (w := false) (ch := ct) R.I R.G v
    rw [hn] at O
    have K := O.2.2 hx h2
    exact ⟨K.2.2.2.2.1, fun _ => K.1.trans h3.symm, LST_of hP (R.keep K)⟩
  · have O := o_call (x := x) (f := f) (w := false) (ch := ct) R.I R.G v
    exact OPC_f (by decide) (O.1 h1) hP R
  · have hx : isIx v (zcn c) = true := by rw [e]; exact isIx_t hq (by omega)
    have hn : v.toNatClampNeg = q := by rw [e, nI_clamp (by omega)]
    have O := o_call (x := x) (f := f) (w := false) (ch := ct) R.I R.G v
    rw [hn] at O
    obtain ⟨e9, he, hd9⟩ := some_D (d := (rs, dt)) h2
    rw [hd9] at hP
    exact OPC_r (by decide) (O.2.1 hx e9 he) hP R
theorem op_vote {D : va_G} {cA : Nat → ClassId} {U : Nat → Nat} {rg : Nat → Option Nat} {c z : CS} {rz : Nat → CS} {hd ct : Nat} {rs dt : Int32} {mf : Nat → Nat → Int32} {mn : Nat} {tc : Nat → Nat} {tl to : Nat} {kd fi se : Int32} {ta : Nat} {nu : Int32} {lc : Nat → Int32} {ln : Nat} {sv : Bool} {er : Int32} {x : Nat → Int32} {f : Nat → Nat → Int32} {H : Heap} {rr : Int32} {k : Nat} {v : Int32} (R : RR c z rz hd ct rs dt tc tl lc ln sv er x f) (C : (k = 0 ∧ ∃ q : Nat, q < zcn c ∧ v = nI q ∧ rfVote (zK c) q = none ∧ rr = nI (zVd c q) ∧ va_P D vwCl (uw cA U rg (zSay c q) z (va_up rz hd c) (hUp hd) (hCt ct) rs dt mf mn tc tl to kd fi se ta nu lc ln sv er) H) ∨ (k = 1 ∧ isIx v (zcn c) = false ∧ va_P D vwCl (uw cA U rg c z rz hd ct rs dt mf mn tc tl to kd fi se ta nu lc ln sv er) H) ∨ (k = 2 ∧ ∃ q : Nat, q < zcn c ∧ v = nI q ∧ (rfVote (zK c) q).isSome = true ∧ va_P D vwCl (uw cA U rg c z rz hd ct (((rfVote (zK c) q).getD (rs, dt)).1) (((rfVote (zK c) q).getD (rs, dt)).2) mf mn tc tl to kd fi se ta nu lc ln sv er) H)) : OPC D cA U rg k rr (voM x f (zjn c) (zcn c) false ct v) H := by
  have hcn := R.I.cn
  rcases C with ⟨rfl, q, hq, e, h2, h3, hP⟩ | ⟨rfl, h1, hP⟩ | ⟨rfl, q, hq, e, h2, hP⟩
  · have hx : isIx v (zcn c) = true := by rw [e]; exact isIx_t hq (by omega)
    have hn : v.toNatClampNeg = q := by rw [e, nI_clamp (by omega)]
    have O := o_vote (x := x) (f := f) (w := false) (ch := ct) R.I R.G v
    rw [hn] at O
    have K := O.2.2 hx h2
    exact ⟨K.2.2.2.2.1, fun _ => K.1.trans h3.symm, LST_of hP (R.keep K)⟩
  · have O := o_vote (x := x) (f := f) (w := false) (ch := ct) R.I R.G v
    exact OPC_f (by decide) (O.1 h1) hP R
  · have hx : isIx v (zcn c) = true := by rw [e]; exact isIx_t hq (by omega)
    have hn : v.toNatClampNeg = q := by rw [e, nI_clamp (by omega)]
    have O := o_vote (x := x) (f := f) (w := false) (ch := ct) R.I R.G v
    rw [hn] at O
    obtain ⟨e9, he, hd9⟩ := some_D (d := (rs, dt)) h2
    rw [hd9] at hP
    exact OPC_r (by decide) (O.2.1 hx e9 he) hP R
theorem op_unsay {D : va_G} {cA : Nat → ClassId} {U : Nat → Nat} {rg : Nat → Option Nat} {c z : CS} {rz : Nat → CS} {hd ct : Nat} {rs dt : Int32} {mf : Nat → Nat → Int32} {mn : Nat} {tc : Nat → Nat} {tl to : Nat} {kd fi se : Int32} {ta : Nat} {nu : Int32} {lc : Nat → Int32} {ln : Nat} {sv : Bool} {er : Int32} {x : Nat → Int32} {f : Nat → Nat → Int32} {H : Heap} {rr : Int32} {k : Nat} {v : Int32} (R : RR c z rz hd ct rs dt tc tl lc ln sv er x f) (C : (k = 0 ∧ ∃ q : Nat, q < zcn c ∧ v = nI q ∧ rfUns (zK c) q = none ∧ rr = nI (zTo c q).1 ∧ va_P D vwCl (uw cA U rg (zUns c q) z (va_up rz hd c) (hUp hd) (hCt ct) rs dt mf mn tc tl to kd fi se ta nu lc ln sv er) H) ∨ (k = 1 ∧ isIx v (zcn c) = false ∧ va_P D vwCl (uw cA U rg c z rz hd ct rs dt mf mn tc tl to kd fi se ta nu lc ln sv er) H) ∨ (k = 2 ∧ ∃ q : Nat, q < zcn c ∧ v = nI q ∧ (rfUns (zK c) q).isSome = true ∧ va_P D vwCl (uw cA U rg c z rz hd ct (((rfUns (zK c) q).getD (rs, dt)).1) (((rfUns (zK c) q).getD (rs, dt)).2) mf mn tc tl to kd fi se ta nu lc ln sv er) H)) : OPC D cA U rg k rr (usM x f (zjn c) (zcn c) false ct v) H := by
  have hcn := R.I.cn
  rcases C with ⟨rfl, q, hq, e, h2, h3, hP⟩ | ⟨rfl, h1, hP⟩ | ⟨rfl, q, hq, e, h2, hP⟩
  · have hx : isIx v (zcn c) = true := by rw [e]; exact isIx_t hq (by omega)
    have hn : v.toNatClampNeg = q := by rw [e, nI_clamp (by omega)]
    have O := o_unsay (x := x) (f := f) (w := false) (ch := ct) R.I R.G v
    rw [hn] at O
    have K := O.2.2 hx h2
    exact ⟨K.2.2.2.2.1, fun _ => K.1.trans h3.symm, LST_of hP (R.keep K)⟩
  · have O := o_unsay (x := x) (f := f) (w := false) (ch := ct) R.I R.G v
    exact OPC_f (by decide) (O.1 h1) hP R
  · have hx : isIx v (zcn c) = true := by rw [e]; exact isIx_t hq (by omega)
    have hn : v.toNatClampNeg = q := by rw [e, nI_clamp (by omega)]
    have O := o_unsay (x := x) (f := f) (w := false) (ch := ct) R.I R.G v
    rw [hn] at O
    obtain ⟨e9, he, hd9⟩ := some_D (d := (rs, dt)) h2
    rw [hd9] at hP
    exact OPC_r (by decide) (O.2.1 hx e9 he) hP R
theorem op_appeal {D : va_G} {cA : Nat → ClassId} {U : Nat → Nat} {rg : Nat → Option Nat} {c z : CS} {rz : Nat → CS} {hd ct : Nat} {rs dt : Int32} {mf : Nat → Nat → Int32} {mn : Nat} {tc : Nat → Nat} {tl to : Nat} {kd fi se : Int32} {ta : Nat} {nu : Int32} {lc : Nat → Int32} {ln : Nat} {sv : Bool} {er : Int32} {x : Nat → Int32} {f : Nat → Nat → Int32} {H : Heap} {rr : Int32} {k : Nat} {v : Int32} (R : RR c z rz hd ct rs dt tc tl lc ln sv er x f) (C : (k = 0 ∧ ∃ q : Nat, q < zcn c ∧ v = nI q ∧ rfApp (zK c) (zjn c) (zcn c) q = none ∧ rr = nI (zVd (zAp c q) q) ∧ va_P D vwCl (uw cA U rg (zSay (zAp c q) q) z (va_up rz hd c) (hUp hd) (hCt ct) rs dt mf mn tc tl to kd fi se ta nu lc ln sv er) H) ∨ (k = 1 ∧ isIx v (zcn c) = false ∧ va_P D vwCl (uw cA U rg c z rz hd ct rs dt mf mn tc tl to kd fi se ta nu lc ln sv er) H) ∨ (k = 2 ∧ ∃ q : Nat, q < zcn c ∧ v = nI q ∧ (rfApp (zK c) (zjn c) (zcn c) q).isSome = true ∧ va_P D vwCl (uw cA U rg c z rz hd ct (((rfApp (zK c) (zjn c) (zcn c) q).getD (rs, dt)).1) (((rfApp (zK c) (zjn c) (zcn c) q).getD (rs, dt)).2) mf mn tc tl to kd fi se ta nu lc ln sv er) H)) : OPC D cA U rg k rr (apM x f (zjn c) (zcn c) false ct v) H := by
  have hcn := R.I.cn
  rcases C with ⟨rfl, q, hq, e, h2, h3, hP⟩ | ⟨rfl, h1, hP⟩ | ⟨rfl, q, hq, e, h2, hP⟩
  · have hx : isIx v (zcn c) = true := by rw [e]; exact isIx_t hq (by omega)
    have hn : v.toNatClampNeg = q := by rw [e, nI_clamp (by omega)]
    have O := o_appeal (x := x) (f := f) (w := false) (ch := ct) R.I R.G v
    rw [hn] at O
    have K := O.2.2 hx h2
    exact ⟨K.2.2.2.2.1, fun _ => K.1.trans h3.symm, LST_of hP (R.keep K)⟩
  · have O := o_appeal (x := x) (f := f) (w := false) (ch := ct) R.I R.G v
    exact OPC_f (by decide) (O.1 h1) hP R
  · have hx : isIx v (zcn c) = true := by rw [e]; exact isIx_t hq (by omega)
    have hn : v.toNatClampNeg = q := by rw [e, nI_clamp (by omega)]
    have O := o_appeal (x := x) (f := f) (w := false) (ch := ct) R.I R.G v
    rw [hn] at O
    obtain ⟨e9, he, hd9⟩ := some_D (d := (rs, dt)) h2
    rw [hd9] at hP
    exact OPC_r (by decide) (O.2.1 hx e9 he) hP R
theorem op_clerk {D : va_G} {cA : Nat → ClassId} {U : Nat → Nat} {rg : Nat → Option Nat} {c z : CS} {rz : Nat → CS} {hd ct : Nat} {rs dt : Int32} {mf : Nat → Nat → Int32} {mn : Nat} {tc : Nat → Nat} {tl to : Nat} {kd fi se : Int32} {ta : Nat} {nu : Int32} {lc : Nat → Int32} {ln : Nat} {sv : Bool} {er : Int32} {x : Nat → Int32} {f : Nat → Nat → Int32} {H : Heap} {rr : Int32} {k : Nat}  (R : RR c z rz hd ct rs dt tc tl lc ln sv er x f) (C : (k = 0 ∧ rfClk (zck c) = none ∧ rr = nI (zck c + 1) ∧ va_P D vwCl (uw cA U rg (mkz (zJ c) (zjn c) (zK c) (zrw c) (zcn c) (zrl c) (zck c + 1) (ztn c) (zsd c)) z (va_up rz hd c) (hUp hd) (hCt ct) rs dt mf mn tc tl to kd fi se ta nu lc ln sv er) H) ∨ (k = 1 ∧ (rfClk (zck c)).isSome = true ∧ va_P D vwCl (uw cA U rg c z rz hd ct (((rfClk (zck c)).getD (rs, dt)).1) (((rfClk (zck c)).getD (rs, dt)).2) mf mn tc tl to kd fi se ta nu lc ln sv er) H)) : OPC D cA U rg k rr (ckM x f (zck c) false ct) H := by
  have O := o_clerk (x := x) (f := f) (w := false) (ch := ct) R.I R.G
  rcases C with ⟨rfl, h2, h3, hP⟩ | ⟨rfl, h2, hP⟩
  · have K := O.2.2 rfl h2
    exact ⟨K.2.2.2.2.1, fun _ => K.1.trans h3.symm, LST_of hP (R.keep K)⟩
  · obtain ⟨e9, he, hd9⟩ := some_D (d := (rs, dt)) h2
    rw [hd9] at hP
    exact OPC_r (by decide) (O.2.1 rfl e9 he) hP R
theorem op_night {D : va_G} {cA : Nat → ClassId} {U : Nat → Nat} {rg : Nat → Option Nat} {c z : CS} {rz : Nat → CS} {hd ct : Nat} {rs dt : Int32} {mf : Nat → Nat → Int32} {mn : Nat} {tc : Nat → Nat} {tl to : Nat} {kd fi se : Int32} {ta : Nat} {nu : Int32} {lc : Nat → Int32} {ln : Nat} {sv : Bool} {er : Int32} {x : Nat → Int32} {f : Nat → Nat → Int32} {H : Heap} {rr : Int32} {k : Nat}  (R : RR c z rz hd ct rs dt tc tl lc ln sv er x f) (C : (k = 0 ∧ rfNt (ztn c) (zrl c) = none ∧ rr = nI (zTk c) ∧ va_P D vwCl (uw cA U rg (zNs c (zTk c)) z (va_up rz hd c) (hUp hd) (hCt ct) rs dt mf mn tc tl to kd fi se ta nu lc ln sv er) H) ∨ (k = 1 ∧ (rfNt (ztn c) (zrl c)).isSome = true ∧ va_P D vwCl (uw cA U rg c z rz hd ct (((rfNt (ztn c) (zrl c)).getD (rs, dt)).1) (((rfNt (ztn c) (zrl c)).getD (rs, dt)).2) mf mn tc tl to kd fi se ta nu lc ln sv er) H)) : OPC D cA U rg k rr (ngM x f (zjn c) (zcn c) (zck c) (ztn c) false ct) H := by
  have O := o_night (x := x) (f := f) (w := false) (ch := ct) R.I R.G
  rcases C with ⟨rfl, h2, h3, hP⟩ | ⟨rfl, h2, hP⟩
  · have K := O.2.2 rfl h2
    exact ⟨K.2.2.2.2.1, fun _ => K.1.trans h3.symm, LST_of hP (R.keep K)⟩
  · obtain ⟨e9, he, hd9⟩ := some_D (d := (rs, dt)) h2
    rw [hd9] at hP
    exact OPC_r (by decide) (O.2.1 rfl e9 he) hP R
