/-! lines, the past, texts, means, the run -/
theorem pkx {g : Nat → Int32} {k j : Nat} {v : Int32} (h : j ≠ k) : upd g k v j = g j := pk_un h
theorem RR.lines {c z : CS} {rz : Nat → CS} {hd ct : Nat} {rs dt : Int32} {tc : Nat → Nat} {tl : Nat} {lc : Nat → Int32} {ln : Nat} {sv : Bool} {er : Int32} {x x' : Nat → Int32} {f : Nat → Nat → Int32} {t1 t2 : TS} (h : RR c z rz hd ct rs dt tc tl lc ln sv er x f) (a : AG t1 t2) (b : t1.2 ≤ 32) (h9 : x' 9 = nI t2.2) (hx : ∀ j, j < 10 → j ≠ 3 → j ≠ 4 → j ≠ 9 → x' j = x j) : RR c z rz hd ct rs dt tc tl t1.1 t1.2 sv er x' (va_up f 5 t2.1) :=
  ⟨h.I, h.G, h.H, (hx 1 (by decide) (by decide) (by decide) (by decide)).trans h.x1, (hx 5 (by decide) (by decide) (by decide) (by decide)).trans h.x5, (hx 6 (by decide) (by decide) (by decide) (by decide)).trans h.x6, h.T, (hx 7 (by decide) (by decide) (by decide) (by decide)).trans h.x7, (hx 8 (by decide) (by decide) (by decide) (by decide)).trans h.x8, ⟨b, by rw [h9, a.1], fun k hk => by rw [va_up_self]; exact a.2 k hk⟩, (hx 0 (by decide) (by decide) (by decide) (by decide)).trans h.x0, h.S, (hx 2 (by decide) (by decide) (by decide) (by decide)).trans h.x2⟩
theorem tw_2i {w : Nat} {t : TS} : (tw w t).2 = t.2 + 1 := rfl
theorem lnC_le {kf : Nat → Nat → Int32} {lc : Nat → Int32} {q mer ter : Nat} (hq : q ≤ 9) (hm : mer ≤ 100) (ht : ter ≤ 99) : (lnC kf lc q mer ter).2 ≤ 32 := by
  have a : (liA lc q mer ter).2 ≤ 9 := by
    unfold liA
    have h1 := tn_29 (n := q) (ts := (lc, 0)) hq
    have h2 := tn_2 (n := mer) (ts := tw 58 (tn q (lc, 0))) (by omega)
    have h3 := tn_22 (n := ter) (ts := tw 64 (tn mer (tw 58 (tn q (lc, 0))))) ht
    have e1 : (tw 58 (tn q (lc, 0))).2 = (tn q (lc, 0)).2 + 1 := rfl
    have e2 : (tw 64 (tn mer (tw 58 (tn q (lc, 0))))).2 = (tn mer (tw 58 (tn q (lc, 0)))).2 + 1 := rfl
    have e0 : ((lc, 0) : TS).2 = 0 := rfl
    omega
  have b := (lpS_2 (panel := kf 2 q) (ts := liA lc q mer ter) 9 (by decide)).2
  have hB : (liB (kf 2 q) lc q mer ter 9).2 ≤ 28 := by
    unfold liB
    split
    · omega
    · rw [tw_2i]; omega
  have hC : (liC (kf 3 q) (liB (kf 2 q) lc q mer ter 9)).2 ≤ 29 := by
    unfold liC
    split
    · omega
    · split <;> (rw [tw_2i]; omega)
  unfold lnC liD
  split
  · rw [tw_2i]; omega
  · omega
theorem op_line {D : va_G} {cA : Nat → ClassId} {U : Nat → Nat} {rg : Nat → Option Nat} {c z : CS} {rz : Nat → CS} {hd ct : Nat} {rs dt : Int32} {mf : Nat → Nat → Int32} {mn : Nat} {tc : Nat → Nat} {tl to : Nat} {kd fi se : Int32} {ta : Nat} {nu : Int32} {lc : Nat → Int32} {ln : Nat} {sv : Bool} {er : Int32} {x : Nat → Int32} {f : Nat → Nat → Int32} {H : Heap} {rr : Int32} {k : Nat} {v : Int32} (R : RR c z rz hd ct rs dt tc tl lc ln sv er x f) (C : (k = 0 ∧ ∃ q mer ter : Nat, q < zcn c ∧ v = nI q ∧ zK c 0 q = nI mer ∧ zK c 1 q = nI ter ∧ mer ≤ 100 ∧ ter ≤ 99 ∧ rr = nI (lnC (zK c) lc q mer ter).2 ∧ va_P D vwCl (uw cA U rg c z rz hd ct rs dt mf mn tc tl to kd fi se ta nu ((lnC (zK c) lc q mer ter).1) ((lnC (zK c) lc q mer ter).2) sv er) H) ∨ (k = 1 ∧ isIx v (zcn c) = false ∧ va_P D vwCl (uw cA U rg c z rz hd ct rs dt mf mn tc tl to kd fi se ta nu lc ln sv er) H)) : OPC D cA U rg k rr (lnO x f (zjn c) (zcn c) v) H := by
  have hjn := R.I.jn
  have hcn := R.I.cn
  have I := R.I
  have G := R.G
  rcases C with ⟨rfl, q, mer, ter, hq, ev, em, et, hm, ht, h3, hP⟩ | ⟨rfl, h1, hP⟩
  · have a := ln_eq (mer := mer) (ter := ter) I G hq lc (f 5)
    have e : lnO x f (zjn c) (zcn c) v = (nI (lineT (f 0) (f 5) (zjn c) q mer ter).2, (lnX x (lineT (f 0) (f 5) (zjn c) q mer ter), va_up f 5 (lineT (f 0) (f 5) (zjn c) q mer ter).1)) := by
      subst ev
      rw [lnO, if_pos (isIx_t hq (by omega)), nI_clamp (show q < 2 ^ 31 by omega), G.of hq (by decide), G.of hq (by decide), em, et, nI_clamp (by omega), nI_clamp (by omega)]
    rw [e]
    refine OPC_mk ?_ (fun _ => by rw [h3, a.1]) (LST_of hP (R.lines a (lnC_le (by omega) hm ht) ?_ (fun j _ h3 h4 h9 => ?_)))
    · unfold lnX; rw [pkx (by decide), pk_us]
    · unfold lnX; rw [pk_us]
    · unfold lnX; rw [pkx h9, pkx h4, pkx h3]
  · exact OPC_f (by decide) (by rw [lnO, if_neg (bnt h1)]) hP R
theorem op_rollLine {D : va_G} {cA : Nat → ClassId} {U : Nat → Nat} {rg : Nat → Option Nat} {c z : CS} {rz : Nat → CS} {hd ct : Nat} {rs dt : Int32} {mf : Nat → Nat → Int32} {mn : Nat} {tc : Nat → Nat} {tl to : Nat} {kd fi se : Int32} {ta : Nat} {nu : Int32} {lc : Nat → Int32} {ln : Nat} {sv : Bool} {er : Int32} {x : Nat → Int32} {f : Nat → Nat → Int32} {H : Heap} {rr : Int32}  (R : RR c z rz hd ct rs dt tc tl lc ln sv er x f) (C : rr = nI (rlC (zrw c) lc (zrl c)).2 ∧ va_P D vwCl (uw cA U rg c z rz hd ct rs dt mf mn tc tl to kd fi se ta nu ((rlC (zrw c) lc (zrl c)).1) ((rlC (zrw c) lc (zrl c)).2) sv er) H) : (rlnM x f (zcn c)).1 = rr ∧ LST D cA U rg ((rlnM x f (zcn c)).2.1) ((rlnM x f (zcn c)).2.2) H := by
  have hjn := R.I.jn
  have hcn := R.I.cn
  have I := R.I
  have G := R.G
  obtain ⟨h3, hP⟩ := C
  have hl := row_le I.row
  have a := rl_eq I G lc (f 5) (zrl c) (Nat.le_refl _)
  have b := rlC_2 (rw := zrw c) (lc := lc) (zrl c) (fun j hj => by have := (I.row.1 j hj).1; omega)
  unfold rlnM
  rw [G.hc I]
  show nI (rlS (f 0) (zcn c) (f 5) (zrl c)).2 = rr ∧ LST D cA U rg (upd (upd x 4 (nI 0)) 9 (nI (rlS (f 0) (zcn c) (f 5) (zrl c)).2)) (va_up f 5 (rlS (f 0) (zcn c) (f 5) (zrl c)).1) H
  exact ⟨by rw [h3, a.1], LST_of hP (R.lines a (by omega) (pk_us) (fun j _ h3 h4 h9 => by rw [pkx h9, pkx h4]))⟩
theorem op_rolled {D : va_G} {cA : Nat → ClassId} {U : Nat → Nat} {rg : Nat → Option Nat} {c z : CS} {rz : Nat → CS} {hd ct : Nat} {rs dt : Int32} {mf : Nat → Nat → Int32} {mn : Nat} {tc : Nat → Nat} {tl to : Nat} {kd fi se : Int32} {ta : Nat} {nu : Int32} {lc : Nat → Int32} {ln : Nat} {sv : Bool} {er : Int32} {x : Nat → Int32} {f : Nat → Nat → Int32} {H : Heap} {rr : Int32}  (R : RR c z rz hd ct rs dt tc tl lc ln sv er x f) (C : rr = nI (zrl c) ∧ va_P D vwCl (uw cA U rg c z rz hd ct rs dt mf mn tc tl to kd fi se ta nu lc ln sv er) H) : nI (fb_ct (rlM (f 0)) (zcn c)) = rr ∧ LST D cA U rg (upd x 4 (nI 0)) (f) H := by
  obtain ⟨h3, hP⟩ := C
  exact ⟨by rw [R.G.hc R.I, h3], LST_of hP (R.up4 _)⟩
theorem op_overdue {D : va_G} {cA : Nat → ClassId} {U : Nat → Nat} {rg : Nat → Option Nat} {c z : CS} {rz : Nat → CS} {hd ct : Nat} {rs dt : Int32} {mf : Nat → Nat → Int32} {mn : Nat} {tc : Nat → Nat} {tl to : Nat} {kd fi se : Int32} {ta : Nat} {nu : Int32} {lc : Nat → Int32} {ln : Nat} {sv : Bool} {er : Int32} {x : Nat → Int32} {f : Nat → Nat → Int32} {H : Heap} {rr : Int32}  (R : RR c z rz hd ct rs dt tc tl lc ln sv er x f) (C : rr = nI (fb_ct (fun k => decide (zK c 1 (zrw c k) < nI (ztn c))) (zrl c)) ∧ va_P D vwCl (uw cA U rg c z rz hd ct rs dt mf mn tc tl to kd fi se ta nu lc ln sv er) H) : nI (odM (f 0) (zcn c)) = rr ∧ LST D cA U rg (upd x 4 (nI 0)) (f) H := by
  obtain ⟨h3, hP⟩ := C
  exact ⟨by rw [od_is R.I R.G, h3], LST_of hP (R.up4 _)⟩
theorem op_errorPosition {D : va_G} {cA : Nat → ClassId} {U : Nat → Nat} {rg : Nat → Option Nat} {c z : CS} {rz : Nat → CS} {hd ct : Nat} {rs dt : Int32} {mf : Nat → Nat → Int32} {mn : Nat} {tc : Nat → Nat} {tl to : Nat} {kd fi se : Int32} {ta : Nat} {nu : Int32} {lc : Nat → Int32} {ln : Nat} {sv : Bool} {er : Int32} {x : Nat → Int32} {f : Nat → Nat → Int32} {H : Heap} {rr : Int32}  (R : RR c z rz hd ct rs dt tc tl lc ln sv er x f) (C : rr = er ∧ va_P D vwCl (uw cA U rg c z rz hd ct rs dt mf mn tc tl to kd fi se ta nu lc ln sv er) H) : x 8 = rr ∧ LST D cA U rg (upd x 4 (nI 0)) (f) H := by
  obtain ⟨h3, hP⟩ := C
  exact ⟨by rw [R.x8, h3], LST_of hP (R.up4 _)⟩
theorem op_isWell {D : va_G} {cA : Nat → ClassId} {U : Nat → Nat} {rg : Nat → Option Nat} {c z : CS} {rz : Nat → CS} {hd ct : Nat} {rs dt : Int32} {mf : Nat → Nat → Int32} {mn : Nat} {tc : Nat → Nat} {tl to : Nat} {kd fi se : Int32} {ta : Nat} {nu : Int32} {lc : Nat → Int32} {ln : Nat} {sv : Bool} {er : Int32} {x : Nat → Int32} {f : Nat → Nat → Int32} {H : Heap} {rr : Int32}  (R : RR c z rz hd ct rs dt tc tl lc ln sv er x f) (C : rr = b2i (wlF c) ∧ va_P D vwCl (uw cA U rg c z rz hd ct rs dt mf mn tc tl to kd fi se ta nu lc ln sv er) H) : iwM (f 0) (zjn c) (zcn c) = rr ∧ LST D cA U rg (upd x 4 (nI 0)) (f) H := by
  obtain ⟨h3, hP⟩ := C
  exact ⟨by rw [iw_is R.I R.G, h3, wl_is R.I]; rfl, LST_of hP (R.up4 _)⟩
theorem op_save {D : va_G} {cA : Nat → ClassId} {U : Nat → Nat} {rg : Nat → Option Nat} {c z : CS} {rz : Nat → CS} {hd ct : Nat} {rs dt : Int32} {mf : Nat → Nat → Int32} {mn : Nat} {tc : Nat → Nat} {tl to : Nat} {kd fi se : Int32} {ta : Nat} {nu : Int32} {lc : Nat → Int32} {ln : Nat} {sv : Bool} {er : Int32} {x : Nat → Int32} {f : Nat → Nat → Int32} {H : Heap} {rr : Int32}  (R : RR c z rz hd ct rs dt tc tl lc ln sv er x f) (C : rr = nI (zcn c) ∧ va_P D vwCl (uw cA U rg c c rz hd ct rs dt mf mn tc tl to kd fi se ta nu lc ln true er) H) : nI (zcn c) = rr ∧ LST D cA U rg (upd (upd x 0 (nI 1)) 4 (nI 0)) (va_up f 2 (fb_put (f 2) (fun k => f 0 ((0) + k)) (0) 124)) H := by
  obtain ⟨h3, hP⟩ := C
  refine ⟨h3.symm, LST_of hP ?_⟩
  refine ⟨R.I, R.G, R.H, R.x1, R.x5, R.x6, R.T, R.x7, R.x8, R.L, ?_, fun _ => ⟨R.I, ?_⟩, R.x2⟩
  · show upd (upd x 0 (nI 1)) 4 (nI 0) 0 = _
    rw [pkx (by decide), pk_us]; rfl
  · rw [va_up_self]
    refine R.G.cong R.I (fun k hk => ?_)
    rw [fb_put_in (Nat.zero_le _) (by omega)]
    show f 0 (0 + (k - 0)) = f 0 k
    rw [Nat.sub_zero, Nat.zero_add]
theorem op_restore {D : va_G} {cA : Nat → ClassId} {U : Nat → Nat} {rg : Nat → Option Nat} {c z : CS} {rz : Nat → CS} {hd ct : Nat} {rs dt : Int32} {mf : Nat → Nat → Int32} {mn : Nat} {tc : Nat → Nat} {tl to : Nat} {kd fi se : Int32} {ta : Nat} {nu : Int32} {lc : Nat → Int32} {ln : Nat} {sv : Bool} {er : Int32} {x : Nat → Int32} {f : Nat → Nat → Int32} {H : Heap} {rr : Int32} {k : Nat}  (R : RR c z rz hd ct rs dt tc tl lc ln sv er x f) (C : (k = 0 ∧ sv = true ∧ rr = nI (zcn z) ∧ va_P D vwCl (uw cA U rg z z rz hd 0 rs dt mf mn tc tl to kd fi se ta nu lc ln sv er) H) ∨ (k = 1 ∧ sv = false ∧ va_P D vwCl (uw cA U rg c z rz hd ct rs dt mf mn tc tl to kd fi se ta nu lc ln sv er) H)) : OPC D cA U rg k rr (reM x f sv) H := by
  rcases C with ⟨rfl, h1, h3, hP⟩ | ⟨rfl, h1, hP⟩
  · obtain ⟨zI, zG⟩ := R.S h1
    have e : ∀ k, k < 124 → fb_put (f 0) (fun k => f 2 ((0) + k)) (0) 124 k = f 2 k := fun k hk => by
      rw [fb_put_in (Nat.zero_le _) (by omega)]
      show f 2 (0 + (k - 0)) = f 2 k
      rw [Nat.sub_zero, Nat.zero_add]
    rw [reM, if_pos h1]
    refine OPC_mk (by rw [pk_us]) (fun _ => ?_) (LST_of hP ?_)
    · rw [e 1 (by decide), h3]; exact zG.g1
    · refine ⟨zI, by rw [va_up_self]; exact zG.cong zI e, ⟨R.H.1, by decide, fun i hi => absurd hi (Nat.not_lt_zero _)⟩, ?_, R.x5, R.x6, R.T, R.x7, R.x8, R.L, R.x0, R.S, R.x2⟩
      show upd (upd (upd x 1 (nI 0)) 3 (nI 0)) 4 (nI 0) 1 = _
      rw [pkx (by decide), pkx (by decide), pk_us]
  · exact OPC_f (by decide) (by rw [reM, if_neg (bnt h1)]) hP R
theorem op_undo {D : va_G} {cA : Nat → ClassId} {U : Nat → Nat} {rg : Nat → Option Nat} {c z : CS} {rz : Nat → CS} {hd ct : Nat} {rs dt : Int32} {mf : Nat → Nat → Int32} {mn : Nat} {tc : Nat → Nat} {tl to : Nat} {kd fi se : Int32} {ta : Nat} {nu : Int32} {lc : Nat → Int32} {ln : Nat} {sv : Bool} {er : Int32} {x : Nat → Int32} {f : Nat → Nat → Int32} {H : Heap} {rr : Int32} {k : Nat}  (R : RR c z rz hd ct rs dt tc tl lc ln sv er x f) (C : (k = 0 ∧ 0 < ct ∧ rr = nI (ct - 1) ∧ va_P D vwCl (uw cA U rg (rz (hDn hd)) z (va_up rz (hDn hd) (rz (hDn hd))) (hDn hd) (ct - 1) rs dt mf mn tc tl to kd fi se ta nu lc ln sv er) H) ∨ (k = 1 ∧ ct = 0 ∧ va_P D vwCl (uw cA U rg c z rz hd ct rs dt mf mn tc tl to kd fi se ta nu lc ln sv er) H)) : OPC D cA U rg k rr (udM x f ct) H := by
  have hH := R.H
  rcases C with ⟨rfl, h1, h3, hP⟩ | ⟨rfl, h1, hP⟩
  · obtain ⟨uI, uG, uH⟩ := HI_undo R.H h1
    rw [udM, if_neg (by omega)]
    refine OPC_mk (by rw [pk_us]) (fun _ => h3.symm) (LST_of hP ?_)
    refine ⟨uI, ?_, by rw [va_up_ne _ _ (by decide)]; exact uH, ?_, R.x5, R.x6, R.T, R.x7, R.x8, R.L, R.x0, R.S, R.x2⟩
    · rw [va_up_self]
      refine uG.cong uI (fun k hk => ?_)
      rw [fb_put_in (Nat.zero_le _) (by omega)]
      show f 1 (124 * (ct - 1) + (k - 0)) = _
      rw [Nat.sub_zero]
    · show upd (upd (upd x 1 (nI (ct - 1))) 3 (nI 0)) 4 (nI 0) 1 = _
      rw [pkx (by decide), pkx (by decide), pk_us]
  · exact OPC_f (by decide) (by rw [udM, if_pos h1]) hP R
theorem op_append {D : va_G} {cA : Nat → ClassId} {U : Nat → Nat} {rg : Nat → Option Nat} {c z : CS} {rz : Nat → CS} {hd ct : Nat} {rs dt : Int32} {mf : Nat → Nat → Int32} {mn : Nat} {tc : Nat → Nat} {tl to : Nat} {kd fi se : Int32} {ta : Nat} {nu : Int32} {lc : Nat → Int32} {ln : Nat} {sv : Bool} {er : Int32} {x : Nat → Int32} {f : Nat → Nat → Int32} {H : Heap} {rr : Int32} {k : Nat} {w : Nat} (R : RR c z rz hd ct rs dt tc tl lc ln sv er x f) (hw6 : w < 65536) (C : (k = 0 ∧ tl < 60 ∧ rr = nI (tl + 1) ∧ va_P D vwCl (uw cA U rg c z rz hd ct rs dt mf mn (updN tc tl w) (tl + 1) to kd fi se ta nu lc ln sv er) H) ∨ (k = 1 ∧ 60 ≤ tl ∧ va_P D vwCl (uw cA U rg c z rz hd ct rs dt mf mn tc tl to kd fi se ta nu lc ln sv er) H)) : OPC D cA U rg k rr (apO x f tl (nI w)) H := by
  rcases C with ⟨rfl, h1, h3, hP⟩ | ⟨rfl, h1, hP⟩
  · rw [apO, if_neg (by omega)]
    refine OPC_mk ?_ (fun _ => h3.symm) (LST_of hP ?_)
    · rw [pkx (by decide), pk_us]
    · refine ⟨R.I, R.G, R.H, R.x1, R.x5, R.x6, ⟨by omega, fun k hk => ?_⟩, by rw [pk_us], R.x8, R.L, R.x0, R.S, R.x2⟩
      rw [va_up_self]
      unfold updN
      by_cases e : k = tl
      · rw [if_pos e, e, pk_us]; exact ⟨hw6, rfl⟩
      · rw [if_neg e, pkx e]; exact R.T.2 k (by omega)
  · have := R.T.1
    exact OPC_f (by decide) (by rw [apO, if_pos (by omega)]) hP R
def OPU {α : Type} (D : va_G) (cA : Nat → ClassId) (U : Nat → Nat) (rg : Nat → Option Nat) (k : Nat) (rr r : α) (x' : Nat → Int32) (f' : Nat → Nat → Int32) (H : Heap) : Prop := x' 4 = nI k ∧ (k = 0 → r = rr) ∧ LST D cA U rg x' f' H
theorem op_meanLeaning {D : va_G} {cA : Nat → ClassId} {U : Nat → Nat} {rg : Nat → Option Nat} {c z : CS} {rz : Nat → CS} {hd ct : Nat} {rs dt : Int32} {mf : Nat → Nat → Int32} {mn : Nat} {tc : Nat → Nat} {tl to : Nat} {kd fi se : Int32} {ta : Nat} {nu : Int32} {lc : Nat → Int32} {ln : Nat} {sv : Bool} {er : Int32} {x : Nat → Int32} {f : Nat → Nat → Int32} {H : Heap} {rr : UInt64} {k : Nat} (R : RR c z rz hd ct rs dt tc tl lc ln sv er x f) (C : (k = 0 ∧ ¬ zjn c = 0 ∧ rr = FP.ddiv (FP.i2d (isum (zJ c 0) (zjn c))) (FP.i2d (nI (zjn c))) ∧ va_P D vwCl (uw cA U rg c z rz hd ct rs dt mf mn tc tl to kd fi se ta nu lc ln sv er) H) ∨ (k = 1 ∧ zjn c = 0 ∧ va_P D vwCl (uw cA U rg c z rz hd ct rs dt mf mn tc tl to kd fi se ta nu lc ln sv er) H)) : OPU D cA U rg k rr (if zjn c = 0 then FP.dconst0 else FP.ddiv (FP.i2d (isum (fun j => gby (f 0) j 0) (zjn c))) (FP.i2d (nI (zjn c)))) (upd (upd x 4 (if zjn c = 0 then nI 1 else nI 0)) 3 (nI 0)) f H := by
  rcases C with ⟨rfl, h1, h3, hP⟩ | ⟨rfl, h1, hP⟩
  · refine ⟨by rw [pkx (by decide), pk_us, if_neg h1], fun _ => by rw [if_neg h1, h3, by_sum R.G (by decide)], LST_of hP (R.fr (fun j _ h3 h4 => by rw [pkx h3, pkx h4]) (fun _ _ _ => rfl))⟩
  · refine ⟨by rw [pkx (by decide), pk_us, if_pos h1], fun q => absurd q (by decide), LST_of hP (R.fr (fun j _ h3 h4 => by rw [pkx h3, pkx h4]) (fun _ _ _ => rfl))⟩
theorem op_unsaidShare {D : va_G} {cA : Nat → ClassId} {U : Nat → Nat} {rg : Nat → Option Nat} {c z : CS} {rz : Nat → CS} {hd ct : Nat} {rs dt : Int32} {mf : Nat → Nat → Int32} {mn : Nat} {tc : Nat → Nat} {tl to : Nat} {kd fi se : Int32} {ta : Nat} {nu : Int32} {lc : Nat → Int32} {ln : Nat} {sv : Bool} {er : Int32} {x : Nat → Int32} {f : Nat → Nat → Int32} {H : Heap} {rr : UInt32} {k : Nat} (R : RR c z rz hd ct rs dt tc tl lc ln sv er x f) (C : (k = 0 ∧ ¬ zsd c = 0 ∧ rr = FP.fdiv (FP.i2f (isum (zK c 6) (zcn c))) (FP.i2f (zsd c)) ∧ va_P D vwCl (uw cA U rg c z rz hd ct rs dt mf mn tc tl to kd fi se ta nu lc ln sv er) H) ∨ (k = 1 ∧ zsd c = 0 ∧ va_P D vwCl (uw cA U rg c z rz hd ct rs dt mf mn tc tl to kd fi se ta nu lc ln sv er) H)) : OPU D cA U rg k rr (if f 0 4 = 0 then FP.fconst0 else FP.fdiv (FP.i2f (f 0 5)) (FP.i2f (f 0 4))) (upd (upd x 4 (if f 0 4 = 0 then nI 1 else nI 0)) 3 (nI 0)) f H := by
  have g4 := R.G.g4
  have g5 := R.G.g5
  rcases C with ⟨rfl, h1, h3, hP⟩ | ⟨rfl, h1, hP⟩
  · refine ⟨by rw [pkx (by decide), pk_us, g4, if_neg h1], fun _ => by rw [g4, if_neg h1, h3, g5], LST_of hP (R.fr (fun j _ h3 h4 => by rw [pkx h3, pkx h4]) (fun _ _ _ => rfl))⟩
  · refine ⟨by rw [pkx (by decide), pk_us, g4, if_pos h1], fun q => absurd q (by decide), LST_of hP (R.fr (fun j _ h3 h4 => by rw [pkx h3, pkx h4]) (fun _ _ _ => rfl))⟩
