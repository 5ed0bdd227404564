/-! the law's calls of the class that catch what it throws -/
def oL (cA : Nat → ClassId) (o : Nat) (g : Nat → Int64) : va_W := [(o, .inl (cA 3, 1, .inr (.inl g)))]
def oD (cA : Nat → ClassId) (o : Nat) (g : Nat → UInt64) : va_W := [(o, .inl (cA 4, 1, .inr (.inr (.inr (.inl g)))))]
def uO (U : Nat → Nat) (o : Nat) : Nat → Prop := fun q => aS 189 U q ∨ q = o
theorem vP_fr {D : va_G} {ws : va_W} {H H1 : Heap} {A : Nat → Prop} (h : va_P D vwCl ws H) (hk : ∀ q : Nat, q < H.size → ¬ A q → H1[q]? = H[q]?) (hA : ∀ q ∈ ws, ¬ A q.1) : va_P D vwCl ws H1 := h.kept (fun k q e => hk q.1 (h k q e).lt (hA q (List.mem_of_getElem? e)))
theorem oL_D {cA : Nat → ClassId} {o : Nat} {g : Nat → Int64} {A : Nat → Prop} (h : A o) : va_D A (oL cA o g) := ⟨fun i j p q hp hq _ => by
  have hi := (List.getElem?_eq_some_iff.mp hp).1
  have hj := (List.getElem?_eq_some_iff.mp hq).1
  have hi : i < 1 := hi
  have hj : j < 1 := hj
  omega, fun k q hk => by
  have hm := List.mem_of_getElem? hk
  unfold oL at hm
  rw [List.mem_singleton] at hm
  rw [hm]; exact h⟩
theorem oD_D {cA : Nat → ClassId} {o : Nat} {g : Nat → UInt64} {A : Nat → Prop} (h : A o) : va_D A (oD cA o g) := ⟨fun i j p q hp hq _ => by
  have hi := (List.getElem?_eq_some_iff.mp hp).1
  have hj := (List.getElem?_eq_some_iff.mp hq).1
  have hi : i < 1 := hi
  have hj : j < 1 := hj
  omega, fun k q hk => by
  have hm := List.mem_of_getElem? hk
  unfold oD at hm
  rw [List.mem_singleton] at hm
  rw [hm]; exact h⟩
theorem oL_n {cA : Nat → ClassId} {o : Nat} {g : Nat → Int64} {A : Nat → Prop} (h : ¬ A o) : ∀ q ∈ oL cA o g, ¬ A q.1 := fun q hm => by
  unfold oL at hm
  rw [List.mem_singleton] at hm
  rw [hm]; exact h
theorem oD_n {cA : Nat → ClassId} {o : Nat} {g : Nat → UInt64} {A : Nat → Prop} (h : ¬ A o) : ∀ q ∈ oD cA o g, ¬ A q.1 := fun q hm => by
  unfold oD at hm
  rw [List.mem_singleton] at hm
  rw [hm]; exact h
theorem uw_n {cA : Nat → ClassId} {U : Nat → Nat} {rg : Nat → Option Nat} {c z : CS} {rz : Nat → CS} {hd ct : Nat} {rs dt : Int32} {mf : Nat → Nat → Int32} {mn : Nat} {tc : Nat → Nat} {tl to : Nat} {kd fi se : Int32} {ta : Nat} {nu : Int32} {lc : Nat → Int32} {ln : Nat} {sv : Bool} {er : Int32} {A : Nat → Prop} (hA : aInj 189 U) (h : ∀ q, aS 189 U q → ¬ A q) : ∀ q ∈ uw cA U rg c z rz hd ct rs dt mf mn tc tl to kd fi se ta nu lc ln sv er, ¬ A q.1 := fun q hm => by
  obtain ⟨k, hk⟩ := List.mem_iff_getElem?.mp hm
  exact h q.1 ((uwD hA).2 k q hk)
def ncL : List (String × String) := [(xUOE, xIAE), (xUOE, xIOB), (xIAE, xIOB), (xNSE, xIOB), (xNSE, xIAE)]
def gNc (U : State) : Prop := ∀ q ∈ ncL, va_Nc q.1 q.2 U
def gPy (av : List Value) (B : Heap → Prop) (D : va_G) (cA : Nat → ClassId) (A : Nat → Prop) (adK adV sa : Nat → Nat) : Array Value → State → Prop := fun v U => gPx av B D cA A adK adV sa v U ∧ gNc U
theorem gPy_fb {av : List Value} {B : Heap → Prop} {D : va_G} {cA : Nat → ClassId} {A : Nat → Prop} {adK adV sa : Nat → Nat} : FrameBlind (gPy av B D cA A adK adV sa) := fun a U g mk q => ⟨gPx_fb a U g mk q.1, fun z hz => va_Nc.moved (u := U) (U := U.calling g mk a) (Vm.Alike.refl U.vm) (q.2 z hz)⟩
theorem gPreSy {s : State} {H : Heap} {locs : List Loc} {As : List Value} {B : Heap → Prop} {D : va_G} {cA : Nat → ClassId} {A A0 : Nat → Prop} {adK adV sa : Nat → Nat} (hK : gK D cA s) (hE : gE A adK adV sa s s.heap) (hN : gNc s) (hS : va_S A0 s.heap H locs) (hF : ∀ q, A0 q → A q) (hB : B H) : PreS s H (gPy As B D cA A adK adV sa) As :=
  ⟨gPy_fb, fun U hU hW => ⟨(gPreSx hK hE hS hF hB).2 U hU hW, fun z hz => va_Nc.moved hW.alike (hN z hz)⟩⟩
abbrev gwL (y : MethodName) (b : ByteArray) (n : Nat) (r : Option FieldType) (hh : List (Nat × Nat × Nat × Nat)) : List Cond := Cond.codeWith y b n r hh :: gG
theorem gOfh {l : Launch} {y : MethodName} {b : ByteArray} {n : Nat} {r : Option FieldType} {hh : List (Nat × Nat × Nat × Nat)} {rm : Room} {av : List Value} {B : Heap → Prop} {D : va_G} {cA : Nat → ClassId} {A : Nat → Prop} {adK adV sa : Nat → Nat} {Qc : Array Value → State → Outcome → State → Prop} {mc ms : Nat} {free : Addr → Prop} (hy : plainName y.cls = true) (hlen : (lg_sl av).length ≤ n)
    (body : ∀ (p : Program) (e : Env) (s : State) (m : MethodId) (below : List Frame) (meth : Method) (c : Code) (ls : Array Slot), p.tables.exec = Jvm.exec → c.code = b → c.maxLocals = n → meth.sig.returnType = r → meth.locks = false → s.vm.findClass y.cls = some m.cls → (∀ w ∈ gwL y b n r hh, w.before av.toArray s = true) → c.exceptionTable.toList = tableOf hh → B s.heap → gK D cA s → gE A adK adV sa s s.heap → gNc s → lv_has ls n (lv_args 0 av) →
      W p l e rm s m av.toArray below meth c s.heap [] 0 0 (MQ below Qc av.toArray s mc ms free) (F0 m 0 ls [])) : Met l y (gwL y b n r hh) rm (gPy av B D cA A adK adV sa) Qc mc ms free := by
  refine MetFree.of_bodyS (code := b) (maxLocals := n) (ret := r) hy ?_ ?_
  · intro args s m h hn
    obtain ⟨m9, meth, c, hn9, h1, h2, h3, h4, -, h5, h6, -⟩ := Cond.codeWith_spec (atoms_spec (ws := gwL y b n r hh) h _ List.mem_cons_self)
    cases hn.symm.trans hn9
    exact ⟨meth, c, h1, h2, h3, h4, h5, h6⟩
  · intro p e s m args below meth c s₁ X hml hP _
    have hh0 : s₁.heap = s.heap := by rw [X.state]; rfl
    obtain ⟨⟨rfl, hB, hK, hE⟩, hN⟩ := hP
    have hl := lv_entry av hlen
    have hw := atoms_spec (ws := gwL y b n r hh) X.pre
    have hte := vx_table (x := y) X (hw _ List.mem_cons_self)
    have K := body p e s m below meth c _ X.exec X.bytes hml X.returns X.notSynchronized (findClass_of_methodNamed X.named) hw hte hB hK hE hN hl
    rw [← lg_entry_eq] at K
    obtain ⟨t, a1, o, b1, b2, b3⟩ := K s₁ hh0 (Stand.of_body X)
    exact ⟨t, o, a1, b1, b2, b3⟩
theorem gWVL {w0 : Cond} {own C : String} {idx : Nat} {y : MethodName} {b : ByteArray} {n : Nat} {r : Option FieldType} (h1 : Cond.methodLink own idx y ∈ gG) (h2 : Cond.instanceMethod y ∈ gG) (h3 : Cond.selects C y y ∈ gG) (h4 : Cond.initialized C ∈ gG) (h5 : Cond.code y b n r ∈ gG) : GoodIn (w0 :: gG) (wsV own idx C y (gw y b n r)) := by
  intro w hw
  have k : ∀ {w : Cond}, w ∈ gG → w ∈ w0 :: gG ∧ ((w.onTables && w.keeps) = true ∨ ∃ ty, w = .arrayClass ty) := fun h => ⟨List.mem_cons_of_mem _ h, gw_good h⟩
  rcases List.mem_append.mp hw with h | h
  · rcases List.mem_cons.mp h with rfl | h
    · exact k h1
    rcases List.mem_cons.mp h with rfl | h
    · exact k h2
    rcases List.mem_cons.mp h with rfl | h
    · exact k h3
    rcases List.mem_cons.mp h with rfl | h
    · exact k h4
    exact absurd h List.not_mem_nil
  · rcases List.mem_cons.mp h with rfl | h
    · exact k h5
    · exact k h
section GK9
variable {p : Program} {l : Launch} {e : Env} {R : Room} {s : State} {m : MethodId} {args : Array Value} {below : List Frame} {meth : Method} {c : Code} {H : Heap} {locs : List Loc} {cells slots : Nat} {Q : State → Prop}
variable {cc : ByteArray} {pc : Nat} {ls : Array Slot} {rest st0 : List Value} {a : Array Value} {A0 A1 AX : Nat → Prop} {H0 : Heap} {mc ms : Nat} {free : Addr → Prop} {px : String → Heap → Prop}
theorem gx_calli {post : Int32 → Heap → Prop} (hr : vx_Run p l e R s m args below meth c H locs cells slots mc ms (F0 m pc ls st0) rest (wrI post A1 a) (gXC px AX) free) (hS : va_S A0 H0 H locs) (hA : ∀ q, q < H.size → A1 q → A0 q) (hf : ∀ q, free q → A0 q) (hAX : ∀ q, q < H.size → AX q → A0 q)
    (kx : ∀ (E : String) (ce : Cell) (q9 : Addr) (H1 : Heap) (locs1 : List Loc), px E H1 → H.size ≤ H1.size → (∀ q : Nat, q < H.size → ¬ AX q → H1[q]? = H[q]?) → va_S A0 H0 H1 locs1 → H1[q9]? = some ce → ce.vm = .none → s.vm.findClass E = some ce.cls → vx_W p l e R s m args below meth c H1 locs1 (cells + mc) (slots + ms) Q (F0 m pc ls rest) q9)
    (kk : ∀ (r : Int32) (H1 : Heap) (locs1 : List Loc), post r H1 → H.size ≤ H1.size → (∀ q : Nat, q < H.size → ¬ A1 q → H1[q]? = H[q]?) → va_S A0 H0 H1 locs1 → W p l e R s m args below meth c H1 locs1 (cells + mc) (slots + ms) Q (F0 m (pc + 3) ls (.int r :: rest))) : W p l e R s m args below meth c H locs cells slots Q (F0 m pc ls st0) := by
  intro T hT X
  rcases hr T hT X with ⟨v, st₀, t, T', L, h0, X', hL, e1, e2, ⟨⟨r, hv, hp⟩, hF⟩, st⟩ | ⟨q, st₀, t, T', L, E, ce, h0, X', hL, e1, e2, ⟨hp, hF⟩, hce, hcv, hcl, st⟩
  · cases hv
    obtain ⟨k1, k2, k3⟩ := vx_keep h0 e1 hS hA hf hL hF
    obtain ⟨t2, a1, b1⟩ := kk r T'.heap (locs ++ L) (by rw [e1]; exact hp) k1 k2 k3 T' rfl X'
    exact ⟨t2, st t2 a1, b1⟩
  · obtain ⟨k1, k2, k3⟩ := vx_keep h0 e1 hS hAX hf hL hF
    obtain ⟨t2, a1, b1⟩ := kx E ce q T'.heap (locs ++ L) (by rw [e1]; exact hp) k1 k2 k3 (by rw [e1]; exact hce) hcv hcl T' rfl X'
    exact ⟨t2, st.trans a1, b1⟩
theorem gx_calld {post : UInt64 → Heap → Prop} (hr : vx_Run p l e R s m args below meth c H locs cells slots mc ms (F0 m pc ls st0) rest (wrD post A1 a) (gXC px AX) free) (hS : va_S A0 H0 H locs) (hA : ∀ q, q < H.size → A1 q → A0 q) (hf : ∀ q, free q → A0 q) (hAX : ∀ q, q < H.size → AX q → A0 q)
    (kx : ∀ (E : String) (ce : Cell) (q9 : Addr) (H1 : Heap) (locs1 : List Loc), px E H1 → H.size ≤ H1.size → (∀ q : Nat, q < H.size → ¬ AX q → H1[q]? = H[q]?) → va_S A0 H0 H1 locs1 → H1[q9]? = some ce → ce.vm = .none → s.vm.findClass E = some ce.cls → vx_W p l e R s m args below meth c H1 locs1 (cells + mc) (slots + ms) Q (F0 m pc ls rest) q9)
    (kk : ∀ (r : UInt64) (H1 : Heap) (locs1 : List Loc), post r H1 → H.size ≤ H1.size → (∀ q : Nat, q < H.size → ¬ A1 q → H1[q]? = H[q]?) → va_S A0 H0 H1 locs1 → W p l e R s m args below meth c H1 locs1 (cells + mc) (slots + ms) Q (F0 m (pc + 3) ls (.double r :: rest))) : W p l e R s m args below meth c H locs cells slots Q (F0 m pc ls st0) := by
  intro T hT X
  rcases hr T hT X with ⟨v, st₀, t, T', L, h0, X', hL, e1, e2, ⟨⟨r, hv, hp⟩, hF⟩, st⟩ | ⟨q, st₀, t, T', L, E, ce, h0, X', hL, e1, e2, ⟨hp, hF⟩, hce, hcv, hcl, st⟩
  · cases hv
    obtain ⟨k1, k2, k3⟩ := vx_keep h0 e1 hS hA hf hL hF
    obtain ⟨t2, a1, b1⟩ := kk r T'.heap (locs ++ L) (by rw [e1]; exact hp) k1 k2 k3 T' rfl X'
    exact ⟨t2, st t2 a1, b1⟩
  · obtain ⟨k1, k2, k3⟩ := vx_keep h0 e1 hS hAX hf hL hF
    obtain ⟨t2, a1, b1⟩ := kx E ce q T'.heap (locs ++ L) (by rw [e1]; exact hp) k1 k2 k3 (by rw [e1]; exact hce) hcv hcl T' rfl X'
    exact ⟨t2, st.trans a1, b1⟩
theorem gx_callf {post : UInt32 → Heap → Prop} (hr : vx_Run p l e R s m args below meth c H locs cells slots mc ms (F0 m pc ls st0) rest (wrF post A1 a) (gXC px AX) free) (hS : va_S A0 H0 H locs) (hA : ∀ q, q < H.size → A1 q → A0 q) (hf : ∀ q, free q → A0 q) (hAX : ∀ q, q < H.size → AX q → A0 q)
    (kx : ∀ (E : String) (ce : Cell) (q9 : Addr) (H1 : Heap) (locs1 : List Loc), px E H1 → H.size ≤ H1.size → (∀ q : Nat, q < H.size → ¬ AX q → H1[q]? = H[q]?) → va_S A0 H0 H1 locs1 → H1[q9]? = some ce → ce.vm = .none → s.vm.findClass E = some ce.cls → vx_W p l e R s m args below meth c H1 locs1 (cells + mc) (slots + ms) Q (F0 m pc ls rest) q9)
    (kk : ∀ (r : UInt32) (H1 : Heap) (locs1 : List Loc), post r H1 → H.size ≤ H1.size → (∀ q : Nat, q < H.size → ¬ A1 q → H1[q]? = H[q]?) → va_S A0 H0 H1 locs1 → W p l e R s m args below meth c H1 locs1 (cells + mc) (slots + ms) Q (F0 m (pc + 3) ls (.float r :: rest))) : W p l e R s m args below meth c H locs cells slots Q (F0 m pc ls st0) := by
  intro T hT X
  rcases hr T hT X with ⟨v, st₀, t, T', L, h0, X', hL, e1, e2, ⟨⟨r, hv, hp⟩, hF⟩, st⟩ | ⟨q, st₀, t, T', L, E, ce, h0, X', hL, e1, e2, ⟨hp, hF⟩, hce, hcv, hcl, st⟩
  · cases hv
    obtain ⟨k1, k2, k3⟩ := vx_keep h0 e1 hS hA hf hL hF
    obtain ⟨t2, a1, b1⟩ := kk r T'.heap (locs ++ L) (by rw [e1]; exact hp) k1 k2 k3 T' rfl X'
    exact ⟨t2, st t2 a1, b1⟩
  · obtain ⟨k1, k2, k3⟩ := vx_keep h0 e1 hS hAX hf hL hF
    obtain ⟨t2, a1, b1⟩ := kx E ce q T'.heap (locs ++ L) (by rw [e1]; exact hp) k1 k2 k3 (by rw [e1]; exact hce) hcv hcl T' rfl X'
    exact ⟨t2, st.trans a1, b1⟩
theorem g_last {D : va_G} {cA : Nat → ClassId} {o : Nat} {g : Nat → Int64} {x : Int64} (hx : p.tables.exec = Jvm.exec) (hb : c.code = cc) (hK : gK D cA s) (hP : va_P D vwCl (oL cA o g) H) (hS : va_S A0 H0 H locs) (hAo : A0 o) (hdg : decode cc pc = .ok (.lastore, 1))
    (kk : ∀ (H1 : Heap) (locs1 : List Loc), va_P D vwCl (oL cA o (vp_updL g (nI 0).toNatClampNeg x)) H1 → H1.size = H.size → (∀ q : Nat, ¬ q = o → H1[q]? = H[q]?) → va_S A0 H0 H1 locs1 → W p l e R s m args below meth c H1 locs1 cells slots Q (F0 m (pc + 1) ls rest)) : W p l e R s m args below meth c H locs cells slots Q (F0 m pc ls (.long x :: .int (nI 0) :: .ref o :: rest)) := by
  have hin : vp_in (nI 0) 1 := vp_in_iff.mpr (by decide +kernel)
  have hD : va_D (fun q => q = o) (oL cA o g) := oL_D rfl
  refine W.last hx hb (hP 0 _ rfl) ((hK.1.2 3 _ rfl).1 1 (fun j => .long (g j))) (fun q => by cases q) (by show ¬ (nI 0 < 0 ∨ (arrV _ _ _).slots.size ≤ _); rw [arrV_size]; exact hin) rfl rfl hdg fun H1 e z oq => ?_
  have hP2 : va_P D vwCl ((oL cA o g).set 0 (o, .inl (cA 3, 1, .inr (.inl (vp_updL g (nI 0).toNatClampNeg x))))) H1 := by
    refine hP.set hD rfl ?_ oq
    show H1[o]? = some (vp_cell _ _)
    rw [e]
    rw [vp_cell_l, vp_cell_l, arrV_store]
    congr 2
    funext q
    by_cases hq : q = (nI 0).toNatClampNeg
    · subst hq
      simp [updV, vp_updL]
    · simp [updV, vp_updL, hq]
  exact kk H1 _ hP2 z (fun q h => oq q h) (hS.put z oq hAo)
theorem upL0 {g : Nat → Int64} {x : Int64} : vp_updL g (nI 0).toNatClampNeg x 0 = x := by
  rw [show (nI 0).toNatClampNeg = 0 from nI_clamp (by decide)]; exact if_pos rfl
theorem g_dast {D : va_G} {cA : Nat → ClassId} {o : Nat} {g : Nat → UInt64} {x : UInt64} (hx : p.tables.exec = Jvm.exec) (hb : c.code = cc) (hK : gK D cA s) (hP : va_P D vwCl (oD cA o g) H) (hS : va_S A0 H0 H locs) (hAo : A0 o) (hdg : decode cc pc = .ok (.dastore, 1))
    (kk : ∀ (H1 : Heap) (locs1 : List Loc), va_P D vwCl (oD cA o (vf_upd g (nI 0).toNatClampNeg x)) H1 → H1.size = H.size → (∀ q : Nat, ¬ q = o → H1[q]? = H[q]?) → va_S A0 H0 H1 locs1 → W p l e R s m args below meth c H1 locs1 cells slots Q (F0 m (pc + 1) ls rest)) : W p l e R s m args below meth c H locs cells slots Q (F0 m pc ls (.double x :: .int (nI 0) :: .ref o :: rest)) := by
  have hin : vp_in (nI 0) 1 := vp_in_iff.mpr (by decide +kernel)
  have hD : va_D (fun q => q = o) (oD cA o g) := oD_D rfl
  refine W.dast hx hb (hP 0 _ rfl) ((hK.1.2 4 _ rfl).1 1 (fun j => .double (g j))) (fun q => by cases q) (by show ¬ (nI 0 < 0 ∨ (arrV _ _ _).slots.size ≤ _); rw [arrV_size]; exact hin) rfl rfl hdg fun H1 e z oq => ?_
  have hP2 : va_P D vwCl ((oD cA o g).set 0 (o, .inl (cA 4, 1, .inr (.inr (.inr (.inl (vf_upd g (nI 0).toNatClampNeg x))))))) H1 := by
    refine hP.set hD rfl ?_ oq
    show H1[o]? = some (vp_cell _ _)
    rw [e]
    rw [vp_cell_d, vp_cell_d, arrV_store]
    congr 2
    funext q
    by_cases hq : q = (nI 0).toNatClampNeg
    · subst hq
      simp [updV, vf_upd]
    · simp [updV, vf_upd, hq]
  exact kk H1 _ hP2 z (fun q h => oq q h) (hS.put z oq hAo)
theorem upD0 {g : Nat → UInt64} {x : UInt64} : vf_upd g (nI 0).toNatClampNeg x 0 = x := by
  rw [show (nI 0).toNatClampNeg = 0 from nI_clamp (by decide)]; exact if_pos rfl
end GK9

