/-! the JVM's own: words of the tables, strings, what a throw needs -/
def wOk (w : Cond) : Bool := goodWord w || (match w with | .declares _ => true | .castable _ _ => true | _ => false)
theorem wOk_warm {w : Cond} (hg : wOk w = true) {s U : State} (hW : s.WarmedH U.vm) (h : va_Nw w s) : va_Nw w U := by
  by_cases g : goodWord w = true
  · exact word_at hW (good_of_word g) h
  · cases w <;> first | exact va_Nw.warmD hW h | exact va_Nw.warmC hW h | exact absurd (by simpa [wOk] using hg) g
theorem wOk_use {w : Cond} (hg : wOk w = true) {A : Array Value} {U : State} (h : va_Nw w U) : w.before A U = true := by
  by_cases g : goodWord w = true
  · exact word_at (State.WarmedH.refl U) (good_of_word g) h
  · cases w <;> first | exact va_Nw.use rfl h | exact absurd (by simpa [wOk] using hg) g
theorem wOk_of {w : Cond} (hg : wOk w = true) {A : Array Value} {U : State} (h : w.before A U = true) : va_Nw w U := by
  by_cases g : goodWord w = true
  · exact word_at (State.WarmedH.refl U) (good_of_word g) h
  · cases w <;> first | exact va_Nw.of rfl h | exact absurd (by simpa [wOk] using hg) g
def sTx : List (String × Nat × String) := [(RX6, 78, "juror"), (RX6, 80, "case"), (RX6, 82, "call"), (RX6, 84, "vote"), (RX6, 86, "unsay"), (RX6, 88, "appeal"), (RX6, 90, "clerk"), (RX6, 92, "night"), (RX8, 209, "uror "), (RX8, 218, "ote "), (RX8, 220, "nsay "), (RX8, 222, "ppeal "), (RX8, 224, "ight"), (RX8, 226, "erk"), (RX8, 228, "l "), (RX8, 230, "se ")]
def sLen : List Nat := [5, 4, 4, 4, 5, 6, 5, 5, 5, 4, 5, 6, 4, 3, 2, 3]
def sByt : List (List Int32) := [[106, 117, 114, 111, 114], [99, 97, 115, 101], [99, 97, 108, 108], [118, 111, 116, 101], [117, 110, 115, 97, 121], [97, 112, 112, 101, 97, 108], [99, 108, 101, 114, 107], [110, 105, 103, 104, 116], [117, 114, 111, 114, 32], [111, 116, 101, 32], [110, 115, 97, 121, 32], [112, 112, 101, 97, 108, 32], [105, 103, 104, 116], [101, 114, 107], [108, 32], [115, 101, 32]]
def gMs : List (Nat × String) := [(68, "a leaning is from -9 to 9, a doubt from 0 to 9"), (79, "there are 9 jurors"), (96, "a merit is from 0 to 100, a term from 0 to 99"), (101, "there are 10 cases"), (116, "there is no such case"), (123, "no panel can be called"), (132, "no verdict can be said"), (140, "no verdict can be unsaid"), (148, "no verdict can be appealed"), (156, "there are 4 clerks"), (165, "it is the night 99"), (171, "there is no such juror"), (189, "a juror has the numbers 0 to 4"), (215, "a case has the numbers 0 to 7"), (217, "there is no such juror or case"), (227, "there is no panel"), (242, "there is no such place"), (266, "no clerk would take the case"), (274, "a night is from 0 to 99"), (279, "there is no such term on the roll"), (284, "no verdict is said"), (303, "there is no such index"), (312, "the input contains 60 characters"), (324, "the text has an error, or a number in it is out of range"), (326, "an order is refused"), (334, "nothing was refused"), (361, "the accounts are 0 to 11"), (378, "there are no jurors"), (381, "no verdict was said"), (383, "no change can be undone"), (390, "there is no snapshot")]
def gE (A : Nat → Prop) (adK adV sa : Nat → Nat) (U : State) (H : Heap) : Prop :=
  (∀ w ∈ lw_tbl, wOk w = true → va_Nw w U) ∧ (∀ (i : Nat) (q : String × Nat × String), sTx[i]? = some q → vk_R q.1 q.2.1 q.2.2 (adK i) U) ∧ (∀ q ∈ gMs, vk_R RX7 q.1 q.2 (sa q.1) U) ∧
  vk_S 16 sLen sByt adK adV A U H ∧ va_Z "java/lang/String" "COMPACT_STRINGS" "Z" (.int 1) A U H ∧ va_Zq "jdk/internal/util/Preconditions" "SIOOBE_FORMATTER" "Ljava/util/function/BiFunction;" A U H ∧ vx_Zq Bundle.tN "UNASSIGNED_STACK" Bundle.steD A U H ∧ vx_Zq Bundle.tN "SUPPRESSED_SENTINEL" Bundle.listD A U H
theorem gE.warm {A : Nat → Prop} {adK adV sa : Nat → Nat} {s U : State} {H : Heap} (hW : s.WarmedH U.vm) (h : gE A adK adV sa s H) : gE A adK adV sa U H := by
  obtain ⟨h1, h2, h3, h4, h5, h6, h7, h8⟩ := h
  exact ⟨fun w hw hg => wOk_warm hg hW (h1 w hw hg), fun i q hq => vk_R.warm hW (h2 i q hq), fun q hq => vk_R.warm hW (h3 q hq), h4.moved hW.alike, h5.moved hW.alike, h6.moved hW.alike, h7.moved hW.alike, h8.moved hW.alike⟩
theorem gE.kept {A : Nat → Prop} {adK adV sa : Nat → Nat} {U : State} {H H1 : Heap} (h : gE A adK adV sa U H) (hq : ∀ a : Nat, a < H.size → ¬ A a → H1[a]? = H[a]?) : gE A adK adV sa U H1 := by
  obtain ⟨h1, h2, h3, h4, h5, h6, h7, h8⟩ := h
  exact ⟨h1, h2, h3, h4.kept hq, h5.kept hq, h6.kept hq, h7.kept hq, h8.kept hq⟩
theorem gE.same {A : Nat → Prop} {adK adV sa : Nat → Nat} {u U : State} {H : Heap} (hv : U.vm = u.vm) (h : gE A adK adV sa u H) : gE A adK adV sa U H := gE.warm (by rw [hv]; exact State.WarmedH.refl u) h
def gPx (av : List Value) (B : Heap → Prop) (D : va_G) (cA : Nat → ClassId) (A : Nat → Prop) (adK adV sa : Nat → Nat) : Array Value → State → Prop := fun v U => v = av.toArray ∧ B U.heap ∧ gK D cA U ∧ gE A adK adV sa U U.heap
theorem gPx_fb {av : List Value} {B : Heap → Prop} {D : va_G} {cA : Nat → ClassId} {A : Nat → Prop} {adK adV sa : Nat → Nat} : FrameBlind (gPx av B D cA A adK adV sa) := fun a U g mk q => ⟨q.1, q.2.1, ((gPc_fb (av := av) (B := B) (D := D) (cA := cA)) a U g mk ⟨q.1, q.2.1, q.2.2.1⟩).2.2, gE.same (u := U) (U := U.calling g mk a) (H := U.heap) rfl q.2.2.2⟩
theorem gPreVx {s : State} {H : Heap} {locs : List Loc} {C : String} {b : Addr} {As : List Value} {B : Heap → Prop} {D : va_G} {cA : Nat → ClassId} {A A0 : Nat → Prop} {adK adV sa : Nat → Nat} (hK : gK D cA s) (hE : gE A adK adV sa s s.heap) (hS : va_S A0 s.heap H locs) (hF : ∀ q, A0 q → A q) (hr : ∃ cellB : Cell, H[b]? = some cellB ∧ cellB.vm.isStatics = false ∧ s.vm.findClass C = some cellB.cls) (hB : B H) : PreV s H C b (gPx (.ref b :: As) B D cA A adK adV sa) As :=
  ⟨gPx_fb, hr, fun U hU hW => ⟨rfl, by rw [hU]; exact hB, gK.warm hW hK, by rw [hU]; exact (hE.kept (fun a h1 h2 => hS.2.1 a h1 (fun z => h2 (hF a z)))).warm hW⟩⟩
theorem gPreSx {s : State} {H : Heap} {locs : List Loc} {As : List Value} {B : Heap → Prop} {D : va_G} {cA : Nat → ClassId} {A A0 : Nat → Prop} {adK adV sa : Nat → Nat} (hK : gK D cA s) (hE : gE A adK adV sa s s.heap) (hS : va_S A0 s.heap H locs) (hF : ∀ q, A0 q → A q) (hB : B H) : PreS s H (gPx As B D cA A adK adV sa) As :=
  ⟨gPx_fb, fun U hU hW => ⟨rfl, by rw [hU]; exact hB, gK.warm hW hK, by rw [hU]; exact (hE.kept (fun a h1 h2 => hS.2.1 a h1 (fun z => h2 (hF a z)))).warm hW⟩⟩
theorem gOfx {l : Launch} {y : MethodName} {b : ByteArray} {n : Nat} {r : Option FieldType} {rm : Room} {av : List Value} {B : Heap → Prop} {D : va_G} {cA : Nat → ClassId} {A : Nat → Prop} {adK adV sa : Nat → Nat} {Qc : Array Value → State → Outcome → State → Prop} {mc ms : Nat} {free : Addr → Prop} (hy : plainName y.cls = true) (hlen : (lg_sl av).length ≤ n)
    (body : ∀ (p : Program) (e : Env) (s : State) (m : MethodId) (below : List Frame) (meth : Method) (c : Code) (ls : Array Slot), p.tables.exec = Jvm.exec → c.code = b → c.maxLocals = n → meth.sig.returnType = r → meth.locks = false → s.vm.findClass y.cls = some m.cls → (∀ w ∈ gw y b n r, w.before av.toArray s = true) → meth.name = y.name → B s.heap → gK D cA s → gE A adK adV sa s s.heap → lv_has ls n (lv_args 0 av) →
      W p l e rm s m av.toArray below meth c s.heap [] 0 0 (MQ below Qc av.toArray s mc ms free) (F0 m 0 ls [])) : Met l y (gw y b n r) rm (gPx av B D cA A adK adV sa) Qc mc ms free := by
  refine Met.ofW (cc := b) (maxL := n) (ret := r) hy rfl ?_
  intro p e s m args below meth c s₁ X hml hv
  obtain ⟨rfl, hB, hK, hE⟩ := hv
  have hl := lv_entry av hlen
  rw [lg_entry_eq]
  exact body p e s m below meth c _ X.exec X.bytes hml X.returns X.notSynchronized (findClass_of_methodNamed X.named) (atoms_spec (ws := gw y b n r) X.pre) (name_of_methodNamed X.named X.method).1 hB hK hE hl
theorem dJ0_coder_0 : decode cJ0_coder_7d493 0 = .ok (.getstatic 38, 3) := by decide +kernel
theorem dJ0_coder_3 : decode cJ0_coder_7d493 3 = .ok (.ifCond .eq 10, 3) := by decide +kernel
theorem dJ0_coder_6 : decode cJ0_coder_7d493 6 = .ok (.aload_n 0, 1) := by decide +kernel
theorem dJ0_coder_7 : decode cJ0_coder_7d493 7 = .ok (.getfield 15, 3) := by decide +kernel
theorem dJ0_coder_10 : decode cJ0_coder_7d493 10 = .ok (.goto 4, 3) := by decide +kernel
theorem dJ0_coder_14 : decode cJ0_coder_7d493 14 = .ok (.ireturn, 1) := by decide +kernel
theorem dJ0_length_0 : decode cJ0_length_8abf5 0 = .ok (.aload_n 0, 1) := by decide +kernel
theorem dJ0_length_1 : decode cJ0_length_8abf5 1 = .ok (.getfield 9, 3) := by decide +kernel
theorem dJ0_length_4 : decode cJ0_length_8abf5 4 = .ok (.arraylength, 1) := by decide +kernel
theorem dJ0_length_5 : decode cJ0_length_8abf5 5 = .ok (.aload_n 0, 1) := by decide +kernel
theorem dJ0_length_6 : decode cJ0_length_8abf5 6 = .ok (.invokevirtual 335, 3) := by decide +kernel
theorem dJ0_length_9 : decode cJ0_length_8abf5 9 = .ok (.ishr, 1) := by decide +kernel
theorem dJ0_length_10 : decode cJ0_length_8abf5 10 = .ok (.ireturn, 1) := by decide +kernel
theorem dJ0_isLatin1_0 : decode cJ0_isLatin1_aae02 0 = .ok (.getstatic 38, 3) := by decide +kernel
theorem dJ0_isLatin1_3 : decode cJ0_isLatin1_aae02 3 = .ok (.ifCond .eq 14, 3) := by decide +kernel
theorem dJ0_isLatin1_6 : decode cJ0_isLatin1_aae02 6 = .ok (.aload_n 0, 1) := by decide +kernel
theorem dJ0_isLatin1_7 : decode cJ0_isLatin1_aae02 7 = .ok (.getfield 15, 3) := by decide +kernel
theorem dJ0_isLatin1_10 : decode cJ0_isLatin1_aae02 10 = .ok (.ifCond .ne 7, 3) := by decide +kernel
theorem dJ0_isLatin1_13 : decode cJ0_isLatin1_aae02 13 = .ok (.iconst 1, 1) := by decide +kernel
theorem dJ0_isLatin1_14 : decode cJ0_isLatin1_aae02 14 = .ok (.goto 4, 3) := by decide +kernel
theorem dJ0_isLatin1_18 : decode cJ0_isLatin1_aae02 18 = .ok (.ireturn, 1) := by decide +kernel
theorem dJ3_checkIndex_0 : decode cJ3_checkIndex_8e157 0 = .ok (.iload_n 0, 1) := by decide +kernel
theorem dJ3_checkIndex_1 : decode cJ3_checkIndex_8e157 1 = .ok (.ifCond .lt 8, 3) := by decide +kernel
theorem dJ3_checkIndex_4 : decode cJ3_checkIndex_8e157 4 = .ok (.iload_n 0, 1) := by decide +kernel
theorem dJ3_checkIndex_5 : decode cJ3_checkIndex_8e157 5 = .ok (.iload_n 1, 1) := by decide +kernel
theorem dJ3_checkIndex_6 : decode cJ3_checkIndex_8e157 6 = .ok (.if_icmp .lt 10, 3) := by decide +kernel
theorem dJ3_checkIndex_16 : decode cJ3_checkIndex_8e157 16 = .ok (.iload_n 0, 1) := by decide +kernel
theorem dJ3_checkIndex_17 : decode cJ3_checkIndex_8e157 17 = .ok (.ireturn, 1) := by decide +kernel
theorem dJ0_checkIndex_0 : decode cJ0_checkIndex_df160 0 = .ok (.iload_n 0, 1) := by decide +kernel
theorem dJ0_checkIndex_1 : decode cJ0_checkIndex_df160 1 = .ok (.iload_n 1, 1) := by decide +kernel
theorem dJ0_checkIndex_2 : decode cJ0_checkIndex_df160 2 = .ok (.getstatic 1053, 3) := by decide +kernel
theorem dJ0_checkIndex_5 : decode cJ0_checkIndex_df160 5 = .ok (.invokestatic 1059, 3) := by decide +kernel
theorem dJ0_checkIndex_8 : decode cJ0_checkIndex_df160 8 = .ok (.pop, 1) := by decide +kernel
theorem dJ0_checkIndex_9 : decode cJ0_checkIndex_df160 9 = .ok (.return_, 1) := by decide +kernel
theorem dJ1_charAt_0 : decode cJ1_charAt_3b067 0 = .ok (.iload_n 1, 1) := by decide +kernel
theorem dJ1_charAt_1 : decode cJ1_charAt_3b067 1 = .ok (.aload_n 0, 1) := by decide +kernel
theorem dJ1_charAt_2 : decode cJ1_charAt_3b067 2 = .ok (.arraylength, 1) := by decide +kernel
theorem dJ1_charAt_3 : decode cJ1_charAt_3b067 3 = .ok (.invokestatic 9, 3) := by decide +kernel
theorem dJ1_charAt_6 : decode cJ1_charAt_3b067 6 = .ok (.aload_n 0, 1) := by decide +kernel
theorem dJ1_charAt_7 : decode cJ1_charAt_3b067 7 = .ok (.iload_n 1, 1) := by decide +kernel
theorem dJ1_charAt_8 : decode cJ1_charAt_3b067 8 = .ok (.baload, 1) := by decide +kernel
theorem dJ1_charAt_9 : decode cJ1_charAt_3b067 9 = .ok (.sipush 255, 3) := by decide +kernel
theorem dJ1_charAt_12 : decode cJ1_charAt_3b067 12 = .ok (.iand, 1) := by decide +kernel
theorem dJ1_charAt_13 : decode cJ1_charAt_3b067 13 = .ok (.i2c, 1) := by decide +kernel
theorem dJ1_charAt_14 : decode cJ1_charAt_3b067 14 = .ok (.ireturn, 1) := by decide +kernel
theorem dJ0_charAt_0 : decode cJ0_charAt_5068e 0 = .ok (.aload_n 0, 1) := by decide +kernel
theorem dJ0_charAt_1 : decode cJ0_charAt_5068e 1 = .ok (.invokevirtual 492, 3) := by decide +kernel
theorem dJ0_charAt_4 : decode cJ0_charAt_5068e 4 = .ok (.ifCond .eq 12, 3) := by decide +kernel
theorem dJ0_charAt_7 : decode cJ0_charAt_5068e 7 = .ok (.aload_n 0, 1) := by decide +kernel
theorem dJ0_charAt_8 : decode cJ0_charAt_5068e 8 = .ok (.getfield 9, 3) := by decide +kernel
theorem dJ0_charAt_11 : decode cJ0_charAt_5068e 11 = .ok (.iload_n 1, 1) := by decide +kernel
theorem dJ0_charAt_12 : decode cJ0_charAt_5068e 12 = .ok (.invokestatic 495, 3) := by decide +kernel
theorem dJ0_charAt_15 : decode cJ0_charAt_5068e 15 = .ok (.ireturn, 1) := by decide +kernel
