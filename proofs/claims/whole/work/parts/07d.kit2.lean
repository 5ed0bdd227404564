def aInj (n : Nat) (A : Nat → Nat) : Prop := ∀ i j : Nat, i < n → j < n → A i = A j → i = j
def aS (n : Nat) (A : Nat → Nat) : Nat → Prop := fun q => ∃ k : Nat, k < n ∧ q = A k
theorem aInj_s {n m : Nat} {A : Nat → Nat} (h : aInj n A) (a : Nat) (hm : a + m ≤ n) : aInj m (fun k => A (k + a)) := fun i j hi hj e => by
  have := h (i + a) (j + a) (by omega) (by omega) e
  omega
theorem aS_up {n m a : Nat} {A : Nat → Nat} {q : Nat} (hm : a + m ≤ n) (h : aS m (fun k => A (k + a)) q) : aS n A q := by
  obtain ⟨k, hk, e⟩ := h
  exact ⟨k + a, by omega, e⟩
theorem aS_no {n m a i : Nat} {A : Nat → Nat} (h : aInj n A) (hi : i < n) (hm : a + m ≤ n) (hx : i < a ∨ a + m ≤ i) : ¬ aS m (fun k => A (k + a)) (A i) := by
  intro ⟨k, hk, e⟩
  have := h i (k + a) hi (by omega) e
  omega
theorem wAd {ws : va_W} {n : Nat} {A : Nat → Nat} (e : ws.map (fun q => q.1) = (List.range n).map A) {k : Nat} {q : Nat × va_E} (hk : ws[k]? = some q) : k < n ∧ q.1 = A k := by
  have h1 : (ws.map (fun q => q.1))[k]? = some q.1 := by rw [List.getElem?_map, hk]; rfl
  rw [e, List.getElem?_map] at h1
  rcases Nat.lt_or_ge k n with z | z
  · rw [List.getElem?_range z] at h1
    exact ⟨z, (Option.some.inj h1).symm⟩
  · rw [List.getElem?_eq_none (by simpa using z)] at h1
    cases h1
theorem wD {ws : va_W} {n : Nat} {A : Nat → Nat} (h : aInj n A) (e : ws.map (fun q => q.1) = (List.range n).map A) : va_D (aS n A) ws :=
  ⟨fun i j p q hp hq e2 => h i j (wAd e hp).1 (wAd e hq).1 (by rw [← (wAd e hp).2, ← (wAd e hq).2]; exact e2), fun k q hk => ⟨k, (wAd e hk).1, (wAd e hk).2⟩⟩
theorem wKeep {D : va_G} {ws : va_W} {H H1 : Heap} {F : Nat → Prop} (hP : va_P D vwCl ws H) (hn : ∀ (k : Nat) (q : Nat × va_E), ws[k]? = some q → ¬ F q.1) (hk : ∀ q : Nat, q < H.size → ¬ F q → H1[q]? = H[q]?) : va_P D vwCl ws H1 := hP.kept (fun k q h => hk q.1 (hP k q h).lt (hn k q h))
theorem jwD {cA : Nat → ClassId} {J : Nat → Nat} {jf : Nat → Nat → Int32} {jn : Nat} (h : aInj 5 J) : va_D (aS 5 J) (jw cA J jf jn) := wD h rfl
theorem kwD {cA : Nat → ClassId} {K : Nat → Nat} {kf : Nat → Nat → Int32} {rw : Nat → Nat} {cn rl : Nat} (h : aInj 10 K) : va_D (aS 10 K) (kw cA K kf rw cn rl) := wD h rfl
theorem cwD {cA : Nat → ClassId} {A : Nat → Nat} {jf : Nat → Nat → Int32} {jn : Nat} {kf : Nat → Nat → Int32} {rw : Nat → Nat} {cn rl clk ton : Nat} {sd : Int32} (h : aInj 16 A) : va_D (aS 16 A) (cw cA A jf jn kf rw cn rl clk ton sd) := wD h rfl
theorem cw_J {D : va_G} {cA : Nat → ClassId} {A : Nat → Nat} {jf jf' : Nat → Nat → Int32} {jn jn' : Nat} {kf : Nat → Nat → Int32} {rw : Nat → Nat} {cn rl clk ton : Nat} {sd : Int32} {H H1 : Heap} (h : aInj 16 A) (hP : va_P D vwCl (cw cA A jf jn kf rw cn rl clk ton sd) H) (hN : va_P D vwCl (jw cA (fun k => A (k + 1)) jf' jn') H1) (hk : ∀ q : Nat, q < H.size → ¬ aS 5 (fun k => A (k + 1)) q → H1[q]? = H[q]?) : va_P D vwCl (cw cA A jf' jn' kf rw cn rl clk ton sd) H1 := by
  have h0 : va_P D vwCl [(A 0, .inr (3, [.ref (A 1), .ref (A 6), .int (nI clk), .int (nI ton), .int sd]))] H := hP.sub [0] rfl
  have h2 : va_P D vwCl (kw cA (fun k => A (k + 6)) kf rw cn rl) H := hP.sub [6, 7, 8, 9, 10, 11, 12, 13, 14, 15] rfl
  have g0 := wKeep h0 (F := aS 5 (fun k => A (k + 1))) (fun k q e => by
    match k, e with
    | 0, e => cases e; exact aS_no h (by decide) (by decide) (Or.inl (by decide))) hk
  have g2 := wKeep h2 (F := aS 5 (fun k => A (k + 1))) (fun k q e => by
    have w := wAd (n := 10) (A := fun k => A (k + 6)) rfl e
    rw [w.2]
    exact aS_no (i := k + 6) h (by omega) (by decide) (Or.inr (by omega))) hk
  exact ((g0.app hN).app g2)
theorem cw_K {D : va_G} {cA : Nat → ClassId} {A : Nat → Nat} {jf : Nat → Nat → Int32} {jn : Nat} {kf kf' : Nat → Nat → Int32} {rw rw' : Nat → Nat} {cn rl cn' rl' clk ton : Nat} {sd : Int32} {H H1 : Heap} (h : aInj 16 A) (hP : va_P D vwCl (cw cA A jf jn kf rw cn rl clk ton sd) H) (hN : va_P D vwCl (kw cA (fun k => A (k + 6)) kf' rw' cn' rl') H1) (hk : ∀ q : Nat, q < H.size → ¬ aS 10 (fun k => A (k + 6)) q → H1[q]? = H[q]?) : va_P D vwCl (cw cA A jf jn kf' rw' cn' rl' clk ton sd) H1 := by
  have h0 : va_P D vwCl [(A 0, .inr (3, [.ref (A 1), .ref (A 6), .int (nI clk), .int (nI ton), .int sd]))] H := hP.sub [0] rfl
  have h2 : va_P D vwCl (jw cA (fun k => A (k + 1)) jf jn) H := hP.sub [1, 2, 3, 4, 5] rfl
  have g0 := wKeep h0 (F := aS 10 (fun k => A (k + 6))) (fun k q e => by
    match k, e with
    | 0, e => cases e; exact aS_no h (by decide) (by decide) (Or.inl (by decide))) hk
  have g2 := wKeep h2 (F := aS 10 (fun k => A (k + 6))) (fun k q e => by
    have w := wAd (n := 5) (A := fun k => A (k + 1)) rfl e
    rw [w.2]
    exact aS_no (i := k + 1) h (by omega) (by decide) (Or.inl (by omega))) hk
  exact ((g0.app g2).app hN)
def updN (f : Nat → Nat) (k v : Nat) : Nat → Nat := fun j => if j = k then v else f j
theorem updN_nI {f : Nat → Nat} {k v : Nat} : upd (fun j => nI (f j)) k (nI v) = fun j => nI (updN f k v j) := by
  funext j
  by_cases e : j = k
  · subst e; simp [updN, upd]
  · simp [updN, upd, e]
theorem mmin_n {a b : Nat} (ha : a < 2 ^ 31) (hb : b < 2 ^ 31) : (if nI b < nI a then nI b else nI a) = nI (if b < a then b else a) := by
  by_cases h : b < a
  · rw [if_pos h, if_pos ((nI_ltI hb ha).mpr h)]
  · rw [if_neg h, if_neg (fun z => h ((nI_ltI hb ha).mp z))]
theorem mmax_n {a b : Nat} (ha : a < 2 ^ 31) (hb : b < 2 ^ 31) : (if nI a < nI b then nI b else nI a) = nI (if a < b then b else a) := by
  by_cases h : a < b
  · rw [if_pos h, if_pos ((nI_ltI ha hb).mpr h)]
  · rw [if_neg h, if_neg (fun z => h ((nI_ltI ha hb).mp z))]

