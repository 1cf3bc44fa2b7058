-- ===== heaps under construction: a count and a function from a place to its cell =====
def hF (z : Nat) (g : GX) (F : Nat → AC) : AH := fun a => if g.1 ≤ a ∧ a < g.1 + z then some (F (a - g.1)) else none
theorem hF_getE {z r : Nat} {g : GX} {F : Nat → AC} {x : AC} (hr : r < z) (h : F r = x) : hF z g F (g.1 + r) = some x := by
  unfold hF
  rw [if_pos ⟨by omega, by omega⟩, Nat.add_sub_cancel_left, h]
theorem hF_setE {z r : Nat} {g : GX} {F F' : Nat → AC} {x : AC} (hr : r < z) (h : upN F r x = F') : updH (hF z g F) (g.1 + r) x = hF z g F' := by
  subst h
  funext a
  unfold updH hF upN
  by_cases e : a = g.1 + r
  · subst e
    rw [if_pos rfl, if_pos ⟨by omega, by omega⟩, Nat.add_sub_cancel_left, if_pos rfl]
  · rw [if_neg e]
    by_cases e2 : g.1 ≤ a ∧ a < g.1 + z
    · rw [if_pos e2, if_pos e2, if_neg (by omega)]
    · rw [if_neg e2, if_neg e2]
theorem hF_push {z : Nat} {g : GX} {F : Nat → AC} {x : AC} : updH (hF z g F) (g.1 + z) x = hF (z + 1) g (upN F z x) := by
  funext a
  unfold updH hF upN
  by_cases e : a = g.1 + z
  · subst e
    rw [if_pos rfl, if_pos ⟨by omega, by omega⟩, Nat.add_sub_cancel_left, if_pos rfl]
  · rw [if_neg e]
    by_cases e2 : g.1 ≤ a ∧ a < g.1 + z
    · rw [if_pos e2, if_pos ⟨e2.1, by omega⟩, if_neg (by omega)]
    · rw [if_neg e2, if_neg (by omega)]
theorem hF_cong {z z' : Nat} {g : GX} {F F' : Nat → AC} (hz : z = z') (h : ∀ r, r < z → F r = F' r) : hF z g F = hF z' g F' := by
  subst hz
  funext a
  unfold hF
  by_cases e2 : g.1 ≤ a ∧ a < g.1 + z
  · rw [if_pos e2, if_pos e2, h _ (by omega)]
  · rw [if_neg e2, if_neg e2]
theorem hF_0 {g : GX} {F : Nat → AC} : (fun _ => none) = hF 0 g F := by
  funext a
  unfold hF
  rw [if_neg (by omega)]
def mnaH (h : AH) (a N K : Nat) : AH := fun q => if q = a then some (.inl (4, N, .inr (.inr (.inr (.inr (fun i => some (a + 1 + i))))))) else if a < q ∧ q ≤ a + N then some (.inl (0, K, .inl (fun _ => 0))) else h q
def mnF (g : GX) (F : Nat → AC) (z N K : Nat) : Nat → AC := fun r => if r = z then qA 4 N (fun i => some (g.1 + (z + 1 + i))) else if z < r ∧ r ≤ z + N then iA K (fun _ => 0) else F r
theorem hF_mna {z N K : Nat} {g : GX} {F : Nat → AC} : mnaH (hF z g F) (g.1 + z) N K = hF (z + 1 + N) g (mnF g F z N K) := by
  funext a
  unfold mnaH hF mnF
  by_cases e : a = g.1 + z
  · subst e
    rw [if_pos rfl, if_pos ⟨by omega, by omega⟩, Nat.add_sub_cancel_left, if_pos rfl]
    have e3 : (fun i => some (g.1 + z + 1 + i)) = (fun i => some (g.1 + (z + 1 + i))) := funext fun i => by rw [show g.1 + z + 1 + i = g.1 + (z + 1 + i) by omega]
    rw [e3]
    rfl
  · rw [if_neg e]
    by_cases e1 : g.1 + z < a ∧ a ≤ g.1 + z + N
    · rw [if_pos e1, if_pos ⟨by omega, by omega⟩, if_neg (by omega), if_pos ⟨by omega, by omega⟩]
      rfl
    · rw [if_neg e1]
      by_cases e2 : g.1 ≤ a ∧ a < g.1 + z
      · rw [if_pos e2, if_pos ⟨by omega, by omega⟩, if_neg (by omega), if_neg (by omega)]
      · rw [if_neg e2, if_neg (by omega)]
theorem upN_same {F : Nat → AC} {a : Nat} {x y : AC} : upN (upN F a x) a y = upN F a y := by
  funext q
  unfold upN
  by_cases e : q = a
  · rw [if_pos e, if_pos e]
  · rw [if_neg e, if_neg e, if_neg e]
theorem upN_in {F F' : Nat → AC} {a b : Nat} {x y : AC} (hab : a ≠ b) (h : upN F a y = F') : upN (upN F b x) a y = upN F' b x := by
  subst h
  funext q
  unfold upN
  by_cases e : q = a
  · subst e
    rw [if_pos rfl, if_neg hab, if_pos rfl]
  · rw [if_neg e]
    by_cases e2 : q = b
    · rw [if_pos e2, if_pos e2]
    · rw [if_neg e2, if_neg e2, if_neg e]
theorem upN_g {F : Nat → AC} {a b : Nat} {x y : AC} (h : a ≠ b) (hb : F a = y) : upN F b x a = y := (if_neg h).trans hb
section CT
variable {l : Launch} {g : GX} {M : MT} {R : Room} {TG : TGT} {XP : XPT} {n n' : Nat} {h h' : AH} {k k' sl sl' : Nat} {pc : Nat} {lv lv' : List (Nat × Value)} {st : List Value} {z : Nat} {F F' : Nat → AC}
theorem r_cnt (hn : n = n') (hh : h = h') (hk : k = k') (hs : sl = sl') (kk : RJ l g M R TG XP n' h' k' sl' pc lv st) : RJ l g M R TG XP n h k sl pc lv st := by
  subst hn hh hk hs
  exact kk
theorem f_new {C : String} {T : u_T} {N ci index : Nat} {fs : List Value} (hcl : CL[ci]? = some (C, T, N)) (hin : ∀ w ∈ u_ws C T N, w ∈ tblG) (ty : Nat → FieldType) (hty : ∀ k, k < N → parseFieldDescriptor (T k).2.2.1 = some (ty k)) (w1 : Cond.classLink M.1.cls index C ∈ tblG) (w2 : Cond.instantiable C N ∈ tblG) (w3 : Cond.initialized C ∈ tblG) (hfs : ∀ j, j < N → defaultValue (ty j) = vp_V fs j)
    (hd : decode M.2.1 pc = .ok (.new index, 3)) (hcells : k + 1 ≤ R.cells ∧ sl + N ≤ R.slots) (kk : RJ l g M R TG XP (z + 1) (hF (z + 1) g (upN F z (.inr (ci, fs)))) (k + 1) (sl + N) (pc + 3) lv (.ref (g.1 + z) :: st)) : RJ l g M R TG XP z (hF z g F) k sl pc lv st :=
  r_new hcl hin ty hty w1 w2 w3 hfs hd hcells hF_push kk
theorem f_newi {N : Nat} (hd : decode M.2.1 pc = .ok (.newarray .int, 2)) (hN : N < 65536) (hcells : k + 1 ≤ R.cells ∧ sl + N ≤ R.slots) (kk : RJ l g M R TG XP (z + 1) (hF (z + 1) g (upN F z (iA N (fun _ => 0)))) (k + 1) (sl + N) (pc + 2) lv (.ref (g.1 + z) :: st)) : RJ l g M R TG XP z (hF z g F) k sl pc lv (.int (nI N) :: st) :=
  r_newarr (t := 0) (atype := .int) (ty := .int) (f := nF (fun _ => 0)) rfl rfl (fun C q => by cases q) (by decide +kernel) hd rfl hN (by decide) (fun j => rfl) hcells hF_push kk
theorem f_newz {N : Nat} (hd : decode M.2.1 pc = .ok (.newarray .boolean, 2)) (hN : N < 65536) (hcells : k + 1 ≤ R.cells ∧ sl + N ≤ R.slots) (kk : RJ l g M R TG XP (z + 1) (hF (z + 1) g (upN F z (zA N (fun _ => false)))) (k + 1) (sl + N) (pc + 2) lv (.ref (g.1 + z) :: st)) : RJ l g M R TG XP z (hF z g F) k sl pc lv (.int (nI N) :: st) :=
  r_newarr (t := 1) (atype := .boolean) (ty := .boolean) (f := bF (fun _ => false)) rfl rfl (fun C q => by cases q) (by decide +kernel) hd rfl hN (by decide) (fun j => rfl) hcells hF_push kk
theorem f_anew {t N index : Nat} {C : String} (ht : (TYS g)[t]? = some (g.2.2 t, .object C)) (w1 : Cond.classLink M.1.cls index C ∈ tblG) (w2 : Cond.arrayOver (.object C) ∈ SPW) (hd : decode M.2.1 pc = .ok (.anewarray index, 3)) (hN : N < 65536) (hcells : k + 1 ≤ R.cells ∧ sl + N ≤ R.slots) (kk : RJ l g M R TG XP (z + 1) (hF (z + 1) g (upN F z (qA t N (fun _ => none)))) (k + 1) (sl + N) (pc + 3) lv (.ref (g.1 + z) :: st)) : RJ l g M R TG XP z (hF z g F) k sl pc lv (.int (nI N) :: st) :=
  r_anew ht w1 w2 hd rfl hN hcells hF_push kk
/-- two cells that no state can tell apart -/
def AEQ (x y : AC) : Prop := match x, y with
  | .inl (t, N, .inl f), .inl (t', N', .inl f') => t = t' ∧ N = N' ∧ ∀ j, j < N → f j = f' j
  | .inl (t, N, .inr (.inr (.inr (.inr f)))), .inl (t', N', .inr (.inr (.inr (.inr f')))) => t = t' ∧ N = N' ∧ ∀ j, j < N → f j = f' j
  | .inr x, .inr y => x = y
  | _, _ => False
theorem arrV_cong {c : ClassId} {N : Nat} {f f' : Nat → Value} (h : ∀ j, j < N → f j = f' j) : arrV c N f = arrV c N f' := by
  unfold arrV
  congr 1
  apply Array.ext
  · simp
  · intro i h1 h2
    simp at h1
    simp [h i h1]
theorem AEQ.at {x y : AC} (e : AEQ x y) {a : Nat} {H : Heap} (h : va_at g.2.1 CL (a, g_E g x) H) : va_at g.2.1 CL (a, g_E g y) H := by
  unfold AEQ at e
  split at e
  · obtain ⟨rfl, rfl, hf⟩ := e
    have h' : H[a]? = some (vp_cell _ _) := h
    show H[a]? = some (vp_cell _ _)
    rw [h']
    exact congrArg some (arrV_cong fun j hj => congrArg Value.int (hf j hj))
  · obtain ⟨rfl, rfl, hf⟩ := e
    have h' : H[a]? = some (vp_cell _ _) := h
    show H[a]? = some (vp_cell _ _)
    rw [h', vp_cell_q, vp_cell_q]
    exact congrArg some (arrV_cong fun j hj => congrArg va_rf (hf j hj))
  · cases e
    exact h
  · exact e.elim
theorem r_aeq (e : ∀ r, r < z → AEQ (F r) (F' r)) (kk : RJ l g M R TG XP n (hF z g F') k sl pc lv st) : RJ l g M R TG XP n (hF z g F) k sl pc lv st := by
  intro p e1 s m args below meth c H locs ls E hR hS hl
  refine kk p e1 s m args below meth c H locs ls E ⟨hR.1, fun a x hx => ?_, fun a x hx => ?_⟩ hS hl
  · unfold hF at hx
    by_cases c1 : g.1 ≤ a ∧ a < g.1 + z
    · exact c1.1
    · rw [if_neg c1] at hx; cases hx
  · unfold hF at hx
    by_cases c1 : g.1 ≤ a ∧ a < g.1 + z
    · rw [if_pos c1] at hx
      cases hx
      refine (e (a - g.1) (by omega)).at (hR.2.2 a (F (a - g.1)) ?_)
      unfold hF
      rw [if_pos c1]
    · rw [if_neg c1] at hx; cases hx
end CT
