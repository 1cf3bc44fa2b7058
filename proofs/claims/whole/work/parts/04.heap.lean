section HEAP
variable {l : Launch} {g : GX} {M : MT} {R : Room} {TG : TGT} {XP : XPT} {n : Nat} {h h' : AH} {k sl : Nat} {pc : Nat} {lv lv' : List (Nat × Value)} {st : List Value}
theorem r_get {C : String} {T : u_T} {N ci kf index a : Nat} {fs : List Value} {v : Value} (hcl : CL[ci]? = some (C, T, N)) (hin : ∀ w ∈ u_ws C T N, w ∈ tblG) (hk : kf < N) (hw : Cond.fieldLink M.1.cls index (T kf).1 (T kf).2.1 (T kf).2.2.1 ∈ tblG)
    (hd : decode M.2.1 pc = .ok (.getfield index, 3)) (hc : h a = some (.inr (ci, fs))) (hv : fs[kf]? = some v) (kk : RJ l g M R TG XP n h k sl (pc + 3) lv (v :: st)) : RJ l g M R TG XP n h k sl pc lv (.ref a :: st) := by
  intro p e s m args below meth c H locs ls E hR hS hl
  exact va_get (D := g.2.1) E.1 E.2.1 E.2.2.2.2.2.2.1 hin E.2.2.2.2.2.1 E.2.2.2.2.2.2.2.1.1 (va_P1 (hR.2.2 a _ hc)) 0 rfl hcl kf hk (E.2.2.2.2.2.2.1 _ hw) (fun _ h9 => h9) hv hd (kk p e s m args below meth c H locs ls E hR hS hl)
theorem r_getN {C host : String} {T : u_T} {N ci kf index a : Nat} {fs : List Value} {v : Value} (hcl : CL[ci]? = some (C, T, N)) (hin : ∀ w ∈ u_ws C T N, w ∈ tblG) (hk : kf < N) (hw : Cond.fieldLinkNest M.1.cls index (T kf).1 (T kf).2.1 (T kf).2.2.1 host ∈ SPW)
    (hd : decode M.2.1 pc = .ok (.getfield index, 3)) (hc : h a = some (.inr (ci, fs))) (hv : fs[kf]? = some v) (kk : RJ l g M R TG XP n h k sl (pc + 3) lv (v :: st)) : RJ l g M R TG XP n h k sl pc lv (.ref a :: st) := by
  intro p e s m args below meth c H locs ls E hR hS hl
  exact va_getN (D := g.2.1) E.1 E.2.1 E.2.2.2.2.2.2.1 hin E.2.2.2.2.2.1 E.2.2.2.2.2.2.2.1.1 (va_P1 (hR.2.2 a _ hc)) 0 rfl hcl kf hk (va_Nw.use rfl (E.2.2.2.2.2.2.2.1.2 _ hw)) (fun _ h9 => h9) hv hd (kk p e s m args below meth c H locs ls E hR hS hl)
theorem r_put {C : String} {T : u_T} {N ci kf index a : Nat} {fs fs' : List Value} {v : Value} {ty : FieldType} (hcl : CL[ci]? = some (C, T, N)) (hin : ∀ w ∈ u_ws C T N, w ∈ tblG) (ty0 : Nat → FieldType) (hty : ∀ k, k < N → parseFieldDescriptor (T k).2.2.1 = some (ty0 k)) (hnm : ∀ a, a < N → ∀ b, b < N → a ≠ b → (T a).2.1 ≠ (T b).2.1) (hk : kf < N) (hfin : (T kf).2.2.2 = false) (hd0 : ty0 kf = ty) (hw : Cond.fieldLink M.1.cls index (T kf).1 (T kf).2.1 (T kf).2.2.1 ∈ tblG)
    (hd : decode M.2.1 pc = .ok (.putfield index, 3)) (hn : narrow ty v = v) (hfit : fits ty v = true) (hc : h a = some (.inr (ci, fs))) (hlen : kf < fs.length) (hfs : fs.set kf v = fs') (hh : updH h a (.inr (ci, fs')) = h') (kk : RJ l g M R TG XP n h' k sl (pc + 3) lv st) : RJ l g M R TG XP n h k sl pc lv (v :: .ref a :: st) := by
  intro p e s m args below meth c H locs ls E hR hS hl
  have hts := E.2.2.2.2.2.2.1
  have hK := E.2.2.2.2.2.2.2.1.1
  have hap := va_apart (own := M.1.cls) hts hin ty0 hty hnm hK hcl
  obtain ⟨r, h1, cell, q1, q2, q3, q4⟩ := hR.2.2 a _ hc
  have hr : r = (C, T, N) := Option.some.inj (h1.symm.trans hcl)
  subst hr
  obtain ⟨hSl, hfc, kC, hkC, hkind⟩ := hK.1 ci _ hcl
  obtain ⟨cf, kf2, fi, f, hi, hsl⟩ := hSl kf hk
  have hlay := hts _ (hin _ (u_in_lay hk))
  unfold u_lay at hlay
  rw [if_neg (by rw [hfin]; decide)] at hlay
  have hst := (u_facts hfc hkC (u_lays hts hin hk) hi).1
  have h6 := u_store hfc hkC hkind hlay hi (by rw [hty kf hk, hd0]) hn hfit
  refine W.putK E.1 E.2.1 (f := f) ⟨E.2.2.2.2.2.1, hts _ hw, ⟨_, _, _, hi⟩, hst⟩ (by rw [q2]; exact h6) q1 q3 (by rw [hsl]; exact k2_hasslot (q4 kf hk)) rfl rfl hd fun H' e1 e2 e3 => ?_
  rw [hsl] at e1 ⊢
  refine kk p e s m args below meth c H' _ ls E ?_ (hS.put e2 e3 (hR.2.1 a _ hc)) hl
  rw [← hh, ← hfs]
  exact hR.set hc e2 e3 ⟨_, hcl, t_OB.to (V := updV (vp_V fs) kf v) ⟨_, e1, q2, q3, t_set q4 hap hk v⟩ (fun j _ => vp_updV_set hlen v j)⟩
theorem r_putN {C host : String} {T : u_T} {N ci kf index a : Nat} {fs fs' : List Value} {v : Value} {ty : FieldType} (hcl : CL[ci]? = some (C, T, N)) (hin : ∀ w ∈ u_ws C T N, w ∈ tblG) (ty0 : Nat → FieldType) (hty : ∀ k, k < N → parseFieldDescriptor (T k).2.2.1 = some (ty0 k)) (hnm : ∀ a, a < N → ∀ b, b < N → a ≠ b → (T a).2.1 ≠ (T b).2.1) (hk : kf < N) (hfin : (T kf).2.2.2 = false) (hd0 : ty0 kf = ty) (hw : Cond.fieldLinkNest M.1.cls index (T kf).1 (T kf).2.1 (T kf).2.2.1 host ∈ SPW)
    (hd : decode M.2.1 pc = .ok (.putfield index, 3)) (hn : narrow ty v = v) (hfit : fits ty v = true) (hc : h a = some (.inr (ci, fs))) (hlen : kf < fs.length) (hfs : fs.set kf v = fs') (hh : updH h a (.inr (ci, fs')) = h') (kk : RJ l g M R TG XP n h' k sl (pc + 3) lv st) : RJ l g M R TG XP n h k sl pc lv (v :: .ref a :: st) := by
  intro p e s m args below meth c H locs ls E hR hS hl
  have hts := E.2.2.2.2.2.2.1
  have hK := E.2.2.2.2.2.2.2.1.1
  have hap := va_apart (own := M.1.cls) hts hin ty0 hty hnm hK hcl
  obtain ⟨r, h1, cell, q1, q2, q3, q4⟩ := hR.2.2 a _ hc
  have hr : r = (C, T, N) := Option.some.inj (h1.symm.trans hcl)
  subst hr
  obtain ⟨hSl, hfc, kC, hkC, hkind⟩ := hK.1 ci _ hcl
  obtain ⟨cf, kf2, fi, f, hi, hsl⟩ := hSl kf hk
  have hlay := hts _ (hin _ (u_in_lay hk))
  unfold u_lay at hlay
  rw [if_neg (by rw [hfin]; decide)] at hlay
  have hst := (u_facts hfc hkC (u_lays hts hin hk) hi).1
  have h6 := u_store hfc hkC hkind hlay hi (by rw [hty kf hk, hd0]) hn hfit
  refine va_WputK E.1 E.2.1 E.2.2.2.2.2.1 (va_Nw.use rfl (E.2.2.2.2.2.2.2.1.2 _ hw)) hi hst (by rw [q2]; exact h6) q1 q3 (by rw [hsl]; exact k2_hasslot (q4 kf hk)) rfl rfl hd fun H' e1 e2 e3 => ?_
  rw [hsl] at e1 ⊢
  refine kk p e s m args below meth c H' _ ls E ?_ (hS.put e2 e3 (hR.2.1 a _ hc)) hl
  rw [← hh, ← hfs]
  exact hR.set hc e2 e3 ⟨_, hcl, t_OB.to (V := updV (vp_V fs) kf v) ⟨_, e1, q2, q3, t_set q4 hap hk v⟩ (fun j _ => vp_updV_set hlen v j)⟩
theorem r_putF {C : String} {T : u_T} {N ci kf index a : Nat} {fs fs' : List Value} {v : Value} {ty : FieldType} (hcl : CL[ci]? = some (C, T, N)) (hin : ∀ w ∈ u_ws C T N, w ∈ tblG) (ty0 : Nat → FieldType) (hty : ∀ k, k < N → parseFieldDescriptor (T k).2.2.1 = some (ty0 k)) (hnm : ∀ a, a < N → ∀ b, b < N → a ≠ b → (T a).2.1 ≠ (T b).2.1) (hk : kf < N) (hfin : (T kf).2.2.2 = true) (hd0 : ty0 kf = ty) (hw : Cond.fieldLink M.1.cls index (T kf).1 (T kf).2.1 (T kf).2.2.1 ∈ tblG) (hinit : M.1.name = "<init>") (hdecl : (T kf).1 = M.1.cls)
    (hd : decode M.2.1 pc = .ok (.putfield index, 3)) (hn : narrow ty v = v) (hfit : fits ty v = true) (hc : h a = some (.inr (ci, fs))) (hlen : kf < fs.length) (hfs : fs.set kf v = fs') (hh : updH h a (.inr (ci, fs')) = h') (kk : RJ l g M R TG XP n h' k sl (pc + 3) lv st) : RJ l g M R TG XP n h k sl pc lv (v :: .ref a :: st) := by
  intro p e s m args below meth c H locs ls E hR hS hl
  have hts := E.2.2.2.2.2.2.1
  have hown := E.2.2.2.2.2.1
  have hK := E.2.2.2.2.2.2.2.1.1
  have hap := va_apart (own := M.1.cls) hts hin ty0 hty hnm hK hcl
  obtain ⟨r, h1, cell, q1, q2, q3, q4⟩ := hR.2.2 a _ hc
  have hr : r = (C, T, N) := Option.some.inj (h1.symm.trans hcl)
  subst hr
  obtain ⟨hSl, hfc, kC, hkC, hkind⟩ := hK.1 ci _ hcl
  obtain ⟨cf, kf2, fi, f, hi, hsl⟩ := hSl kf hk
  have hlay := hts _ (hin _ (u_in_lay hk))
  unfold u_lay at hlay
  rw [if_pos hfin] at hlay
  have hst := (u_facts hfc hkC (u_lays hts hin hk) hi).1
  have hcf : m.cls = cf := by
    obtain ⟨_, _, c', _, _, _, -, -, hf', -, -, -, hown2, -⟩ := Cond.laysFinal_spec hlay
    have e1 : c' = cf := by have := hi.symm.trans hf'; simp at this; exact this.1.symm
    rw [hdecl] at hown2
    rw [← e1]; exact Option.some.inj (hown.symm.trans hown2)
  have h6 := u_fits hfc hkC hkind (Or.inr hlay) hi (by rw [hty kf hk, hd0]) hn hfit
  refine W.putFinK E.1 E.2.1 hown (hts _ hw) hi hst hcf (E.2.2.2.2.2.2.2.2.1.trans hinit) (by rw [q2]; exact h6) q1 q3 (by rw [hsl]; exact k2_hasslot (q4 kf hk)) rfl rfl hd fun H' e1 e2 e3 => ?_
  rw [hsl] at e1 ⊢
  refine kk p e s m args below meth c H' _ ls E ?_ (hS.put e2 e3 (hR.2.1 a _ hc)) hl
  rw [← hh, ← hfs]
  exact hR.set hc e2 e3 ⟨_, hcl, t_OB.to (V := updV (vp_V fs) kf v) ⟨_, e1, q2, q3, t_set q4 hap hk v⟩ (fun j _ => vp_updV_set hlen v j)⟩
-- arrays: 0 int, 1 boolean, 2 Node, 3 Holding, 4 int[]
def nF (f : Nat → Nat) : Nat → Int32 := fun j => nI (f j)
def bF (f : Nat → Bool) : Nat → Int32 := fun j => b2 (f j)
def upN {α : Type} (f : Nat → α) (j : Nat) (v : α) : Nat → α := fun q => if q = j then v else f q
theorem vp_in_j {j N : Nat} (hj : j < N) (hN : N < 2 ^ 31) : vp_in (nI j) N := vp_in_nI hj hN
theorem TYS_arr {g : GX} {s : State} (hK : KX g s) (t : Nat) {cA : ClassId} {ty : FieldType} (ht : (TYS g)[t]? = some (cA, ty)) : ArrOfT s cA ty := (hK.1.2 t _ ht).1
theorem r_ald {a t j N : Nat} {f : Nat → Int32} (hd : decode M.2.1 pc = .ok (.iaload, 1)) (hc : h a = some (.inl (0, N, .inl f))) (hj : j < N) (hN : N < 2 ^ 31) (kk : RJ l g M R TG XP n h k sl (pc + 1) lv (.int (f j) :: st)) : RJ l g M R TG XP n h k sl pc lv (.int (nI j) :: .ref a :: st) := by
  intro p e s m args below meth c H locs ls E hR hS hl
  refine va_iald (D := g.2.1) E.1 E.2.1 E.2.2.2.2.2.2.2.1.1 (va_P1 (hR.2.2 a _ hc)) 0 0 rfl rfl (vp_in_j hj hN) hd ?_
  rw [nI_clamp (by omega)]
  exact kk p e s m args below meth c H locs ls E hR hS hl
theorem r_aldN {a j N : Nat} {f : Nat → Nat} (hd : decode M.2.1 pc = .ok (.iaload, 1)) (hc : h a = some (.inl (0, N, .inl (nF f)))) (hj : j < N) (hN : N < 2 ^ 31) (kk : RJ l g M R TG XP n h k sl (pc + 1) lv (.int (nI (f j)) :: st)) : RJ l g M R TG XP n h k sl pc lv (.int (nI j) :: .ref a :: st) := r_ald (t := 0) hd hc hj hN kk
theorem r_zldB {a j N : Nat} {f : Nat → Bool} (hd : decode M.2.1 pc = .ok (.baload, 1)) (hc : h a = some (.inl (1, N, .inl (bF f)))) (hj : j < N) (hN : N < 2 ^ 31) (kk : RJ l g M R TG XP n h k sl (pc + 1) lv (.int (b2 (f j)) :: st)) : RJ l g M R TG XP n h k sl pc lv (.int (nI j) :: .ref a :: st) := by
  intro p e s m args below meth c H locs ls E hR hS hl
  refine va_zald (D := g.2.1) E.1 E.2.1 E.2.2.2.2.2.2.2.1.1 (va_P1 (hR.2.2 a _ hc)) 0 1 rfl rfl (vp_in_j hj hN) hd ?_
  rw [nI_clamp (by omega)]
  exact kk p e s m args below meth c H locs ls E hR hS hl
theorem r_qld {a t j N q : Nat} {C : String} {f : Nat → Option Nat} (ht : (TYS g)[t]? = some (g.2.2 t, .object C)) (hd : decode M.2.1 pc = .ok (.aaload, 1)) (hc : h a = some (.inl (t, N, .inr (.inr (.inr (.inr f)))))) (hj : j < N) (hN : N < 2 ^ 31) (hf : f j = some q) (kk : RJ l g M R TG XP n h k sl (pc + 1) lv (.ref q :: st)) : RJ l g M R TG XP n h k sl pc lv (.int (nI j) :: .ref a :: st) := by
  intro p e s m args below meth c H locs ls E hR hS hl
  refine va_aldq (D := g.2.1) E.1 E.2.1 E.2.2.2.2.2.2.2.1.1 (va_P1 (hR.2.2 a _ hc)) 0 t rfl ht (vp_in_j hj hN) hd ?_
  rw [nI_clamp (by omega), hf]
  exact kk p e s m args below meth c H locs ls E hR hS hl
theorem r_gld {a j N q : Nat} {f : Nat → Option Nat} (hd : decode M.2.1 pc = .ok (.aaload, 1)) (hc : h a = some (.inl (4, N, .inr (.inr (.inr (.inr f)))))) (hj : j < N) (hN : N < 2 ^ 31) (hf : f j = some q) (kk : RJ l g M R TG XP n h k sl (pc + 1) lv (.ref q :: st)) : RJ l g M R TG XP n h k sl pc lv (.int (nI j) :: .ref a :: st) := by
  intro p e s m args below meth c H locs ls E hR hS hl
  have hin := vp_in_j hj hN
  have hlt : (nI j).toNatClampNeg < N := by rw [nI_clamp (by omega)]; exact hj
  refine W.aald (v := .ref q) (ty := .array .int) E.1 E.2.1 (hR.2.2 a _ hc) (TYS_arr E.2.2.2.2.2.2.2.1 4 rfl N (fun j => va_rf (f j))) rfl (fun q => by cases q) (by show ¬ (_ ∨ (arrV _ _ _).slots.size ≤ _); rw [arrV_size]; exact hin) (by show (arrV _ _ _).slots[_]? = _; rw [arrV_read _ _ hlt, nI_clamp (by omega), hf]; rfl) rfl rfl hd ?_
  exact kk p e s m args below meth c H locs ls E hR hS hl
theorem r_alen {a t : Nat} {x : vp_A} {ty : FieldType} {v : Int32} (ht : (TYS g)[t]? = some (g.2.2 t, ty)) (hd : decode M.2.1 pc = .ok (.arraylength, 1)) (hc : h a = some (.inl (t, x))) (hv : Int32.ofNat x.1 = v) (kk : RJ l g M R TG XP n h k sl (pc + 1) lv (.int v :: st)) : RJ l g M R TG XP n h k sl pc lv (.ref a :: st) := by
  intro p e s m args below meth c H locs ls E hR hS hl
  exact va_alen (D := g.2.1) E.1 E.2.1 E.2.2.2.2.2.2.2.1.1 (va_P1 (hR.2.2 a _ hc)) 0 t rfl ht hv hd (kk p e s m args below meth c H locs ls E hR hS hl)
theorem r_ast {a j N : Nat} {f f' : Nat → Int32} {x : Int32} (hd : decode M.2.1 pc = .ok (.iastore, 1)) (hc : h a = some (.inl (0, N, .inl f))) (hj : j < N) (hN : N < 2 ^ 31) (hf : upN f j x = f') (hh : updH h a (.inl (0, N, .inl f')) = h') (kk : RJ l g M R TG XP n h' k sl (pc + 1) lv st) : RJ l g M R TG XP n h k sl pc lv (.int x :: .int (nI j) :: .ref a :: st) := by
  intro p e s m args below meth c H locs ls E hR hS hl
  have hin := vp_in_j hj hN
  refine W.iast E.1 E.2.1 (hR.2.2 a _ hc) (TYS_arr E.2.2.2.2.2.2.2.1 0 rfl N (fun j => .int (f j))) (fun q => by cases q) (by show ¬ (_ ∨ (arrV _ _ _).slots.size ≤ _); rw [arrV_size]; exact hin) rfl rfl hd fun H1 e1 z oq => ?_
  refine kk p e s m args below meth c H1 _ ls E ?_ (hS.put z oq (hR.2.1 a _ hc)) hl
  rw [← hh]
  refine hR.set hc z oq ?_
  show H1[a]? = some (vp_cell _ _)
  rw [e1, ← hf]
  show some ((vp_cell (g.2.2 0) (N, .inl f)).setSlot _ _) = some (vp_cell (g.2.2 0) (N, .inl _))
  rw [vp_cell_i, vp_cell_i, arrV_store, nI_clamp (by omega)]
  congr 2
  funext q
  by_cases hq : q = j
  · subst hq
    simp [updV, upN]
  · simp [updV, upN, hq]
theorem r_astN {a j N v : Nat} {f : Nat → Nat} (hd : decode M.2.1 pc = .ok (.iastore, 1)) (hc : h a = some (.inl (0, N, .inl (nF f)))) (hj : j < N) (hN : N < 2 ^ 31) (hh : updH h a (.inl (0, N, .inl (nF (upN f j v)))) = h') (kk : RJ l g M R TG XP n h' k sl (pc + 1) lv st) : RJ l g M R TG XP n h k sl pc lv (.int (nI v) :: .int (nI j) :: .ref a :: st) := by
  refine r_ast hd hc hj hN ?_ hh kk
  funext q
  by_cases hq : q = j <;> simp [upN, nF, hq]
theorem r_zast {a j N : Nat} {f : Nat → Bool} {x : Int32} {b : Bool} (hd : decode M.2.1 pc = .ok (.bastore, 1)) (hx : x = b2 b) (hc : h a = some (.inl (1, N, .inl (bF f)))) (hj : j < N) (hN : N < 2 ^ 31) (hh : updH h a (.inl (1, N, .inl (bF (upN f j b)))) = h') (kk : RJ l g M R TG XP n h' k sl (pc + 1) lv st) : RJ l g M R TG XP n h k sl pc lv (.int x :: .int (nI j) :: .ref a :: st) := by
  intro p e s m args below meth c H locs ls E hR hS hl
  have hin := vp_in_j hj hN
  refine W.zast E.1 E.2.1 (hR.2.2 a _ hc) (TYS_arr E.2.2.2.2.2.2.2.1 1 rfl N (fun j => .int (bF f j))) (fun q => by cases q) (by show ¬ (_ ∨ (arrV _ _ _).slots.size ≤ _); rw [arrV_size]; exact hin) rfl rfl hd fun H1 e1 z oq => ?_
  refine kk p e s m args below meth c H1 _ ls E ?_ (hS.put z oq (hR.2.1 a _ hc)) hl
  rw [← hh]
  refine hR.set hc z oq ?_
  show H1[a]? = some (vp_cell _ _)
  rw [e1]
  show some ((vp_cell (g.2.2 1) (N, .inl (bF f))).setSlot _ _) = some (vp_cell (g.2.2 1) (N, .inl _))
  rw [vp_cell_i, vp_cell_i, arrV_store, nI_clamp (by omega)]
  congr 2
  funext q
  by_cases hq : q = j
  · subst hq hx
    cases b <;> simp [updV, upN, bF, b2] <;> rfl
  · simp [updV, upN, hq, bF]
theorem r_qst {a t j N ci v : Nat} {C : String} {T : u_T} {N2 : Nat} {f f' : Nat → Option Nat} {vs : List Value} (ht : (TYS g)[t]? = some (g.2.2 t, .object C)) (hcl : CL[ci]? = some (C, T, N2)) (hd : decode M.2.1 pc = .ok (.aastore, 1)) (hc : h a = some (.inl (t, N, .inr (.inr (.inr (.inr f)))))) (hv : h v = some (.inr (ci, vs))) (hj : j < N) (hN : N < 2 ^ 31) (hf : upN f j (some v) = f') (hh : updH h a (.inl (t, N, .inr (.inr (.inr (.inr f'))))) = h') (kk : RJ l g M R TG XP n h' k sl (pc + 1) lv st) : RJ l g M R TG XP n h k sl pc lv (.ref v :: .int (nI j) :: .ref a :: st) := by
  intro p e s m args below meth c H locs ls E hR hS hl
  have hin := vp_in_j hj hN
  have hlt : (nI j).toNatClampNeg < N := by rw [nI_clamp (by omega)]; exact hj
  have h0 : ¬ nI j < 0 := fun q => hin (Or.inl q)
  have hK := E.2.2.2.2.2.2.2.1.1
  obtain ⟨r', hr', cellV, g1, g2, g3, -⟩ := hR.2.2 v _ hv
  have hcls := (hK.1 ci _ hcl).2
  obtain ⟨kA, comp, k1, k2, k3, -⟩ := (hK.2 t _ ht).2
  have hcomp : comp = g.2.1.1 ci := Option.some.inj (k3.symm.trans hcls.1)
  subst hcomp
  obtain ⟨kC, hkC, -⟩ := hcls.2
  refine W.aast E.1 E.2.1 (hR.2.2 a _ hc) (fun q h => by cases h) (fun h => by cases h) k1 k2 rfl hkC ⟨h0, by show _ < (arrV _ _ _).slots.size; rw [arrV_size]; exact hlt⟩ g1 (fun q h => by rw [g3] at h; cases h) (by rw [g2]; exact hkC) (by rw [g2]; exact va_assign hcls) rfl rfl hd fun H1 e1 z oq => ?_
  refine kk p e s m args below meth c H1 _ ls E ?_ (hS.put z oq (hR.2.1 a _ hc)) hl
  rw [← hh]
  refine hR.set hc z oq ?_
  show H1[a]? = some (vp_cell _ _)
  rw [e1, ← hf]
  show some ((vp_cell (g.2.2 t) (N, .inr (.inr (.inr (.inr f))))).setSlot _ _) = some (vp_cell (g.2.2 t) (N, .inr (.inr (.inr (.inr _)))))
  rw [vp_cell_q, vp_cell_q, arrV_store, nI_clamp (by omega)]
  congr 2
  funext q
  by_cases hq : q = j
  · subst hq
    simp [updV, upN, va_rf]
  · simp [updV, upN, hq]
end HEAP
