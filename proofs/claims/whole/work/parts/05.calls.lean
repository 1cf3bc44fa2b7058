section CALLS
variable {l : Launch} {g : GX} {M : MT} {R : Room} {TG : TGT} {XP : XPT} {n : Nat} {h h' : AH} {k sl : Nat} {pc : Nat} {lv lv' : List (Nat × Value)} {st : List Value}
theorem pc_blind {g : GX} {n : Nat} {h : AH} {As : List Value} : FrameBlind (va_Pc As (fun U => HR g n h U.heap ∧ KX g U)) := fun a U gf mk q => ⟨q.1, q.2.1, KX.moved (U := U.calling gf mk a) (State.WarmedH.refl U) q.2.2⟩
/-- behind a call -/
theorem r_back {M' : MT} {mc ms n' : Nat} {h' : AH} {r : Option Value} {a : Array Value} {p : Program} {e : Env} {s : State} {m : MethodId} {args : Array Value} {below : List Frame} {meth : Method} {c : Code} {H : Heap} {locs : List Loc} {ls : Array Slot} {st0 : List Value}
    (E : EVX g M XP p s m args meth c) (hS : va_S (fun q : Nat => g.1 ≤ q) s.heap H locs) (hl : lv_has ls M.2.2.1 lv) (hH : g.1 ≤ H.size)
    (hr : va_Run p l e R s m args below meth c H locs k sl mc ms (F0 m pc ls st0) st (QX g (QE r n' h') a) (fun q : Nat => g.1 ≤ q))
    (kk : RJ l g M R TG XP n' h' (k + mc) (sl + ms) (pc + 3) lv (r.toList ++ st)) : W p l e R s m args below meth c H locs k sl (TG args s below) (F0 m pc ls st0) := by
  intro T hT X
  obtain ⟨v, st₀, t, T', L, h0, X', hL, e1, e2, ⟨v2, n2, h2, hv, ⟨q1, q2, q3⟩, hR2, hz, hk⟩, stp⟩ := hr T hT X
  cases hv
  subst q1 q2 q3
  rw [h0] at hz hk
  obtain ⟨t2, a1, b1⟩ := kk p e s m args below meth c T'.heap (locs ++ L) ls E (by rw [e1]; exact hR2)
    ⟨Nat.le_trans hS.1 (by rw [e1]; exact hz), fun q h1 h2 => by rw [e1, hk q (Nat.lt_of_lt_of_le h1 hS.1) h2]; exact hS.2.1 q h1 h2, fun q hq => by
      rcases List.mem_append.mp hq with h | h
      · exact hS.2.2 q h
      · exact hL q h⟩ hl T' rfl X'
  exact ⟨t2, stp t2 a1, b1⟩
theorem cw_in {M' : MT} (hc : Cond.code M'.1 M'.2.1 M'.2.2.1 M'.2.2.2 ∈ tblG) : GoodIn tblG (Cond.code M'.1 M'.2.1 M'.2.2.1 M'.2.2.2 :: tblG) := gi_cons hc gi_tbl
theorem r_cV {M' : MT} {index d' mc' ms' b n' np ci : Nat} {As : List Value} {fs : List Value} {r : Option Value} {stk : List Value} {q : vw_C} (hM : CE l g M' d' mc' ms' (.ref b :: As) n h r n' h')
    (w1 : Cond.methodLink M.1.cls index M'.1 ∈ tblG) (w2 : Cond.instanceMethod M'.1 ∈ tblG) (w3 : Cond.selects M'.1.cls M'.1 M'.1 ∈ tblG) (w4 : Cond.initialized M'.1.cls ∈ tblG) (w5 : Cond.code M'.1 M'.2.1 M'.2.2.1 M'.2.2.2 ∈ tblG)
    (hy : M'.1.cls ≠ "java/lang/invoke/MethodHandle" ∧ M'.1.cls ≠ "java/lang/invoke/VarHandle" ∧ (parseMethodDescriptor M'.1.desc).map (fun d => d.parameters.length) = some np) (hn : As.length = np)
    (hd : decode M.2.1 pc = .ok (.invokevirtual index, 3)) (hcl : CL[ci]? = some q) (hC : q.1 = M'.1.cls) (hb : h b = some (.inr (ci, fs))) (hR0 : d' + 1 ≤ R.frames ∧ 8 + (M'.2.2.1 + 11) + 36 * d' ≤ R.locals) (hcells : k + mc' ≤ R.cells ∧ sl + ms' ≤ R.slots)
    (hs : As.reverse ++ .ref b :: st = stk) (hst : (st.map fun v => v.category).sum ≤ 8) (kk : RJ l g M R TG XP n' h' (k + mc') (sl + ms') (pc + 3) lv (r.toList ++ st)) : RJ l g M R TG XP n h k sl pc lv stk := by
  intro p e s m args below meth c H locs ls E hR hS hl
  subst hs
  have hts := E.2.2.2.2.2.2.1
  have hK := E.2.2.2.2.2.2.2.1
  have cw : CallW R s args M.1.cls M'.1.cls index M'.1 M'.2.1 M'.2.2.1 M'.2.2.2 (Cond.code M'.1 M'.2.1 M'.2.2.1 M'.2.2.2 :: tblG) (RMX d' mc' ms') mc' ms' np :=
    cwV np hts (fun w hw => by
      rcases List.mem_append.mp hw with h | h
      · rcases List.mem_cons.mp h with e | h
        · rw [e]; exact gi_tbl _ w1
        · rcases List.mem_cons.mp h with e | h
          · rw [e]; exact gi_tbl _ w2
          · rcases List.mem_cons.mp h with e | h
            · rw [e]; exact gi_tbl _ w3
            · rcases List.mem_cons.mp h with e | h
              · rw [e]; exact gi_tbl _ w4
              · cases h
      · exact cw_in w5 w h) rfl rfl rfl ⟨rfl, hy⟩ hR0
  refine r_back (M' := M') E hS hl (Nat.le_trans E.2.2.2.2.2.2.2.2.2.1 hS.1) (va_runV (As := As) (b := b) (rest := st) ⟨E.1, E.2.1, E.2.2.1, E.2.2.2.2.2.1, hts⟩ hM cw ⟨pc_blind, ?_, ?_⟩ rfl hn hl.1 rfl (lv_room hst) hd hcells) kk
  · have hh := va_recv hK.1 (va_P1 (hR.2.2 b _ hb)) hcl (q0 := 0) rfl
    rw [hC] at hh
    exact hh
  · intro U hU hW
    exact ⟨rfl, by rw [hU]; exact hR, KX.moved hW hK⟩
theorem r_cS {M' : MT} {index d' mc' ms' n' np : Nat} {As : List Value} {r : Option Value} {stk : List Value} (hM : CE l g M' d' mc' ms' As n h r n' h')
    (w1 : Cond.methodLink M.1.cls index M'.1 ∈ tblG) (w2 : Cond.static M'.1 ∈ tblG) (w4 : Cond.initialized M.1.cls ∈ tblG) (w5 : Cond.code M'.1 M'.2.1 M'.2.2.1 M'.2.2.2 ∈ tblG)
    (hy : M'.1.cls = M.1.cls ∧ M'.1.cls ≠ "java/lang/invoke/MethodHandle" ∧ M'.1.cls ≠ "java/lang/invoke/VarHandle" ∧ (parseMethodDescriptor M'.1.desc).map (fun d => d.parameters.length) = some np) (hn : As.length = np)
    (hd : decode M.2.1 pc = .ok (.invokestatic index, 3)) (hR0 : d' + 1 ≤ R.frames ∧ 8 + (M'.2.2.1 + 11) + 36 * d' ≤ R.locals) (hcells : k + mc' ≤ R.cells ∧ sl + ms' ≤ R.slots)
    (hs : As.reverse ++ st = stk) (hst : (st.map fun v => v.category).sum ≤ 8) (kk : RJ l g M R TG XP n' h' (k + mc') (sl + ms') (pc + 3) lv (r.toList ++ st)) : RJ l g M R TG XP n h k sl pc lv stk := by
  intro p e s m args below meth c H locs ls E hR hS hl
  subst hs
  have hts := E.2.2.2.2.2.2.1
  have hK := E.2.2.2.2.2.2.2.1
  have cw : CallB R s args M.1.cls index M'.1 M'.2.1 M'.2.2.1 M'.2.2.2 (Cond.code M'.1 M'.2.1 M'.2.2.1 M'.2.2.2 :: tblG) (RMX d' mc' ms') mc' ms' np ∧ (Cond.static M'.1).before args s = true :=
    cwS np hts (fun w hw => by
      rcases List.mem_append.mp hw with h | h
      · rcases List.mem_cons.mp h with e | h
        · rw [e]; exact gi_tbl _ w1
        · rcases List.mem_cons.mp h with e | h
          · rw [e]; exact gi_tbl _ w2
          · rcases List.mem_cons.mp h with e | h
            · rw [e]; exact gi_tbl _ w4
            · cases h
      · exact cw_in w5 w h) rfl rfl rfl hy hR0
  refine r_back (M' := M') E hS hl (Nat.le_trans E.2.2.2.2.2.2.2.2.2.1 hS.1) (va_runS (As := As) (rest := st) ⟨E.1, E.2.1, E.2.2.1, E.2.2.2.2.2.1, hts⟩ hM cw ⟨pc_blind, ?_⟩ rfl hn hl.1 rfl (lv_room hst) hd hcells) kk
  intro U hU hW
  exact ⟨rfl, by rw [hU]; exact hR, KX.moved hW hK⟩
theorem r_cSN {M' : MT} {host : String} {index d' mc' ms' n' np : Nat} {As : List Value} {r : Option Value} {stk : List Value} (hM : CE l g M' d' mc' ms' As n h r n' h')
    (w1 : Cond.methodLinkNest M.1.cls index M'.1 host ∈ SPW) (w2 : Cond.static M'.1 ∈ tblG) (w4 : Cond.initialized M'.1.cls ∈ tblG) (w5 : Cond.code M'.1 M'.2.1 M'.2.2.1 M'.2.2.2 ∈ tblG)
    (hy : M'.1.cls ≠ "java/lang/invoke/MethodHandle" ∧ M'.1.cls ≠ "java/lang/invoke/VarHandle" ∧ (parseMethodDescriptor M'.1.desc).map (fun d => d.parameters.length) = some np) (hn : As.length = np)
    (hd : decode M.2.1 pc = .ok (.invokestatic index, 3)) (hR0 : d' + 1 ≤ R.frames ∧ 8 + (M'.2.2.1 + 11) + 36 * d' ≤ R.locals) (hcells : k + mc' ≤ R.cells ∧ sl + ms' ≤ R.slots)
    (hs : As.reverse ++ st = stk) (hst : (st.map fun v => v.category).sum ≤ 8) (kk : RJ l g M R TG XP n' h' (k + mc') (sl + ms') (pc + 3) lv (r.toList ++ st)) : RJ l g M R TG XP n h k sl pc lv stk := by
  intro p e s m args below meth c H locs ls E hR hS hl
  subst hs
  have hts := E.2.2.2.2.2.2.1
  have hK := E.2.2.2.2.2.2.2.1
  have cn := va_cnB (R := R) (s := s) (args := args) (rm := RMX d' mc' ms') (mc := mc') (ms := ms') np hts (cw_in w5) rfl rfl rfl (hK.2 _ w1) (hts _ w4) hy hR0
  refine r_back (M' := M') E hS hl (Nat.le_trans E.2.2.2.2.2.2.2.2.2.1 hS.1) (va_runSN (As := As) (rest := st) ⟨E.1, E.2.1, E.2.2.1, E.2.2.2.2.2.1, hts⟩ hM ⟨cn, hts _ w2, trivial⟩ ⟨pc_blind, ?_⟩ rfl hn hl.1 rfl (lv_room hst) hd hcells) kk
  intro U hU hW
  exact ⟨rfl, by rw [hU]; exact hR, KX.moved hW hK⟩
theorem r_cI {M' : MT} {index d' mc' ms' b n' np : Nat} {As : List Value} {r : Option Value} {stk : List Value} (hM : CE l g M' d' mc' ms' (.ref b :: As) n h r n' h') (hret : M'.2.2.2 = none) (hnm : M'.1.name = "<init>")
    (w1 : Cond.methodLink M.1.cls index M'.1 ∈ tblG) (w2 : Cond.instanceMethod M'.1 ∈ tblG) (w4 : Cond.initialized M'.1.cls ∈ tblG) (w5 : Cond.code M'.1 M'.2.1 M'.2.2.1 M'.2.2.2 ∈ tblG)
    (hy : M'.1.cls ≠ "java/lang/invoke/MethodHandle" ∧ M'.1.cls ≠ "java/lang/invoke/VarHandle" ∧ (parseMethodDescriptor M'.1.desc).map (fun d => d.parameters.length) = some np) (hn : As.length = np)
    (hd : decode M.2.1 pc = .ok (.invokespecial index, 3)) (hR0 : d' + 1 ≤ R.frames ∧ 8 + (M'.2.2.1 + 11) + 36 * d' ≤ R.locals) (hcells : k + mc' ≤ R.cells ∧ sl + ms' ≤ R.slots)
    (hs : As.reverse ++ .ref b :: st = stk) (hst : (st.map fun v => v.category).sum ≤ 8) (kk : RJ l g M R TG XP n' h' (k + mc') (sl + ms') (pc + 3) lv (r.toList ++ st)) : RJ l g M R TG XP n h k sl pc lv stk := by
  intro p e s m args below meth c H locs ls E hR hS hl
  subst hs
  have hts := E.2.2.2.2.2.2.1
  have hK := E.2.2.2.2.2.2.2.1
  have w5' := w5
  rw [hret] at w5'
  have cb : CallB R s args M.1.cls index M'.1 M'.2.1 M'.2.2.1 none (Cond.code M'.1 M'.2.1 M'.2.2.1 M'.2.2.2 :: tblG) (RMX d' mc' ms') mc' ms' np :=
    callB_of np hts (cw_in w5) (by rw [hret]) rfl rfl (hts _ w4) (hts _ w1) hy hR0
  refine r_back (M' := M') E hS hl (Nat.le_trans E.2.2.2.2.2.2.2.2.2.1 hS.1) (va_runI (As := As) (b := b) (rest := st) ⟨E.1, E.2.1, E.2.2.1, E.2.2.2.2.2.1, hts⟩ hM ⟨cb, hnm, hts _ w2⟩ ⟨pc_blind, ?_⟩ rfl hn hl.1 rfl (lv_room hst) hd hcells) kk
  intro U hU hW
  exact ⟨rfl, by rw [hU]; exact hR, KX.moved hW hK⟩
theorem r_cIN {M' : MT} {host : String} {index d' mc' ms' b n' np : Nat} {As : List Value} {r : Option Value} {stk : List Value} (hM : CE l g M' d' mc' ms' (.ref b :: As) n h r n' h') (hret : M'.2.2.2 = none) (hnm : M'.1.name = "<init>")
    (w1 : Cond.methodLinkNest M.1.cls index M'.1 host ∈ SPW) (w2 : Cond.instanceMethod M'.1 ∈ tblG) (w4 : Cond.initialized M'.1.cls ∈ tblG) (w5 : Cond.code M'.1 M'.2.1 M'.2.2.1 M'.2.2.2 ∈ tblG)
    (hy : M'.1.cls ≠ "java/lang/invoke/MethodHandle" ∧ M'.1.cls ≠ "java/lang/invoke/VarHandle" ∧ (parseMethodDescriptor M'.1.desc).map (fun d => d.parameters.length) = some np) (hn : As.length = np)
    (hd : decode M.2.1 pc = .ok (.invokespecial index, 3)) (hR0 : d' + 1 ≤ R.frames ∧ 8 + (M'.2.2.1 + 11) + 36 * d' ≤ R.locals) (hcells : k + mc' ≤ R.cells ∧ sl + ms' ≤ R.slots)
    (hs : As.reverse ++ .ref b :: st = stk) (hst : (st.map fun v => v.category).sum ≤ 8) (kk : RJ l g M R TG XP n' h' (k + mc') (sl + ms') (pc + 3) lv (r.toList ++ st)) : RJ l g M R TG XP n h k sl pc lv stk := by
  intro p e s m args below meth c H locs ls E hR hS hl
  subst hs
  have hts := E.2.2.2.2.2.2.1
  have hK := E.2.2.2.2.2.2.2.1
  have cn := va_cnB (R := R) (s := s) (args := args) (rm := RMX d' mc' ms') (mc := mc') (ms := ms') np hts (cw_in w5) (ret := none) (by rw [hret]) rfl rfl (hK.2 _ w1) (hts _ w4) hy hR0
  refine r_back (M' := M') E hS hl (Nat.le_trans E.2.2.2.2.2.2.2.2.2.1 hS.1) (va_runIN (As := As) (b := b) (rest := st) ⟨E.1, E.2.1, E.2.2.1, E.2.2.2.2.2.1, hts⟩ hM ⟨cn, hnm, hts _ w2⟩ ⟨pc_blind, ?_⟩ rfl hn hl.1 rfl (lv_room hst) hd hcells) kk
  intro U hU hW
  exact ⟨rfl, by rw [hU]; exact hR, KX.moved hW hK⟩
-- returns
theorem qx_of {g : GX} {s t : State} {H : Heap} {locs : List Loc} {v : Option Value} {Q : Option Value → Nat → AH → Prop} {args : Array Value} (hR : HR g n h H) (hS : va_S (fun q : Nat => g.1 ≤ q) s.heap H locs) (hQ : Q v n h) (ht : t.heap = H) : QX g Q args s (.returned v) t :=
  ⟨v, n, h, rfl, hQ, by rw [ht]; exact hR, hS.F ht⟩
theorem r_ireturn {Q : Option Value → Nat → AH → Prop} {x : Int32} {ty : FieldType} (hd : decode M.2.1 pc = .ok (.ireturn, 1)) (hr : M.2.2.2 = some ty) (hn : narrow ty (.int x) = .int x) (hQ : Q (some (.int x)) n h) : RJ l g M R (TQ g k sl Q) XP n h k sl pc lv [.int x] := by
  intro p e s m args below meth c H locs ls E hR hS hl
  exact W.zret E.1 E.2.1 (E.2.2.2.1.trans hr) hn (fun t ht _ => qx_of hR hS hQ ht) hS.2.2 hd E.2.2.2.2.1
theorem r_lreturn {Q : Option Value → Nat → AH → Prop} {x : Int64} (hd : decode M.2.1 pc = .ok (.lreturn, 1)) (hr : M.2.2.2 = some .long) (hQ : Q (some (.long x)) n h) : RJ l g M R (TQ g k sl Q) XP n h k sl pc lv [.long x] := by
  intro p e s m args below meth c H locs ls E hR hS hl
  exact W.lret E.1 E.2.1 (E.2.2.2.1.trans hr) (fun t ht _ => qx_of hR hS hQ ht) hS.2.2 hd E.2.2.2.2.1
theorem r_return {Q : Option Value → Nat → AH → Prop} (hd : decode M.2.1 pc = .ok (.return_, 1)) (hr : M.2.2.2 = none) (hQ : Q none n h) : RJ l g M R (TQ g k sl Q) XP n h k sl pc lv [] := by
  intro p e s m args below meth c H locs ls E hR hS hl
  exact W.vret E.1 E.2.1 (E.2.2.2.1.trans hr) (fun t ht _ => qx_of hR hS hQ ht) hS.2.2 hd E.2.2.2.2.1
-- making
theorem r_objInit {idx a : Nat} (hd : decode M.2.1 pc = .ok (.invokespecial idx, 3)) (w1 : Cond.methodLink M.1.cls idx Lib.objectInit ∈ tblG) (w2 : Cond.instanceMethod Lib.objectInit ∈ tblG) (w3 : Cond.code Lib.objectInit ⟨#[0xb1]⟩ 1 none ∈ tblG) (hR0 : 1 ≤ R.frames ∧ (st.map fun v => v.category).sum + 12 ≤ R.locals)
    (kk : RJ l g M R TG XP n h k sl (pc + 3) lv st) : RJ l g M R TG XP n h k sl pc lv (.ref a :: st) := by
  intro p e s m args below meth c H locs ls E hR hS hl
  have hts := E.2.2.2.2.2.2.1
  refine W.objInit (a := a) (rest := st) E.1 E.2.1 E.2.2.2.2.2.1 (hts _ w1) (hts _ w2) (hts _ w3) rfl (by rw [E.2.2.1]; exact hl.1) rfl hd hR0.1 (by show 2 * 0 + _ + 12 ≤ _; omega) ?_
  exact kk p e s m args below meth c H locs ls E hR hS hl
theorem r_new {C : String} {T : u_T} {N ci index : Nat} {fs : List Value} (hcl : CL[ci]? = some (C, T, N)) (hin : ∀ w ∈ u_ws C T N, w ∈ tblG) (ty : Nat → FieldType) (hty : ∀ k, k < N → parseFieldDescriptor (T k).2.2.1 = some (ty k)) (w1 : Cond.classLink M.1.cls index C ∈ tblG) (w2 : Cond.instantiable C N ∈ tblG) (w3 : Cond.initialized C ∈ tblG) (hfs : ∀ j, j < N → defaultValue (ty j) = vp_V fs j)
    (hd : decode M.2.1 pc = .ok (.new index, 3)) (hcells : k + 1 ≤ R.cells ∧ sl + N ≤ R.slots) (hh : updH h (g.1 + n) (.inr (ci, fs)) = h') (kk : RJ l g M R TG XP (n + 1) h' (k + 1) (sl + N) (pc + 3) lv (.ref (g.1 + n) :: st)) : RJ l g M R TG XP n h k sl pc lv st := by
  intro p e s m args below meth c H locs ls E hR hS hl
  have hts := E.2.2.2.2.2.2.1
  have hK := E.2.2.2.2.2.2.2.1.1
  have hKn := hK.1 ci _ hcl
  refine W.newcK E.1 E.2.1 E.2.2.2.2.2.1 (hts _ w1) (hts _ w2) (hts _ w3) rfl hd hcells.1 hcells.2 hKn.2.1 rfl fun H1 kC hkC e1 z1 o1 => ?_
  rw [hR.1]
  refine kk p e s m args below meth c H1 locs ls E ?_ ⟨Nat.le_trans hS.1 (by omega), fun q h1 h2 => (o1 q (Nat.lt_of_lt_of_le h1 hS.1)).trans (hS.2.1 q h1 h2), hS.2.2⟩ hl
  rw [← hh]
  exact hR.push z1 o1 ⟨_, hcl, (u_born ty hts hin hKn hkC e1 hty).to hfs⟩
theorem r_newarr {t N : Nat} {atype : ArrayType} {ty : FieldType} {x : Int32} {f : Nat → Int32} (ht : (TYS g)[t]? = some (g.2.2 t, ty)) (hty : newarray.typeOf atype = ty) (hno : ∀ C, ty ≠ .object C) (w1 : Cond.arrayClass ty ∈ tblG) (hd : decode M.2.1 pc = .ok (.newarray atype, 2)) (hx : x = nI N) (hN : N < 65536) (hb : componentBytes ty ≤ 8) (hz : ∀ j, defaultValue ty = .int (f j)) (hcells : k + 1 ≤ R.cells ∧ sl + N ≤ R.slots)
    (hh : updH h (g.1 + n) (.inl (t, N, .inl f)) = h') (kk : RJ l g M R TG XP (n + 1) h' (k + 1) (sl + N) (pc + 2) lv (.ref (g.1 + n) :: st)) : RJ l g M R TG XP n h k sl pc lv (.int x :: st) := by
  intro p e s m args below meth c H locs ls E hR hS hl
  subst hty hx
  have hts := E.2.2.2.2.2.2.1
  have hK := E.2.2.2.2.2.2.2.1.1
  refine va_newaK E.1 E.2.1 (hts _ w1) rfl hd (N := N) rfl (nI_pos (by omega)) (nI_clamp (by omega)) (Nat.le_trans (Nat.mul_le_mul_left N hb) (by omega)) hcells.1 hcells.2 rfl fun H1 cA e1 z1 o1 hAr hNm => ?_
  have hcA : cA = g.2.2 t := by
    have h2 := (hK.2 t _ ht).2
    have h3 : s.vm.findClass ("[" ++ (newarray.typeOf atype).toString) = some (g.2.2 t) := by
      cases atype <;> exact h2
    exact Option.some.inj (hNm.symm.trans h3)
  subst hcA
  rw [hR.1]
  refine kk p e s m args below meth c H1 locs ls E ?_ ⟨Nat.le_trans hS.1 (by omega), fun q h1 h2 => (o1 q (Nat.lt_of_lt_of_le h1 hS.1)).trans (hS.2.1 q h1 h2), hS.2.2⟩ hl
  rw [← hh]
  refine hR.push z1 o1 ?_
  show H1[H.size]? = some (arrV (g.2.2 t) N (fun j => .int (f j)))
  rw [e1]
  congr 2
  funext j
  exact hz j
theorem r_anew {t N index : Nat} {C : String} {x : Int32} (ht : (TYS g)[t]? = some (g.2.2 t, .object C)) (w1 : Cond.classLink M.1.cls index C ∈ tblG) (w2 : Cond.arrayOver (.object C) ∈ SPW) (hd : decode M.2.1 pc = .ok (.anewarray index, 3)) (hx : x = nI N) (hN : N < 65536) (hcells : k + 1 ≤ R.cells ∧ sl + N ≤ R.slots)
    (hh : updH h (g.1 + n) (.inl (t, N, .inr (.inr (.inr (.inr (fun _ => none)))))) = h') (kk : RJ l g M R TG XP (n + 1) h' (k + 1) (sl + N) (pc + 3) lv (.ref (g.1 + n) :: st)) : RJ l g M R TG XP n h k sl pc lv (.int x :: st) := by
  intro p e s m args below meth c H locs ls E hR hS hl
  subst hx
  have hts := E.2.2.2.2.2.2.1
  have hK := E.2.2.2.2.2.2.2.1
  have hcl : (nI N).toNatClampNeg = N := nI_clamp (by omega)
  refine W.anew E.1 E.2.1 E.2.2.2.2.2.1 (hts _ w1) (va_AO.use (hK.2 _ w2)) rfl hd rfl (nI_pos (by omega)) (by rw [hcl]; omega) hcells.1 (by rw [hcl]; exact hcells.2) fun cA kA comp f1 f2 f3 f4 => ?_
  have hcA : cA = g.2.2 t := by
    obtain ⟨kA2, comp2, k1, k2, k3, k4⟩ := (hK.1.2 t _ ht).2
    exact Option.some.inj (by first | exact f4.symm.trans k4 | exact f1.symm.trans k4 | exact (f3.symm.trans k4))
  subst hcA
  rw [hcl, hR.1]
  refine kk p e s m args below meth c _ locs ls E ?_ ⟨Nat.le_trans hS.1 (by simp), fun q h1 h2 => (by rw [Array.getElem?_push, if_neg (Nat.ne_of_lt (Nat.lt_of_lt_of_le h1 hS.1))]; exact hS.2.1 q h1 h2), hS.2.2⟩ hl
  rw [← hh]
  refine hR.push (by simp) (fun q hq => by rw [Array.getElem?_push, if_neg (Nat.ne_of_lt hq)]) ?_
  show _ = some (arrV (g.2.2 t) N (fun j => va_rf none))
  rw [Array.getElem?_push_size]
  rw [show (fun j : Nat => va_rf none) = (fun _ : Nat => Value.null) from rfl, ← arrV_new]
-- the library's own
theorem r_min {index : Nat} {x y : Int32} (hd : decode M.2.1 pc = .ok (.invokestatic index, 3)) (w1 : Cond.methodLink M.1.cls index Lib.Math.min.name ∈ tblG) (w2 : Cond.static Lib.Math.min.name ∈ tblG) (w3 : Cond.initialized "java/lang/Math" ∈ tblG) (w4 : Cond.code Lib.Math.min.name Lib.Math.min.code 2 (some .int) ∈ tblG) (hR0 : 1 ≤ R.frames ∧ (st.map fun v => v.category).sum + 13 ≤ R.locals) (hcells : k ≤ R.cells ∧ sl ≤ R.slots)
    (kk : RJ l g M R TG XP n h k sl (pc + 3) lv (.int (if y < x then y else x) :: st)) : RJ l g M R TG XP n h k sl pc lv (.int y :: .int x :: st) := by
  intro p e s m args below meth c H locs ls E hR hS hl
  have hts := E.2.2.2.2.2.2.1
  exact va_mmin E.1 E.2.1 (by rw [E.2.2.1]; exact hl.1.symm) E.2.2.2.2.2.1 (hts _ w1) (hts _ w2) (hts _ w3) (hts _ w4) hR0.1 hR0.2 hcells.1 hcells.2 hd (kk p e s m args below meth c H locs ls E hR hS hl)
theorem r_acopy {index a0 a n0 n1 sp dp cn : Nat} {f f1 f2 : Nat → Int32} (hd : decode M.2.1 pc = .ok (.invokestatic index, 3)) (w1 : Cond.methodLink M.1.cls index arraycopyName ∈ tblG) (w2 : Cond.native arraycopyName ∈ tblG) (w3 : Cond.static arraycopyName ∈ tblG) (w4 : Cond.initialized "java/lang/System" ∈ tblG) (hc0 : h a0 = some (.inl (0, n0, .inl f))) (hc1 : h a = some (.inl (0, n1, .inl f1)))
    (hb : sp + cn ≤ n0 ∧ dp + cn ≤ n1 ∧ sp < 65536 ∧ dp < 65536 ∧ cn < 65536) (hR0 : 1 ≤ R.frames ∧ (st.map fun v => v.category).sum + (nativeFrameWords "java/lang/System" "arraycopy" 5 + 11) ≤ R.locals)
    (hf : va_cpy f f1 sp dp cn = f2) (hh : updH h a (.inl (0, n1, .inl f2)) = h') (kk : RJ l g M R TG XP n h' k sl (pc + 3) lv st) : RJ l g M R TG XP n h k sl pc lv (.int (nI cn) :: .int (nI dp) :: .ref a :: .int (nI sp) :: .ref a0 :: st) := by
  intro p e s m args below meth c H locs ls E hR hS hl
  have hts := E.2.2.2.2.2.2.1
  obtain ⟨b1, b2, b3, b4, b5⟩ := hb
  have c1 : (nI sp).toNatClampNeg = sp := nI_clamp (by omega)
  have c2 : (nI dp).toNatClampNeg = dp := nI_clamp (by omega)
  have c3 : (nI cn).toNatClampNeg = cn := nI_clamp (by omega)
  intro T hT X
  have g0 : H[a0]? = some (vp_cell (g.2.2 0) (n0, .inl f)) := hR.2.2 a0 _ hc0
  have g1 : H[a]? = some (vp_cell (g.2.2 0) (n1, .inl f1)) := hR.2.2 a _ hc1
  have hA := TYS_arr E.2.2.2.2.2.2.2.1 0 rfl
  obtain ⟨-, k0, hk0, cm0, hkk0⟩ := hA n0 (fun j => .int (f j))
  obtain ⟨-, k1, hk1, cm1, hkk1⟩ := hA n1 (fun j => .int (f1 j))
  have nn : ∀ z : Nat, z < 65536 → (nI z).toInt = (z : Int) := fun z hz => nI_toInt (by omega)
  obtain ⟨vm', X', step⟩ := X.arraycopy E.1 E.2.2.2.2.2.1 (hts _ w1) (hts _ w2) (hts _ w3) (hts _ w4) (src := a0) (dst := a) (cs := vp_cell (g.2.2 0) (n0, .inl f)) (cd := vp_cell (g.2.2 0) (n1, .inl f1)) (srcPos := nI sp) (destPos := nI dp) (n := nI cn) (by rw [hT]; exact g0) (by rw [hT]; exact g1)
    (fun _ h => by cases h) (fun _ h => by cases h) (fun h => by cases h) (fun h => by cases h) hk0 hk1 hkk0 hkk1 (by simp [refKind]) (nI_pos (by omega)) (nI_pos (by omega)) (nI_pos (by omega))
    (by rw [nn sp b3, nn cn b5]; show ¬ _ > ((arrV (g.2.2 0) n0 (fun j => .int (f j))).slots.size : Int); rw [arrV_size]; omega)
    (by rw [nn dp b4, nn cn b5]; show ¬ _ > ((arrV (g.2.2 0) n1 (fun j => .int (f1 j))).slots.size : Int); rw [arrV_size]; omega)
    (fun vm₁ _ i hi => by
      rw [c3] at hi
      have e : (vp_cell (g.2.2 0) (n0, .inl f)).slots.getD ((nI sp).toNatClampNeg + i) .null = .int (f (sp + i)) := by
        rw [c1]
        show (arrV (g.2.2 0) n0 (fun j => .int (f j))).slots.getD _ _ = _
        rw [Array.getD_eq_getD_getElem?, arrV_read _ _ (by omega)]
        rfl
      refine ⟨?_, ?_⟩
      · rw [e]
        rfl
      · rw [e]
        exact trivial)
    (g := F0 m pc ls (.int (nI cn) :: .int (nI dp) :: .ref a :: .int (nI sp) :: .ref a0 :: st)) rfl (by rw [E.2.2.1]; exact hl.1) (rest := st) rfl (by rw [E.2.1]; exact hd) hR0.1 (by show 2 * 0 + _ + _ ≤ _; omega)
  have e1 : copied (vp_cell (g.2.2 0) (n0, .inl f)) (vp_cell (g.2.2 0) (n1, .inl f1)) (nI sp) (nI dp) (nI cn) = vp_cell (g.2.2 0) (n1, .inl f2) := by
    rw [← hf]
    have := va_copied (fun z => .int z) (g.2.2 0) (g.2.2 0) (n0 := n0) (n1 := n1) (sp := (nI sp).toNatClampNeg) (dp := (nI dp).toNatClampNeg) (n := (nI cn).toNatClampNeg) f f1 (by rw [c1, c3]; exact b1)
    rw [show va_cpy f f1 (nI sp).toNatClampNeg (nI dp).toNatClampNeg (nI cn).toNatClampNeg = va_cpy f f1 sp dp cn by rw [c1, c2, c3]] at this
    exact this
  rw [e1] at X' step
  have hl0 : a < H.size := (Array.getElem?_eq_some_iff.mp g1).1
  have hheap : ((T.setVm vm').setCell a (vp_cell (g.2.2 0) (n1, .inl f2))).heap = H.setIfInBounds a (vp_cell (g.2.2 0) (n1, .inl f2)) := by rw [← hT]; rfl
  have oq : ∀ q : Nat, q ≠ a → (H.setIfInBounds a (vp_cell (g.2.2 0) (n1, .inl f2)))[q]? = H[q]? := fun q hq => by simp [Array.getElem?_setIfInBounds, Ne.symm hq]
  obtain ⟨t, a1, bb⟩ := kk p e s m args below meth c (H.setIfInBounds a (vp_cell (g.2.2 0) (n1, .inl f2))) _ ls E (by
      rw [← hh]
      refine hR.set hc1 (by simp) oq ?_
      show (H.setIfInBounds a _)[a]? = some _
      simp [Array.getElem?_setIfInBounds, hl0]) ⟨by simp; exact hS.1, fun q g2 g3 => by
      rw [oq q (fun e => g3 (by rw [e]; exact hR.2.1 a _ hc1))]
      exact hS.2.1 q g2 g3, fun q hq => by
      rcases List.mem_append.mp hq with h | h
      · exact hS.2.2 q h
      · obtain ⟨z, -, hz⟩ := List.mem_map.mp h
        rw [← hz]
        exact hR.2.1 a _ hc1⟩ hl _ hheap X'
  exact ⟨t, step t a1, bb⟩
end CALLS
