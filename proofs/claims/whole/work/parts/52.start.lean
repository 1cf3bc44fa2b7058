def R_law : String := "ShareStoreLaw"
def lw_P (b : Addr) (xs : List Int32) (args : Array Value) (s : State) : Prop := args = #[.ref b] ∧ s.IntsAt b xs ∧ xs.length ≤ 2560 ∧ (Jvm.Cond.and given_1 narrow_1).before args s = true
def lw_Q (_ : Array Value) (s : State) (o : Outcome) (t : State) : Prop := o = .returned (some (.int 1)) ∧ Framed s o t [] 600000 7302250
def lw_Z (below : List Frame) (a : Array Value) (s : State) : State → Prop := fun t => ∃ o, t.status = .running ∧ Ended t below o ∧ lw_Q a s o t
/-- the law's own end, with 1 on the stack, nothing written that was there before, its room as the claim has it -/
theorem lw_ret {p : Program} {l : Launch} {e : Env} {s : State} {m : MethodId} {below : List Frame} {meth : Method} {c : Code} {b : Nat} (hx : p.tables.exec = Jvm.exec) (hb : c.code = code) (hr : meth.sig.returnType = ret) (hlocks : meth.locks = false) {pc : Nat} {H : Heap} {ls : Array Slot} (hdg : decode code pc = .ok (.ireturn, 1)) : W p l e room_1 s m #[Value.ref b] below meth c H [] 600000 7302250 (lw_Z below #[Value.ref b] s) (F0 m pc ls [.int 1]) := by
  intro T hT X
  obtain ⟨fs, hret, hrun, hended, hW, hframe⟩ := X.leave (v := some (.int 1)) (hlocks := hlocks) (fun h => by rw [hr] at h; cases h)
  have hmeth' : T.vm.method? m = some meth := X.method'
  refine ⟨T.setFrames fs, ?_, .returned (some (.int 1)), hrun, hended, rfl, ⟨_, rfl⟩, hW, hframe⟩
  jvm_step X.here [X.here.top, hx, hb, hdg, hmeth', hr, ret, narrow_b1]
  (try refine ⟨rfl, ?_⟩); (try refine ⟨rfl, ?_⟩)
  first | (intro acts; rw [hret _ acts rfl rfl rfl]) | rw [hret _ _ rfl rfl rfl]
  exact Steps.refl _
/-- what holds at the law's entry: the machine, the code, the tables' words (any of lw_tbl by 'hts w (by decide +kernel)'), the script of L ints xs at the cell b, what the Statement gives of the start (any of its parts by flat_of_before) -/
def lw_At (p : Program) (s : State) (m : MethodId) (meth : Method) (c : Code) (b L : Nat) (xs : Nat → Int32) : Prop :=
  p.tables.exec = Jvm.exec ∧ c.code = code ∧ meth.sig.returnType = ret ∧ c.maxLocals = 4 ∧ s.vm.findClass R_law = some m.cls ∧ (∀ w ∈ lw_tbl, w.before #[Value.ref b] s = true) ∧ va_X b L xs s s.heap ∧ b < s.heap.size ∧ meth.locks = false ∧ (Jvm.Cond.and given_1 narrow_1).before #[Value.ref b] s = true
def TL (b : Nat) : TGT := fun args s below => fun t => args = #[Value.ref b] → lw_Z below args s t
theorem law_end {l : Launch} {b : Nat} {nm : String} : LEND l (TL b) b nm := by
  intro L xs g n h k sl lv hk hs p e s m args below meth c H locs ls E hR hS hl
  by_cases ha : args = #[Value.ref b]
  · subst ha
    obtain ⟨hX, hbl, hsz⟩ := E.2.2.2.2.2.2.2.2.2.2
    have hsz' : s.heap.size = g.1 := hsz
    refine va_forget (fun q hq => by
      have h1 : g.1 ≤ q.base := hS.2.2 q hq
      omega) ?_
    refine W.widen (k := 600000) (n := 7302250) hk hs ?_
    have K := lw_ret (p := p) (l := l) (e := e) (m := m) (below := below) (meth := meth) (c := c) (b := b) (s := s) E.1 E.2.1 E.2.2.2.1 E.2.2.2.2.1 (pc := 954) (H := H) (ls := ls) d_L_law_954
    intro T hT X
    obtain ⟨t, a1, b1⟩ := K T hT X
    exact ⟨t, a1, fun _ => b1⟩
  · intro T hT X
    exact ⟨_, Steps.refl _, fun q => absurd q ha⟩
theorem sp_args : ∀ (w : Cond), isSp w = true → ∀ (args : Array Value) (s : State), w.before args s = true → w.before #[] s = true
  | .fieldLinkNest .., _, _, _, h => h
  | .methodLinkNest .., _, _, _, h => h
  | .arrayOver _, _, _, _, h => h
def AO2 : Prop := ∀ (args : Array Value) (s : State), (Cond.arrayOver (.array .int)).before args s = true → ∃ (c : ClassId) (k : Class) (comp : ClassId), s.vm.findClass ("[" ++ (FieldType.array .int).toString) = some c ∧ s.vm.classes[c]? = some k ∧ k.kind = .array comp (.array .int)
theorem kx_of (hao : AO2) {s : State} {args : Array Value} (hts : ∀ w ∈ lw_tbl, w.before args s = true) (z : Nat) : ∃ (D : va_G) (cA : Nat → ClassId), KX (z, D, cA) s := by
  have hG : ∀ w ∈ tblG, w.before args s = true := fun w hw => hts w (List.mem_filter.mp hw).1
  obtain ⟨c0, i0, k0⟩ := u_known (C := R_C) (T := T_C) (N := 7) (n := 7) hG iw_C (hG (.instantiable R_C 7) (by decide +kernel))
  obtain ⟨c1, i1, k1⟩ := u_known (C := R_F) (T := T_F) (N := 2) (n := 2) hG iw_F (hG (.instantiable R_F 2) (by decide +kernel))
  obtain ⟨c2, i2, k2⟩ := u_known (C := R_H) (T := T_H) (N := 4) (n := 4) hG iw_H (hG (.instantiable R_H 4) (by decide +kernel))
  obtain ⟨c3, i3, k3⟩ := u_known (C := R_N) (T := T_N) (N := 6) (n := 6) hG iw_N (hG (.instantiable R_N 6) (by decide +kernel))
  obtain ⟨c4, i4, k4⟩ := u_known (C := R_S) (T := T_S) (N := 13) (n := 13) hG iw_S (hG (.instantiable R_S 13) (by decide +kernel))
  obtain ⟨c5, i5, k5⟩ := u_known (C := R_M) (T := T_M) (N := 20) (n := 20) hG iw_M (hG (.instantiable R_M 20) (by decide +kernel))
  obtain ⟨a0, ka0, co0, f0, g0, h0⟩ := Cond.arrayClass_spec (hG (.arrayClass .int) (by decide +kernel))
  obtain ⟨a1, ka1, co1, f1, g1, h1⟩ := Cond.arrayClass_spec (hG (.arrayClass .boolean) (by decide +kernel))
  obtain ⟨co2, a2, ka2, e2, -, f2, g2, h2⟩ := Cond.arrayOver_spec (hts (.arrayOver (.object "ShareStore$Node")) (spw_sub _ (by decide +kernel)))
  obtain ⟨co3, a3, ka3, e3, -, f3, g3, h3⟩ := Cond.arrayOver_spec (hts (.arrayOver (.object "ShareStore$Holding")) (spw_sub _ (by decide +kernel)))
  obtain ⟨a4, ka4, co4, f4, g4, h4⟩ := hao args s (hts (.arrayOver (.array .int)) (spw_sub _ (by decide +kernel)))
  refine ⟨(fun k => match k with | 0 => c0 | 1 => c1 | 2 => c2 | 3 => c3 | 4 => c4 | _ => c5, fun k => match k with | 0 => i0 | 1 => i1 | 2 => i2 | 3 => i3 | 4 => i4 | _ => i5), fun k => match k with | 0 => a0 | 1 => a1 | 2 => a2 | 3 => a3 | _ => a4, ⟨fun k q hq => ?_, fun k q hk => ?_⟩, fun w hw => ?_⟩
  · match k, hq with
    | 0, hq => cases hq; exact k0
    | 1, hq => cases hq; exact k1
    | 2, hq => cases hq; exact k2
    | 3, hq => cases hq; exact k3
    | 4, hq => cases hq; exact k4
    | 5, hq => cases hq; exact k5
    | k + 6, hq => cases hq
  · match k, hk with
    | 0, hk => cases hk; exact ⟨fun n z => ⟨fun k h => (by cases h), ka0, g0, co0, h0⟩, f0⟩
    | 1, hk => cases hk; exact ⟨fun n z => ⟨fun k h => (by cases h), ka1, g1, co1, h1⟩, f1⟩
    | 2, hk => cases hk; exact ⟨fun n z => ⟨fun k h => (by cases h), ka2, f2, co2, g2⟩, ka2, co2, f2, g2, e2, h2⟩
    | 3, hk => cases hk; exact ⟨fun n z => ⟨fun k h => (by cases h), ka3, f3, co3, g3⟩, ka3, co3, f3, g3, e3, h3⟩
    | 4, hk => cases hk; exact ⟨fun n z => ⟨fun k h => (by cases h), ka4, g4, co4, h4⟩, f4⟩
    | k + 5, hk => cases hk
  · exact sp_args w (List.all_eq_true.mp spw_is w hw) args s (hts w (spw_sub w hw))
theorem whole_from (hmna : MNA) (hao : AO2) {p : Program} {e : Env} {s : State} {m : MethodId} {below : List Frame} {meth : Method} {c : Code} (l : Launch) {b L : Nat} {xs : Nat → Int32} (hL : L ≤ 2560) (C0 : lw_At p s m meth c b L xs) : W p l e room_1 s m #[Value.ref b] below meth c s.heap [] 0 0 (lw_Z below #[Value.ref b] s) (entryFrame m ([Value.ref b] : List Value).toArray 4) := by
  obtain ⟨hx, hb, hr, hml, hown, hts, hX, hbl, hlocks, -⟩ := id C0
  obtain ⟨D, cA, hK⟩ := kx_of hao hts s.heap.size
  have hl := lv_entry ([.ref b]) (n := 4) (Nat.le_of_ble_eq_true rfl)
  rw [lg_entry_eq]
  have K := law_begin (l := l) (g := (s.heap.size, D, cA)) (TG := TL b) (b := b) (L := L) (nm := meth.name) (xs := xs) hmna hL law_end p e s m #[Value.ref b] below meth c s.heap [] _
    ⟨hx, hb, hml, hr, hlocks, hown, fun w hw => hts w (List.mem_filter.mp hw).1, hK, rfl, Nat.le_refl _, hX, hbl, rfl⟩ ⟨rfl, (fun a q hq => (by cases hq)), (fun a q hq => (by cases hq))⟩ va_S.rf hl
  intro T hT X
  obtain ⟨t, a1, b1⟩ := K T hT X
  exact ⟨t, a1, b1 rfl⟩
