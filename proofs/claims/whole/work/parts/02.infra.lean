-- ===== the machine under one judgement: heaps as functions from addresses, contracts that are exact =====
abbrev AC : Type := (Nat × vp_A) ⊕ (Nat × List Value)
abbrev AH : Type := Nat → Option AC
abbrev GX : Type := Nat × va_G × (Nat → ClassId)
def TYS (g : GX) : List (ClassId × FieldType) := [(g.2.2 0, .int), (g.2.2 1, .boolean), (g.2.2 2, .object "ShareStore$Node"), (g.2.2 3, .object "ShareStore$Holding"), (g.2.2 4, .array .int)]
def g_E (g : GX) (c : AC) : va_E := match c with
  | .inl x => .inl (g.2.2 x.1, x.2)
  | .inr o => .inr o
def updH (h : AH) (a : Nat) (c : AC) : AH := fun q => if q = a then some c else h q
def HR (g : GX) (n : Nat) (h : AH) (H : Heap) : Prop := H.size = g.1 + n ∧ (∀ a c, h a = some c → g.1 ≤ a) ∧ ∀ a c, h a = some c → va_at g.2.1 CL (a, g_E g c) H
def isSp : Cond → Bool
  | .fieldLinkNest .. => true
  | .methodLinkNest .. => true
  | .arrayOver _ => true
  | _ => false
theorem spw_is : SPW.all isSp = true := by decide +kernel
def KX (g : GX) (U : State) : Prop := va_K g.2.1 CL (TYS g) U ∧ ∀ w ∈ SPW, w.before #[] U = true
theorem sp_warm {s U : State} (hW : s.WarmedH U.vm) : ∀ w : Cond, isSp w = true → w.before #[] s = true → w.before #[] U = true
  | .fieldLinkNest .., _, h => va_Nw.warmF hW h
  | .methodLinkNest .., _, h => va_Nw.warmM hW h
  | .arrayOver ty, _, h => by
    have e := Cond.arrayOver_setVmC (args := #[]) hW.alike ty
    rw [h] at e
    exact e
theorem KX.moved {g : GX} {s U : State} (hW : s.WarmedH U.vm) (h : KX g s) : KX g U := ⟨va_K.moved hW.alike h.1, fun w hw => sp_warm hW w (List.all_eq_true.mp spw_is w hw) (h.2 w hw)⟩
/-- the law's extra fact of the start, or nothing -/
abbrev XPT : Type := State → Prop
abbrev TGT : Type := Array Value → State → List Frame → State → Prop
def RMX (d mc ms : Nat) : Room := { frames := d, cells := mc, slots := ms, locals := 36 * d }
def EVX (g : GX) (M : MT) (XP : XPT) (p : Program) (s : State) (m : MethodId) (args : Array Value) (meth : Method) (c : Code) : Prop :=
  p.tables.exec = Jvm.exec ∧ c.code = M.2.1 ∧ c.maxLocals = M.2.2.1 ∧ meth.sig.returnType = M.2.2.2 ∧ meth.locks = false ∧ s.vm.findClass M.1.cls = some m.cls ∧ (∀ w ∈ tblG, w.before args s = true) ∧ KX g s ∧ meth.name = M.1.name ∧ g.1 ≤ s.heap.size ∧ XP s
def RJ (l : Launch) (g : GX) (M : MT) (R : Room) (TG : TGT) (XP : XPT) (n : Nat) (h : AH) (k sl : Nat) (pc : Nat) (lv : List (Nat × Value)) (st : List Value) : Prop :=
  ∀ (p : Program) (e : Env) (s : State) (m : MethodId) (args : Array Value) (below : List Frame) (meth : Method) (c : Code) (H : Heap) (locs : List Loc) (ls : Array Slot),
    EVX g M XP p s m args meth c → HR g n h H → va_S (fun q : Nat => g.1 ≤ q) s.heap H locs → lv_has ls M.2.2.1 lv →
    W p l e R s m args below meth c H locs k sl (TG args s below) (F0 m pc ls st)
def QX (g : GX) (Q : Option Value → Nat → AH → Prop) : Array Value → State → Outcome → State → Prop := fun _ st o t =>
  ∃ v n h, o = .returned v ∧ Q v n h ∧ HR g n h t.heap ∧ va_F (fun q : Nat => g.1 ≤ q) st t
def TQ (g : GX) (mc ms : Nat) (Q : Option Value → Nat → AH → Prop) : TGT := fun args s below => MQ below (QX g Q) args s mc ms (fun q : Nat => g.1 ≤ q)
/-- the contract: from the heap h (n cells), M returns r and leaves h' (n' cells) -/
def CE (l : Launch) (g : GX) (M : MT) (d mc ms : Nat) (As : List Value) (n : Nat) (h : AH) (r : Option Value) (n' : Nat) (h' : AH) : Prop :=
  Met l M.1 (Cond.code M.1 M.2.1 M.2.2.1 M.2.2.2 :: tblG) (RMX d mc ms) (va_Pc As (fun U => HR g n h U.heap ∧ KX g U)) (QX g (fun v n2 h2 => v = r ∧ n2 = n' ∧ h2 = h')) mc ms (fun q : Nat => g.1 ≤ q)
abbrev XT : XPT := fun _ => True
abbrev QE (r : Option Value) (n' : Nat) (h' : AH) : Option Value → Nat → AH → Prop := fun v n2 h2 => v = r ∧ n2 = n' ∧ h2 = h'
theorem CE.of {l : Launch} {g : GX} {M : MT} {d mc ms : Nat} {As : List Value} {n : Nat} {h : AH} {r : Option Value} {n' : Nat} {h' : AH} (hy : plainName M.1.cls = true) {lv : List (Nat × Value)} (hlv : lv_args 0 As = lv) (hlen : (lg_sl As).length ≤ M.2.2.1)
    (k : RJ l g M (RMX d mc ms) (TQ g mc ms (QE r n' h')) XT n h 0 0 0 lv []) : CE l g M d mc ms As n h r n' h' := by
  refine Met.ofW (cc := M.2.1) (maxL := M.2.2.1) (ret := M.2.2.2) hy rfl ?_
  intro p e s m args below meth c s₁ B hml hv
  obtain ⟨rfl, hH, hK⟩ := hv
  rw [lg_entry_eq]
  have hl := lv_entry As hlen
  rw [hlv] at hl
  have hts := atoms_spec (ws := Cond.code M.1 M.2.1 M.2.2.1 M.2.2.2 :: tblG) B.pre
  exact k p e s m _ below meth c s.heap [] _ ⟨B.exec, B.bytes, hml, B.returns, B.notSynchronized, findClass_of_methodNamed B.named, fun w hw => hts w (List.mem_cons_of_mem _ hw), hK, (name_of_methodNamed B.named B.method).1, by rw [hH.1]; exact Nat.le_add_right _ _, trivial⟩ hH va_S.rf hl
theorem va_P1 {D : va_G} {a : Nat} {e : va_E} {H : Heap} (h : va_at D CL (a, e) H) : va_P D CL [(a, e)] H := fun k q hk => by
  have hz : k < 1 := (List.getElem?_eq_some_iff.mp hk).1
  rw [show k = 0 by omega] at hk
  cases hk
  exact h
theorem HR.set {g : GX} {n : Nat} {h : AH} {H H1 : Heap} {a : Nat} {c0 c : AC} (hR : HR g n h H) (h0 : h a = some c0) (z : H1.size = H.size) (oq : ∀ q : Nat, q ≠ a → H1[q]? = H[q]?) (e : va_at g.2.1 CL (a, g_E g c) H1) : HR g n (updH h a c) H1 := by
  refine ⟨z.trans hR.1, fun q x hx => ?_, fun q x hx => ?_⟩
  · unfold updH at hx
    by_cases hq : q = a
    · rw [hq]; exact hR.2.1 a c0 h0
    · rw [if_neg hq] at hx; exact hR.2.1 q x hx
  · unfold updH at hx
    by_cases hq : q = a
    · rw [if_pos hq] at hx
      cases hx
      rw [hq]
      exact e
    · rw [if_neg hq] at hx
      exact (hR.2.2 q x hx).kept (oq q hq)
theorem HR.push {g : GX} {n : Nat} {h : AH} {H H1 : Heap} {c : AC} (hR : HR g n h H) (z : H1.size = H.size + 1) (o1 : ∀ q : Nat, q < H.size → H1[q]? = H[q]?) (e : va_at g.2.1 CL (H.size, g_E g c) H1) : HR g (n + 1) (updH h (g.1 + n) c) H1 := by
  have hs := hR.1
  refine ⟨by rw [z, hs]; rfl, fun q x hx => ?_, fun q x hx => ?_⟩
  · unfold updH at hx
    by_cases hq : q = g.1 + n
    · omega
    · rw [if_neg hq] at hx; exact hR.2.1 q x hx
  · unfold updH at hx
    by_cases hq : q = g.1 + n
    · rw [if_pos hq] at hx
      cases hx
      rw [hq, ← hs]
      exact e
    · rw [if_neg hq] at hx
      have h1 := hR.2.2 q x hx
      exact h1.kept (o1 q h1.lt)
/-- the locals kept in the order of their places -/
def lins (i : Nat) (v : Value) : List (Nat × Value) → List (Nat × Value)
  | [] => [(i, v)]
  | q :: t => if i < q.1 then (i, v) :: q :: t else q :: lins i v t
theorem lins_mem {i : Nat} {v : Value} : ∀ {l : List (Nat × Value)} {q : Nat × Value}, q ∈ lins i v l → q ∈ (i, v) :: l
  | [], _, h => h
  | a :: t, q, h => by
    unfold lins at h
    by_cases c : i < a.1
    · rw [if_pos c] at h; exact h
    · rw [if_neg c] at h
      rcases List.mem_cons.mp h with h | h
      · rw [h]; exact List.mem_cons_of_mem _ List.mem_cons_self
      · rcases List.mem_cons.mp (lins_mem h) with h | h
        · rw [h]; exact List.mem_cons_self
        · exact List.mem_cons_of_mem _ (List.mem_cons_of_mem _ h)
def ls1 (i : Nat) (v : Value) (lv : List (Nat × Value)) : List (Nat × Value) := lins i v (lv.filter (fun q => !(q.1 == i) && !(q.1 + 1 == i && q.2.category == 2)))
def ls2 (i : Nat) (v : Value) (lv : List (Nat × Value)) : List (Nat × Value) := lins i v (lv.filter (fun q => !(q.1 == i) && (!(q.1 == i + 1) && !(q.1 + 1 == i && q.2.category == 2))))
theorem lv_lins {ls : Array Slot} {nL i : Nat} {v : Value} {l : List (Nat × Value)} (h : lv_has ls nL ((i, v) :: l)) : lv_has ls nL (lins i v l) := ⟨h.1, h.2.1, fun q hq => h.2.2 q (lins_mem hq)⟩
theorem lv_less {ls : Array Slot} {nL : Nat} {l l' : List (Nat × Value)} (h : lv_has ls nL l) (hs : ∀ q ∈ l', q ∈ l) : lv_has ls nL l' := ⟨h.1, h.2.1, fun q hq => h.2.2 q (hs q hq)⟩
