-- ===== calls that change the nodes one by one: feed, cut, fail, back, wipe, settle, clear =====
def tgC (c : CS) := (c.tape, c.tapeN, c.begun, c.unst, c.cut, c.msgs, c.syms, c.gotN, c.gott, c.squ, c.inv, c.giv, c.mat, c.wire)
def eqC (c c' : CS) : Prop := tgC c' = tgC c
def tgM (m : MS) := (m.tape, m.taped, m.latest, m.opn, m.cutA, m.msgs, m.syms, m.gotN, m.got, m.eqs, m.right)
def eqM (m m' : MS) : Prop := tgM m' = tgM m
theorem eqC.tr {a b d : CS} (h : eqC a b) (k : eqC b d) : eqC a d := Eq.trans k h
theorem eqM.tr {a b d : MS} (h : eqM a b) (k : eqM b d) : eqM a d := Eq.trans k h
theorem eqC.un {c c' : CS} (h : eqC c c') : c'.begun = c.begun ∧ c'.unst = c.unst ∧ c'.tapeN = c.tapeN ∧ c'.tape = c.tape ∧ c'.cut = c.cut ∧ c'.msgs = c.msgs ∧ c'.syms = c.syms ∧ c'.mat = c.mat := ⟨congrArg (fun t => t.2.2.1) h, congrArg (fun t => t.2.2.2.1) h, congrArg (fun t => t.2.1) h, congrArg (fun t => t.1) h, congrArg (fun t => t.2.2.2.2.1) h, congrArg (fun t => t.2.2.2.2.2.1) h, congrArg (fun t => t.2.2.2.2.2.2.1) h, congrArg (fun t => t.2.2.2.2.2.2.2.2.2.2.2.2.1) h⟩
theorem eqM.un {m m' : MS} (h : eqM m m') : m'.latest = m.latest ∧ m'.opn = m.opn ∧ m'.taped = m.taped ∧ m'.tape = m.tape ∧ m'.cutA = m.cutA ∧ m'.msgs = m.msgs ∧ m'.syms = m.syms := ⟨congrArg (fun t => t.2.2.1) h, congrArg (fun t => t.2.2.2.1) h, congrArg (fun t => t.2.1) h, congrArg (fun t => t.1) h, congrArg (fun t => t.2.2.2.2.1) h, congrArg (fun t => t.2.2.2.2.2.1) h, congrArg (fun t => t.2.2.2.2.2.2.1) h⟩
theorem Lk_g {c c' : CS} {m m' : MS} (h : Lk c m) (k1 : eqC c c') (k2 : eqM m m') : Lk c' m' := by
  obtain ⟨a1, a2, a3, a4, a5, a6, a7, -⟩ := k1.un
  obtain ⟨b1, b2, b3, b4, b5, b6, b7⟩ := k2.un
  have a8 : c'.gotN = c.gotN := congrArg (fun t => t.2.2.2.2.2.2.2.1) k1
  have a9 : c'.gott = c.gott := congrArg (fun t => t.2.2.2.2.2.2.2.2.1) k1
  have b8 : m'.gotN = m.gotN := congrArg (fun t => t.2.2.2.2.2.2.2.1) k2
  have b9 : m'.got = m.got := congrArg (fun t => t.2.2.2.2.2.2.2.2.1) k2
  unfold Lk
  rw [a1, a2, a3, a4, a5, a6, a7, a8, a9, b1, b2, b3, b4, b5, b6, b7, b8, b9]
  exact h
theorem Iv_g {K : Nat} {c c' : CS} {m m' : MS} (h : Iv K c m) (k1 : eqC c c') (k2 : eqM m m') (hc : CI c') (hm : MI m') (hD : BM c'.data) (hb : B1 m'.byts) : Iv K c' m' := by
  obtain ⟨a1, a2, a3, a4, a5, a6, a7, a8⟩ := k1.un
  have b1 : c'.gotN = c.gotN := congrArg (fun t => t.2.2.2.2.2.2.2.1) k1
  have b2 : c'.squ = c.squ := congrArg (fun t => t.2.2.2.2.2.2.2.2.2.1) k1
  have b3 : c'.inv = c.inv := congrArg (fun t => t.2.2.2.2.2.2.2.2.2.2.1) k1
  have b4 : c'.giv = c.giv := congrArg (fun t => t.2.2.2.2.2.2.2.2.2.2.2.1) k1
  have b5 : c'.wire = c.wire := congrArg (fun t => t.2.2.2.2.2.2.2.2.2.2.2.2.2) k1
  have d1 : m'.eqs = m.eqs := congrArg (fun t => t.2.2.2.2.2.2.2.2.2.1) k2
  have d2 : m'.right = m.right := congrArg (fun t => t.2.2.2.2.2.2.2.2.2.2) k2
  obtain ⟨-, -, e3, e4, e5, e6, e7, ⟨f1, f2, f3, f4, -⟩, e9, -, g2, g3, g4⟩ := h
  refine ⟨hc, hm, by rw [a4]; exact e3, by rw [a3]; exact e4, by rw [b1]; exact e5, by rw [a5]; exact e6, by rw [b2]; exact e7, ⟨by rw [b3]; exact f1, by rw [b4]; exact f2, by rw [a8]; exact f3, by rw [b5]; exact f4, hD⟩, by rw [a8]; exact e9, hb, by rw [d1]; exact g2, by rw [d2]; exact g3, fun o ho => ?_⟩
  rw [a1]
  exact g4 o ho
theorem eqC_gu (c : CS) (i p : Nat) : eqC c (guC c i p) := rfl
theorem eqC_tk (c : CS) (i p v a : Nat) : eqC c (takC c i p v a) := rfl
theorem eqC_fl (c : CS) (i o : Nat) : eqC c (flC c i o) := rfl
theorem eqM_gu (m : MS) (i r : Nat) : eqM m (mgu m i r) := by
  unfold mgu
  split <;> rfl
theorem eqM_tk (m : MS) (i r v a : Nat) : eqM m (mtk m i r v a) := rfl
theorem eqM_fl (m : MS) (i o : Nat) : eqM m (mfl m i o) := (eqM_gu m i _).tr (show eqM (mgu m i (rx i o false)) (mfC _ _ _) from rfl)
theorem by_gu (m : MS) (i r : Nat) : (mgu m i r).byts = m.byts := by
  unfold mgu
  split <;> rfl
theorem by_fl (m : MS) (i o : Nat) : (mfl m i o).byts = m.byts := by_gu m i _
-- what is held shrinks
def Sh (c c' : CS) : Prop := ∀ i p, c'.hver i p = 0 ∨ (c'.hver i p = c.hver i p ∧ c'.hbyt i p = c.hbyt i p)
def SS (c c' : CS) : Prop := ∀ i o, c'.hver i (sp c' i o) = 0 ∨ c'.hver i (sp c' i o) = c.hver i (sp c i o)
theorem Sh.rf (c : CS) : Sh c c := fun _ _ => Or.inr ⟨rfl, rfl⟩
theorem SS.rf (c : CS) : SS c c := fun _ _ => Or.inr rfl
theorem Sh.tr {a b d : CS} (h : Sh a b) (k : Sh b d) : Sh a d := fun i p => by
  rcases k i p with q | ⟨q1, q2⟩
  · exact Or.inl q
  · rw [q1, q2]; exact h i p
theorem SS.tr {a b d : CS} (h : SS a b) (k : SS b d) : SS a d := fun i o => by
  rcases k i o with q | q
  · exact Or.inl q
  · rw [q]; exact h i o
theorem Sh_gu (c : CS) (i p : Nat) : Sh c (guC c i p) := fun i' p' => by
  by_cases e : i' = i ∧ p' = p
  · obtain ⟨rfl, rfl⟩ := e
    exact Or.inl up2_s
  · exact Or.inr ⟨up2_n e, up2_n e⟩
theorem SS_gu (c : CS) (i p : Nat) : SS c (guC c i p) := fun i' o => by
  show up2 c.hver i p 0 i' (sp c i' o) = 0 ∨ up2 c.hver i p 0 i' (sp c i' o) = _
  by_cases e : i' = i ∧ sp c i' o = p
  · obtain ⟨rfl, rfl⟩ := e
    exact Or.inl up2_s
  · exact Or.inr (up2_n e)
theorem sp_fl (c : CS) (i o i' o' : Nat) : sp (flC c i o) i' o' = if i' = i ∧ o' = o then rp c i o else sp c i' o' := by
  by_cases e : i' = i
  · subst e
    have := hq_sw (guC c i' (rp c i' o)) i' o o' true
    by_cases q : o' = o
    · subst q
      rw [if_pos ⟨rfl, rfl⟩]
      rw [if_pos rfl] at this
      exact this
    · rw [if_neg (fun z => q z.2)]
      rw [if_neg q] at this
      exact this
  · rw [if_neg (fun z => e z.1)]
    have es : (flC c i o).sw i' o' = c.sw i' o' := up2_n (fun q => e q.1)
    unfold sp
    rw [es]
theorem Sh_fl (c : CS) (i o : Nat) : Sh c (flC c i o) := Sh_gu c i (rp c i o)
theorem SS_fl (c : CS) (i o : Nat) : SS c (flC c i o) := fun i' o' => by
  rw [sp_fl]
  show up2 c.hver i (rp c i o) 0 i' _ = 0 ∨ up2 c.hver i (rp c i o) 0 i' _ = _
  by_cases e : i' = i ∧ o' = o
  · rw [if_pos e]
    obtain ⟨rfl, rfl⟩ := e
    exact Or.inl up2_s
  · rw [if_neg e]
    by_cases q : i' = i ∧ sp c i' o' = rp c i o
    · exfalso
      obtain ⟨rfl, q⟩ := q
      exact e ⟨rfl, (hq_inj (c := c) (i := i') (z := true) (y := false) q).1⟩
    · exact Or.inr (up2_n q)
theorem Gi_sh {c c' : CS} (h : Gi c) (hs : Sh c c') (hb : c'.begun = c.begun) (h3 : ∀ i o, i < 12 → o < 6 → c'.live i = true → 0 < c'.hver i (sp c' i o) → c'.unst o = true ∧ c'.hver i (sp c' i o) = c'.begun o) (h4 : ∀ o, o < 6 → c'.unst o = true → 0 < c'.begun o) : Gi c' := by
  obtain ⟨g1, g2, -, -⟩ := h
  refine ⟨fun i p hi hp => ?_, fun i j p q hi hj hp hq e hv he => ?_, h3, h4⟩
  · rw [hb]
    rcases hs i p with q | ⟨q, -⟩
    · rw [q]; exact Nat.zero_le _
    · rw [q]; exact g1 i p hi hp
  · rcases hs i p with x | ⟨x1, x2⟩
    · omega
    · rcases hs j q with y | ⟨y1, y2⟩
      · omega
      · rw [x2, y2]
        exact g2 i j p q hi hj hp hq e (by rw [← x1]; exact hv) (by rw [← x1, he, y1])
section UP
variable {K : Nat} {c : CS} {m : MS}
-- ---- feed, cut
theorem fdT_lt {t : Nat → Nat} (h : B1 t) (a : Nat) (w : Int64) (k : Nat) : ∀ s, B1 (fdT t a w k s)
  | 0 => h
  | s + 1 => upN_ind (Q := fun x => x < 256) (fdT_lt h a w k s) (Nat.mod_lt _ (by decide))
theorem ag_feed (h : Rel K c m) (w : Int64) (x : Int32) : ∃ (v : Int32) (c' : CS) (m' : MS), (∀ (l : Launch) (g : GX) (n d : Nat), 8 ≤ d → CE l g M_S_feed d 0 0 [.ref (aS g), .long w, .int x] n (hp g c m) (some (.int v)) n (hp g c' m)) ∧ (∀ (l : Launch) (g : GX) (n d : Nat), 8 ≤ d → CE l g M_M_feed d 0 0 [.ref (aM g), .long w, .int x] n (hp g c' m) (some (.int v)) n (hp g c' m')) ∧ Rel (K + 1) c' m' := by
  obtain ⟨h1, h2, ⟨l1, l2, l3, l4, l5, l6, l7, l8, l9⟩, a1, a2, a3, a4, a5, a6, a7, a8, a9, b1, b2, b3, b4⟩ := id h
  by_cases hx : x < nI 1 ∨ nI 8 < x
  · exact ⟨_, c, m, fun l g n d hd => k_S_feed_bad (by omega) hx, fun l g n d hd => k_M_feed_bad (by omega) hx, h.up⟩
  · have hx1 : ¬ x < nI 1 := fun z => hx (Or.inl z)
    have hx8 : ¬ nI 8 < x := fun z => hx (Or.inr z)
    have hx0 : ¬ x < 0 := fun z => hx1 (Int32.lt_of_lt_of_le z (by decide))
    obtain ⟨k, hk, rfl⟩ := nI_of hx0
    have hk1 : 1 ≤ k := by
      rcases Nat.eq_zero_or_pos k with e | e
      · subst e; exact absurd (by decide) hx1
      · exact e
    have hk8 : k ≤ 8 := by
      rcases Nat.lt_or_ge 8 k with e | e
      · exact absurd (nI_lt e hk) hx8
      · exact e
    rcases Nat.lt_or_ge 240 (c.tapeN + k) with q | q
    · exact ⟨_, c, m, fun l g n d hd => k_S_feedFull (by omega) hk1 hk8 a4 q, fun l g n d hd => k_M_feedFull (by omega) hk1 hk8 (by rw [← l2]; exact a4) (by rw [← l2]; exact q), h.up⟩
    · refine ⟨_, fdC c w k k, fdMC m w k k, fun l g n d hd => k_S_feed (by omega) hk1 hk8 q, fun l g n d hd => ?_, fun i hi => h1 i hi, h2, ⟨?_, ?_, l3, l4, l5, l6, l7, l8, l9⟩, a1, a2, fdT_lt a3 _ _ _ _, q, a5, a6, a7, a8, a9, b1, b2, b3, fun o ho => Nat.le_succ_of_le (b4 o ho)⟩
      · rw [l2]
        exact k_M_feed (by omega) hk1 hk8 (by rw [← l2]; exact q)
      · show fdT c.tape c.tapeN w k k = fdT m.tape m.taped w k k
        rw [l1, l2]
      · show c.tapeN + k = m.taped + k
        rw [l2]
theorem ag_cut (h : Rel K c m) (x : Int32) : Ag K c m M_S_cut M_M_cut [.int x] := by
  obtain ⟨h1, h2, ⟨l1, l2, l3, l4, l5, l6, l7, l8, l9⟩, a1, a2, a3, a4, a5, a6, a7, a8, a9, b1, b2, b3, b4⟩ := id h
  by_cases hx : inR x 24 = true
  · obtain ⟨k, hk, rfl⟩ := inR_of hx (by decide)
    exact ⟨_, c.s_cut (nI k), m.s_cutA (nI k), fun l g n d hd => k_S_cut (by omega) hk, fun l g n d hd => k_M_cut (by omega) hk, fun i hi => h1 i hi, h2, ⟨l1, l2, l3, l4, rfl, l6, l7, l8, l9⟩, a1, a2, a3, a4, a5, Or.inr ⟨k, hk, rfl⟩, a7, a8, a9, b1, b2, b3, fun o ho => Nat.le_succ_of_le (b4 o ho)⟩
  · exact ⟨_, c, m, fun l g n d hd => k_S_cut_bad (by omega) (by simpa using hx), fun l g n d hd => k_M_cut_bad (by omega) (by simpa using hx), h.up⟩
-- ---- fail
theorem Nd_live {i : Nat} (h : Nd c m i) (b : Bool) : Nd (c.s_live (upN c.live i b)) (m.s_fail (upN m.fail i (!b))) i := by
  obtain ⟨h1, h2⟩ := h
  refine ⟨?_, h2⟩
  show upN c.live i b i = !(upN m.fail i (!b) i)
  rw [upN_s, upN_s, Bool.not_not]
theorem sC_live {i j : Nat} {b : Bool} (hj : j ≠ i) : sC c (c.s_live (upN c.live i b)) j := ⟨upN_n hj, rfl, rfl, rfl, rfl, rfl, rfl, rfl, rfl⟩
theorem sM_fail {i j : Nat} {b : Bool} (hj : j ≠ i) : sM m (m.s_fail (upN m.fail i b)) j := ⟨upN_n hj, rfl, fun _ _ => rfl, fun _ _ => rfl, fun _ _ _ => ⟨rfl, rfl, rfl, fun _ _ => rfl⟩⟩
theorem ag_fail (h : Rel K c m) (x : Int32) : Ag K c m M_S_fail M_M_fail [.int x] := by
  obtain ⟨h1, ⟨g1, g2, g3, g4⟩, ⟨l1, l2, l3, l4, l5, l6, l7, l8, l9⟩, a1, a2, a3, a4, a5, a6, a7, a8, a9, b1, b2, b3, b4⟩ := id h
  by_cases hx : inR x 12 = true
  · obtain ⟨i, hi, rfl⟩ := inR_of hx (by decide)
    have hl := (h1 i hi).1
    by_cases q : c.live i = true
    · have hf : m.fail i = false := by rw [q] at hl; simpa using hl.symm
      refine ⟨_, c.s_live (upN c.live i false), m.s_fail (upN m.fail i true), fun l g n d hd => k_S_fail (by omega) hi q, fun l g n d hd => k_M_fail (by omega) hi hf, fun j hj => ?_, ⟨g1, g2, fun j o hj ho hl' => ?_, g4⟩, ⟨l1, l2, l3, l4, l5, l6, l7, l8, l9⟩, a1, a2, a3, a4, a5, a6, a7, a8, a9, b1, b2, b3, fun o ho => Nat.le_succ_of_le (b4 o ho)⟩
      · by_cases e : j = i
        · subst e; exact Nd_live (h1 j hj) false
        · exact Nd_frame a1 (h1 j hj) (sC_live e) (sM_fail e)
      · have hl2 : upN c.live i false j = true := hl'
        by_cases e : j = i
        · subst e; rw [upN_s] at hl2; cases hl2
        · rw [upN_n e] at hl2
          exact g3 j o hj ho hl2
    · have q' : c.live i = false := by simpa using q
      have hf : m.fail i = true := by rw [q'] at hl; simpa using hl.symm
      exact ⟨_, c, m, fun l g n d hd => k_S_fail_no (by omega) hi q', fun l g n d hd => k_M_fail_no (by omega) hi hf, h.up⟩
  · exact ⟨_, c, m, fun l g n d hd => k_S_fail_bad (by omega) (by simpa using hx), fun l g n d hd => k_M_fail_bad (by omega) (by simpa using hx), h.up⟩
-- ---- back
theorem gs_sw (c : CS) (i : Nat) : ∀ k, (gsC c i k).sw = c.sw
  | 0 => rfl
  | k + 1 => gs_sw c i k
theorem gs_sp (c : CS) (i k j o : Nat) : sp (gsC c i k) j o = sp c j o := sp_eq (gs_sw c i k) j o
theorem eqC_gs (c : CS) (i : Nat) : ∀ k, eqC c (gsC c i k)
  | 0 => rfl
  | k + 1 => (eqC_gs c i k).tr (eqC_gu _ i _)
theorem eqM_gs (m : MS) (i : Nat) : ∀ k, eqM m (mgs m i k)
  | 0 => rfl
  | k + 1 => (eqM_gs m i k).tr (eqM_gu _ i _)
theorem by_gs (m : MS) (i : Nat) : ∀ k, (mgs m i k).byts = m.byts
  | 0 => rfl
  | k + 1 => (by_gu _ i _).trans (by_gs m i k)
theorem gs_keep (c : CS) (i : Nat) : ∀ k, (gsC c i k).live = c.live ∧ (gsC c i k).data = c.data ∧ (gsC c i k).hpl = c.hpl ∧ (gsC c i k).sent = c.sent
  | 0 => ⟨rfl, rfl, rfl, rfl⟩
  | k + 1 => gs_keep c i k
theorem Sh_gs (c : CS) (i : Nat) : ∀ k, Sh c (gsC c i k)
  | 0 => Sh.rf c
  | k + 1 => (Sh_gs c i k).tr (Sh_gu _ i _)
theorem SS_gs (c : CS) (i : Nat) : ∀ k, SS c (gsC c i k)
  | 0 => SS.rf c
  | k + 1 => (SS_gs c i k).tr (SS_gu _ i _)
theorem gs_0 (c : CS) (i : Nat) : ∀ k o, o < k → (gsC c i k).hver i (sp c i o) = 0
  | 0, o, h => by omega
  | k + 1, o, h => by
    show up2 (gsC c i k).hver i (sp (gsC c i k) i k) 0 i (sp c i o) = 0
    rw [gs_sp]
    by_cases e : o = k
    · rw [e]; exact up2_s
    · have hne : ¬ (i = i ∧ sp c i o = sp c i k) := fun q => e (hq_inj (c := c) (i := i) (z := true) (y := true) q.2).1
      rw [up2_n hne]
      exact gs_0 c i k o (by omega)
theorem Nd_gs {i : Nat} (hc : CI c) (hm : MI m) (h1 : ∀ j, j < 12 → Nd c m j) (hi : i < 12) : ∀ k, k ≤ 6 → (∀ j, j < 12 → Nd (gsC c i k) (mgs m i k) j) ∧ gsN c i k = mgsN m i k
  | 0, _ => ⟨h1, rfl⟩
  | k + 1, hk => by
    obtain ⟨ih, ihn⟩ := Nd_gs hc hm h1 hi k (by omega)
    refine ⟨fun j hj => ?_, ?_⟩
    · by_cases e : j = i
      · subst e
        exact Nd_gu (z := true) (by omega) (CI_gs hc k) (ih j hj)
      · exact Nd_frame (CI_gs hc k) (ih j hj) (sC_gu e) (sM_gu (MI_mgs hm k) (by omega) e)
    · have g := ((ih i hi).2.2.2.2.1 k true (by omega)).1
      show gsN c i k + _ = mgsN m i k + _
      rw [ihn, g]
      congr 1
      rw [hq_t]
      by_cases q : 0 < (gsC c i k).hver i (sp (gsC c i k) i k)
      · rw [if_pos q, decide_eq_true q]; rfl
      · rw [if_neg q, decide_eq_false q]; rfl
theorem ag_back (h : Rel K c m) (x : Int32) : Ag K c m M_S_back M_M_back [.int x] := by
  obtain ⟨h1, ⟨g1, g2, g3, g4⟩, hL, hI⟩ := id h
  by_cases hx : inR x 12 = true
  · obtain ⟨i, hi, rfl⟩ := inR_of hx (by decide)
    have hl := (h1 i hi).1
    by_cases q : c.live i = true
    · have hf : m.fail i = false := by rw [q] at hl; simpa using hl.symm
      exact ⟨_, c, m, fun l g n d hd => k_S_back_no (by omega) hi q, fun l g n d hd => k_M_back_no (by omega) hi hf, h.up⟩
    · have q' : c.live i = false := by simpa using q
      have hf : m.fail i = true := by rw [q'] at hl; simpa using hl.symm
      have hc1 : CI (lvC c i) := h.ci
      have hm1 : MI (lvR m i) := h.mi
      have hn : ∀ j, j < 12 → Nd (lvC c i) (lvR m i) j := fun j hj => by
        by_cases e : j = i
        · subst e; exact Nd_live (h1 j hj) true
        · exact Nd_frame h.ci (h1 j hj) (sC_live e) (sM_fail e)
      obtain ⟨ih, ihn⟩ := Nd_gs hc1 hm1 hn hi 6 (Nat.le_refl _)
      have kc : eqC c (gsC (lvC c i) i 6) := eqC.tr (show eqC c (lvC c i) from rfl) (eqC_gs _ i 6)
      have km : eqM m (mgs (lvR m i) i 6) := eqM.tr (show eqM m (lvR m i) from rfl) (eqM_gs _ i 6)
      obtain ⟨kb, ku, -⟩ := kc.un
      obtain ⟨kl, kd, -, -⟩ := gs_keep (lvC c i) i 6
      refine ⟨_, gsC (lvC c i) i 6, mgs (lvR m i) i 6, fun l g n d hd => k_S_back (by omega) hi h.ci q', fun l g n d hd => ?_, ih, ?_, Lk_g hL kc km, Iv_g h.up.2.2.2 kc km (CI_gs hc1 6) (MI_mgs hm1 6) (by rw [kd]; exact h.bc.2.2.2.2) (by rw [by_gs]; exact h.by)⟩
      · rw [ihn]
        exact k_M_back (by omega) hi h.mi hf
      · refine Gi_sh ⟨g1, g2, g3, g4⟩ (Sh_gs (lvC c i) i 6) kb (fun j o hj ho hlj hv => ?_) (fun o ho hu => ?_)
        · rw [ku, kb]
          rw [gs_sp] at hv ⊢
          by_cases e : j = i
          · subst e
            rw [gs_0 (lvC c j) j 6 o ho] at hv
            omega
          · have hlj' : c.live j = true := by
              rw [kl] at hlj
              have : upN c.live i true j = true := hlj
              rwa [upN_n e] at this
            rcases SS_gs (lvC c i) i 6 j o with z | z
            · rw [gs_sp] at z
              omega
            · rw [gs_sp] at z
              rw [z] at hv ⊢
              exact g3 j o hj ho hlj' hv
        · rw [kb]
          exact g4 o ho (by rw [← ku]; exact hu)
  · exact ⟨_, c, m, fun l g n d hd => k_S_back_bad (by omega) (by simpa using hx), fun l g n d hd => k_M_back_bad (by omega) (by simpa using hx), h.up⟩
end UP
