-- ===== putting: the flips; put, remove =====
theorem sC.sy {a b : CS} {i : Nat} (h : sC a b i) : sC b a i := ⟨h.1.symm, h.2.1.symm, h.2.2.1.symm, h.2.2.2.1.symm, h.2.2.2.2.1.symm, h.2.2.2.2.2.1.symm, h.2.2.2.2.2.2.1.symm, h.2.2.2.2.2.2.2.1.symm, h.2.2.2.2.2.2.2.2.symm⟩
theorem sf_keep (X : CS) (o m2 : Nat) : ∀ n, eqC X (sfC X o m2 n) ∧ (sfC X o m2 n).data = X.data ∧ Sh X (sfC X o m2 n) ∧ SS X (sfC X o m2 n)
  | 0 => ⟨rfl, rfl, Sh.rf X, SS.rf X⟩
  | n + 1 => by
    obtain ⟨i1, i2, i3, i4⟩ := sf_keep X o m2 n
    unfold sfC
    split
    · exact ⟨i1.tr (eqC_fl _ n o), i2, i3.tr (Sh_fl _ n o), i4.tr (SS_fl _ n o)⟩
    · exact ⟨i1, i2, i3, i4⟩
theorem gf_keep (Y : MS) (o m2 : Nat) : ∀ n, eqM Y (gfM Y o m2 n) ∧ (gfM Y o m2 n).byts = Y.byts
  | 0 => ⟨rfl, rfl⟩
  | n + 1 => by
    obtain ⟨i1, i2⟩ := gf_keep Y o m2 n
    unfold gfM
    split
    · exact ⟨i1.tr (eqM_fl _ n o), (by_fl _ n o).trans i2⟩
    · exact ⟨i1, i2⟩
theorem mshS_lt {Y : MS} {i r : Nat} (h : B1 Y.byts) : ∀ s, B1 (mshS Y i r s)
  | 0 => h
  | s + 1 => wrB_lt (mshS_lt h s) (fun k => shV_lt Y i s k) 8
theorem msh_keep (Y : MS) (i r : Nat) : eqM Y (msh Y i r) ∧ (msh Y i r).byts = mshS Y i r (stp (Y.size r)) := ⟨rfl, rfl⟩
theorem tk_keep (Y : MS) (i r v a : Nat) : eqM Y (mtk Y i r v a) ∧ (mtk Y i r v a).byts = Y.byts := ⟨rfl, rfl⟩
theorem gs_keepM (Y : MS) (i o : Nat) (h : B1 Y.byts) : eqM Y (gsO Y i o) ∧ B1 (gsO Y i o).byts := by
  have a1 := eqM_gu Y i (rx i o true)
  have a2 := by_gu Y i (rx i o true)
  unfold gsO
  generalize mgu Y i (rx i o true) = Z at *
  obtain ⟨b1, b2⟩ := tk_keep Z i (rx i o true) (Y.latest o) Y.taped
  generalize mtk Z i (rx i o true) (Y.latest o) Y.taped = W at *
  obtain ⟨d1, d2⟩ := msh_keep W i (rx i o true)
  refine ⟨a1.tr (b1.tr d1), ?_⟩
  rw [d2]
  exact mshS_lt (by rw [b2, a2]; exact h) _
theorem ga_keepM (Y : MS) (o mo : Nat) (h : B1 Y.byts) : ∀ n, eqM Y (gaM Y o mo n) ∧ B1 (gaM Y o mo n).byts
  | 0 => ⟨rfl, h⟩
  | n + 1 => by
    obtain ⟨i1, i2⟩ := ga_keepM Y o mo h n
    unfold gaM
    split
    · obtain ⟨d1, d2⟩ := gs_keepM (gaM Y o mo n) n o i2
      exact ⟨i1.tr d1, d2⟩
    · exact ⟨i1, i2⟩
theorem Nd_sf {X : CS} {Y : MS} {o m2 : Nat} (ho : o < 6) (hc : CI X) (hm : MI Y) (hn : ∀ j, j < 12 → Nd X Y j) (hs : ∀ i, i < 12 → X.live i = true → ct X.live i < m2 → 0 < X.hver i (sp X i o)) :
    ∀ n, n ≤ 12 → (∀ j, j < 12 → Nd (sfC X o m2 n) (gfM Y o m2 n) j) ∧ (∀ j, n ≤ j → sC X (sfC X o m2 n) j) ∧ (∀ j, j < n → X.live j = true → ct X.live j < m2 → (sfC X o m2 n).hver j (sp (sfC X o m2 n) j o) = 0)
  | 0, _ => ⟨hn, fun j _ => sC.rf X j, fun j hj => by omega⟩
  | n + 1, hn12 => by
    obtain ⟨i1, i2, i3⟩ := Nd_sf ho hc hm hn hs n (by omega)
    have hct : ct (fun i => !Y.fail i) n = ct X.live n := ct_congr n (fun k hk => by rw [(hn k (by omega)).1])
    have hfl : X.live n = (!Y.fail n) := (hn n (by omega)).1
    have e1 : sfC X o m2 (n + 1) = if X.live n = true ∧ ct X.live n < m2 then flC (sfC X o m2 n) n o else sfC X o m2 n := rfl
    have e2 : gfM Y o m2 (n + 1) = if Y.fail n = false ∧ ct (fun i => !Y.fail i) n < m2 then mfl (gfM Y o m2 n) n o else gfM Y o m2 n := rfl
    have hcX := CI_sf (o := o) (most := m2) hc n
    have hmY := MI_gf (o := o) (mo := m2) hm n
    rw [e1, e2]
    have hcur := i2 n (Nat.le_refl _)
    generalize sfC X o m2 n = Z at *
    generalize gfM Y o m2 n = W at *
    by_cases q : X.live n = true ∧ ct X.live n < m2
    · have q2 : Y.fail n = false ∧ ct (fun i => !Y.fail i) n < m2 := ⟨by rw [q.1] at hfl; simpa using hfl.symm, by rw [hct]; exact q.2⟩
      rw [if_pos q, if_pos q2]
      have hv : 0 < Z.hver n (sp Z n o) := by
        rw [show sp Z n o = sp X n o from hq_sC hcur o true, hcur.2.2.2.2.1]
        exact hs n (by omega) q.1 q.2
      refine ⟨fun j hj => ?_, fun j hj => (i2 j (by omega)).tr (sC_fl (by omega)), fun j hj hl hc' => ?_⟩
      · by_cases e : j = n
        · subst e
          exact Nd_fl ho hcX (i1 j hj) hv
        · exact Nd_frame hcX (i1 j hj) (sC_fl e) (sM_fl hmY ho e)
      · rw [sp_fl]
        show up2 Z.hver n (rp Z n o) 0 j _ = 0
        by_cases e : j = n
        · subst e
          rw [if_pos ⟨rfl, rfl⟩]
          exact up2_s
        · rw [if_neg (fun z => e z.1), up2_n (fun z => e z.1)]
          exact i3 j (by omega) hl hc'
    · have q2 : ¬ (Y.fail n = false ∧ ct (fun i => !Y.fail i) n < m2) := fun z => q ⟨by rw [hfl, z.1]; rfl, by rw [← hct]; exact z.2⟩
      rw [if_neg q, if_neg q2]
      refine ⟨i1, fun j hj => i2 j (by omega), fun j hj hl hc' => ?_⟩
      rcases Nat.lt_or_ge j n with z | z
      · exact i3 j z hl hc'
      · exact absurd (by rw [show n = j by omega]; exact ⟨hl, hc'⟩) q
section PUT
variable {K : Nat} {c : CS} {m : MS}
theorem ct_live12 {p : Nat → Bool} {i : Nat} (hi : i < 12) (h : p i = true) : ct p i < ct p 12 := by
  have a := ct_t h
  have b := ct12 (p := p) (i := i + 1) (by omega)
  omega
theorem Rel_fin (h : Rel K c m) {X : CS} {Y : MS} {o a v N lv t : Nat} (ho : o < 6) (hu : c.unst o = false) (hv : v = c.begun o + 1) (hlv : lv = ct c.live 12) (hN : N ≤ 2 * lv) (ht : t ≤ 240)
    (hnd : ∀ j, j < 12 → Nd X Y j) (hci : CI X) (hmi : MI Y) (hBC : BC X) (hmz : mz X.mat) (hby : B1 Y.byts)
    (hX : kB X = kB (bg1 c o)) (hcm : (bg1 c o).msgs = c.msgs + nI N) (hY : tgM (Y.s_taped 0) = tgM ((gs1 m o).s_taped 0))
    (hlive : X.live = c.live) (hsw : X.sw = c.sw) (hver : ∀ j, j < 12 → ∀ p, X.hver j p = if (c.live j = true ∧ ct c.live j < N) ∧ p = sp c j o then v else c.hver j p) (hbyt : ∀ j, j < 12 → ∀ p, X.hbyt j p = if (c.live j = true ∧ ct c.live j < N) ∧ p = sp c j o then a else c.hbyt j p) :
    Rel (K + 1) (((sfC X o (N - lv) 12).s_unst (upN (sfC X o (N - lv) 12).unst o (decide (N < 2 * lv)))).s_tapeN t) ((((gfM Y o (N - lv) 12).s_msgs ((gfM Y o (N - lv) 12).msgs + nI N)).s_opn (upN (gfM Y o (N - lv) 12).opn o (decide (N < 2 * lv)))).s_taped t) := by
  obtain ⟨h1, ⟨g1, g2, g3, g4⟩, ⟨l1, l2, l3, l4, l5, l6, l7, l8, l9⟩, a1, a2, a3, a4, a5, a6, a7, a8, a9, b1, b2, b3, b4⟩ := id h
  have x1 : X.tape = c.tape := congrArg (fun t => t.1) hX
  have x3 : X.begun = upN c.begun o (c.begun o + 1) := congrArg (fun t => t.2.2.1) hX
  have x4 : X.unst = c.unst := congrArg (fun t => t.2.2.2.1) hX
  have x5 : X.cut = -1 := congrArg (fun t => t.2.2.2.2.1) hX
  have x6 : X.msgs = c.msgs + nI N := (congrArg (fun t => t.2.2.2.2.2.1) hX).trans hcm
  have x7 : X.syms = c.syms := congrArg (fun t => t.2.2.2.2.2.2.1) hX
  have x8 : X.gotN = c.gotN := congrArg (fun t => t.2.2.2.2.2.2.2.1) hX
  have x9 : X.gott = c.gott := congrArg (fun t => t.2.2.2.2.2.2.2.2.1) hX
  have x10 : X.squ = c.squ := congrArg (fun t => t.2.2.2.2.2.2.2.2.2.1) hX
  have y1 : Y.tape = m.tape := congrArg (fun t => t.1) hY
  have y3 : Y.latest = upN m.latest o (m.latest o + 1) := congrArg (fun t => t.2.2.1) hY
  have y4 : Y.opn = m.opn := congrArg (fun t => t.2.2.2.1) hY
  have y5 : Y.cutA = -1 := congrArg (fun t => t.2.2.2.2.1) hY
  have y6 : Y.msgs = m.msgs := congrArg (fun t => t.2.2.2.2.2.1) hY
  have y7 : Y.syms = m.syms := congrArg (fun t => t.2.2.2.2.2.2.1) hY
  have y8 : Y.gotN = m.gotN := congrArg (fun t => t.2.2.2.2.2.2.2.1) hY
  have y9 : Y.got = m.got := congrArg (fun t => t.2.2.2.2.2.2.2.2.1) hY
  have y10 : Y.eqs = m.eqs := congrArg (fun t => t.2.2.2.2.2.2.2.2.2.1) hY
  have y11 : Y.right = m.right := congrArg (fun t => t.2.2.2.2.2.2.2.2.2.2) hY
  have hspX : ∀ j q, sp X j q = sp c j q := fun j q => sp_eq hsw j q
  have hsel : ∀ i, i < 12 → c.live i = true → ct c.live i < N - lv → ct c.live i < N := fun i hi hl hq => by omega
  have hall : ∀ i, i < 12 → c.live i = true → ct c.live i < lv := fun i hi hl => by rw [hlv]; exact ct_live12 hi hl
  obtain ⟨i1, -, i3⟩ := Nd_sf (X := X) (Y := Y) (m2 := N - lv) ho hci hmi hnd (fun i hi hl hq => by
    rw [hlive] at hl hq
    rw [hspX, hver i hi, if_pos ⟨⟨hl, hsel i hi hl hq⟩, rfl⟩]
    omega) 12 (Nat.le_refl _)
  obtain ⟨z1, z2, z3, z4⟩ := sf_keep X o (N - lv) 12
  obtain ⟨w1, w2⟩ := gf_keep Y o (N - lv) 12
  have hcZ := CI_sf (o := o) (most := N - lv) hci 12
  have hmW := MI_gf (o := o) (mo := N - lv) hmi 12
  have hlZ := sfC_live X o (N - lv) 12
  rw [hlive] at i3
  generalize sfC X o (N - lv) 12 = Z at *
  generalize gfM Y o (N - lv) 12 = W at *
  obtain ⟨e1, e2, -, e4, e5, e6, e7, e8⟩ := z1.un
  obtain ⟨f1, f2, -, f4, f5, f6, f7⟩ := w1.un
  have e9 : Z.gotN = X.gotN := congrArg (fun t => t.2.2.2.2.2.2.2.1) z1
  have e10 : Z.gott = X.gott := congrArg (fun t => t.2.2.2.2.2.2.2.2.1) z1
  have e11 : Z.squ = X.squ := congrArg (fun t => t.2.2.2.2.2.2.2.2.2.1) z1
  have e12 : Z.inv = X.inv := congrArg (fun t => t.2.2.2.2.2.2.2.2.2.2.1) z1
  have e13 : Z.giv = X.giv := congrArg (fun t => t.2.2.2.2.2.2.2.2.2.2.2.1) z1
  have e14 : Z.wire = X.wire := congrArg (fun t => t.2.2.2.2.2.2.2.2.2.2.2.2.2) z1
  have f8 : W.gotN = Y.gotN := congrArg (fun t => t.2.2.2.2.2.2.2.1) w1
  have f9 : W.got = Y.got := congrArg (fun t => t.2.2.2.2.2.2.2.2.1) w1
  have f10 : W.eqs = Y.eqs := congrArg (fun t => t.2.2.2.2.2.2.2.2.2.1) w1
  have f11 : W.right = Y.right := congrArg (fun t => t.2.2.2.2.2.2.2.2.2.2) w1
  have hbg : ∀ q, Z.begun q = if q = o then v else c.begun q := fun q => by
    rw [e1, x3]
    by_cases e : q = o
    · rw [if_pos e, e, upN_s, hv]
    · rw [if_neg e, upN_n e]
  have hsd : ∀ j, sp c j o / 2 = o := fun j => hq_div c j o true
  refine ⟨fun j hj => i1 j hj, ⟨fun i p hi hp => ?_, fun i j p q hi hj hp hq hpq hpos heq => ?_, fun i q hi hq hl hp => ?_, fun q hq hq2 => ?_⟩, ⟨?_, rfl, fun q hq => ?_, fun q hq => ?_, ?_, ?_, ?_, ?_, fun x hx => ?_⟩, hcZ, hmW, ?_, ht, ?_, Or.inl ?_, ?_, ?_, ?_, ?_, ?_, ?_, fun q hq => ?_⟩
  · show Z.hver i p ≤ Z.begun (p / 2)
    rcases z3 i p with z | ⟨z, -⟩
    · rw [z]; exact Nat.zero_le _
    · rw [z, hver i hi, hbg]
      by_cases e : (c.live i = true ∧ ct c.live i < N) ∧ p = sp c i o
      · rw [if_pos e, e.2, if_pos (hsd i)]
        exact Nat.le_refl _
      · rw [if_neg e]
        have := g1 i p hi hp
        by_cases e2 : p / 2 = o
        · rw [if_pos e2]
          rw [e2] at this
          omega
        · rw [if_neg e2]; exact this
  · have hpos' : 0 < Z.hver i p := hpos
    have heq' : Z.hver i p = Z.hver j q := heq
    show Z.hbyt i p = Z.hbyt j q
    rcases z3 i p with z | ⟨za, zb⟩
    · omega
    · rcases z3 j q with y | ⟨ya, yb⟩
      · omega
      · rw [za] at hpos' heq'
        rw [ya] at heq'
        rw [zb, yb, hbyt i hi, hbyt j hj]
        rw [hver i hi] at hpos' heq'
        rw [hver j hj] at heq'
        by_cases s1 : (c.live i = true ∧ ct c.live i < N) ∧ p = sp c i o
        · rw [if_pos s1] at heq' ⊢
          by_cases s2 : (c.live j = true ∧ ct c.live j < N) ∧ q = sp c j o
          · rw [if_pos s2]
          · rw [if_neg s2] at heq'
            have := g1 j q hj hq
            rw [← hpq, s1.2, hsd i] at this
            omega
        · rw [if_neg s1] at heq' hpos' ⊢
          by_cases s2 : (c.live j = true ∧ ct c.live j < N) ∧ q = sp c j o
          · rw [if_pos s2] at heq'
            have := g1 i p hi hp
            rw [hpq, s2.2, hsd j] at this
            omega
          · rw [if_neg s2] at heq' ⊢
            exact g2 i j p q hi hj hp hq hpq hpos' heq'
  · have hl' : c.live i = true := by
      have : Z.live i = true := hl
      rwa [hlZ, hlive] at this
    have hp' : 0 < Z.hver i (sp Z i q) := hp
    show upN Z.unst o (decide (N < 2 * lv)) q = true ∧ Z.hver i (sp Z i q) = Z.begun q
    have hSS : Z.hver i (sp Z i q) = X.hver i (sp c i q) := by
      rcases z4 i q with y | y
      · omega
      · rw [hspX] at y
        exact y
    by_cases e : q = o
    · subst e
      rw [hSS, hver i hi] at hp'
      by_cases s1 : (c.live i = true ∧ ct c.live i < N) ∧ sp c i q = sp c i q
      · rw [hSS, hver i hi, if_pos s1, hbg, if_pos rfl, upN_s]
        refine ⟨decide_eq_true ?_, rfl⟩
        rcases Nat.lt_or_ge N (2 * lv) with y | y
        · exact y
        · exfalso
          have := i3 i hi hl' (by have := hall i hi hl'; omega)
          have hp2 : 0 < Z.hver i (sp Z i q) := hp
          omega
      · rw [if_neg s1] at hp'
        have := (g3 i q hi hq hl' hp').1
        rw [hu] at this
        cases this
    · have s1 : ¬ ((c.live i = true ∧ ct c.live i < N) ∧ sp c i q = sp c i o) := fun y => e (hq_inj (c := c) (i := i) (z := true) (y := true) y.2).1
      rw [hSS, hver i hi, if_neg s1] at hp' ⊢
      rw [upN_n e, e2, x4, hbg, if_neg e]
      exact g3 i q hi hq hl' hp'
  · have hq' : upN Z.unst o (decide (N < 2 * lv)) q = true := hq2
    show 0 < Z.begun q
    rw [hbg]
    by_cases e : q = o
    · rw [if_pos e]; omega
    · rw [if_neg e]
      rw [upN_n e, e2, x4] at hq'
      exact g4 q hq hq'
  · show Z.tape = W.tape
    rw [e4, f4, x1, y1]; exact l1
  · show Z.begun q = W.latest q
    rw [hbg, f1, y3]
    by_cases e : q = o
    · rw [if_pos e, e, upN_s, hv, l3 o ho]
    · rw [if_neg e, upN_n e]; exact l3 q hq
  · show upN Z.unst o (decide (N < 2 * lv)) q = upN W.opn o (decide (N < 2 * lv)) q
    by_cases e : q = o
    · rw [e, upN_s, upN_s]
    · rw [upN_n e, upN_n e, e2, f2, x4, y4]; exact l4 q hq
  · show Z.cut = W.cutA
    rw [e5, f5, x5, y5]
  · show Z.msgs = W.msgs + nI N
    rw [e6, f6, x6, y6, l6]
  · show Z.syms = W.syms
    rw [e7, f7, x7, y7]; exact l7
  · show Z.gotN = W.gotN
    rw [e9, f8, x8, y8]; exact l8
  · have hx' : x < Z.gotN := hx
    show Z.gott x = W.got x
    rw [e9, x8] at hx'
    rw [e10, f9, x9, y9]; exact l9 x hx'
  · show B1 Z.tape
    rw [e4, x1]; exact a3
  · show Z.gotN ≤ 240
    rw [e9, x8]; exact a5
  · show Z.cut = -1
    rw [e5, x5]
  · show BM Z.squ
    rw [e11, x10]; exact a7
  · show BC Z
    unfold BC
    rw [e12, e13, e8, e14, z2]
    exact hBC
  · show mz Z.mat
    rw [e8]; exact hmz
  · show B1 W.byts
    rw [w2]; exact hby
  · show B1 W.eqs
    rw [f10, y10]; exact b2
  · show B1 W.right
    rw [f11, y11]; exact b3
  · show Z.begun q ≤ K + 1
    rw [hbg]
    by_cases e : q = o
    · rw [if_pos e]
      have := b4 o ho
      omega
    · rw [if_neg e]
      have := b4 q hq
      omega
theorem Rel.go (h : Rel K c m) (a : Nat) : goN c = mst (m.s_taped a) ∧ isCutB c = decide (mst (m.s_taped a) < 2 * ct c.live 12) ∧ mst (m.s_taped a) ≤ 2 * ct c.live 12 ∧ lvM (m.s_taped a) = ct c.live 12 := by
  have hl : lvM (m.s_taped a) = ct c.live 12 := h.lv.symm
  have hcut : c.cut = m.cutA := h.2.2.1.2.2.2.2.1
  have hcc := h.2.2.2.2.2.2.2.2.1
  have hl12 := ct_le c.live 12
  rcases hcc with z | ⟨k, hk, z⟩
  · have e1 : mst (m.s_taped a) = 2 * lvM (m.s_taped a) := mst_t (m := m.s_taped a) (hcut.symm.trans z)
    have e2 := bg_cut0 z
    rw [e1, hl]
    refine ⟨?_, ?_, Nat.le_refl _, rfl⟩
    · unfold goN
      rw [e2]
      rfl
    · rw [e2, decide_eq_false (Nat.lt_irrefl _)]
  · have e1 : mst (m.s_taped a) = if k ≤ 2 * lvM (m.s_taped a) then k else 2 * lvM (m.s_taped a) := mst_k (m := m.s_taped a) (hcut.symm.trans z) hk
    have e2 := bg_cutK z hk
    rw [hl] at e1
    rw [e1]
    refine ⟨?_, ?_, by split <;> omega, hl⟩
    · unfold goN
      rw [e2, z, nI_clamp (by omega)]
      by_cases q : k < 2 * ct c.live 12
      · rw [if_pos (decide_eq_true q), if_pos (by omega)]
      · rw [if_neg (by rw [decide_eq_false q]; decide)]
        by_cases y : k ≤ 2 * ct c.live 12
        · rw [if_pos y]; omega
        · rw [if_neg y]
    · rw [e2]
      by_cases q : k < 2 * ct c.live 12
      · rw [decide_eq_true q, if_pos (by omega), decide_eq_true q]
      · rw [decide_eq_false q]
        by_cases y : k ≤ 2 * ct c.live 12
        · rw [if_pos y, decide_eq_false (by omega)]
        · rw [if_neg y, decide_eq_false (by omega)]
theorem ptS_mo (c : CS) (o v a : Nat) {mo mo' : Nat} (h : ∀ j, j < 12 → c.live j = true → (ct c.live j < mo ↔ ct c.live j < mo')) (j : Nat) : ptS c o v a mo 12 j = ptS c o v a mo' 12 j := by
  unfold ptS
  by_cases q : j < 12 ∧ c.live j = true ∧ ct c.live j < mo
  · rw [if_pos q, if_pos ⟨q.1, q.2.1, (h j q.1 q.2.1).mp q.2.2⟩]
  · rw [if_neg q, if_neg (fun z => q ⟨z.1, z.2.1, (h j z.1 z.2.1).mpr z.2.2⟩)]
theorem bg1_keep (c : CS) (o : Nat) : (bg1 c o).live = c.live ∧ (bg1 c o).sw = c.sw ∧ (bg1 c o).begun o = c.begun o + 1 ∧ (bg1 c o).tape = c.tape ∧ (bg1 c o).hver = c.hver ∧ (bg1 c o).hbyt = c.hbyt ∧ (bg1 c o).takn = c.takn ∧ (bg1 c o).mat = c.mat := ⟨rfl, rfl, upN_s, rfl, rfl, rfl, rfl, rfl⟩
theorem gs1_nd {i : Nat} (h : Nd c m i) (o a : Nat) : Nd (bg1 c o) (gs1 (m.s_taped a) o) i := h
theorem gs1_keep (m : MS) (o a : Nat) : (gs1 (m.s_taped a) o).latest o = m.latest o + 1 ∧ (gs1 (m.s_taped a) o).taped = a ∧ (gs1 (m.s_taped a) o).tape = m.tape ∧ tgM ((gs1 (m.s_taped a) o).s_taped 0) = tgM ((gs1 m o).s_taped 0) ∧ (gs1 (m.s_taped a) o).byts = m.byts := ⟨upN_s, rfl, rfl, rfl, rfl⟩
theorem tgM_tp {Y Y' : MS} (h : eqM Y Y') : tgM (Y'.s_taped 0) = tgM (Y.s_taped 0) := congrArg (fun t => (t.1, 0, t.2.2)) (show tgM Y' = tgM Y from h)
theorem CI_bg1 (h : CI c) (o : Nat) : CI (bg1 c o) := h
theorem MI_gs1 (h : MI m) (o a : Nat) : MI (gs1 (m.s_taped a) o) := h
theorem BC_bg1 (h : BC c) (o : Nat) : BC (bg1 c o) := h
theorem Rel.sh0 (h : Rel K c m) {o i : Nat} (ho : o < 6) (hu : c.unst o = false) (hi : i < 12) (hl : c.live i = true) : c.hver i (sp c i o) = 0 := by
  rcases Nat.eq_zero_or_pos (c.hver i (sp c i o)) with z | z
  · exact z
  · have := (h.2.1.2.2.1 i o hi ho hl z).1
    rw [hu] at this
    cases this
theorem Rel_begin (h : Rel K c m) {o a t : Nat} (ho : o < 6) (ha : a ≤ 240) (ht : t ≤ 240) (hK : K < 60000) (hu : c.unst o = false) (hf : ∀ i, i < 12 → c.live i = true → ∀ k, k < stp a → lf (TK (c.takn i) k) < 40) : gaOk (gs1 (m.s_taped a) o) o (mst (m.s_taped a)) ∧ Rel (K + 1) ((bgC c o a).s_tapeN t) ((gsM (m.s_taped a) o).s_taped t) := by
  obtain ⟨h1, -, hL, hI⟩ := id h
  obtain ⟨a1, a2, a3, a4, a5, a6, a7, a8, a9, b1, b2, b3, b4⟩ := id hI
  obtain ⟨r1, r2, r3, r4⟩ := h.go a
  obtain ⟨k1, k2, k3, k4, k5, k6, k7, k8⟩ := bg1_keep c o
  obtain ⟨q1, q2, q3, q4, q5⟩ := gs1_keep m o a
  have hbK := b4 o ho
  have hcm : (bg1 c o).msgs = c.msgs + nI (mst (m.s_taped a)) := by
    rw [← r1]
    rfl
  have hnd1 : ∀ j, j < 12 → Nd (bg1 c o) (gs1 (m.s_taped a) o) j := fun j hj => gs1_nd (h1 j hj) o a
  have hc1 := CI_bg1 a1 o
  have hm1 := MI_gs1 a2 o a
  have hB1 := BC_bg1 a8 o
  have hlat : (gs1 (m.s_taped a) o).latest o = c.begun o + 1 := by rw [q1, hL.2.2.1 o ho]
  have h0 : ∀ i, i < 12 → (bg1 c o).live i = true → (bg1 c o).hver i (sp (bg1 c o) i o) = 0 := fun i hi hl => by
    rw [k1] at hl
    rw [k5, sp_eq k2]
    exact h.sh0 ho hu hi hl
  have hf1 : ∀ i, i < 12 → (bg1 c o).live i = true → ∀ k, k < stp a → lf (TK ((bg1 c o).takn i) k) < 40 := fun i hi hl k hk => by
    rw [k1] at hl
    rw [k7]
    exact hf i hi hl k hk
  have hga := gaOk_of (mo := mst (m.s_taped a)) ho hc1 hm1 hnd1 hlat (by omega) (by omega) q2 ha (by rw [q3, k4]; exact hL.1.symm) h0 hf1
  refine ⟨hga, ?_⟩
  obtain ⟨n1, n2, -⟩ := Nd_ga2 (mo := mst (m.s_taped a)) ho hc1 hm1 hnd1 hlat (by omega) (by omega) q2 ha (by rw [q3, k4]; exact hL.1.symm) h0 hf1 12 (Nat.le_refl _)
  have hCal := CI_al (o := o) (mo := mst (m.s_taped a)) hc1 (show c.begun o + 1 < 65536 by omega) ha hf1 12 (Nat.le_refl _)
  have hsel : ∀ j, j < 12 → (bg1 c o).live j = true → (ct (bg1 c o).live j < (if ct c.live 12 < goN c then ct c.live 12 else goN c) ↔ ct (bg1 c o).live j < mst (m.s_taped a)) := fun j hj hl => by
    rw [k1] at hl ⊢
    have := ct_live12 hj hl
    rw [r1]
    split <;> omega
  have hXat : ∀ j, j < 12 → sC (ptS (bg1 c o) o (c.begun o + 1) a (mst (m.s_taped a)) 12 j) (bg2 c o a) j := fun j hj => by
    have z := ssB_at (c := bg1 c o) (o := o) (mo := if ct c.live 12 < goN c then ct c.live 12 else goN c) ha (by rw [k8]; exact a9) (by rw [k4]; exact a3) hB1 hj
    rw [k3, ptS_mo (bg1 c o) o (c.begun o + 1) a hsel j] at z
    exact z
  have hAat : ∀ j, sC (ptS (bg1 c o) o (c.begun o + 1) a (mst (m.s_taped a)) 12 j) (alC (bg1 c o) o (c.begun o + 1) a (mst (m.s_taped a)) 12) j := fun j => alC_at _ _ _ _ _ 12 j
  obtain ⟨s1, s2, s3, -⟩ := ssB_run (c := bg1 c o) (o := o) (mo := if ct c.live 12 < goN c then ct c.live 12 else goN c) ha (by rw [k8]; exact a9) (by rw [k4]; exact a3) hB1 (stp a)
  obtain ⟨u1, -, -, -, -, u6, -, -⟩ := ssB_keep (bg1 c o) o a (if ct c.live 12 < goN c then ct c.live 12 else goN c) (stp a)
  have hCX : CI (bg2 c o a) := CI_ssB (CI_ssA (o := o) hc1 (by rw [k3]; omega) ha hf1 12 (Nat.le_refl _)) (stp a)
  obtain ⟨g1, g2⟩ := ga_keepM (gs1 (m.s_taped a) o) o (mst (m.s_taped a)) (by rw [q5]; exact b1) 12
  have hver : ∀ j, j < 12 → ∀ p, (bg2 c o a).hver j p = if (c.live j = true ∧ ct c.live j < mst (m.s_taped a)) ∧ p = sp c j o then c.begun o + 1 else c.hver j p := fun j hj p => by
    rw [(hXat j hj).2.2.2.2.1]
    unfold ptS
    rw [k1]
    by_cases q : c.live j = true ∧ ct c.live j < mst (m.s_taped a)
    · rw [if_pos ⟨hj, q⟩, (pt1_row (bg1 c o) j o (c.begun o + 1) a).2.2.2.2.2.2.1, k5, sp_eq k2]
      by_cases e : p = sp c j o
      · rw [if_pos ⟨q, e⟩, e, upN_s]
      · rw [if_neg (fun z => e z.2), upN_n e]
    · rw [if_neg (fun z => q z.2), if_neg (fun z => q z.1), k5]
  have hbyt : ∀ j, j < 12 → ∀ p, (bg2 c o a).hbyt j p = if (c.live j = true ∧ ct c.live j < mst (m.s_taped a)) ∧ p = sp c j o then a else c.hbyt j p := fun j hj p => by
    rw [(hXat j hj).2.2.2.2.2.1]
    unfold ptS
    rw [k1]
    by_cases q : c.live j = true ∧ ct c.live j < mst (m.s_taped a)
    · rw [if_pos ⟨hj, q⟩, (pt1_row (bg1 c o) j o (c.begun o + 1) a).2.2.2.2.2.2.2.1, k6, sp_eq k2]
      by_cases e : p = sp c j o
      · rw [if_pos ⟨q, e⟩, e, upN_s]
      · rw [if_neg (fun z => e z.2), upN_n e]
    · rw [if_neg (fun z => q z.2), if_neg (fun z => q z.1), k6]
  have hnd : ∀ j, j < 12 → Nd (bg2 c o a) (gs2 (m.s_taped a) o) j := fun j hj => Nd_frame hCal (n1 j hj) ((hAat j).sy.tr (hXat j hj)) (sM.rf _ j)
  have hmi : MI (gs2 (m.s_taped a) o) := n2
  have hBy : B1 (gs2 (m.s_taped a) o).byts := g2
  have hY : tgM ((gs2 (m.s_taped a) o).s_taped 0) = tgM ((gs1 m o).s_taped 0) := (tgM_tp g1).trans q4
  have hX : kB (bg2 c o a) = kB (bg1 c o) := s1
  have hlv : (bg2 c o a).live = c.live := u1.trans k1
  have hsw : (bg2 c o a).sw = c.sw := u6.trans k2
  have hmz : mz (bg2 c o a).mat := s2
  have hbc : BC (bg2 c o a) := s3
  unfold bgC bg3 gsM gs3
  rw [r2, r1, r4]
  generalize bg2 c o a = X at *
  generalize gs2 (m.s_taped a) o = Y at *
  exact Rel_fin h ho hu rfl rfl r3 ht hnd hCX hmi hbc hmz hBy hX hcm hY hlv hsw hver hbyt
end PUT
