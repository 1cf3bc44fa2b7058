-- ===== get =====
def kD (c : CS) := (c.begun, c.unst, c.tape, c.tapeN, c.gotN, c.cut, c.msgs, c.syms, c.sent)
def kE (c : CS) := (c.inv, c.squ, c.gott)
def kM (m : MS) := (m.fail, m.sent, m.used, m.has, m.tape, m.taped, m.latest, m.opn, m.cutA, m.msgs, m.syms, m.gotN)
theorem kD_clJ (X : CS) (p i f j : Nat) : kD (clJ X p i f j) = kD X := rfl
theorem kD_scJ (X : CS) (p j : Nat) : kD (scJ X p j) = kD X := rfl
theorem gott_clJ (X : CS) (p i f j : Nat) : (clJ X p i f j).gott = X.gott := rfl
theorem gott_scJ (X : CS) (p j : Nat) : (scJ X p j).gott = X.gott := rfl
theorem kD_clC (c : CS) (p n : Nat) : ∀ i, kD (clC c p n i) = kD c ∧ (clC c p n i).gott = c.gott
  | 0 => ⟨rfl, rfl⟩
  | i + 1 => by
    unfold clC
    split
    · exact kD_clC c p n i
    · exact ⟨(kD_clJ _ _ _ _ _).trans (kD_clC c p n i).1, (gott_clJ _ _ _ _ _).trans (kD_clC c p n i).2⟩
theorem kD_ivP (c : CS) (n : Nat) : ∀ p, kD (ivP c n p) = kD c ∧ (ivP c n p).gott = c.gott
  | 0 => ⟨rfl, rfl⟩
  | p + 1 => ⟨(kD_clC (scJ (ivP c n p) p n) p n n).1.trans ((kD_scJ _ _ _).trans (kD_ivP c n p).1), (kD_clC (scJ (ivP c n p) p n) p n n).2.trans ((gott_scJ _ _ _).trans (kD_ivP c n p).2)⟩
theorem kD_dcO (X : CS) (o s k : Nat) : kD (dcO X o s k) = kD X ∧ kE (dcO X o s k) = kE X ∧ (dcO X o s k).mat = X.mat := ⟨rfl, rfl, rfl⟩
theorem kD_dcK (X : CS) (o s : Nat) : ∀ k, kD (dcK X o s k) = kD X ∧ kE (dcK X o s k) = kE X ∧ (dcK X o s k).mat = X.mat
  | 0 => ⟨rfl, rfl, rfl⟩
  | k + 1 => by
    obtain ⟨a1, a2, a3⟩ := kD_dcK X o s k
    obtain ⟨b1, b2, b3⟩ := kD_dcO (dcK X o s k) o s k
    exact ⟨b1.trans a1, b2.trans a2, b3.trans a3⟩
theorem kD_slC (X : CS) : kD (slC X 5) = kD X ∧ (slC X 5).gott = X.gott ∧ (slC X 5).inv = X.inv ∧ (slC X 5).squ = X.squ := ⟨rfl, rfl, rfl, rfl⟩
theorem sg_keep (X : CS) (f : Nat → Nat) : kD (X.s_gott f) = kD X ∧ (X.s_gott f).inv = X.inv ∧ (X.s_gott f).squ = X.squ ∧ (X.s_gott f).mat = X.mat ∧ (X.s_gott f).gott = f := ⟨rfl, rfl, rfl, rfl, rfl⟩
theorem dcT_keep (Z : CS) (a s : Nat) : kD (dcT Z a s) = kD Z ∧ (dcT Z a s).inv = Z.inv ∧ (dcT Z a s).squ = Z.squ ∧ (dcT Z a s).mat = (slC Z 5).mat ∧ (dcT Z a s).gott = ulM (slC Z 5).mat a Z.gott (s * 30) := by
  obtain ⟨a1, a2, a3, a4⟩ := kD_slC Z
  unfold dcT
  generalize slC Z 5 = W at *
  obtain ⟨b1, b2, b3, b4, b5⟩ := sg_keep W (ulM W.mat a W.gott (s * 30))
  exact ⟨b1.trans a1, b2.trans a3, b3.trans a4, b4, b5.trans (by rw [a2])⟩
theorem dcS_keep (c : CS) (o a : Nat) : ∀ s, kD (dcS c o a s) = kD c ∧ (dcS c o a s).inv = (ivP c 5 5).inv ∧ (dcS c o a s).squ = (ivP c 5 5).squ
  | 0 => ⟨(kD_ivP c 5 5).1, rfl, rfl⟩
  | s + 1 => by
    obtain ⟨a1, a2, a3⟩ := dcS_keep c o a s
    obtain ⟨b1, b2, b3⟩ := kD_dcK (dcS c o a s) o s 5
    have e : dcS c o a (s + 1) = dcT (dcK (dcS c o a s) o s 5) a s := rfl
    rw [e]
    generalize dcS c o a s = X at *
    generalize dcK X o s 5 = Z at *
    obtain ⟨d1, d2, d3, -, -⟩ := dcT_keep Z a s
    have f1 : Z.inv = X.inv := congrArg (fun t => t.1) b2
    have f2 : Z.squ = X.squ := congrArg (fun t => t.2.1) b2
    exact ⟨d1.trans (b1.trans a1), d2.trans (f1.trans a2), d3.trans (f2.trans a3)⟩
theorem erg_kM (X : MS) (a b d : Nat → Nat) : kM (((X.s_eqs a).s_right b).s_got d) = kM X ∧ (((X.s_eqs a).s_right b).s_got d).got = d := ⟨rfl, rfl⟩
theorem gtS_kM (X : MS) (o : Nat) : ∀ s, kM (gtS X o s) = kM X
  | 0 => rfl
  | s + 1 => by
    have h := gtS_kM X o s
    have k := (erg_kM (gtS X o s) (gS2 (gtS X o s) o s) (gRt (gtS X o s) o s 5) (gG2 (gtS X o s) o s)).1
    exact k.trans h
theorem gtS_got (X : MS) (o s : Nat) : (gtS X o (s + 1)).got = gG2 (gtS X o s) o s := (erg_kM (gtS X o s) (gS2 (gtS X o s) o s) (gRt (gtS X o s) o s 5) (gG2 (gtS X o s) o s)).2
section GET
variable {K : Nat} {c : CS} {m : MS}
/-- stripe by stripe -/
theorem dec_run {o a : Nat} (ho : o < 6) (ha : a ≤ 240) (hc : CI c) (hn : ∀ i, i < 12 → Nd c m i) (hch : ∀ k, k < 5 → m.chos k = c.chos k) (hlt : ∀ k, k < 5 → c.chos k < 12) (hrec : ∀ k, k < 5 → 0 < c.hver (c.chos k) (rp c (c.chos k) o) ∧ c.hstr (c.chos k) (rp c (c.chos k) o) = stp a) (h1 : BM c.squ) (hB : BC c) (hz : mz c.mat) (b1 : B1 m.byts) (b2 : B1 m.eqs) (b3 : B1 m.right) :
    ∀ s, s ≤ stp a → EB a (30 * s) (dcS c o a s).gott (gtS m o s).got ∧ mz (dcS c o a s).mat
  | 0, _ => ⟨fun x _ h => by omega, by
    have e : (dcS c o a 0).mat = c.mat := (ivP_mat c 5 5).1
    rw [e]
    exact hz⟩
  | s + 1, hs => by
    obtain ⟨ih, ihz⟩ := dec_run ho ha hc hn hch hlt hrec h1 hB hz b1 b2 b3 s (by omega)
    obtain ⟨x1, x2, x3⟩ := dcS_keep c o a s
    obtain ⟨n1, n2, n3, n4, n5, n6, n7, n8, n9⟩ := dcS_same c o a s
    obtain ⟨y1, y2, y3, y4, y5⟩ := gtS_keep m o s
    obtain ⟨y6, y7⟩ := gtS_lt (o := o) b1 b2 b3 s
    have hgB : ∀ k, k < 5 → ∀ t, t < 8 → (dcK (dcS c o a s) o s 5).giv k t = gtB (gtS m o s) o s k t := fun k hk t ht => by
      rw [dcK_giv _ o s 5 k hk t ht]
      have hr : rp (dcS c o a s) (c.chos k) o = rp c (c.chos k) o := rp_eq n7 _ _
      obtain ⟨v1, v2⟩ := hrec k hk
      have nd := hn _ (hlt k hk)
      have hb := (nd.2.2.2.2.1 o false ho).2
      rw [hq_f] at hb
      have hb2 := (hb v1).2.2 s (by omega)
      have h40 : c.hpl (c.chos k) (rp c (c.chos k) o) s < 40 := (hc _ _).2.2.2 s
      unfold gtB
      rw [n8, hr, n1, n3, y1, y2, y3, hch k hk, hb2]
      exact (nd.2.2.2.1 _ t h40 ht).symm
    obtain ⟨k1, k2, k3⟩ := kD_dcK (dcS c o a s) o s 5
    have kch := (dcK_same (dcS c o a s) o s 5).2.2.2.2.2.2.2.1
    have e : dcS c o a (s + 1) = dcT (dcK (dcS c o a s) o s 5) a s := rfl
    have eg := gtS_got m o s
    rw [e, eg]
    have hby : B1 (gtS m o s).byts := by rw [y1]; exact b1
    obtain ⟨g1, g2⟩ := gS_eq (c := c) (m := gtS m o s) (o := o) (s := s) h1 hB.1 hby y6 (fun i hi => by rw [y2]; exact hch i hi)
    generalize gtS m o s = Y at *
    generalize hX : dcS c o a s = X at *
    generalize hZ : dcK X o s 5 = Z at *
    obtain ⟨d1, d2, d3, d4, d5⟩ := dcT_keep Z a s
    have f1 : Z.inv = (ivP c 5 5).inv := (congrArg (fun t => t.1) k2).trans x2
    have f2 : Z.gott = X.gott := congrArg (fun t => t.2.2) k2
    have f3 : Z.chos = c.chos := kch.trans n8
    obtain ⟨s1, s2, s3⟩ := slC_mat hgB
    rw [f1] at s1 s2
    rw [f3] at s2
    refine ⟨?_, ?_⟩
    · rw [d5, f2]
      refine EB_got ha ih (fun i j hij hj => ?_) (fun i hi q hq => ?_)
      · rw [s2 i j hij hj, g2 i (by omega) j hj]
      · rw [s1 i hi q hq, gRt_at Y o s 5 i q hi hq, g1 i hi q hq]
    · rw [d4]
      exact s3 (by rw [k3]; exact ihz)
theorem Rel_chos (h : Rel K c m) (V W : Nat → Nat) : Rel K (c.s_chos V) (m.s_chos W) := ⟨fun i hi => h.1 i hi, h.2.1, h.2.2.1, h.2.2.2⟩
theorem Rel.sel (h : Rel K c m) {o i : Nat} (ho : o < 6) (hi : i < 12) (x : Int32) : selN c o x i = selM m o (mnw m o) x i := by
  unfold selN selM
  rw [h.nwE ho, h.frsE hi ho]
/-- fresh nodes have what the newest version has -/
theorem Rel.fresh (h : Rel K c m) {o i : Nat} (ho : o < 6) (hi : i < 12) (hf : frs c o (nw c o) i = true) : 0 < c.hver i (rp c i o) ∧ rver c i o = nw c o ∧ c.hbyt i (rp c i o) = nbS c o ∧ rstr c i o = stp (nbS c o) ∧ nbS c o ≤ 240 := by
  obtain ⟨a, b, d⟩ := frs_ver hf
  have hl : ffr c o < 12 := by
    rw [h.ffE ho]
    exact mff_nw (by rw [← h.nwE ho]; exact a)
  have hq : frs c o (nw c o) (ffr c o) = true := by
    have q : (!frs c o (nw c o) (ffr c o)) = false := lfF_at12 (T := fun i => !frs c o (nw c o) i) (f := 12) hl
    simpa using q
  obtain ⟨-, -, d2⟩ := frs_ver hq
  have hb : nbS c o = c.hbyt (ffr c o) (rp c (ffr c o) o) := if_pos hl
  have e : c.hbyt i (rp c i o) = c.hbyt (ffr c o) (rp c (ffr c o) o) := by
    refine h.2.1.2.1 i (ffr c o) _ _ hi hl (rp_lt ho) (rp_lt ho) ?_ ?_ ?_
    · have p1 := hq_div c i o false
      have p2 := hq_div c (ffr c o) o false
      rw [hq_f] at p1 p2
      rw [p1, p2]
    · have : rver c i o = c.hver i (rp c i o) := rfl
      omega
    · exact d.trans d2.symm
  obtain ⟨-, j2, j3, -⟩ := h.hi hi (rp_lt (c := c) (i := i) ho)
  refine ⟨?_, d, by rw [e, hb], ?_, ?_⟩
  · have : rver c i o = c.hver i (rp c i o) := rfl
    omega
  · show c.hstr i (rp c i o) = _
    rw [j2, e, hb]
  · rw [hb, ← e]
    exact j3
theorem Rel_get (h : Rel K c m) {o a : Nat} (ho : o < 6) (ha : a ≤ 240) (hch : ∀ k, k < 5 → m.chos k = c.chos k) (hlt : ∀ k, k < 5 → c.chos k < 12) (hrec : ∀ k, k < 5 → 0 < c.hver (c.chos k) (rp c (c.chos k) o) ∧ c.hstr (c.chos k) (rp c (c.chos k) o) = stp a) : Rel (K + 1) ((dcC c o a).s_gotN a) ((gtS m o (stp a)).s_gotN a) := by
  obtain ⟨h1, h2, hL, hI⟩ := id h.up
  obtain ⟨a1, a2, a3, a4, a5, a6, a7, a8, a9, b1, b2, b3, b4⟩ := id hI
  obtain ⟨r1, r2⟩ := dec_run ho ha a1 h1 hch hlt hrec a7 a8 a9 b1 b2 b3 (stp a) (Nat.le_refl _)
  obtain ⟨x1, -, x3⟩ := dcS_keep c o a (stp a)
  obtain ⟨n1, n2, n3, n4, n5, n6, n7, -, n9⟩ := dcS_same c o a (stp a)
  have xB := dcS_BC (o := o) (a := a) a7 a8 (stp a)
  have xS : BM (dcS c o a (stp a)).squ := by rw [x3]; exact (ivP_BM (n := 5) a7 a8.1 5).1
  obtain ⟨y1, -, y3, y4, y5⟩ := gtS_keep m o (stp a)
  obtain ⟨y6, y7⟩ := gtS_lt (o := o) b1 b2 b3 (stp a)
  have yk := gtS_kM m o (stp a)
  have yM := gtS_MI (X := m) (o := o) a2 (stp a)
  unfold dcC
  generalize dcS c o a (stp a) = X at *
  generalize gtS m o (stp a) = Y at *
  have t1 : X.begun = c.begun := congrArg (fun t => t.1) x1
  have t2 : X.unst = c.unst := congrArg (fun t => t.2.1) x1
  have t3 : X.tape = c.tape := congrArg (fun t => t.2.2.1) x1
  have t4 : X.tapeN = c.tapeN := congrArg (fun t => t.2.2.2.1) x1
  have t6 : X.cut = c.cut := congrArg (fun t => t.2.2.2.2.2.1) x1
  have t7 : X.msgs = c.msgs := congrArg (fun t => t.2.2.2.2.2.2.1) x1
  have t8 : X.syms = c.syms := congrArg (fun t => t.2.2.2.2.2.2.2.1) x1
  have t9 : X.sent = c.sent := congrArg (fun t => t.2.2.2.2.2.2.2.2) x1
  have u1 : Y.fail = m.fail := congrArg (fun t => t.1) yk
  have u2 : Y.sent = m.sent := congrArg (fun t => t.2.1) yk
  have u3 : Y.used = m.used := congrArg (fun t => t.2.2.1) yk
  have u4 : Y.has = m.has := congrArg (fun t => t.2.2.2.1) yk
  have u5 : Y.tape = m.tape := congrArg (fun t => t.2.2.2.2.1) yk
  have u6 : Y.taped = m.taped := congrArg (fun t => t.2.2.2.2.2.1) yk
  have u7 : Y.latest = m.latest := congrArg (fun t => t.2.2.2.2.2.2.1) yk
  have u8 : Y.opn = m.opn := congrArg (fun t => t.2.2.2.2.2.2.2.1) yk
  have u9 : Y.cutA = m.cutA := congrArg (fun t => t.2.2.2.2.2.2.2.2.1) yk
  have u10 : Y.msgs = m.msgs := congrArg (fun t => t.2.2.2.2.2.2.2.2.2.1) yk
  have u11 : Y.syms = m.syms := congrArg (fun t => t.2.2.2.2.2.2.2.2.2.2.1) yk
  have hX : CI X := CI_eq a1 n3 n4 n5 n6
  obtain ⟨l1, l2, l3, l4, l5, l6, l7, l8, l9⟩ := hL
  obtain ⟨g1, g2, g3, g4⟩ := h2
  refine ⟨fun i hi => ?_, ⟨fun i p hi hp => ?_, fun i j p q hi hj hp hq e hv => ?_, fun i o' hi ho' hl hv => ?_, fun o' ho' hu => ?_⟩, ⟨?_, ?_, fun o' ho' => ?_, fun o' ho' => ?_, ?_, ?_, ?_, rfl, fun x hx => ?_⟩, hX, yM, ?_, ?_, ha, ?_, xS, xB, r2, ?_, y6, y7, fun o' ho' => ?_⟩
  · refine Nd_frame a1 (h1 i hi) (c' := X.s_gotN a) (m' := Y.s_gotN a) ⟨congrFun n9 i, congrFun t9 i, congrFun n2 i, congrFun n1 i, congrFun n5 i, congrFun n6 i, congrFun n4 i, congrFun n3 i, congrFun n7 i⟩ ⟨congrFun u1 i, congrFun u2 i, fun b hb => congrFun u3 _, fun b hb => congrFun y1 _, fun o' z ho' => ⟨congrFun u4 _, congrFun y5 _, congrFun y4 _, fun s hs => congrFun y3 _⟩⟩
  · show X.hver i p ≤ X.begun (p / 2)
    rw [n5, t1]
    exact g1 i p hi hp
  · have hv' : 0 < X.hver i p := hv
    show X.hver i p = X.hver j q → X.hbyt i p = X.hbyt j q
    rw [n5] at hv' ⊢
    rw [n6]
    exact g2 i j p q hi hj hp hq e hv'
  · have hv' : 0 < X.hver i (sp X i o') := hv
    have hl' : X.live i = true := hl
    show X.unst o' = true ∧ X.hver i (sp X i o') = X.begun o'
    rw [n5, sp_eq n7] at hv'
    rw [n9] at hl'
    rw [n5, sp_eq n7, t2, t1]
    exact g3 i o' hi ho' hl' hv'
  · have hu' : X.unst o' = true := hu
    show 0 < X.begun o'
    rw [t2] at hu'
    rw [t1]
    exact g4 o' ho' hu'
  · exact t3.trans (l1.trans u5.symm)
  · exact t4.trans (l2.trans u6.symm)
  · show X.begun o' = Y.latest o'
    rw [t1, u7]; exact l3 o' ho'
  · show X.unst o' = Y.opn o'
    rw [t2, u8]; exact l4 o' ho'
  · exact t6.trans (l5.trans u9.symm)
  · exact t7.trans (l6.trans u10.symm)
  · exact t8.trans (l7.trans u11.symm)
  · have hx' : x < a := hx
    refine r1 x hx' ?_
    have : stp a = (a + 30 - 1) / 30 := rfl
    omega
  · show B1 X.tape
    rw [t3]; exact a3
  · show X.tapeN ≤ 240
    rw [t4]; exact a4
  · show X.cut = -1 ∨ ∃ k, k < 24 ∧ X.cut = nI k
    rw [t6]; exact a6
  · show B1 Y.byts
    rw [y1]; exact b1
  · show X.begun o' ≤ K + 1
    rw [t1]; exact b4 o' ho'
theorem ag_get (h : Rel K c m) (x y : Int32) : Ag K c m M_S_get M_M_get [.int x, .int y] := by
  by_cases hx : inR x 6 = true
  · obtain ⟨o, ho, rfl⟩ := inR_of hx (by decide)
    have hu := h.2.2.1.2.2.2.1 o ho
    by_cases q : c.unst o = true
    · exact ⟨_, c, m, fun l g n d hd => k_S_get_no (by omega) ho q, fun l g n d hd => k_M_get_no (by omega) ho (by rw [← hu]; exact q), h.up⟩
    · have q' : c.unst o = false := by simpa using q
      have qm : m.opn o = false := by rw [← hu]; exact q'
      have hsel : ∀ i, i < 12 → selN c o y i = selM m o (mnw m o) y i := fun i hi => h.sel ho hi y
      have hct : ct (selN c o y) 12 = ct (selM m o (mnw m o) y) 12 := ct_congr 12 hsel
      rcases Nat.lt_or_ge (ct (selN c o y) 12) 5 with hs | hs
      · exact ⟨_, gc1 c o y, gm1 m o y, fun l g n d hd => k_S_getFew (by omega) ho h.ci q' hs, fun l g n d hd => k_M_getFew (by omega) ho h.mi qm (by rw [← hct]; exact hs), Rel_chos h.up _ _⟩
      · obtain ⟨i, hi, hi2⟩ := ct_pos 12 (show 0 < ct (selN c o y) 12 by omega)
        have hfi : frs c o (nw c o) i = true := by
          unfold selN at hi2
          rw [Bool.and_eq_true] at hi2
          exact hi2.2
        have hnw : 0 < nw c o := (frs_ver hfi).1
        have hnwm : 0 < mnw m o := by rw [← h.nwE ho]; exact hnw
        have hff := mff_nw hnwm
        have hnb := h.nb ho hnw
        obtain ⟨-, -, -, -, hn240⟩ := h.fresh ho hi hfi
        have hsm : 5 ≤ ct (selM m o (mnw m o) y) 12 := by rw [← hct]; exact hs
        rcases Nat.eq_zero_or_pos (nbS c o) with h0 | h0
        · exact ⟨_, gc1 c o y, gm1 m o y, fun l g n d hd => k_S_getEmpty (by omega) ho h.ci q' hs h0, fun l g n d hd => k_M_getEmpty (by omega) ho h.mi qm hsm hff (by rw [← hnb]; exact h0), Rel_chos h.up _ _⟩
        · have hch : ∀ k, k < 5 → (gm1 m o y).chos k = (gc1 c o y).chos k := fun k hk => (chF_eq hsel (by omega) hk).symm
          have hk1 : ∀ k, k < 5 → (gc1 c o y).chos k < 12 ∧ selN c o y ((gc1 c o y).chos k) = true := fun k hk => by
            obtain ⟨z1, z2, -⟩ := chF_spec (selN c o y) c.chos 5 12 k (by omega) hk
            exact ⟨z1, z2⟩
          have hfr : ∀ k, k < 5 → frs c o (nw c o) ((gc1 c o y).chos k) = true := fun k hk => by
            have z := (hk1 k hk).2
            unfold selN at z
            rw [Bool.and_eq_true] at z
            exact z.2
          have hne : ∀ j k, j < 5 → k < 5 → j ≠ k → (gc1 c o y).chos j ≠ (gc1 c o y).chos k := fun j k hj hk hjk => chF_ne (by omega) (by omega) hj hk hjk
          have hI := h.2.2.2
          have hchm : ∀ k, k < 5 → (gm1 m o y).chos k < 12 := fun k hk => by rw [hch k hk]; exact (hk1 k hk).1
          refine ⟨_, (dcC (gc1 c o y) o (nbS c o)).s_gotN (nbS c o), (gtS (gm1 m o y) o (stp (nbS c o))).s_gotN (nbS c o), fun l g n d hd => k_S_get (by omega) ho h.ci q' hs h0 hn240 (fun k hk => (hk1 k hk).1) (fun k hk => ?_) hI.2.2.2.2.2.2.1 h.bc, fun l g n d hd => ?_, ?_⟩
          · obtain ⟨-, -, -, w, -⟩ := h.fresh ho (hk1 k hk).1 (hfr k hk)
            exact ⟨w, fun s hs' => (h.hi (hk1 k hk).1 (rp_lt ho)).2.2.2 s hs'⟩
          · have hpv : ∀ s, s < stp (szM m o) → (∀ q, q < 5 → stE (gE1 (gtS (gm1 m o y) o s) o s 5) 5 8 q (16 * q + q) ≠ 0) ∧ (∀ q, q < 5 → stE (gE2 (gtS (gm1 m o y) o s) o s 5) 5 10 q (16 * q + q) ≠ 0) := fun s hs' => by
              have hk2 := (gtS_keep (gm1 m o y) o s).2.1
              have hk3 := (gtS_keep (gm1 m o y) o s).1
              have hby : B1 (gtS (gm1 m o y) o s).byts := by rw [hk3]; exact h.by
              generalize gtS (gm1 m o y) o s = Y at *
              have hY : ∀ i, i < 5 → Y.chos i = (gc1 c o y).chos i := fun i hi => by rw [hk2]; exact hch i hi
              exact ⟨piv_st (c := gc1 c o y) (Bm := fun i t => gtB Y o s i (5 + t)) (by decide) (by decide) (by decide) hI.2.2.2.2.2.2.1 h.bc.1 (fun k hk => (hk1 k hk).1) hne (fun i hi k hk => by rw [gE1_row Y o s 5 i k hi hk, hY i hi]) (fun i hi t ht => gE1_rhs Y o s 5 i t hi (by omega)) (fun i t => gtB_lt hby o s i (5 + t)),
                piv_st (c := gc1 c o y) (Bm := fun i t => gVv Y o s i t 3) (by decide) (by decide) (by decide) hI.2.2.2.2.2.2.1 h.bc.1 (fun k hk => (hk1 k hk).1) hne (fun i hi k hk => by rw [gE2_row Y o s 5 i k hi hk, hY i hi]) (fun i hi t ht => gE2_rhs Y o s 5 i t hi (by omega)) (fun i t => gVv_lt hby 3)⟩
            rw [hnb]
            rw [hnb] at h0
            exact k_M_get (by omega) ho h.mi qm hsm hff h0 h.by hI.2.2.2.2.2.2.2.2.2.2.1 hI.2.2.2.2.2.2.2.2.2.2.2.1 hchm hpv
          · refine Rel_get (Rel_chos h (chF (selN c o y) c.chos 5 12) (chF (selM m o (mnw m o) y) m.chos 5 12)) ho hn240 hch (fun k hk => (hk1 k hk).1) (fun k hk => ?_)
            obtain ⟨w1, -, -, w, -⟩ := h.fresh ho (hk1 k hk).1 (hfr k hk)
            exact ⟨w1, w⟩
  · exact ⟨_, c, m, fun l g n d hd => k_S_get_bad (by omega) (by simpa using hx), fun l g n d hd => k_M_get_bad (by omega) (by simpa using hx), h.up⟩
end GET
