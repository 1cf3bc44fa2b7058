-- ===== putting: the shadows, node by node on both sides =====
/-- a node takes its shadow, with its shares -/
def pt1 (Z : CS) (i o v a : Nat) : CS := (takC Z i (sp Z i o) v a).s_data (upN (takC Z i (sp Z i o) v a).data i (dtS (Z.data i) (PLs (Z.takn i) (Z.hpl i (sp Z i o)) (stp a)) Z.tape a i (stp a)))
def alC (c : CS) (o v a mo : Nat) : Nat → CS
  | 0 => c
  | i + 1 => if c.live i = true ∧ ct c.live i < mo then pt1 (alC c o v a mo i) i o v a else alC c o v a mo i
/-- node j as it is when its shadow was sent, or as it was -/
def ptS (c : CS) (o v a mo n j : Nat) : CS := if j < n ∧ c.live j = true ∧ ct c.live j < mo then pt1 c j o v a else c
theorem sC_ptn {Z : CS} {i j o v a : Nat} (hj : j ≠ i) : sC Z (pt1 Z i o v a) j := (sC_tk hj).tr (sC_data hj)
theorem up2_row {α : Type} (f : Nat → Nat → α) (i p : Nat) (v : α) : up2 f i p v i = upN (f i) p v := upN_s
theorem pt1_row (Z : CS) (i o v a : Nat) : (pt1 Z i o v a).live = Z.live ∧ (pt1 Z i o v a).sent = Z.sent ∧ (pt1 Z i o v a).sw = Z.sw ∧ (pt1 Z i o v a).tape = Z.tape ∧ (pt1 Z i o v a).takn i = TK (Z.takn i) (stp a) ∧ (pt1 Z i o v a).data i = dtS (Z.data i) (PLs (Z.takn i) (Z.hpl i (sp Z i o)) (stp a)) Z.tape a i (stp a) ∧ (pt1 Z i o v a).hver i = upN (Z.hver i) (sp Z i o) v ∧ (pt1 Z i o v a).hbyt i = upN (Z.hbyt i) (sp Z i o) a ∧ (pt1 Z i o v a).hstr i = upN (Z.hstr i) (sp Z i o) (stp a) ∧ (pt1 Z i o v a).hpl i = upN (Z.hpl i) (sp Z i o) (PLs (Z.takn i) (Z.hpl i (sp Z i o)) (stp a)) := ⟨rfl, rfl, rfl, rfl, upN_s, upN_s, upN_s, upN_s, upN_s, upN_s⟩
theorem sC_pt {c Z : CS} {j o v a : Nat} (h : sC c Z j) (ht : Z.tape = c.tape) : sC (pt1 c j o v a) (pt1 Z j o v a) j := by
  have hs : sp Z j o = sp c j o := hq_sC h o true
  obtain ⟨a1, a2, a3, a4, a5, a6, a7, a8, a9⟩ := h
  obtain ⟨b1, b2, b3, b4, b5, b6, b7, b8, b9, b10⟩ := pt1_row c j o v a
  obtain ⟨d1, d2, d3, d4, d5, d6, d7, d8, d9, d10⟩ := pt1_row Z j o v a
  unfold sC
  rw [b1, b2, b3, b5, b6, b7, b8, b9, b10, d1, d2, d3, d5, d6, d7, d8, d9, d10, hs, ht, a1, a2, a3, a4, a5, a6, a7, a8, a9]
  exact ⟨rfl, rfl, rfl, rfl, rfl, rfl, rfl, rfl, rfl⟩
theorem alC_keep (c : CS) (o v a mo : Nat) : ∀ n, (alC c o v a mo n).live = c.live ∧ (alC c o v a mo n).tape = c.tape
  | 0 => ⟨rfl, rfl⟩
  | n + 1 => by
    obtain ⟨i1, i2⟩ := alC_keep c o v a mo n
    show (if _ then _ else _ : CS).live = _ ∧ (if _ then _ else _ : CS).tape = _
    split
    · obtain ⟨b1, -, -, b4, -⟩ := pt1_row (alC c o v a mo n) n o v a
      exact ⟨b1.trans i1, b4.trans i2⟩
    · exact ⟨i1, i2⟩
theorem alC_at (c : CS) (o v a mo : Nat) : ∀ n j, sC (ptS c o v a mo n j) (alC c o v a mo n) j
  | 0, j => by
    unfold ptS
    rw [if_neg (by omega)]
    exact sC.rf c j
  | n + 1, j => by
    have ih := alC_at c o v a mo n j
    have ht := (alC_keep c o v a mo n).2
    have e : alC c o v a mo (n + 1) = if c.live n = true ∧ ct c.live n < mo then pt1 (alC c o v a mo n) n o v a else alC c o v a mo n := rfl
    rw [e]
    unfold ptS at ih ⊢
    by_cases q : c.live n = true ∧ ct c.live n < mo
    · rw [if_pos q]
      by_cases z : j = n
      · subst z
        rw [if_neg (by omega)] at ih
        rw [if_pos ⟨by omega, q⟩]
        exact sC_pt ih ht
      · refine sC.tr ?_ (sC_ptn z)
        by_cases y : j < n ∧ c.live j = true ∧ ct c.live j < mo
        · rw [if_pos y] at ih
          rw [if_pos ⟨by omega, y.2⟩]
          exact ih
        · rw [if_neg y] at ih
          rw [if_neg (fun x => y ⟨by omega, x.2⟩)]
          exact ih
    · rw [if_neg q]
      by_cases y : j < n ∧ c.live j = true ∧ ct c.live j < mo
      · rw [if_pos y] at ih
        rw [if_pos ⟨by omega, y.2⟩]
        exact ih
      · rw [if_neg y] at ih
        rw [if_neg (fun x => y ⟨by rcases Nat.lt_or_ge j n with w | w; exact w; exact absurd (by rw [show n = j by omega]; exact x.2) q, x.2⟩)]
        exact ih
theorem alC_cur (c : CS) (o v a mo n : Nat) : sC c (alC c o v a mo n) n := by
  have h := alC_at c o v a mo n n
  unfold ptS at h
  rw [if_neg (by omega)] at h
  exact h
theorem CI_data {W : CS} {D : Nat → Nat → Nat} (h : CI W) : CI (W.s_data D) := h
theorem CI_pt {Z : CS} {i o v a : Nat} (h : CI Z) (hv : v < 65536) (ha : a ≤ 240) (hf : ∀ k, k < stp a → lf (TK (Z.takn i) k) < 40) : CI (pt1 Z i o v a) := CI_data (CI_tak (p := sp Z i o) h hv ha hf)
theorem CI_al {c : CS} {o v a mo : Nat} (h : CI c) (hv : v < 65536) (ha : a ≤ 240) (hf : ∀ i, i < 12 → c.live i = true → ∀ k, k < stp a → lf (TK (c.takn i) k) < 40) : ∀ n, n ≤ 12 → CI (alC c o v a mo n)
  | 0, _ => h
  | n + 1, hn => by
    have ih := CI_al (o := o) (mo := mo) h hv ha hf n (by omega)
    have hs := (alC_cur c o v a mo n).2.2.1
    show CI (if _ then _ else _)
    split
    · rename_i q
      exact CI_pt ih hv ha (fun k hk => by rw [hs]; exact hf n (by omega) q.1 k hk)
    · exact ih
/-- both put at the nodes, one by one -/
theorem Nd_ga2 {c : CS} {m : MS} {o v a mo : Nat} (ho : o < 6) (hc : CI c) (hm : MI m) (hn : ∀ j, j < 12 → Nd c m j) (hv : m.latest o = v) (hv0 : 0 < v) (hv1 : v < 65536) (ht : m.taped = a) (ha : a ≤ 240) (htp : m.tape = c.tape) (h0 : ∀ i, i < 12 → c.live i = true → c.hver i (sp c i o) = 0) (hf : ∀ i, i < 12 → c.live i = true → ∀ k, k < stp a → lf (TK (c.takn i) k) < 40) :
    ∀ n, n ≤ 12 → (∀ j, j < 12 → Nd (alC c o v a mo n) (gaM m o mo n) j) ∧ MI (gaM m o mo n) ∧ (n < 12 → c.live n = true → (gaM m o mo n).has (rx n o true) = false ∧ ∀ k, k < stp a → lf (fun b => mtU (gaM m o mo n).used n k (40 * n + b)) < 40)
  | n, hn12 => by
    have base : (∀ j, j < 12 → Nd (alC c o v a mo n) (gaM m o mo n) j) ∧ MI (gaM m o mo n) := by
      cases n with
      | zero => exact ⟨hn, hm⟩
      | succ n =>
        obtain ⟨ih, ihm, ihk⟩ := Nd_ga2 ho hc hm hn hv hv0 hv1 ht ha htp h0 hf n (by omega)
        have hct : ct (fun i => !m.fail i) n = ct c.live n := ct_congr n (fun k hk => by rw [(hn k (by omega)).1])
        have hfl : c.live n = (!m.fail n) := (hn n (by omega)).1
        have e1 : alC c o v a mo (n + 1) = if c.live n = true ∧ ct c.live n < mo then pt1 (alC c o v a mo n) n o v a else alC c o v a mo n := rfl
        have e2 : gaM m o mo (n + 1) = if m.fail n = false ∧ ct (fun i => !m.fail i) n < mo then gsO (gaM m o mo n) n o else gaM m o mo n := rfl
        rw [e1, e2]
        by_cases q : c.live n = true ∧ ct c.live n < mo
        · have q2 : m.fail n = false ∧ ct (fun i => !m.fail i) n < mo := ⟨by rw [q.1] at hfl; simpa using hfl.symm, by rw [hct]; exact q.2⟩
          rw [if_pos q, if_pos q2]
          obtain ⟨k1, k2⟩ := ihk (by omega) q.1
          have hcu := alC_cur c o v a mo n
          have htape := (alC_keep c o v a mo n).2
          have hZc := CI_al (o := o) (mo := mo) hc hv1 ha hf n (by omega)
          obtain ⟨s1, s2, s3, s4, -⟩ := samG_ga m o mo n
          unfold gsO
          rw [show mgu (gaM m o mo n) n (rx n o true) = gaM m o mo n from if_neg (by rw [k1]; decide), s2, s3, hv, ht]
          generalize gaM m o mo n = Y at *
          generalize alC c o v a mo n = Z at *
          have hsp : sp Z n o = sp c n o := hq_sC hcu o true
          have hz0 : Z.hver n (hq Z n o true) = 0 := by
            rw [hq_t, hsp, hcu.2.2.2.2.1]
            exact h0 n (by omega) q.1
          have hfZ : ∀ k, k < stp a → lf (TK (Z.takn n) k) < 40 := fun k hk => by rw [hcu.2.2.1]; exact hf n (by omega) q.1 k hk
          have nT := Nd_tk (z := true) (v := v) ho hv0 ha (ih n (by omega)) hz0 hfZ
          rw [hq_t] at nT
          have hY1 : MI (mtk Y n (rx n o true) v a) := MI_tk ihm hv1 ha k2
          have hsz : (mtk Y n (rx n o true) v a).size (rx n o true) = a := upN_s
          have hblk := (nT.2.2.2.2.1 o true ho).2
          rw [show hq (takC Z n (sp Z n o) v a) n o true = sp Z n o from rfl] at hblk
          have hvv : (takC Z n (sp Z n o) v a).hver n (sp Z n o) = v := up2_s
          have hst : (takC Z n (sp Z n o) v a).hstr n (sp Z n o) = stp a := up2_s
          have hpl : (takC Z n (sp Z n o) v a).hpl n (sp Z n o) = PLs (Z.takn n) (Z.hpl n (sp Z n o)) (stp a) := up2_s
          rw [hvv, hst, hpl] at hblk
          have hB := (hblk hv0).2.2
          have eM : msh (mtk Y n (rx n o true) v a) n (rx n o true) = (mtk Y n (rx n o true) v a).s_byts (mshS (mtk Y n (rx n o true) v a) n (rx n o true) (stp a)) := by
            unfold msh
            rw [hsz]
          rw [eM]
          refine ⟨fun j hj => ?_, hY1⟩
          by_cases e : j = n
          · subst e
            refine Nd_data nT (fun b k hb hk => ?_)
            have w := msh_at (Y := mtk Y j (rx j o true) v a) (i := j) (r := rx j o true) (a := a) (D := Z.data j) (P := PLs (Z.takn j) (Z.hpl j (sp Z j o)) (stp a)) (s3.trans ht) (fun b k hb hk => nT.2.2.2.1 b k hb hk) hY1.2.2 (stp a) hB b k hb hk
            rw [w, show (mtk Y j (rx j o true) v a).tape = Z.tape from (s4.trans htp).trans htape.symm]
          · refine Nd_frame hZc (ih j hj) (sC_ptn e) ((sM_tk (v := v) ho ha e k2).tr (sM_byts (fun x hx => msh_ne e hY1.2.2 (stp a) x hx)))
        · have q2 : ¬ (m.fail n = false ∧ ct (fun i => !m.fail i) n < mo) := fun z => q ⟨by rw [hfl, z.1]; rfl, by rw [← hct]; exact z.2⟩
          rw [if_neg q, if_neg q2]
          exact ⟨ih, ihm⟩
    refine ⟨base.1, base.2, fun h12 hl => ?_⟩
    have hcu := alC_cur c o v a mo n
    have nd := base.1 n h12
    have g := (nd.2.2.2.2.1 o true ho).1
    have hsp : sp (alC c o v a mo n) n o = sp c n o := hq_sC hcu o true
    refine ⟨?_, fun k hk => ?_⟩
    · rw [g, hq_t, hsp, hcu.2.2.2.2.1, h0 n h12 hl]
      rfl
    · rw [mtU_lf nd.2.2.1 k, hcu.2.2.1]
      exact hf n h12 hl k hk
theorem gaOk_of {c : CS} {m : MS} {o v a mo : Nat} (ho : o < 6) (hc : CI c) (hm : MI m) (hn : ∀ j, j < 12 → Nd c m j) (hv : m.latest o = v) (hv0 : 0 < v) (hv1 : v < 65536) (ht : m.taped = a) (ha : a ≤ 240) (htp : m.tape = c.tape) (h0 : ∀ i, i < 12 → c.live i = true → c.hver i (sp c i o) = 0) (hf : ∀ i, i < 12 → c.live i = true → ∀ k, k < stp a → lf (TK (c.takn i) k) < 40) : gaOk m o mo := fun i hi hfl hct k hk => by
  obtain ⟨-, -, h3⟩ := Nd_ga2 (mo := mo) ho hc hm hn hv hv0 hv1 ht ha htp h0 hf i (by omega)
  obtain ⟨k1, k2⟩ := h3 hi (by rw [(hn i hi).1, hfl]; rfl)
  rw [show mgu (gaM m o mo i) i (rx i o true) = gaM m o mo i from if_neg (by rw [k1]; decide)]
  rw [ht] at hk
  exact k2 k hk
-- ---- the candidate's order: all takes first, then stripe by stripe
theorem sC_tkc {c Z : CS} {i p v a : Nat} (h : sC c Z i) : sC (takC c i p v a) (takC Z i p v a) i := by
  obtain ⟨a1, a2, a3, a4, a5, a6, a7, a8, a9⟩ := h
  refine ⟨a1, a2, ?_, a4, ?_, ?_, ?_, ?_, a9⟩
  · show upN Z.takn i (TK (Z.takn i) (stp a)) i = upN c.takn i (TK (c.takn i) (stp a)) i
    rw [upN_s, upN_s, a3]
  · show up2 Z.hver i p v i = up2 c.hver i p v i
    rw [up2_row, up2_row, a5]
  · show up2 Z.hbyt i p a i = up2 c.hbyt i p a i
    rw [up2_row, up2_row, a6]
  · show up2 Z.hstr i p (stp a) i = up2 c.hstr i p (stp a) i
    rw [up2_row, up2_row, a7]
  · show up2 Z.hpl i p (PLs (Z.takn i) (Z.hpl i p) (stp a)) i = up2 c.hpl i p (PLs (c.takn i) (c.hpl i p) (stp a)) i
    rw [up2_row, up2_row, a3, a8]
def tkS (c : CS) (o v a mo n j : Nat) : CS := if j < n ∧ c.live j = true ∧ ct c.live j < mo then takC c j (sp c j o) v a else c
theorem ssA_at (c : CS) (o a mo : Nat) : ∀ n j, sC (tkS c o (c.begun o) a mo n j) (ssA c o a mo n) j
  | 0, j => by
    unfold tkS
    rw [if_neg (by omega)]
    exact sC.rf c j
  | n + 1, j => by
    have ih := ssA_at c o a mo n j
    obtain ⟨-, ksw, -, kb, -⟩ := ssA_keep c o a mo n
    have e : ssA c o a mo (n + 1) = if c.live n = true ∧ ct c.live n < mo then takC (ssA c o a mo n) n (sp (ssA c o a mo n) n o) ((ssA c o a mo n).begun o) a else ssA c o a mo n := rfl
    rw [e, sp_eq ksw, kb]
    unfold tkS at ih ⊢
    by_cases q : c.live n = true ∧ ct c.live n < mo
    · rw [if_pos q]
      by_cases z : j = n
      · subst z
        rw [if_neg (by omega)] at ih
        rw [if_pos ⟨by omega, q⟩]
        exact sC_tkc ih
      · refine sC.tr ?_ (sC_tk z)
        by_cases y : j < n ∧ c.live j = true ∧ ct c.live j < mo
        · rw [if_pos y] at ih
          rw [if_pos ⟨by omega, y.2⟩]
          exact ih
        · rw [if_neg y] at ih
          rw [if_neg (fun x => y ⟨by omega, x.2⟩)]
          exact ih
    · rw [if_neg q]
      by_cases y : j < n ∧ c.live j = true ∧ ct c.live j < mo
      · rw [if_pos y] at ih
        rw [if_pos ⟨by omega, y.2⟩]
        exact ih
      · rw [if_neg y] at ih
        rw [if_neg (fun x => y ⟨by rcases Nat.lt_or_ge j n with w | w; exact w; exact absurd (by rw [show n = j by omega]; exact x.2) q, x.2⟩)]
        exact ih
def kB (c : CS) := (c.tape, c.tapeN, c.begun, c.unst, c.cut, c.msgs, c.syms, c.gotN, c.gott, c.squ, c.inv, c.giv, c.sent)
theorem kB_tak (c : CS) (i p v a : Nat) : kB (takC c i p v a) = kB c ∧ (takC c i p v a).data = c.data ∧ (takC c i p v a).wire = c.wire := ⟨rfl, rfl, rfl⟩
theorem kB_ssA (c : CS) (o a mo : Nat) : ∀ n, kB (ssA c o a mo n) = kB c ∧ (ssA c o a mo n).data = c.data ∧ (ssA c o a mo n).wire = c.wire
  | 0 => ⟨rfl, rfl, rfl⟩
  | n + 1 => by
    have ih := kB_ssA c o a mo n
    unfold ssA
    split
    · obtain ⟨b1, b2, b3⟩ := kB_tak (ssA c o a mo n) n (sp (ssA c o a mo n) n o) ((ssA c o a mo n).begun o) a
      exact ⟨b1.trans ih.1, b2.trans ih.2.1, b3.trans ih.2.2⟩
    · exact ih
theorem fsO_facts (X : CS) (i o s : Nat) : kB (fsO X i o s) = kB X ∧ (fsO X i o s).mat = X.mat ∧ (fsO X i o s).data = upN X.data i (wrF (X.data i) (X.hpl i (sp X i o) s) (fillF (shB i X.mat) X.wire 8) 8) ∧ (fsO X i o s).wire = fillF (shB i X.mat) X.wire 8 := ⟨rfl, rfl, rfl, rfl⟩
theorem fsC_data (Z : CS) (o s mo : Nat) : ∀ n, kB (fsC Z o s mo n) = kB Z ∧ ∀ j, (fsC Z o s mo n).data j = if j < n ∧ Z.live j = true ∧ ct Z.live j < mo then wrF (Z.data j) (Z.hpl j (sp Z j o) s) (shB j Z.mat) 8 else Z.data j
  | 0 => ⟨rfl, fun j => by rw [if_neg (by omega)]; rfl⟩
  | n + 1 => by
    obtain ⟨ih, ihd⟩ := fsC_data Z o s mo n
    obtain ⟨k1, k2, k3, k4, k5, k6, k7, k8, k9⟩ := fsC_keep Z o s mo n
    have e : fsC Z o s mo (n + 1) = if Z.live n = true ∧ ct Z.live n < mo then fsO (fsC Z o s mo n) n o s else fsC Z o s mo n := rfl
    rw [e]
    by_cases q : Z.live n = true ∧ ct Z.live n < mo
    · rw [if_pos q]
      obtain ⟨f1, -, f3, -⟩ := fsO_facts (fsC Z o s mo n) n o s
      refine ⟨f1.trans ih, fun j => ?_⟩
      rw [f3]
      by_cases z : j = n
      · subst z
        rw [upN_s, ihd j, if_neg (by omega), if_pos ⟨by omega, q⟩, k2, sp_eq k6, k7]
        exact wrF_congr _ _ (fun k hk => by rw [fillF_at, if_pos hk])
      · rw [upN_n z, ihd j]
        by_cases y : j < n ∧ Z.live j = true ∧ ct Z.live j < mo
        · rw [if_pos y, if_pos ⟨by omega, y.2⟩]
        · rw [if_neg y, if_neg (fun x => y ⟨by omega, x.2⟩)]
    · rw [if_neg q]
      refine ⟨ih, fun j => ?_⟩
      rw [ihd j]
      by_cases y : j < n ∧ Z.live j = true ∧ ct Z.live j < mo
      · rw [if_pos y, if_pos ⟨by omega, y.2⟩]
      · rw [if_neg y, if_neg (fun x => y ⟨by rcases Nat.lt_or_ge j n with w | w; exact w; exact absurd (by rw [show n = j by omega]; exact x.2) q, x.2⟩)]
theorem smat_keep (X : CS) (M : Nat → Nat → Nat) : kB (X.s_mat M) = kB X ∧ (X.s_mat M).data = X.data ∧ (X.s_mat M).live = X.live ∧ (X.s_mat M).hpl = X.hpl ∧ (X.s_mat M).sw = X.sw ∧ (X.s_mat M).mat = M ∧ (X.s_mat M).wire = X.wire ∧ (X.s_mat M).inv = X.inv ∧ (X.s_mat M).giv = X.giv := ⟨rfl, rfl, rfl, rfl, rfl, rfl, rfl, rfl, rfl⟩
theorem smat_BC {X : CS} {M : Nat → Nat → Nat} (h : BC X) (hM : BM M) : BC (X.s_mat M) := ⟨h.1, h.2.1, hM, h.2.2.2.1, h.2.2.2.2⟩
theorem fsC_BC {Z : CS} {o s mo : Nat} (h : BC Z) : ∀ n, BC (fsC Z o s mo n)
  | 0 => h
  | n + 1 => by
    have ih := fsC_BC (o := o) (s := s) (mo := mo) h n
    unfold fsC
    split
    · obtain ⟨g1, g2, g3, g4, g5⟩ := ih
      have hsh : ∀ k, shB n (fsC Z o s mo n).mat k < 256 := fun k => xs_lt (fun r => mulT_lt _ _) 8
      obtain ⟨f1, f2, f3, f4⟩ := fsO_facts (fsC Z o s mo n) n o s
      have f5 : (fsO (fsC Z o s mo n) n o s).inv = (fsC Z o s mo n).inv := congrArg (fun t => t.2.2.2.2.2.2.2.2.2.2.1) f1
      have f6 : (fsO (fsC Z o s mo n) n o s).giv = (fsC Z o s mo n).giv := congrArg (fun t => t.2.2.2.2.2.2.2.2.2.2.2.1) f1
      have hw : B1 (fillF (shB n (fsC Z o s mo n).mat) (fsC Z o s mo n).wire 8) := fillF_lt hsh g4 8
      unfold BC
      rw [f2, f3, f4, f5, f6]
      exact ⟨g1, g2, g3, hw, BM_up g5 (wrF_lt (g5 n) hw 8)⟩
    · exact ih
theorem ssB_run {c : CS} {o a mo : Nat} (ha : a ≤ 240) (hz : mz c.mat) (hT : B1 c.tape) (hB : BC c) : ∀ s, kB (ssB c o a mo s) = kB c ∧ mz (ssB c o a mo s).mat ∧ BC (ssB c o a mo s) ∧ ∀ j, j < 12 → (ssB c o a mo s).data j = if c.live j = true ∧ ct c.live j < mo then dtS (c.data j) ((ssA c o a mo 12).hpl j (sp c j o)) c.tape a j s else c.data j
  | 0 => by
    obtain ⟨k1, k2, k3⟩ := kB_ssA c o a mo 12
    have km := (ssA_keep c o a mo 12).2.2.1
    have kv : (ssA c o a mo 12).inv = c.inv := congrArg (fun t => t.2.2.2.2.2.2.2.2.2.2.1) k1
    have kg : (ssA c o a mo 12).giv = c.giv := congrArg (fun t => t.2.2.2.2.2.2.2.2.2.2.2.1) k1
    refine ⟨k1, ?_, ?_, fun j hj => ?_⟩
    · show mz (ssA c o a mo 12).mat
      rw [km]; exact hz
    · show BC (ssA c o a mo 12)
      unfold BC
      rw [kv, kg, km, k3, k2]
      exact hB
    · show (ssA c o a mo 12).data j = _
      rw [k2]
      show c.data j = if _ then c.data j else c.data j
      rw [ite_self]
  | s + 1 => by
    obtain ⟨i1, i2, i3, i4⟩ := ssB_run (o := o) (mo := mo) ha hz hT hB s
    obtain ⟨b1, b2, b3, b4, b5, b6, b7, b8⟩ := ssB_keep c o a mo s
    have e : ssB c o a mo (s + 1) = fsC ((ssB c o a mo s).s_mat (ldM (tbF (ssB c o a mo s).tape a) (ssB c o a mo s).mat (s * 30))) o s mo 12 := rfl
    rw [e, b8]
    generalize ssB c o a mo s = X at *
    obtain ⟨m1, m2, m3, m4, m5, m6, m7, m8, m9⟩ := smat_keep X (ldM (tbF c.tape a) X.mat (s * 30))
    obtain ⟨f1, f2⟩ := fsC_data (X.s_mat (ldM (tbF c.tape a) X.mat (s * 30))) o s mo 12
    have f3 := (fsC_keep (X.s_mat (ldM (tbF c.tape a) X.mat (s * 30))) o s mo 12).2.2.2.2.2.2.1
    have hM : BM (ldM (tbF c.tape a) X.mat (s * 30)) := ldM_BM (tbF_lt hT) i3.2.2.1
    refine ⟨f1.trans (m1.trans i1), ?_, fsC_BC (smat_BC i3 hM) 12, fun j hj => ?_⟩
    · rw [f3, m6]
      exact ldM_mz ha i2
    · rw [f2 j, m3, b1, m2, m4, b2, sp_eq (m5.trans b6), m6, i4 j hj]
      by_cases q : c.live j = true ∧ ct c.live j < mo
      · rw [if_pos ⟨hj, q⟩, if_pos q, if_pos q]
        show _ = wrF (dtS (c.data j) ((ssA c o a mo 12).hpl j (sp c j o)) c.tape a j s) ((ssA c o a mo 12).hpl j (sp c j o) s) (shv c.tape a j s) 8
        refine wrF_congr _ _ (fun k hk => ?_)
        unfold shB shv
        exact xs_congr 8 (fun r hr => by rw [ldM_mx ha i2 hr hk])
      · rw [if_neg (fun z => q z.2), if_neg q, if_neg q]
theorem ssB_at {c : CS} {o a mo : Nat} (ha : a ≤ 240) (hz : mz c.mat) (hT : B1 c.tape) (hB : BC c) {j : Nat} (hj : j < 12) : sC (ptS c o (c.begun o) a mo 12 j) (ssB c o a mo (stp a)) j := by
  obtain ⟨i1, -, -, i4⟩ := ssB_run (o := o) (mo := mo) ha hz hT hB (stp a)
  obtain ⟨b1, b2, b3, b4, b5, b6, b7, b8⟩ := ssB_keep c o a mo (stp a)
  have hs : (ssB c o a mo (stp a)).sent = c.sent := congrArg (fun t => t.2.2.2.2.2.2.2.2.2.2.2.2) i1
  have hA := ssA_at c o a mo 12 j
  have i4j := i4 j hj
  generalize ssB c o a mo (stp a) = X at *
  unfold tkS at hA
  unfold ptS
  by_cases q : j < 12 ∧ c.live j = true ∧ ct c.live j < mo
  · rw [if_pos q] at hA ⊢
    rw [if_pos q.2] at i4j
    obtain ⟨a1, a2, a3, a4, a5, a6, a7, a8, a9⟩ := hA
    obtain ⟨p1, p2, p3, p4, p5, p6, p7, p8, p9, p10⟩ := pt1_row c j o (c.begun o) a
    have hpl : (ssA c o a mo 12).hpl j = upN (c.hpl j) (sp c j o) (PLs (c.takn j) (c.hpl j (sp c j o)) (stp a)) := a8.trans (up2_row _ _ _ _)
    unfold sC
    rw [p1, p2, p3, p5, p6, p7, p8, p9, p10, b1, hs, b7, b4, b5, b3, b2, b6, i4j, hpl, upN_s]
    refine ⟨rfl, rfl, a3.trans upN_s, rfl, a5.trans (up2_row _ _ _ _), a6.trans (up2_row _ _ _ _), a7.trans (up2_row _ _ _ _), rfl, rfl⟩
  · rw [if_neg q] at hA ⊢
    rw [if_neg (fun z => q ⟨hj, z⟩)] at i4j
    obtain ⟨a1, a2, a3, a4, a5, a6, a7, a8, a9⟩ := hA
    unfold sC
    rw [b1, hs, b7, b4, b5, b3, b2, b6, i4j]
    exact ⟨rfl, rfl, a3, rfl, a5, a6, a7, a8, rfl⟩
