-- ===== rebuilding: one object of a node made anew =====
theorem ct_down {p : Nat → Bool} {i : Nat} (h : p i = true) : ∀ n, i < n → ct (upN p i false) n + 1 = ct p n
  | 0, hi => by omega
  | n + 1, hi => by
    by_cases e : i = n
    · subst e
      have a : ct (upN p i false) i = ct p i := ct_congr i (fun k hk => upN_n (by omega))
      rw [ct_f (p := upN p i false) (n := i) upN_s, ct_t h, a]
    · have ih := ct_down h n (by omega)
      have a : upN p i false n = p n := upN_n (fun z => e z.symm)
      show ct (upN p i false) n + (if upN p i false n = true then 1 else 0) + 1 = ct p n + (if p n = true then 1 else 0)
      rw [a]
      omega
theorem ct_gu {T : Nat → Bool} {P : Nat → Nat} : ∀ n, (∀ s, s < n → T (P s) = true ∧ P s < 40) → (∀ s t, s < n → t < n → P s = P t → s = t) → ct (guT T P n) 40 + n = ct T 40
  | 0, _, _ => rfl
  | n + 1, h1, h2 => by
    have ih := ct_gu n (fun s hs => h1 s (by omega)) (fun s t hs ht => h2 s t (by omega) (by omega))
    have hT : guT T P n (P n) = true := (guT_at T P n (P n)).mpr ⟨(h1 n (by omega)).1, fun s hs e => by
      have := h2 s n (by omega) (by omega) e
      omega⟩
    have := ct_down hT 40 (h1 n (by omega)).2
    show ct (upN (guT T P n) (P n) false) 40 + (n + 1) = _
    omega
theorem frs_sC {c c' : CS} {j : Nat} (h : sC c c' j) (o v : Nat) : frs c' o v j = frs c o v j := by
  have hr : rp c' j o = rp c j o := hq_sC h o false
  unfold frs rver
  rw [hr, h.1, h.2.2.2.2.1]
theorem stl_un {c : CS} {i o : Nat} (h : stl c i o = true) : c.unst o = false ∧ 0 < nw c o ∧ frs c o (nw c o) i = false := by
  unfold stl at h
  simp at h
  exact ⟨h.1.1, h.1.2, h.2⟩
/-- the newest version stays what it is when a node gets its record -/
theorem nw_same {c c' : CS} {i o : Nat} (hi : i < 12) (hj : ∀ j, j < 12 → j ≠ i → ∀ v, frs c' o v j = frs c o v j) (hv : rver c' i o = nw c o) (h0 : 0 < nw c o) (hf : frs c o (nw c o) i = false) : nw c' o = nw c o := by
  apply Nat.le_antisymm
  · rcases Nat.eq_zero_or_pos (nw c' o) with z | z
    · omega
    · by_cases e : nw c' o = nw c o
      · omega
      · have h5 := nw_ok z
        refine nw_max (Nat.le_trans h5 (ct_imp 12 (fun k hk hk2 => ?_)))
        by_cases q : k = i
        · exfalso
          rw [q] at hk2
          have := (frs_ver hk2).2.2
          rw [hv] at this
          exact e this.symm
        · rw [← hj k hk q]
          exact hk2
  · have h5 := nw_ok h0
    refine nw_max (Nat.le_trans h5 (ct_imp 12 (fun k hk hk2 => ?_)))
    by_cases q : k = i
    · exfalso
      rw [q, hf] at hk2
      cases hk2
    · rw [hj k hk q]
      exact hk2
def kW (m : MS) := (m.tape, m.taped, m.latest, m.opn, m.cutA, m.msgs, m.gotN, m.got, m.right)
theorem kW_un {m m' : MS} (h : kW m' = kW m) : m'.tape = m.tape ∧ m'.taped = m.taped ∧ m'.latest = m.latest ∧ m'.opn = m.opn ∧ m'.cutA = m.cutA ∧ m'.msgs = m.msgs ∧ m'.gotN = m.gotN ∧ m'.got = m.got ∧ m'.right = m.right := ⟨congrArg (fun t => t.1) h, congrArg (fun t => t.2.1) h, congrArg (fun t => t.2.2.1) h, congrArg (fun t => t.2.2.2.1) h, congrArg (fun t => t.2.2.2.2.1) h, congrArg (fun t => t.2.2.2.2.2.1) h, congrArg (fun t => t.2.2.2.2.2.2.1) h, congrArg (fun t => t.2.2.2.2.2.2.2.1) h, congrArg (fun t => t.2.2.2.2.2.2.2.2) h⟩
theorem kW_of {m m' : MS} (h : eqM m m') : kW m' = kW m := congrArg (fun t => (t.1, t.2.1, t.2.2.1, t.2.2.2.1, t.2.2.2.2.1, t.2.2.2.2.2.1, t.2.2.2.2.2.2.2.1, t.2.2.2.2.2.2.2.2.1, t.2.2.2.2.2.2.2.2.2.2)) h
theorem seb_kW (X : MS) (a : Nat → Int32) (b d : Nat → Nat) : kW (((X.s_sent a).s_eqs b).s_byts d) = kW X := rfl
theorem rS_kW (X : MS) (i o : Nat) : ∀ s, kW (rS X i o s) = kW X
  | 0 => rfl
  | s + 1 => (seb_kW (rS X i o s) (rSn (rS X i o s) 8) (rES (rS X i o s) i o s) (wrB (rS X i o s).byts (rA (rS X i o s) i o s) (fun k => rES (rS X i o s) i o s (16 * k + 8)) 8)).trans (rS_kW X i o s)
theorem chos_kW (X : MS) (V : Nat → Nat) : kW (X.s_chos V) = kW X ∧ (X.s_chos V).byts = X.byts ∧ (X.s_chos V).eqs = X.eqs := ⟨rfl, rfl, rfl⟩
theorem syms_k (Y : MS) (s : Int32) : (Y.s_syms s).byts = Y.byts ∧ (Y.s_syms s).eqs = Y.eqs ∧ (Y.s_syms s).right = Y.right := ⟨rfl, rfl, rfl⟩
section REN
variable {K : Nat} {X : CS} {Y : MS} {i o : Nat} {x : Int32}
theorem Rel_ren (h : Rel K X (Y.s_syms X.syms)) {Z : CS} {W : MS} {v a f : Nat} (hi : i < 12) (ho : o < 6) (hf : f < 12) (hfv : X.hver f (rp X f o) = v) (hfa : X.hbyt f (rp X f o) = a) (hv0 : 0 < v)
    (hnd : ∀ j, j < 12 → Nd Z W j) (hci : CI Z) (hmi : MI W) (hsq : BM Z.squ) (hbc : BC Z) (hmz : mz Z.mat) (hby : B1 W.byts) (heq : B1 W.eqs)
    (z1 : Z.begun = X.begun) (z2 : Z.unst = X.unst) (z3 : Z.tape = X.tape) (z4 : Z.tapeN = X.tapeN) (z5 : Z.gotN = X.gotN) (z6 : Z.gott = X.gott) (z7 : Z.cut = X.cut) (z8 : Z.msgs = X.msgs) (hW : kW W = kW Y) (hl : Z.live = X.live) (hsw : Z.sw = X.sw)
    (hver : ∀ j p, Z.hver j p = if j = i ∧ p = rp X i o then v else X.hver j p) (hbyt : ∀ j p, Z.hbyt j p = if j = i ∧ p = rp X i o then a else X.hbyt j p) : Rel K Z (W.s_syms Z.syms) := by
  obtain ⟨h1, ⟨g1, g2, g3, g4⟩, ⟨l1, l2, l3, l4, l5, l6, l7, l8, l9⟩, a1, a2, a3, a4, a5, a6, a7, a8, a9, b1, b2, b3, b4⟩ := h
  obtain ⟨w1, w2, w3, w4, w5, w6, w7, w8, w9⟩ := kW_un hW
  have hrd : rp X i o / 2 = o := hq_div X i o false
  have hrdf : rp X f o / 2 = o := hq_div X f o false
  have hvb : v ≤ X.begun o := by
    have := g1 f (rp X f o) hf (rp_lt ho)
    rw [hfv, hrdf] at this
    exact this
  refine ⟨hnd, ⟨fun j p hj hp => ?_, fun j k p q hj hk hp hq hpq hpos he => ?_, fun j q hj hq hlj hp => ?_, fun q hq hu => ?_⟩, ⟨?_, ?_, fun q hq => ?_, fun q hq => ?_, ?_, ?_, rfl, ?_, fun y hy => ?_⟩, hci, hmi, ?_, ?_, ?_, ?_, hsq, hbc, hmz, hby, heq, ?_, fun q hq => ?_⟩
  · rw [hver, z1]
    by_cases e : j = i ∧ p = rp X i o
    · rw [if_pos e, e.2, hrd]; exact hvb
    · rw [if_neg e]; exact g1 j p hj hp
  · rw [hver] at hpos he
    rw [hver] at he
    rw [hbyt, hbyt]
    by_cases e : j = i ∧ p = rp X i o
    · rw [if_pos e] at he ⊢
      by_cases e2 : k = i ∧ q = rp X i o
      · rw [if_pos e2]
      · rw [if_neg e2] at he ⊢
        rw [← hfa]
        refine g2 f k _ q hf hk (rp_lt ho) hq ?_ ?_ ?_
        · rw [hrdf, ← hpq, e.2, hrd]
        · rw [hfv]; exact hv0
        · rw [hfv]; exact he
    · rw [if_neg e] at hpos he ⊢
      by_cases e2 : k = i ∧ q = rp X i o
      · rw [if_pos e2] at he ⊢
        rw [← hfa]
        refine g2 j f p _ hj hf hp (rp_lt ho) ?_ hpos ?_
        · rw [hrdf, hpq, e2.2, hrd]
        · rw [hfv]; exact he
      · rw [if_neg e2] at he ⊢
        exact g2 j k p q hj hk hp hq hpq hpos he
  · rw [sp_eq hsw, hver] at hp ⊢
    have e : ¬ (j = i ∧ sp X j q = rp X i o) := by
      rintro ⟨rfl, e⟩
      have := (hq_inj (c := X) (i := j) (z := true) (y := false) e).2
      cases this
    rw [if_neg e] at hp ⊢
    rw [hl] at hlj
    rw [z1, z2]
    exact g3 j q hj hq hlj hp
  · rw [z2] at hu
    rw [z1]
    exact g4 q hq hu
  · exact z3.trans (l1.trans w1.symm)
  · exact z4.trans (l2.trans w2.symm)
  · show Z.begun q = W.latest q
    rw [z1, w3]; exact l3 q hq
  · show Z.unst q = W.opn q
    rw [z2, w4]; exact l4 q hq
  · exact z7.trans (l5.trans w5.symm)
  · exact z8.trans (l6.trans w6.symm)
  · exact z5.trans (l8.trans w7.symm)
  · show Z.gott y = W.got y
    rw [z5] at hy
    rw [z6, w8]; exact l9 y hy
  · rw [z3]; exact a3
  · rw [z4]; exact a4
  · rw [z5]; exact a5
  · rw [z7]; exact a6
  · show B1 W.right
    rw [w9]; exact b3
  · rw [z1]; exact b4 q hq
theorem rn1_keep (X : CS) (i o : Nat) : eqC X (rn1 X i o) ∧ (rn1 X i o).live = X.live ∧ (rn1 X i o).sw = X.sw ∧ (rn1 X i o).data = X.data ∧ (rn1 X i o).takn i = guT (X.takn i) (X.hpl i (rp X i o)) (X.hstr i (rp X i o)) := ⟨rfl, rfl, rfl, rfl, upN_s⟩
theorem rn2_keep (X : CS) (i o : Nat) : eqC X (rn2 X i o) ∧ (rn2 X i o).live = X.live ∧ (rn2 X i o).sw = X.sw ∧ (rn2 X i o).data = X.data ∧ (rn2 X i o).takn i = TK ((rn1 X i o).takn i) (stp (nbS X o)) ∧ (rn2 X i o).syms = X.syms := ⟨rfl, rfl, rfl, rfl, upN_s, rfl⟩
theorem rn2_h (X : CS) (i o j p : Nat) : (rn2 X i o).hver j p = (if j = i ∧ p = rp X i o then nw X o else X.hver j p) ∧ (rn2 X i o).hbyt j p = (if j = i ∧ p = rp X i o then nbS X o else X.hbyt j p) ∧ (rn2 X i o).hstr j p = (if j = i ∧ p = rp X i o then stp (nbS X o) else X.hstr j p) := by
  have e0 : rp (rn1 X i o) i o = rp X i o := rp_eq (rn1_keep X i o).2.2.1 i o
  have e1 : (rn2 X i o).hver = up2 (up2 X.hver i (rp X i o) 0) i (rp (rn1 X i o) i o) (nw X o) := rfl
  have e2 : (rn2 X i o).hbyt = up2 (up2 X.hbyt i (rp X i o) 0) i (rp (rn1 X i o) i o) (nbS X o) := rfl
  have e3 : (rn2 X i o).hstr = up2 (up2 X.hstr i (rp X i o) 0) i (rp (rn1 X i o) i o) (stp (nbS X o)) := rfl
  rw [e1, e2, e3, e0, up2_up, up2_up, up2_up]
  by_cases q : j = i ∧ p = rp X i o
  · rw [if_pos q, if_pos q, if_pos q, q.1, q.2, up2_s, up2_s, up2_s]
    exact ⟨rfl, rfl, rfl⟩
  · rw [if_neg q, if_neg q, if_neg q, up2_n q, up2_n q, up2_n q]
    exact ⟨rfl, rfl, rfl⟩
theorem rn3_keep (Z : CS) (V : Nat → Nat) : kF (Z.s_chos V) = kF Z ∧ (Z.s_chos V).syms = Z.syms ∧ (Z.s_chos V).chos = V ∧ (Z.s_chos V).squ = Z.squ ∧ (Z.s_chos V).inv = Z.inv ∧ (Z.s_chos V).sw = Z.sw ∧ (Z.s_chos V).hver = Z.hver ∧ (Z.s_chos V).hbyt = Z.hbyt ∧ (Z.s_chos V).hstr = Z.hstr ∧ (Z.s_chos V).takn = Z.takn ∧ (Z.s_chos V).live = Z.live ∧ (Z.s_chos V).hpl = Z.hpl := ⟨rfl, rfl, rfl, rfl, rfl, rfl, rfl, rfl, rfl, rfl, rfl, rfl⟩
theorem Nd_chos {c : CS} {m : MS} {j : Nat} (h : Nd c m j) (V W : Nat → Nat) : Nd (c.s_chos V) (m.s_chos W) j := h
theorem CI_chos {c : CS} (h : CI c) (V : Nat → Nat) : CI (c.s_chos V) := h
theorem MI_chos {m : MS} (h : MI m) (V : Nat → Nat) : MI (m.s_chos V) := h
/-- the stage behind the blocks are taken -/
theorem ren_mid (h : Rel K X (Y.s_syms X.syms)) (hi : i < 12) (ho : o < 6) (hw : stl X i o = true) (hroom : ct (X.takn i) 40 + stp (nbS X o) ≤ 40 + rstr X i o) :
    nw X o = mnw Y o ∧ nbS X o = szM Y o ∧ nbS X o ≤ 240 ∧ ct ((rn1 X i o).takn i) 40 + rstr X i o = ct (X.takn i) 40 ∧ (∀ k, k < stp (nbS X o) → lf (TK ((rn1 X i o).takn i) k) < 40) ∧ (∀ k, k < stp (szM Y o) → lf (fun b => mtU (rbM1 Y i o).used i k (40 * i + b)) < 40) ∧ (∀ j, j < 12 → Nd (rn2 X i o) (rbM2 Y i o) j) ∧ CI (rn2 X i o) ∧ MI (rbM2 Y i o) ∧ nw (rn2 X i o) o = nw X o ∧ eqM Y (rbM2 Y i o) ∧ (rbM2 Y i o).byts = Y.byts ∧ (∀ j, j ≠ i → sC X (rn2 X i o) j) := by
  have hn : ∀ j, j < 12 → Nd X Y j := fun j hj => h.1 j hj
  have hm : MI Y := h.mi
  obtain ⟨q1, q2, q3⟩ := stl_un hw
  have e1 : nw X o = mnw Y o := (h.nwE ho).trans (mnw_eq (m := Y) rfl rfl rfl)
  have e2 : nbS X o = szM Y o := (h.nb ho q2).trans (szM_eq (m := Y) rfl rfl rfl rfl)
  have e3 : nbS X o ≤ 240 := by rw [e2]; exact szM_le hm
  obtain ⟨j1, j2, j3, j4⟩ := h.hi hi (rp_lt (c := X) (i := i) ho)
  have hds := (hn i hi).2.2.2.2.2.2
  obtain ⟨-, k2, k3, k4, k5⟩ := rn1_keep X i o
  have hct : ct ((rn1 X i o).takn i) 40 + rstr X i o = ct (X.takn i) 40 := by
    rw [k5]
    exact ct_gu (X.hstr i (rp X i o)) (fun s hs => ⟨j4 s hs, (h.ci i _).2.2.2 s⟩) (fun s t hs ht e => (hds _ _ s t (rp_lt ho) (rp_lt ho) hs ht e).2)
  have hf1 : ∀ k, k < stp (nbS X o) → lf (TK ((rn1 X i o).takn i) k) < 40 := TK_room (by omega)
  have n1 : ∀ j, j < 12 → Nd (rn1 X i o) (rbM1 Y i o) j := fun j hj => by
    by_cases e : j = i
    · subst e
      exact Nd_gu (z := false) ho h.ci (hn j hj)
    · exact Nd_frame h.ci (hn j hj) (sC_gu e) (sM_gu hm ho e)
  have hc1 : CI (rn1 X i o) := CI_gu h.ci
  have hm1 : MI (rbM1 Y i o) := MI_gu hm
  have hv1 : (rn1 X i o).hver i (hq (rn1 X i o) i o false) = 0 := by
    rw [hq_f, rp_eq k3]
    exact up2_s
  have hfm : ∀ k, k < stp (szM Y o) → lf (fun b => mtU (rbM1 Y i o).used i k (40 * i + b)) < 40 := fun k hk => by
    rw [mtU_lf (n1 i hi).2.2.1 k]
    exact hf1 k (by rw [e2]; exact hk)
  have hnw := nw_lt (o := o) h.ci
  have n2 : ∀ j, j < 12 → Nd (rn2 X i o) (rbM2 Y i o) j := fun j hj => by
    unfold rn2 rbM2
    rw [← e1, ← e2]
    by_cases e : j = i
    · subst e
      exact Nd_tk (z := false) ho q2 e3 (n1 j hj) hv1 hf1
    · exact Nd_frame hc1 (n1 j hj) (sC_tk e) (sM_tk ho e3 e (fun k hk => hfm k (by rw [← e2]; exact hk)))
  have hc2 : CI (rn2 X i o) := CI_tak hc1 hnw e3 hf1
  have hm2 : MI (rbM2 Y i o) := MI_tk (m := rbM1 Y i o) hm1 (mnw_lt hm) (szM_le hm) hfm
  have hsC : ∀ j, j ≠ i → sC X (rn2 X i o) j := fun j hj => (sC_gu hj).tr (sC_tk hj)
  refine ⟨e1, e2, e3, hct, hf1, hfm, n2, hc2, hm2, ?_, ?_, ?_, hsC⟩
  · refine nw_same hi (fun j _ hj v => frs_sC (hsC j hj) o v) ?_ q2 q3
    have e0 : rp (rn2 X i o) i o = rp X i o := rp_eq (rn2_keep X i o).2.2.1 i o
    show (rn2 X i o).hver i (rp (rn2 X i o) i o) = _
    rw [e0, (rn2_h X i o i (rp X i o)).1, if_pos ⟨rfl, rfl⟩]
  · exact (eqM_gu Y i (rx i o false)).tr (tk_keep _ _ _ _ _).1
  · exact (tk_keep (rbM1 Y i o) i (rx i o false) (mnw Y o) (szM Y o)).2.trans (by_gu Y i (rx i o false))
/-- the choice, on both sides -/
theorem ren_cho (h : Rel K X (Y.s_syms X.syms)) (hi : i < 12) (ho : o < 6) (hw : stl X i o = true) (hroom : ct (X.takn i) 40 + stp (nbS X o) ≤ 40 + rstr X i o) :
    csN (rn2 X i o) i o x = min (ct (cnd Y o (mnw Y o) (tdX x i)) 12) 8 ∧ (8 ≤ ct (cnd Y o (mnw Y o) (tdX x i)) 12 → ∀ k, k < 8 → (rn3 X i o x).chos k = lqB (rbM2 Y i o) o (mnw Y o) (tdX x i) k ∧ (rn3 X i o x).chos k < 12 ∧ (rn3 X i o x).chos k ≠ i ∧ 0 < X.hver ((rn3 X i o x).chos k) (rp X ((rn3 X i o x).chos k) o) ∧ rstr X ((rn3 X i o x).chos k) o = stp (nbS X o) ∧ ∀ j, j < 8 → j ≠ k → (rn3 X i o x).chos j ≠ (rn3 X i o x).chos k) := by
  obtain ⟨e1, e2, e3, e4, e5, e6, n2, hc2, hm2, hnw, em, eb, hsC⟩ := ren_mid h hi ho hw hroom
  have hn : ∀ j, j < 12 → Nd X Y j := fun j hj => h.1 j hj
  have hs : ∀ n, n < 12 → (rn2 X i o).sent n = (rbM2 Y i o).sent n := fun n hn' => (n2 n hn').2.1
  have hf : ∀ n, n < 12 → n ≠ i → frs (rn2 X i o) o (nw (rn2 X i o) o) n = mfr (rbM2 Y i o) o (nw (rn2 X i o) o) n := fun n hn' _ => Nd_frs (n2 n hn') ho _
  have hcn : ∀ n, n < 12 → cnd (rbM2 Y i o) o (mnw Y o) (tdX x i) n = cnd Y o (mnw Y o) (tdX x i) n := fun n hn' => by
    unfold cnd
    by_cases e : n = i
    · have : told (tdX x i) n = false := by
        rw [e]
        exact (told_clr x (show i < 13 by omega) hi).trans (by simp)
      rw [this, Bool.false_and, Bool.false_and]
    · rw [← Nd_frs (n2 n hn') ho, frs_sC (hsC n e), Nd_frs (hn n hn') ho]
  have hcc : ct (cnd (rbM2 Y i o) o (mnw Y o) (tdX x i)) 12 = ct (cnd Y o (mnw Y o) (tdX x i)) 12 := ct_congr 12 hcn
  have hN := csN_ct (x := x) hi hs hf
  have hB := fun f => (cs_eq (x := x) hi hs hf f).2
  rw [hnw, e1] at hN hB
  rw [hcc] at hN
  refine ⟨hN, fun h8 k hk => ?_⟩
  have hN8 : csN (rn2 X i o) i o x = 8 := by rw [hN]; omega
  have hat : ∀ k, k < 8 → (rn3 X i o x).chos k = lqB (rbM2 Y i o) o (mnw Y o) (tdX x i) k := fun k hk => by
    have e : (rn3 X i o x).chos = csF (rn2 X i o) i o x (rn2 X i o).chos (csN (rn2 X i o) i o x) := rfl
    rw [e, csF_at, hN8, if_pos hk, hB]
  have hlt := fun k (hk : k < 8) => (lq_ok (m := rbM2 Y i o) (o := o) (v := mnw Y o) (tdX x i) (show k < _ by rw [hcc]; omega)).1
  have hcd := fun k (hk : k < 8) => (lq_cnd (m := rbM2 Y i o) (o := o) (v := mnw Y o) (tdX x i) (show k < _ by rw [hcc]; omega)).1
  rw [hat k hk]
  have hl := hlt k hk
  have hc := hcd k hk
  have hni : lqB (rbM2 Y i o) o (mnw Y o) (tdX x i) k ≠ i := fun e => by
    unfold cnd at hc
    rw [e, show told (tdX x i) i = false from (told_clr x (show i < 13 by omega) hi).trans (by simp)] at hc
    cases hc
  have hfr : frs X o (nw X o) (lqB (rbM2 Y i o) o (mnw Y o) (tdX x i) k) = true := by
    rw [hcn _ hl] at hc
    unfold cnd at hc
    rw [Bool.and_eq_true] at hc
    rw [Nd_frs (hn _ hl) ho, e1]
    exact hc.2
  obtain ⟨w1, -, -, w4, -⟩ := h.fresh ho hl hfr
  refine ⟨rfl, hl, hni, w1, w4, fun j hj hjk => ?_⟩
  rw [hat j hj]
  exact lq_ne (tdX x i) (by rw [hcc]; omega) (by rw [hcc]; omega) hjk
theorem ren_step (h : Rel K X (Y.s_syms X.syms)) (hi : i < 12) (ho : o < 6) (hw : stl X i o = true) (hroom : ct (X.takn i) 40 + stp (nbS X o) ≤ 40 + rstr X i o) (hcand : 0 < nbS X o → 8 ≤ ct (cnd Y o (mnw Y o) (tdX x i)) 12) :
    Rel K (rnC X i o x) ((rbMC Y i o (tdX x i)).s_syms (rnC X i o x).syms) ∧ (rnC X i o x).syms = X.syms + nI (8 * stp (szM Y o)) ∧ (rnC X i o x).live = X.live ∧ (rnC X i o x).sw = X.sw ∧ (rnC X i o x).unst = X.unst ∧ (∀ j p, (rnC X i o x).hver j p = if j = i ∧ p = rp X i o then nw X o else X.hver j p) ∧ (∀ j p, (rnC X i o x).hbyt j p = if j = i ∧ p = rp X i o then nbS X o else X.hbyt j p) ∧ (∀ j p, (rnC X i o x).hstr j p = if j = i ∧ p = rp X i o then stp (nbS X o) else X.hstr j p) ∧ ct ((rnC X i o x).takn i) 40 + rstr X i o = ct (X.takn i) 40 + stp (nbS X o) := by
  obtain ⟨e1, e2, e3, e4, e5, e6, n2, hc2, hm2, hnw, em, eb, hsC⟩ := ren_mid h hi ho hw hroom
  obtain ⟨c1, c2⟩ := ren_cho (x := x) h hi ho hw hroom
  obtain ⟨q1, q2, q3⟩ := stl_un hw
  obtain ⟨k1, k2, k3, k4, k5, k6⟩ := rn2_keep X i o
  obtain ⟨hA, hG, hL, hI⟩ := id h
  obtain ⟨a1, a2, a3, a4, a5, a6, a7, a8, a9, b1, b2, b3, b4⟩ := id hI
  -- a fresh node
  have h5 := nw_ok q2
  obtain ⟨f, hf, hff⟩ := ct_pos 12 (show 0 < ct (frs X o (nw X o)) 12 by omega)
  obtain ⟨f1, f2, f3, f4, f5⟩ := h.fresh ho hf hff
  have hct2 : ct ((rn2 X i o).takn i) 40 = ct ((rn1 X i o).takn i) 40 + stp (nbS X o) := by
    rw [k5]
    exact (TK_ct (n := stp (nbS X o)) (by omega) (stp (nbS X o)) (Nat.le_refl _)).1
  have hh := rn2_h X i o
  have hBC2 : BC (rn2 X i o) := tak_BC (gu_BC a8)
  obtain ⟨u1, u2, u3, u4, u5, u6, u7, u8⟩ := k1.un
  have u9 : (rn2 X i o).gotN = X.gotN := congrArg (fun t => t.2.2.2.2.2.2.2.1) k1
  have u10 : (rn2 X i o).gott = X.gott := congrArg (fun t => t.2.2.2.2.2.2.2.2.1) k1
  have u11 : (rn2 X i o).squ = X.squ := congrArg (fun t => t.2.2.2.2.2.2.2.2.2.1) k1
  have emq : (rbM2 Y i o).eqs = Y.eqs := congrArg (fun t => t.2.2.2.2.2.2.2.2.2.1) em
  have ekW := kW_of em
  have hbyY : B1 Y.byts := b1
  have heqY : B1 Y.eqs := b2
  rcases Nat.eq_zero_or_pos (nbS X o) with z | z
  · have r1 : rnC X i o x = rn2 X i o := if_neg (by omega)
    have r2 : rbMC Y i o (tdX x i) = rbM2 Y i o := if_pos (by omega)
    rw [r1, r2]
    refine ⟨Rel_ren h hi ho hf f2 f3 q2 n2 hc2 hm2 (by rw [u11]; exact a7) hBC2 (by rw [u8]; exact a9) (by rw [eb]; exact hbyY) (by rw [emq]; exact heqY) u1 u2 u4 u3 u9 u10 u5 u6 ekW k2 k3 (fun j p => (hh j p).1) (fun j p => (hh j p).2.1), ?_, k2, k3, u2, fun j p => (hh j p).1, fun j p => (hh j p).2.1, fun j p => (hh j p).2.2, by rw [hct2]; omega⟩
    have hz : stp (szM Y o) = 0 := by rw [← e2, z]; rfl
    rw [k6, hz]
    show _ = X.syms + nI 0
    rw [nI_0, Int32.add_zero]
  · have h8 := hcand z
    have hN8 : csN (rn2 X i o) i o x = 8 := by rw [c1]; omega
    have r1 : rnC X i o x = rpS (ivP (rn3 X i o x) 8 8) i o (stp (nbS X o)) := by
      unfold rnC
      rw [if_pos z, if_pos hN8]
      rfl
    have r2 : rbMC Y i o (tdX x i) = rS (rbM3 Y i o (tdX x i)) i o (stp (szM Y o)) := if_neg (by omega)
    have hcc := c2 h8
    -- the third stage
    have e3c : rn3 X i o x = (rn2 X i o).s_chos (csF (rn2 X i o) i o x (rn2 X i o).chos (csN (rn2 X i o) i o x)) := rfl
    have e3m : rbM3 Y i o (tdX x i) = (rbM2 Y i o).s_chos (lqF (rbM2 Y i o) o (mnw Y o) (tdX x i) (rbM2 Y i o).chos 8) := rfl
    have hm3c : ∀ k, k < 8 → (rbM3 Y i o (tdX x i)).chos k = lqB (rbM2 Y i o) o (mnw Y o) (tdX x i) k := fun k hk => by
      rw [e3m]
      show lqF (rbM2 Y i o) o (mnw Y o) (tdX x i) (rbM2 Y i o).chos 8 k = _
      rw [lqF_at, if_pos hk]
    have n3 : ∀ j, j < 12 → Nd (rn3 X i o x) (rbM3 Y i o (tdX x i)) j := fun j hj => by
      rw [e3c, e3m]
      exact Nd_chos (n2 j hj) _ _
    have hc3 : CI (rn3 X i o x) := by rw [e3c]; exact CI_chos hc2 _
    have hm3 : MI (rbM3 Y i o (tdX x i)) := by rw [e3m]; exact MI_chos hm2 _
    obtain ⟨v1, v2, -, v4, v5, v6, v7, v8, v9, v10, v11, -⟩ := rn3_keep (rn2 X i o) (csF (rn2 X i o) i o x (rn2 X i o).chos (csN (rn2 X i o) i o x))
    rw [← e3c] at v1 v2 v4 v5 v6 v7 v8 v9 v10 v11
    obtain ⟨t1, t2, t3⟩ := chos_kW (rbM2 Y i o) (lqF (rbM2 Y i o) o (mnw Y o) (tdX x i) (rbM2 Y i o).chos 8)
    rw [← e3m] at t1 t2 t3
    have hBC3 : BC (rn3 X i o x) := by rw [e3c]; exact chos_BC hBC2
    have hsq3 : BM (rn3 X i o x).squ := by rw [v4, u11]; exact a7
    have hrp3 : ∀ j, rp (rn3 X i o x) j o = rp X j o := fun j => rp_eq (v6.trans k3) j o
    obtain ⟨p1, p2, p3, p4⟩ := rp_all (c0 := rn3 X i o x) (Y := rbM3 Y i o (tdX x i)) (w := stp (nbS X o)) ho hi hc3 hm3 n3 (fun k hk => by
      rw [hm3c k hk, ← (hcc k hk).1]
      exact ⟨rfl, (hcc k hk).2.1⟩) hsq3 hBC3.1 (fun k hk => by
      obtain ⟨-, -, x3, x4, x5, -⟩ := hcc k hk
      rw [hrp3, v7, v9, (hh _ _).1, (hh _ _).2.2, if_neg (fun y => x3 y.1), if_neg (fun y => x3 y.1)]
      exact ⟨x4, Nat.le_of_eq x5.symm⟩) (by
      rw [hrp3, v7, v9, (hh _ _).1, (hh _ _).2.2, if_pos ⟨rfl, rfl⟩, if_pos ⟨rfl, rfl⟩]
      exact ⟨q2, Nat.le_refl _⟩) (stp (nbS X o)) (Nat.le_refl _)
    have hivB := ivP_BM (n := 8) hsq3 hBC3.1 8
    have hBC4 := rpS_BC (i := i) (o := o) (ivP_BC (n := 8) hsq3 hBC3) (stp (nbS X o))
    have hivD := (kD_ivP (rn3 X i o x) 8 8)
    have hivM := (ivP_mat (rn3 X i o x) 8 8).1
    have hkY := rS_keep (rbM3 Y i o (tdX x i)) i o (stp (szM Y o))
    have hlY := rS_lt (X := rbM3 Y i o (tdX x i)) (i := i) (o := o) (by rw [t2, eb]; exact hbyY) (by rw [t3, emq]; exact heqY) (stp (szM Y o))
    have hmY := rS_MI (i := i) (o := o) hm3 (stp (szM Y o))
    have hkW4 := rS_kW (rbM3 Y i o (tdX x i)) i o (stp (szM Y o))
    have hCI4 := CI_samM hc3 p4
    rw [r1, r2]
    rw [e2] at p1 p2 p3 p4 hBC4 hCI4 ⊢
    obtain ⟨d1, d2, d3, d4, d5, d6, d7, d8, d9⟩ := kD_un hivD.1
    generalize rpS (ivP (rn3 X i o x) 8 8) i o (stp (szM Y o)) = Z at *
    generalize rS (rbM3 Y i o (tdX x i)) i o (stp (szM Y o)) = W at *
    obtain ⟨w1, w2, w3, w4, w5, w6, w7, w8, w9, w10, w11, w12⟩ := kF_un p2
    obtain ⟨s1, s2, s3, s4, s5, s6, s7, s8, s9, s10, s11, s12⟩ := kF_un v1
    obtain ⟨m1, m2, m3, m4, m5, m6, m7, m8⟩ := p4
    have hZv : ∀ j p, Z.hver j p = if j = i ∧ p = rp X i o then nw X o else X.hver j p := fun j p => by
      rw [m4, v7]; exact (hh j p).1
    have hZb : ∀ j p, Z.hbyt j p = if j = i ∧ p = rp X i o then szM Y o else X.hbyt j p := fun j p => by
      rw [m5, v8, ← e2]; exact (hh j p).2.1
    have hZs : ∀ j p, Z.hstr j p = if j = i ∧ p = rp X i o then stp (szM Y o) else X.hstr j p := fun j p => by
      rw [m3, v9, ← e2]; exact (hh j p).2.2
    have hZl : Z.live = X.live := m8.trans (v11.trans k2)
    have hZw : Z.sw = X.sw := m6.trans (v6.trans k3)
    have hZu : Z.unst = X.unst := w2.trans (d2.trans (s2.trans u2))
    refine ⟨Rel_ren h hi ho hf f2 (by rw [← e2]; exact f3) q2 p1 hCI4 hmY (by rw [w10]; exact hivB.1) hBC4 (by rw [w9, hivM, s9, u8]; exact a9) hlY.1 hlY.2 (w1.trans (d1.trans (s1.trans u1))) hZu (w3.trans (d3.trans (s3.trans u4))) (w4.trans (d4.trans (s4.trans u3))) (w5.trans (d5.trans (s5.trans u9))) (w6.trans (hivD.2.trans (s6.trans u10))) (w7.trans (d6.trans (s7.trans u5))) (w8.trans (d7.trans (s8.trans u6))) (hkW4.trans (t1.trans ekW)) hZl hZw hZv hZb, ?_, hZl, hZw, hZu, hZv, hZb, hZs, ?_⟩
    · rw [p3, v2, k6]
    · rw [m1, v10, hct2, ← e2]
      omega
end REN
