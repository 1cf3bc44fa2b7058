-- ===== rebuild =====
section REB
variable {K : Nat} {c X : CS} {m Y : MS} {i o : Nat} {x : Int32}
theorem rn3_nd {j : Nat} (h : Nd (rn2 X i o) Y j) : Nd (rn3 X i o x) Y j := h
/-- what the two methods ask for ahead of an object -/
theorem ren_pre (h : Rel K X (Y.s_syms X.syms)) (hi : i < 12) (ho : o < 6) (hw : stl X i o = true) (hroom : ct (X.takn i) 40 + stp (nbS X o) ≤ 40 + rstr X i o) (hcand : 0 < nbS X o → 8 ≤ ct (cnd Y o (mnw Y o) (tdX x i)) 12) :
    (nbS X o ≤ 240 ∧ (∀ k, k < stp (nbS X o) → lf (TK ((rn1 X i o).takn i) k) < 40) ∧ BM X.squ ∧ BC X ∧ (csN (rn2 X i o) i o x = 8 → ∀ k, k < 8 → (rn3 X i o x).chos k < 12 ∧ stp (nbS X o) ≤ rstr (rn3 X i o x) ((rn3 X i o x).chos k) o ∧ TKok (rn3 X i o x) ((rn3 X i o x).chos k) (rp (rn3 X i o x) ((rn3 X i o x).chos k) o))) ∧
    (B1 Y.byts ∧ B1 Y.eqs ∧ (∀ k, k < stp (szM Y o) → lf (fun b => mtU (rbM1 Y i o).used i k (40 * i + b)) < 40) ∧ (0 < szM Y o → ∀ f, f < 8 → lqB (rbM2 Y i o) o (mnw Y o) (tdX x i) f ≠ 12) ∧ (0 < szM Y o → ∀ k, k < 8 → (rbM3 Y i o (tdX x i)).chos k < 12) ∧ (∀ s, s < stp (szM Y o) → ∀ q, q < 8 → stE (rE (rS (rbM3 Y i o (tdX x i)) i o s) i o s 8) 8 9 q (16 * q + q) ≠ 0)) := by
  obtain ⟨e1, e2, e3, e4, e5, e6, n2, hc2, hm2, hnw, em, eb, hsC⟩ := ren_mid h hi ho hw hroom
  obtain ⟨c1, c2⟩ := ren_cho (x := x) h hi ho hw hroom
  obtain ⟨hA, hG, hL, hI⟩ := id h
  obtain ⟨a1, a2, a3, a4, a5, a6, a7, a8, a9, b1, b2, b3, b4⟩ := id hI
  obtain ⟨k1, k2, k3, k4, k5, k6⟩ := rn2_keep X i o
  have e3c : rn3 X i o x = (rn2 X i o).s_chos (csF (rn2 X i o) i o x (rn2 X i o).chos (csN (rn2 X i o) i o x)) := rfl
  have e3m : rbM3 Y i o (tdX x i) = (rbM2 Y i o).s_chos (lqF (rbM2 Y i o) o (mnw Y o) (tdX x i) (rbM2 Y i o).chos 8) := rfl
  obtain ⟨v1, v2, -, v4, v5, v6, v7, v8, v9, v10, v11, v12⟩ := rn3_keep (rn2 X i o) (csF (rn2 X i o) i o x (rn2 X i o).chos (csN (rn2 X i o) i o x))
  rw [← e3c] at v1 v2 v4 v5 v6 v7 v8 v9 v10 v11 v12
  have hrp3 : ∀ j, rp (rn3 X i o x) j o = rp X j o := fun j => rp_eq (v6.trans k3) j o
  have hrp2 : ∀ j, rp (rn2 X i o) j o = rp X j o := fun j => rp_eq k3 j o
  have hm3c : ∀ k, k < 8 → (rbM3 Y i o (tdX x i)).chos k = lqB (rbM2 Y i o) o (mnw Y o) (tdX x i) k := fun k hk => by
    rw [e3m]
    show lqF (rbM2 Y i o) o (mnw Y o) (tdX x i) (rbM2 Y i o).chos 8 k = _
    rw [lqF_at, if_pos hk]
  refine ⟨⟨e3, e5, a7, a8, fun h8 k hk => ?_⟩, b1, b2, e6, fun hz f hf => ?_, fun hz k hk => ?_, fun s hs => ?_⟩
  · have h8' : 8 ≤ ct (cnd Y o (mnw Y o) (tdX x i)) 12 := by omega
    obtain ⟨-, x2, x3, x4, x5, -⟩ := c2 h8' k hk
    refine ⟨x2, ?_, fun s hs => ?_⟩
    · show _ ≤ (rn3 X i o x).hstr ((rn3 X i o x).chos k) (rp (rn3 X i o x) ((rn3 X i o x).chos k) o)
      rw [hrp3, v9, (rn2_h X i o _ _).2.2, if_neg (fun y => x3 y.1)]
      exact Nat.le_of_eq x5.symm
    · have g := ((n2 _ x2).2.2.2.2.2.1 (rp X ((rn3 X i o x).chos k) o) (rp_lt ho)).2.2.2
      rw [hrp3, v9] at hs
      rw [hrp3, v10, v12]
      exact g s hs
  · have h8' := hcand (by rw [e2]; exact hz)
    obtain ⟨x1, x2, -⟩ := c2 h8' f hf
    omega
  · have h8' := hcand (by rw [e2]; exact hz)
    obtain ⟨x1, x2, -⟩ := c2 h8' k hk
    rw [hm3c k hk, ← x1]
    exact x2
  · have hz : 0 < szM Y o := by
      rcases Nat.eq_zero_or_pos (szM Y o) with z | z
      · rw [z] at hs
        exact absurd hs (by unfold stp; omega)
      · exact z
    have h8' := hcand (by rw [e2]; exact hz)
    have hsq : BM (rn3 X i o x).squ := by
      have : (rn2 X i o).squ = X.squ := congrArg (fun t => t.2.2.2.2.2.2.2.2.2.1) k1
      rw [v4, this]
      exact a7
    have hiv : BM (rn3 X i o x).inv := by
      have : (rn2 X i o).inv = X.inv := congrArg (fun t => t.2.2.2.2.2.2.2.2.2.2.1) k1
      rw [v5, this]
      exact a8.1
    refine rE_piv (c := rn3 X i o x) hsq hiv (fun k hk => ?_) (fun k hk => (c2 h8' k hk).2.1) (fun j k hj hk hjk => (c2 h8' k hk).2.2.2.2.2 j hj hjk)
    rw [(rS_keep (rbM3 Y i o (tdX x i)) i o s).1, hm3c k hk, (c2 h8' k hk).1]
-- objects that nothing was done to
theorem obj_eq (hl : X.live = c.live) (hsw : X.sw = c.sw) (hu : X.unst = c.unst) (hv : ∀ j p, p / 2 = o → X.hver j p = c.hver j p) (hb : ∀ j p, p / 2 = o → X.hbyt j p = c.hbyt j p) (hs : ∀ j p, p / 2 = o → X.hstr j p = c.hstr j p) :
    frs X o = frs c o ∧ nw X o = nw c o ∧ nbS X o = nbS c o ∧ (∀ i, stl X i o = stl c i o) ∧ (∀ i, rstr X i o = rstr c i o) := by
  have hr : ∀ j, rp X j o = rp c j o := fun j => rp_eq hsw j o
  have hd : ∀ j, rp c j o / 2 = o := fun j => hq_div c j o false
  have hrv : ∀ j, rver X j o = rver c j o := fun j => by
    show X.hver j (rp X j o) = c.hver j (rp c j o)
    rw [hr, hv j _ (hd j)]
  have hf : frs X o = frs c o := by
    funext v j
    unfold frs
    rw [hl, hrv]
  have hn : ∀ b, nwL X o b = nwL c o b := by
    intro b
    induction b with
    | zero => rfl
    | succ b ih =>
      unfold nwL
      rw [ih, hrv, hf]
  have hw : nw X o = nw c o := hn 12
  have hff : ffr X o = ffr c o := by
    unfold ffr
    rw [hw, hf]
  refine ⟨hf, hw, ?_, fun i => ?_, fun i => ?_⟩
  · unfold nbS rbyt
    rw [hff, hr, hb _ _ (hd _)]
  · unfold stl
    rw [hu, hw, hf]
  · show X.hstr i (rp X i o) = c.hstr i (rp c i o)
    rw [hr, hs i _ (hd i)]
theorem Rel.stlE (h : Rel K c m) (hi : i < 12) (ho : o < 6) : stl c i o = wtM m i o := by
  unfold stl wtM
  rw [h.2.2.1.2.2.2.1 o ho, h.nwE ho, h.frsE hi ho]
theorem Rel.cnE (h : Rel K c m) (hi : i < 12) (ho : o < 6) : csN c i o x = min (ct (cnd m o (mnw m o) (tdX x i)) 12) 8 := by
  have z := csN_ct (c := c) (m := m) (o := o) (x := x) hi (fun n hn => (h.1 n hn).2.1) (fun n hn _ => h.frsE hn ho _)
  rw [h.nwE ho] at z
  exact z
theorem rbMC_syms : (rbMC Y i o x).syms = Y.syms := by
  have a : (rbM2 Y i o).syms = Y.syms := by
    have e := (eqM_gu Y i (rx i o false)).un.2.2.2.2.2.2
    have e2 := (tk_keep (rbM1 Y i o) i (rx i o false) (mnw Y o) (szM Y o)).1.un.2.2.2.2.2.2
    exact e2.trans e
  have b : ∀ Z : MS, ∀ s, (rS Z i o s).syms = Z.syms := by
    intro Z s
    induction s with
    | zero => rfl
    | succ s ih => exact ih
  unfold rbMC
  split
  · exact a
  · rw [b]
    exact a
/-- how it stands ahead of object o -/
def RB (K : Nat) (c : CS) (m : MS) (i : Nat) (x : Int32) (o : Nat) : Prop :=
  Rel K (rbL c i x o) ((rbLM m i x o).s_syms (rbL c i x o).syms) ∧ (rbL c i x o).syms = c.syms + nI (rbSM m i x o) ∧ (rbLM m i x o).syms = m.syms ∧ (rbL c i x o).live = c.live ∧ (rbL c i x o).sw = c.sw ∧ (rbL c i x o).unst = c.unst ∧ (∀ j p, o ≤ p / 2 → (rbL c i x o).hver j p = c.hver j p) ∧ (∀ j p, o ≤ p / 2 → (rbL c i x o).hbyt j p = c.hbyt j p) ∧ (∀ j p, o ≤ p / 2 → (rbL c i x o).hstr j p = c.hstr j p) ∧ nI (ct ((rbL c i x o).takn i) 40) = rmL (lhC c i x) i o
theorem lhC_keep (c : CS) (i : Nat) (x : Int32) : (lhC c i x).live = c.live ∧ (lhC c i x).sw = c.sw ∧ (lhC c i x).unst = c.unst ∧ (lhC c i x).hver = c.hver ∧ (lhC c i x).hbyt = c.hbyt ∧ (lhC c i x).hstr = c.hstr ∧ (lhC c i x).takn = c.takn ∧ (lhC c i x).syms = c.syms := ⟨rfl, rfl, rfl, rfl, rfl, rfl, rfl, rfl⟩
theorem lh_obj (c : CS) (i : Nat) (x : Int32) (o : Nat) : nbS (lhC c i x) o = nbS c o ∧ stl (lhC c i x) i o = stl c i o ∧ rstr (lhC c i x) i o = rstr c i o := by
  obtain ⟨k1, k2, k3, k4, k5, k6, -, -⟩ := lhC_keep c i x
  obtain ⟨-, -, a, b, d⟩ := obj_eq (o := o) k1 k2 k3 (fun j p _ => by rw [k4]) (fun j p _ => by rw [k5]) (fun j p _ => by rw [k6])
  exact ⟨a, b i, d i⟩
theorem rm_step {t s r : Nat} (hr : r ≤ t) : nI t + (nI s - nI r) = nI (t + s - r) := by
  rw [Int32.sub_eq_add_neg, ← Int32.add_assoc, nI_add, ← Int32.sub_eq_add_neg, pk_sub (by omega)]
/-- what is said of an object holds of it still -/
theorem RB_obj (h : RB K c m i x o) : frs (rbL c i x o) o = frs c o ∧ nw (rbL c i x o) o = nw c o ∧ nbS (rbL c i x o) o = nbS c o ∧ (∀ i', stl (rbL c i x o) i' o = stl c i' o) ∧ (∀ i', rstr (rbL c i x o) i' o = rstr c i' o) := by
  obtain ⟨-, -, -, h4, h5, h6, h7, h8, h9, -⟩ := h
  exact obj_eq h4 h5 h6 (fun j p hp => h7 j p (by omega)) (fun j p hp => h8 j p (by omega)) (fun j p hp => h9 j p (by omega))
theorem Rel.rle (h : Rel K c m) (hi : i < 12) (ho : o < 6) : rstr c i o ≤ ct (c.takn i) 40 := by
  obtain ⟨j1, j2, j3, j4⟩ := h.hi hi (rp_lt (c := c) (i := i) ho)
  have hds := (h.1 i hi).2.2.2.2.2.2
  have := ct_gu (T := c.takn i) (P := c.hpl i (rp c i o)) (c.hstr i (rp c i o)) (fun s hs => ⟨j4 s hs, (h.ci i _).2.2.2 s⟩) (fun s t hs ht e => (hds _ _ s t (rp_lt ho) (rp_lt ho) hs ht e).2)
  have e : rstr c i o = c.hstr i (rp c i o) := rfl
  omega
theorem RB_room (h : RB K c m i x o) (hi : i < 12) (ho : o < 6) (hw : stl c i o = true) (hrm : rmL (lhC c i x) i (o + 1) ≤ nI 40) : ct ((rbL c i x o).takn i) 40 + stp (nbS (rbL c i x o) o) ≤ 40 + rstr (rbL c i x o) i o := by
  obtain ⟨o1, o2, o3, o4, o5⟩ := RB_obj h
  have hr := h.1.rle hi ho
  have hci := h.1.ci
  obtain ⟨-, -, -, -, -, -, -, -, -, h10⟩ := h
  obtain ⟨l1, l2, l3⟩ := lh_obj c i x o
  have e : rmL (lhC c i x) i (o + 1) = rmL (lhC c i x) i o + (nI (stp (nbS (lhC c i x) o)) - nI (rstr (lhC c i x) i o)) := if_pos (by rw [l2]; exact hw)
  rw [e, ← h10, l1, l3, ← o3, ← o5 i, rm_step hr] at hrm
  have hct := ct_le ((rbL c i x o).takn i) 40
  have hs : stp (nbS (rbL c i x o) o) < 100000 := by
    have : nbS (rbL c i x o) o ≤ 65536 := by
      unfold nbS
      split
      · have := CI_rbyt hci (ffr (rbL c i x o) o) o
        omega
      · omega
    unfold stp
    omega
  have := (nI_leI (by omega) (by decide)).mp hrm
  omega
theorem syms_self (Z : MS) (s : Int32) (h : Z.syms = s) : Z.s_syms s = Z := by
  subst h
  exact MS.ext2
theorem mfr_ss (Z : MS) (s : Int32) : mfr (Z.s_syms s) = mfr Z := mfr_eq (m := Z) rfl rfl rfl
theorem mnw_ss (Z : MS) (s : Int32) (o : Nat) : mnw (Z.s_syms s) o = mnw Z o := mnw_eq (m := Z) rfl rfl rfl
theorem wtM_ss (Z : MS) (s : Int32) (i o : Nat) : wtM (Z.s_syms s) i o = wtM Z i o := wtM_eq (m := Z) rfl rfl rfl rfl
theorem szM_ss (Z : MS) (s : Int32) (o : Nat) : szM (Z.s_syms s) o = szM Z o := szM_eq (m := Z) rfl rfl rfl rfl
theorem RB_0 (h : Rel K c m) (hi : i < 12) : RB K c m i x 0 := by
  have hs : c.syms = m.syms := h.2.2.1.2.2.2.2.2.2.1
  obtain ⟨k1, k2, k3, k4, k5, k6, k7, k8⟩ := lhC_keep c i x
  have e1 : rbL c i x 0 = lhC c i x := rfl
  have e2 : rbLM m i x 0 = m.s_chos (rcW m i x 6) := rfl
  have e3 : rbSM m i x 0 = 0 := rfl
  have hr : Rel K (lhC c i x) (m.s_chos (rcW m i x 6)) := Rel_chos h _ _
  unfold RB
  rw [e1, e2, e3]
  refine ⟨?_, ?_, rfl, k1, k2, k3, fun j p _ => by rw [k4], fun j p _ => by rw [k5], fun j p _ => by rw [k6], ?_⟩
  · rw [syms_self (m.s_chos (rcW m i x 6)) _ (hs.symm.trans k8.symm)]
    exact hr
  · rw [k8, nI_0, Int32.add_zero]
  · rw [k7]
    have a := ct_not (c.takn i) 40
    have b : frN (lhC c i x) i = ct (fun b => !c.takn i b) 40 := rfl
    show _ = nI 40 - nI (frN (lhC c i x) i)
    rw [b, pk_sub (by omega)]
    congr 1
    omega
theorem RB_cnd (h : RB K c m i x o) (h0 : Rel K c m) (ho : o < 6) (y : Int32) : ct (cnd (rbLM m i x o) o (mnw (rbLM m i x o) o) y) 12 = ct (cnd m o (mnw m o) y) 12 := by
  obtain ⟨o1, o2, -⟩ := RB_obj h
  have hR := h.1
  refine ct_congr 12 (fun n hn => ?_)
  have a : mnw (rbLM m i x o) o = nw c o := by rw [← mnw_ss (rbLM m i x o) (rbL c i x o).syms, ← hR.nwE ho, o2]
  unfold cnd
  rw [a, ← h0.nwE ho, ← h0.frsE hn ho, ← mfr_ss (rbLM m i x o) (rbL c i x o).syms, ← hR.frsE hn ho, o1]
theorem RB_pre (h : RB K c m i x o) (h0 : Rel K c m) (hi : i < 12) (ho : o < 6) (hw : stl c i o = true) (hNF : 0 < nbS c o → 8 ≤ ct (cnd m o (mnw m o) (tdX x i)) 12) (hrm : rmL (lhC c i x) i (o + 1) ≤ nI 40) :
    stl (rbL c i x o) i o = true ∧ wtM (rbLM m i x o) i o = true ∧ ct ((rbL c i x o).takn i) 40 + stp (nbS (rbL c i x o) o) ≤ 40 + rstr (rbL c i x o) i o ∧ (0 < nbS (rbL c i x o) o → 8 ≤ ct (cnd (rbLM m i x o) o (mnw (rbLM m i x o) o) (tdX x i)) 12) := by
  obtain ⟨o1, o2, o3, o4, o5⟩ := RB_obj h
  refine ⟨(o4 i).trans hw, ?_, RB_room h hi ho hw hrm, fun z => ?_⟩
  · rw [← wtM_ss (rbLM m i x o) (rbL c i x o).syms, ← h.1.stlE hi ho, o4 i]
    exact hw
  · rw [RB_cnd h h0 ho]
    exact hNF (by rw [← o3]; exact z)
theorem RB_step (h : RB K c m i x o) (h0 : Rel K c m) (hi : i < 12) (ho : o < 6) (hNF : stl c i o = true → 0 < nbS c o → 8 ≤ ct (cnd m o (mnw m o) (tdX x i)) 12) (hrm : stl c i o = true → rmL (lhC c i x) i (o + 1) ≤ nI 40) : RB K c m i x (o + 1) := by
  obtain ⟨l1, l2, l3⟩ := lh_obj c i x o
  by_cases hw : stl c i o = true
  · obtain ⟨p1, p2, p3, p4⟩ := RB_pre h h0 hi ho hw (hNF hw) (hrm hw)
    obtain ⟨o1, o2, o3, o4, o5⟩ := RB_obj h
    obtain ⟨h1, h2, h3, h4, h5, h6, h7, h8, h9, h10⟩ := id h
    have hrl := h1.rle hi ho
    have e1 : rbL c i x (o + 1) = rnC (rbL c i x o) i o x := if_pos p1
    have e2 : rbLM m i x (o + 1) = rbMC (rbLM m i x o) i o (tdX x i) := if_pos p2
    have e3 : rbSM m i x (o + 1) = rbSM m i x o + 8 * stp (szM (rbLM m i x o) o) := if_pos p2
    have e4 : rmL (lhC c i x) i (o + 1) = rmL (lhC c i x) i o + (nI (stp (nbS (lhC c i x) o)) - nI (rstr (lhC c i x) i o)) := if_pos (by rw [l2]; exact hw)
    unfold RB
    rw [e1, e2, e3, e4, ← h10, l1, l3, ← o3, ← o5 i]
    have hsy := rbMC_syms (Y := rbLM m i x o) (i := i) (o := o) (x := tdX x i)
    generalize rbL c i x o = X at *
    generalize rbLM m i x o = Y at *
    obtain ⟨s1, s2, s3, s4, s5, s6, s7, s8, s9⟩ := ren_step (x := x) h1 hi ho p1 p3 p4
    have hrd : rp X i o / 2 = o := hq_div X i o false
    refine ⟨s1, ?_, hsy.trans h3, s3.trans h4, s4.trans h5, s5.trans h6, fun j p hp => ?_, fun j p hp => ?_, fun j p hp => ?_, ?_⟩
    · rw [s2, h2, Int32.add_assoc, nI_add]
    · rw [s6, if_neg (fun y => by rw [y.2, hrd] at hp; omega)]
      exact h7 j p (by omega)
    · rw [s7, if_neg (fun y => by rw [y.2, hrd] at hp; omega)]
      exact h8 j p (by omega)
    · rw [s8, if_neg (fun y => by rw [y.2, hrd] at hp; omega)]
      exact h9 j p (by omega)
    · rw [rm_step hrl]
      congr 1
      omega
  · obtain ⟨o1, o2, o3, o4, o5⟩ := RB_obj h
    obtain ⟨h1, h2, h3, h4, h5, h6, h7, h8, h9, h10⟩ := id h
    have q1 : ¬ stl (rbL c i x o) i o = true := by rw [o4 i]; exact hw
    have q2 : ¬ wtM (rbLM m i x o) i o = true := by rw [← wtM_ss (rbLM m i x o) (rbL c i x o).syms, ← h1.stlE hi ho]; exact q1
    have e1 : rbL c i x (o + 1) = rbL c i x o := if_neg q1
    have e2 : rbLM m i x (o + 1) = rbLM m i x o := if_neg q2
    have e3 : rbSM m i x (o + 1) = rbSM m i x o := if_neg q2
    have e4 : rmL (lhC c i x) i (o + 1) = rmL (lhC c i x) i o := if_neg (by rw [l2]; exact hw)
    unfold RB
    rw [e1, e2, e3, e4]
    exact ⟨h1, h2, h3, h4, h5, h6, fun j p hp => h7 j p (by omega), fun j p hp => h8 j p (by omega), fun j p hp => h9 j p (by omega), h10⟩
theorem RB_all (h0 : Rel K c m) (hi : i < 12) (hNF : ∀ o, o < 6 → stl c i o = true → 0 < nbS c o → 8 ≤ ct (cnd m o (mnw m o) (tdX x i)) 12) (hrm : ∀ o, o < 6 → rmL (lhC c i x) i (o + 1) ≤ nI 40) : ∀ o, o ≤ 6 → RB K c m i x o
  | 0, _ => RB_0 h0 hi
  | o + 1, ho => RB_step (RB_all h0 hi hNF hrm o (by omega)) h0 hi (by omega) (hNF o (by omega)) (fun _ => hrm o (by omega))
-- the room, counted ahead
theorem Rel.mm (h : Rel K c m) (hi : i < 12) : ∀ o, o ≤ 6 → mmL m i o = rmL (lhC c i x) i o
  | 0, _ => by
    have a := ct_not (c.takn i) 40
    have b : frN (lhC c i x) i = ct (fun b => !c.takn i b) 40 := rfl
    show nI (usN m i) = nI 40 - nI (frN (lhC c i x) i)
    rw [h.us hi, b, pk_sub (by omega)]
    congr 1
    omega
  | o + 1, ho => by
    have ih := h.mm hi o (by omega)
    have ho' : o < 6 := by omega
    obtain ⟨l1, l2, l3⟩ := lh_obj c i x o
    show (if wtM m i o = true then mmL m i o + (nI (stp (szM m o)) - (if m.has (rx i o false) = true then nI (stp (m.size (rx i o false))) else nI 0)) else mmL m i o) = (if stl (lhC c i x) i o = true then rmL (lhC c i x) i o + (nI (stp (nbS (lhC c i x) o)) - nI (rstr (lhC c i x) i o)) else rmL (lhC c i x) i o)
    rw [l1, l2, l3, ← ih, h.stlE hi ho']
    by_cases q : wtM m i o = true
    · rw [if_pos q, if_pos q]
      have hnw : 0 < nw c o := (stl_un ((h.stlE hi ho').trans q)).2.1
      rw [h.nb ho' hnw]
      obtain ⟨g1, g2⟩ := h.hd hi ho' false
      obtain ⟨j1, j2, j3, j4⟩ := h.hi hi (rp_lt (c := c) (i := i) ho')
      rw [hq_f] at g1 g2
      have er : rstr c i o = stp (c.hbyt i (rp c i o)) := j2
      rcases Nat.eq_zero_or_pos (c.hver i (rp c i o)) with z | z
      · rw [if_neg (by rw [g1, z]; decide), er, j1 z]
        rfl
      · rw [if_pos (by rw [g1]; exact decide_eq_true z), er, (g2 z).2.1]
    · rw [if_neg q, if_neg q]
theorem fu_f : ∀ n, (∀ o, o < n → wtM m i o = true → mmL m i (o + 1) ≤ nI 40) → fuM m i n = false
  | 0, _ => rfl
  | n + 1, h => by
    have ih := fu_f n (fun o ho => h o (by omega))
    show (if wtM m i n = true then (fuM m i n || decide (¬ mmL m i (n + 1) ≤ nI 40)) else fuM m i n) = false
    split
    · rename_i q
      rw [ih, decide_eq_false (fun z => z (h n (by omega) q))]
      rfl
    · exact ih
theorem fu_t (h1 : wtM m i o = true) (h2 : ¬ mmL m i (o + 1) ≤ nI 40) : ∀ n, o < n → fuM m i n = true
  | 0, h => by omega
  | n + 1, h => by
    show (if wtM m i n = true then (fuM m i n || decide (¬ mmL m i (n + 1) ≤ nI 40)) else fuM m i n) = true
    by_cases e : o = n
    · subst e
      rw [if_pos h1, decide_eq_true h2, Bool.or_true]
    · rw [fu_t h1 h2 n (by omega)]
      split <;> simp
theorem Rel.ful (h : Rel K c m) (hi : i < 12) : (lrN (lhC c i x) i < 6 → fuM m i 6 = true) ∧ (¬ lrN (lhC c i x) i < 6 → fuM m i 6 = false) := by
  have hmm := fun o ho => h.mm (x := x) hi o ho
  constructor
  · intro q
    obtain ⟨w1, w2⟩ := lfF_spec (T := fun o => decide (rmL (lhC c i x) i (o + 1) ≤ nI 40)) (f := 6) (k := 0) (by unfold lrN at q; omega)
    have q6 : lfF (fun o => decide (rmL (lhC c i x) i (o + 1) ≤ nI 40)) 6 0 < 6 := q
    generalize lfF (fun o => decide (rmL (lhC c i x) i (o + 1) ≤ nI 40)) 6 0 = j at *
    have w3 := of_decide_eq_false w1
    have hst : stl (lhC c i x) i j = true := by
      rcases Bool.eq_false_or_eq_true (stl (lhC c i x) i j) with y | y
      · exact y
      · exfalso
        apply w3
        have e : rmL (lhC c i x) i (j + 1) = rmL (lhC c i x) i j := if_neg (by rw [y]; decide)
        rw [e]
        rcases Nat.eq_zero_or_pos j with z | z
        · rw [z]
          show nI 40 - nI (frN (lhC c i x) i) ≤ nI 40
          have b : frN (lhC c i x) i ≤ 40 := ct_le _ 40
          rw [pk_sub b]
          exact (nI_leI (by omega) (by decide)).mpr (by omega)
        · have := of_decide_eq_true (w2 (j - 1) (Nat.zero_le _) (by omega))
          rw [show j - 1 + 1 = j by omega] at this
          exact this
    refine fu_t (o := j) ?_ ?_ 6 q6
    · rw [← h.stlE hi q6, ← (lh_obj c i x j).2.1]
      exact hst
    · rw [hmm (j + 1) (by omega)]
      exact w3
  · intro q
    have hall := lfF_allT (T := fun o => decide (rmL (lhC c i x) i (o + 1) ≤ nI 40)) (f := 6) q
    refine fu_f 6 (fun o ho _ => ?_)
    rw [hmm (o + 1) (by omega)]
    exact of_decide_eq_true (hall o ho)
theorem ag_rebuild (h : Rel K c m) (x y : Int32) : Ag K c m M_S_rebuild M_M_rebuild [.int x, .int y] := by
  by_cases hx : inR x 12 = true
  · obtain ⟨i, hi, rfl⟩ := inR_of hx (by decide)
    have hl := (h.1 i hi).1
    by_cases q : c.live i = true
    · have hf : m.fail i = false := by rw [q] at hl; simpa using hl.symm
      have hcsl : ∀ o, o < 6 → hnO c i o = true → (wtM m i o = true ∧ 0 < szM m o ∧ nbS c o = szM m o) := fun o ho z => by
        unfold hnO at z
        rw [Bool.and_eq_true] at z
        have hnw := (stl_un z.1).2.1
        have e := h.nb ho hnw
        exact ⟨by rw [← h.stlE hi ho]; exact z.1, by rw [← e]; exact of_decide_eq_true z.2, e⟩
      by_cases q1 : lhN c i y < 6
      · obtain ⟨w1, w2⟩ := lfF_spec (T := fun o => !(hnO c i o && decide (csN c i o y < 8))) (f := 6) (k := 0) (by unfold lhN at q1; omega)
        have q6 : lfF (fun o => !(hnO c i o && decide (csN c i o y < 8))) 6 0 < 6 := q1
        generalize lfF (fun o => !(hnO c i o && decide (csN c i o y < 8))) 6 0 = j at *
        have w3 : hnO c i j = true ∧ csN c i j y < 8 := by simpa using w1
        obtain ⟨u1, u2, -⟩ := hcsl j q6 w3.1
        have u3 := w3.2
        rw [h.cnE hi q6] at u3
        refine ⟨-4, lhC c i y, rfW m i y j, fun l g n d hd => k_S_rebuildFew (by omega) hi h.ci q q1, fun l g n d hd => k_M_rebuildFew (by omega) hi h.mi hf q6 u1 u2 (show ct (cnd m j (mnw m j) (tdX y i)) 12 < 8 by omega) (fun o ho z1 z2 => ?_), Rel_chos h.up _ _⟩
        have ho6 : o < 6 := by omega
        have hs := (h.stlE hi ho6).trans z1
        have e := h.nb ho6 (stl_un hs).2.1
        have hh : hnO c i o = true := by
          unfold hnO
          rw [hs, e, decide_eq_true z2]
          rfl
        have w4 := w2 o (Nat.zero_le _) ho
        have w5 : ¬ csN c i o y < 8 := by
          intro z
          have : (!(hnO c i o && decide (csN c i o y < 8))) = true := w4
          rw [hh, decide_eq_true z] at this
          cases this
        rw [h.cnE hi ho6] at w5
        show 8 ≤ ct (cnd m o (mnw m o) (tdX y i)) 12
        omega
      · have hall := lfF_allT (T := fun o => !(hnO c i o && decide (csN c i o y < 8))) (f := 6) q1
        have hNF : ∀ o, o < 6 → stl c i o = true → 0 < nbS c o → 8 ≤ ct (cnd m o (mnw m o) (tdX y i)) 12 := fun o ho z1 z2 => by
          have hh : hnO c i o = true := by
            unfold hnO
            rw [z1, decide_eq_true z2]
            rfl
          have w5 : ¬ csN c i o y < 8 := by
            intro z
            have : (!(hnO c i o && decide (csN c i o y < 8))) = true := hall o ho
            rw [hh, decide_eq_true z] at this
            cases this
          rw [h.cnE hi ho] at w5
          omega
        have hok : ∀ o, o < 6 → wtM m i o = true → 0 < szM m o → 8 ≤ ct (selM m o (mnw m o) (tdX y i)) 12 := fun o ho z1 z2 => by
          have hs := (h.stlE hi ho).trans z1
          have e := h.nb ho (stl_un hs).2.1
          exact hNF o ho hs (by rw [e]; exact z2)
        obtain ⟨fu1, fu2⟩ := h.ful (x := y) hi
        by_cases q2 : lrN (lhC c i y) i < 6
        · exact ⟨-5, lhC c i y, m.s_chos (rcW m i y 6), fun l g n d hd => k_S_rebuildFull (by omega) hi h.ci q q1 q2, fun l g n d hd => k_M_rebuildFull (by omega) hi h.mi hf hok (fu1 q2), Rel_chos h.up _ _⟩
        · have hrm : ∀ o, o < 6 → rmL (lhC c i y) i (o + 1) ≤ nI 40 := fun o ho => of_decide_eq_true (lfF_allT (T := fun o => decide (rmL (lhC c i y) i (o + 1) ≤ nI 40)) (f := 6) q2 o ho)
          have hRB := RB_all (x := y) h hi hNF hrm
          have hRBu := RB_all (x := y) h.up hi hNF hrm
          have hpre := fun o (ho : o < 6) (hs : stl c i o = true) => RB_pre (hRB o (by omega)) h hi ho hs (hNF o ho hs) (hrm o ho)
          have hsl : ∀ o, o < 6 → stl (rbL c i y o) i o = true → stl c i o = true := fun o ho z => by
            rw [← (RB_obj (hRB o (by omega))).2.2.2.1 i]
            exact z
          have hwl : ∀ o, o < 6 → wtM (rbLM m i y o) i o = true → stl c i o = true := fun o ho z => by
            rw [← wtM_ss (rbLM m i y o) (rbL c i y o).syms, ← (hRB o (by omega)).1.stlE hi ho] at z
            exact hsl o ho z
          obtain ⟨r1, r2, r3, -⟩ := hRBu 6 (Nat.le_refl _)
          refine ⟨nI (rbSM m i y 6), rbL c i y 6, (rbLM m i y 6).s_syms ((rbLM m i y 6).syms + nI (rbSM m i y 6)), fun l g n d hd => ?_, fun l g n d hd => ?_, ?_⟩
          · have z := k_S_rebuild (l := l) (g := g) (c := c) (m := m) (n := n) (d := d) (by omega) hi h.ci q q1 q2 (fun o ho => (hRB o (by omega)).1.ci) (fun o ho hs => by
              obtain ⟨p1, p2, p3, p4⟩ := hpre o ho (hsl o ho hs)
              exact (ren_pre (x := y) (hRB o (by omega)).1 hi ho p1 p3 p4).1)
            have e : (rbL c i y 6).syms - (lhC c i y).syms = nI (rbSM m i y 6) := by
              rw [r2, (lhC_keep c i y).2.2.2.2.2.2.2, Int32.add_comm, Int32.add_sub_cancel]
            rw [e] at z
            exact z
          · refine k_M_rebuild (by omega) hi h.mi hf hok (fu2 q2) (fun o ho => (hRB o (by omega)).1.mi) (fun o ho hs => ?_)
            obtain ⟨p1, p2, p3, p4⟩ := hpre o ho (hwl o ho hs)
            exact (ren_pre (x := y) (hRB o (by omega)).1 hi ho p1 p3 p4).2
          · have e : (rbLM m i y 6).syms + nI (rbSM m i y 6) = (rbL c i y 6).syms := by
              rw [r2, r3, h.2.2.1.2.2.2.2.2.2.1]
            rw [e]
            exact r1
    · have q' : c.live i = false := by simpa using q
      have hf : m.fail i = true := by rw [q'] at hl; simpa using hl.symm
      exact ⟨_, c, m, fun l g n d hd => k_S_rebuild_no (by omega) hi q', fun l g n d hd => k_M_rebuild_no (by omega) hi hf, h.up⟩
  · exact ⟨_, c, m, fun l g n d hd => k_S_rebuild_bad (by omega) (by simpa using hx), fun l g n d hd => k_M_rebuild_bad (by omega) (by simpa using hx), h.up⟩
end REB
