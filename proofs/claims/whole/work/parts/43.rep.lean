-- ===== rebuilding: a stripe repaired, on both sides =====
def kF (c : CS) := (c.begun, c.unst, c.tape, c.tapeN, c.gotN, c.gott, c.cut, c.msgs, c.mat, c.squ, c.inv, c.giv)
theorem kF_un {c c' : CS} (h : kF c' = kF c) : c'.begun = c.begun ∧ c'.unst = c.unst ∧ c'.tape = c.tape ∧ c'.tapeN = c.tapeN ∧ c'.gotN = c.gotN ∧ c'.gott = c.gott ∧ c'.cut = c.cut ∧ c'.msgs = c.msgs ∧ c'.mat = c.mat ∧ c'.squ = c.squ ∧ c'.inv = c.inv ∧ c'.giv = c.giv := ⟨congrArg (fun t => t.1) h, congrArg (fun t => t.2.1) h, congrArg (fun t => t.2.2.1) h, congrArg (fun t => t.2.2.2.1) h, congrArg (fun t => t.2.2.2.2.1) h, congrArg (fun t => t.2.2.2.2.2.1) h, congrArg (fun t => t.2.2.2.2.2.2.1) h, congrArg (fun t => t.2.2.2.2.2.2.2.1) h, congrArg (fun t => t.2.2.2.2.2.2.2.2.1) h, congrArg (fun t => t.2.2.2.2.2.2.2.2.2.1) h, congrArg (fun t => t.2.2.2.2.2.2.2.2.2.2.1) h, congrArg (fun t => t.2.2.2.2.2.2.2.2.2.2.2) h⟩
theorem kD_un {c c' : CS} (h : kD c' = kD c) : c'.begun = c.begun ∧ c'.unst = c.unst ∧ c'.tape = c.tape ∧ c'.tapeN = c.tapeN ∧ c'.gotN = c.gotN ∧ c'.cut = c.cut ∧ c'.msgs = c.msgs ∧ c'.syms = c.syms ∧ c'.sent = c.sent := ⟨congrArg (fun t => t.1) h, congrArg (fun t => t.2.1) h, congrArg (fun t => t.2.2.1) h, congrArg (fun t => t.2.2.2.1) h, congrArg (fun t => t.2.2.2.2.1) h, congrArg (fun t => t.2.2.2.2.2.1) h, congrArg (fun t => t.2.2.2.2.2.2.1) h, congrArg (fun t => t.2.2.2.2.2.2.2.1) h, congrArg (fun t => t.2.2.2.2.2.2.2.2) h⟩
def scS (X : CS) : Nat → Nat → Int32
  | 0 => X.sent
  | k + 1 => upN (scS X k) (X.chos k) (scS X k (X.chos k) + nI 1)
theorem rpO_keep (X : CS) (i o s k : Nat) : kF (rpO X i o s k) = kF X ∧ (rpO X i o s k).data = X.data ∧ (rpO X i o s k).sent = upN X.sent (X.chos k) (X.sent (X.chos k) + nI 1) ∧ (rpO X i o s k).syms = X.syms + nI 1 ∧ (rpO X i o s k).wire = upN X.wire k (syF X (X.chos k) (X.hpl (X.chos k) (rp X (X.chos k) o) s) i) := ⟨rfl, rfl, rfl, rfl, rfl⟩
theorem syF_eq {c c' : CS} (h : c'.data = c.data) (a b j : Nat) : syF c' a b j = syF c a b j := by
  unfold syF
  rw [h]
theorem rpK_at (X : CS) (i o s : Nat) : ∀ n, kF (rpK X i o s n) = kF X ∧ (rpK X i o s n).data = X.data ∧ (rpK X i o s n).sent = scS X n ∧ (rpK X i o s n).syms = X.syms + nI n ∧ ∀ k, (rpK X i o s n).wire k = if k < n then syF X (X.chos k) (X.hpl (X.chos k) (rp X (X.chos k) o) s) i else X.wire k
  | 0 => ⟨rfl, rfl, rfl, (by show X.syms = X.syms + nI 0; rw [nI_0, Int32.add_zero]), fun k => by rw [if_neg (by omega)]; rfl⟩
  | n + 1 => by
    obtain ⟨a1, a2, a3, a4, a5⟩ := rpK_at X i o s n
    obtain ⟨k1, k2, k3, k4, k5, k6, k7, k8⟩ := rpK_same X i o s n
    have e : rpK X i o s (n + 1) = rpO (rpK X i o s n) i o s n := rfl
    rw [e]
    generalize rpK X i o s n = Z at *
    obtain ⟨b1, b2, b3, b4, b5⟩ := rpO_keep Z i o s n
    refine ⟨b1.trans a1, b2.trans a2, ?_, ?_, fun k => ?_⟩
    · rw [b3, a3, k7]
      rfl
    · rw [b4, a4, Int32.add_assoc, nI_add]
    · rw [b5]
      by_cases z : k = n
      · subst z
        rw [upN_s, if_pos (by omega), syF_eq a2, k7, k2, rp_eq k6]
      · rw [upN_n z, a5 k]
        by_cases q : k < n
        · rw [if_pos q, if_pos (by omega)]
        · rw [if_neg q, if_neg (by omega)]
theorem mb_keep (Z : CS) : kF (mbC Z) = kF Z ∧ (mbC Z).data = Z.data ∧ (mbC Z).sent = Z.sent ∧ (mbC Z).syms = Z.syms ∧ (mbC Z).wire = cp8 (fillF (mbF Z) Z.resu 8) Z.wire := ⟨rfl, rfl, rfl, rfl, rfl⟩
theorem wr_keep (Z : CS) (i b : Nat) : kF (wrC Z i b 8) = kF Z ∧ (wrC Z i b 8).data = upN Z.data i (wrF (Z.data i) b Z.wire 8) ∧ (wrC Z i b 8).sent = Z.sent ∧ (wrC Z i b 8).syms = Z.syms := ⟨rfl, rfl, rfl, rfl⟩
/-- a stripe repaired by the candidate -/
def rpN (X : CS) (i o s : Nat) : CS := rpW (mbC (rpK X i o s 8)) i o s
theorem rpN_at (X : CS) (i o s : Nat) : kF (rpN X i o s) = kF X ∧ (rpN X i o s).sent = scS X 8 ∧ (rpN X i o s).syms = X.syms + nI 8 ∧ samM X (rpN X i o s) ∧ (rpN X i o s).data = upN X.data i (wrF (X.data i) (X.hpl i (rp X i o) s) (fun r => cmb X.inv 8 (fun t => syF X (X.chos t) (X.hpl (X.chos t) (rp X (X.chos t) o) s) i) r) 8) := by
  obtain ⟨a1, a2, a3, a4, a5⟩ := rpK_at X i o s 8
  have hs1 := rpK_same X i o s 8
  unfold rpN rpW
  generalize rpK X i o s 8 = Z at *
  obtain ⟨b1, b2, b3, b4, b5⟩ := mb_keep Z
  have hs2 := hs1.tr (mbC_same Z)
  have hw : ∀ k, k < 8 → (mbC Z).wire k = cmb X.inv 8 (fun t => syF X (X.chos t) (X.hpl (X.chos t) (rp X (X.chos t) o) s) i) k := fun k hk => by
    have hv : Z.inv = X.inv := (kF_un a1).2.2.2.2.2.2.2.2.2.2.1
    rw [b5]
    unfold cp8
    rw [if_pos hk, fillF_at, if_pos hk]
    unfold mbF cmb
    rw [hv]
    exact xs_congr 8 (fun t ht => by rw [a5 t, if_pos ht])
  generalize mbC Z = W at *
  obtain ⟨c1, c2, c3, c4⟩ := wr_keep W i (W.hpl i (rp W i o) s)
  have hs3 := hs2.tr (wrC_same W i (W.hpl i (rp W i o) s) 8)
  refine ⟨c1.trans (b1.trans a1), c3.trans (b3.trans a3), c4.trans (b4.trans a4), hs3, ?_⟩
  rw [c2, b2, a2, hs2.2.1, rp_eq hs2.2.2.2.2.2.1]
  exact congrArg (upN X.data i) (wrF_congr _ _ hw)
theorem rE_row (Y : MS) (i o s : Nat) : ∀ n j k, j < n → k < 8 → rE Y i o s n (16 * j + k) = rowT (Y.chos j) k
  | 0, j, k, h, _ => by omega
  | n + 1, j, k, h, hk => by
    show upN (wrB (rE Y i o s n) (16 * n) (rowT (Y.chos n)) 8) (16 * n + 8) (syM Y (Y.chos n) (Y.blk (8 * rx (Y.chos n) o false + s)) i) (16 * j + k) = _
    rw [upN_n (by omega)]
    by_cases e : j = n
    · subst e
      rw [wrB_in hk]
    · rw [wrB_out (by omega)]
      exact rE_row Y i o s n j k (by omega) hk
theorem rE_rhs (Y : MS) (i o s : Nat) : ∀ n j, j < n → rE Y i o s n (16 * j + 8) = syM Y (Y.chos j) (Y.blk (8 * rx (Y.chos j) o false + s)) i
  | 0, j, h => by omega
  | n + 1, j, h => by
    show upN (wrB (rE Y i o s n) (16 * n) (rowT (Y.chos n)) 8) (16 * n + 8) (syM Y (Y.chos n) (Y.blk (8 * rx (Y.chos n) o false + s)) i) (16 * j + 8) = _
    by_cases e : j = n
    · subst e
      rw [upN_s]
    · rw [upN_n (by omega), wrB_out (by omega)]
      exact rE_rhs Y i o s n j (by omega)
theorem rES_eq {c : CS} {Y : MS} {i o s : Nat} (h1 : BM c.squ) (h2 : BM c.inv) (hch : ∀ k, k < 8 → Y.chos k = c.chos k) {k : Nat} (hk : k < 8) : rES Y i o s (16 * k + 8) = cmb (ivP c 8 8).inv 8 (fun j => syM Y (Y.chos j) (Y.blk (8 * rx (Y.chos j) o false + s)) i) k :=
  (lin_eq (c := c) (w := 8) (z := 9) (E := rE Y i o s 8) (Bm := fun j _ => syM Y (Y.chos j) (Y.blk (8 * rx (Y.chos j) o false + s)) i) (by decide) (by decide) h1 h2 (fun j hj q hq => by rw [rE_row Y i o s 8 j q hj hq, hch j hj]) (fun j hj t ht => by rw [show t = 0 by omega]; exact rE_rhs Y i o s 8 j hj) (fun j t => syM_lt _ _ _ _) 8 (Nat.le_refl _)).2 k hk 0 (by omega)
theorem rE_piv {c : CS} {Y : MS} {i o s : Nat} (h1 : BM c.squ) (h2 : BM c.inv) (hch : ∀ k, k < 8 → Y.chos k = c.chos k) (hlt : ∀ k, k < 8 → c.chos k < 12) (hne : ∀ j k, j < 8 → k < 8 → j ≠ k → c.chos j ≠ c.chos k) : ∀ q, q < 8 → stE (rE Y i o s 8) 8 9 q (16 * q + q) ≠ 0 :=
  piv_st (c := c) (Bm := fun j _ => syM Y (Y.chos j) (Y.blk (8 * rx (Y.chos j) o false + s)) i) (Nat.le_refl _) (by decide) (by decide) h1 h2 hlt hne (fun j hj q hq => by rw [rE_row Y i o s 8 j q hj hq, hch j hj]) (fun j hj t ht => by rw [show t = 0 by omega]; exact rE_rhs Y i o s 8 j hj) (fun j t => syM_lt _ _ _ _)
theorem sn_eq {X : CS} {Y : MS} (hs : ∀ n, n < 12 → X.sent n = Y.sent n) (hch : ∀ k, k < 8 → Y.chos k = X.chos k ∧ X.chos k < 12) : ∀ k, k ≤ 8 → ∀ n, n < 12 → scS X k n = rSn Y k n
  | 0, _, n, hn => hs n hn
  | k + 1, hk, n, hn => by
    have ih := sn_eq hs hch k (by omega)
    obtain ⟨c1, c2⟩ := hch k (by omega)
    show upN (scS X k) (X.chos k) (scS X k (X.chos k) + nI 1) n = upN (rSn Y k) (Y.chos k) (rSn Y k (Y.chos k) + nI 1) n
    rw [c1, ih _ c2]
    by_cases e : n = X.chos k
    · rw [e, upN_s, upN_s]
    · rw [upN_n e, upN_n e]
      exact ih n hn
/-- one stripe, both sides -/
theorem rp_one {c0 X : CS} {Y : MS} {i o s : Nat} (ho : o < 6) (hi : i < 12) (hc : CI X) (hm : MI Y) (hn : ∀ j, j < 12 → Nd X Y j) (hch : ∀ k, k < 8 → Y.chos k = X.chos k ∧ X.chos k < 12) (hc0 : X.chos = c0.chos) (hV : X.inv = (ivP c0 8 8).inv) (h1 : BM c0.squ) (h2 : BM c0.inv)
    (hst : ∀ k, k < 8 → 0 < X.hver (X.chos k) (rp X (X.chos k) o) ∧ s < X.hstr (X.chos k) (rp X (X.chos k) o)) (hown : 0 < X.hver i (rp X i o) ∧ s < X.hstr i (rp X i o)) : ∀ j, j < 12 → Nd (rpN X i o s) (rZ Y i o s) j := by
  obtain ⟨a1, a2, a3, ⟨m1, m2, m3, m4, m5, m6, m7, m8⟩, a5⟩ := rpN_at X i o s
  have hsent := sn_eq (fun n hn' => (hn n hn').2.1) hch 8 (Nat.le_refl _)
  obtain ⟨y1, y2, y3, y4, y5, y6, y7, y8⟩ := seb_keep Y (rSn Y 8) (rES Y i o s) (wrB Y.byts (rA Y i o s) (fun k => rES Y i o s (16 * k + 8)) 8)
  obtain ⟨z1, z2, z3⟩ := seb_eb Y (rSn Y 8) (rES Y i o s) (wrB Y.byts (rA Y i o s) (fun k => rES Y i o s (16 * k + 8)) 8)
  have hby : (rZ Y i o s).byts = wrB Y.byts (rA Y i o s) (fun k => rES Y i o s (16 * k + 8)) 8 := z2
  have hsn : (rZ Y i o s).sent = rSn Y 8 := z3
  have hfa : (rZ Y i o s).fail = Y.fail := y6
  have hha : (rZ Y i o s).has = Y.has := y5
  have hve : (rZ Y i o s).ver = Y.ver := y4
  have hsi : (rZ Y i o s).size = Y.size := y3
  have hbl : (rZ Y i o s).blk = Y.blk := y2
  have hus : (rZ Y i o s).used = Y.used := y7
  -- what is written
  have hW : ∀ k, k < 8 → rES Y i o s (16 * k + 8) = cmb X.inv 8 (fun t => syF X (X.chos t) (X.hpl (X.chos t) (rp X (X.chos t) o) s) i) k := fun k hk => by
    rw [rES_eq (c := c0) h1 h2 (fun k hk => by rw [(hch k hk).1, hc0]) hk, hV]
    refine xs_congr 8 (fun t ht => ?_)
    obtain ⟨d1, d2⟩ := hch t ht
    obtain ⟨w1, w2⟩ := hst t ht
    have nd := hn _ d2
    have hb := (nd.2.2.2.2.1 o false ho).2
    rw [hq_f] at hb
    have hb2 := (hb w1).2.2 s w2
    have h40 : X.hpl (X.chos t) (rp X (X.chos t) o) s < 40 := (hc _ _).2.2.2 s
    refine congrArg (mulT _) ?_
    show syM Y (Y.chos t) (Y.blk (8 * rx (Y.chos t) o false + s)) i = syF X (X.chos t) (X.hpl (X.chos t) (rp X (X.chos t) o) s) i
    rw [d1, hb2]
    unfold syM syF
    exact xs_congr 8 (fun q hq => by rw [nd.2.2.2.1 _ q h40 hq])
  have hown2 : Y.blk (8 * rx i o false + s) = X.hpl i (rp X i o) s := by
    have hb := ((hn i hi).2.2.2.2.1 o false ho).2
    rw [hq_f] at hb
    exact (hb hown.1).2.2 s hown.2
  have h40 : X.hpl i (rp X i o) s < 40 := (hc _ _).2.2.2 s
  have hA : rA Y i o s = 8 * (40 * i + X.hpl i (rp X i o) s) := by
    unfold rA
    rw [hown2]
  intro j hj
  obtain ⟨n1, n2, n3, n4, n5, n6, n7⟩ := hn j hj
  refine ⟨by rw [m8, hfa]; exact n1, by rw [a2, hsn]; exact hsent j hj, fun b hb => by rw [hus, m1]; exact n3 b hb, fun b k hb hk => ?_, fun q z hq' => ?_, fun p hp => ?_, ?_⟩
  · rw [hby, a5, hA]
    by_cases e : j = i
    · subst e
      rw [upN_s, wrB_at, wrF_at]
      by_cases e2 : b = X.hpl j (rp X j o) s
      · subst e2
        rw [if_pos (by omega), if_pos (by omega), show 8 * (40 * j + X.hpl j (rp X j o) s) + k - 8 * (40 * j + X.hpl j (rp X j o) s) = k by omega, show X.hpl j (rp X j o) s * 8 + k - X.hpl j (rp X j o) s * 8 = k by omega]
        exact hW k hk
      · rw [if_neg (by omega), if_neg (by omega)]
        exact n4 b k hb hk
    · rw [upN_n e, wrB_out (by omega)]
      exact n4 b k hb hk
  · have eq1 : hq (rpN X i o s) j q z = hq X j q z := by
      unfold hq sp rp
      rw [m6]
    rw [eq1]
    have g := n5 q z hq'
    unfold Hd at g ⊢
    rw [hha, hve, hsi, hbl, m4, m5, m3, m2]
    exact g
  · have g := n6 p hp
    unfold Hi at g ⊢
    rw [m4, m5, m3, m2, m1]
    exact g
  · have g := n7
    unfold Ds at g ⊢
    rw [m3, m2]
    exact g
/-- all stripes -/
theorem rp_all {c0 : CS} {Y : MS} {i o w : Nat} (ho : o < 6) (hi : i < 12) (hc : CI c0) (hm : MI Y) (hn : ∀ j, j < 12 → Nd c0 Y j) (hch : ∀ k, k < 8 → Y.chos k = c0.chos k ∧ c0.chos k < 12) (h1 : BM c0.squ) (h2 : BM c0.inv)
    (hst : ∀ k, k < 8 → 0 < c0.hver (c0.chos k) (rp c0 (c0.chos k) o) ∧ w ≤ c0.hstr (c0.chos k) (rp c0 (c0.chos k) o)) (hown : 0 < c0.hver i (rp c0 i o) ∧ w ≤ c0.hstr i (rp c0 i o)) : ∀ s, s ≤ w → (∀ j, j < 12 → Nd (rpS (ivP c0 8 8) i o s) (rS Y i o s) j) ∧ kF (rpS (ivP c0 8 8) i o s) = kF (ivP c0 8 8) ∧ (rpS (ivP c0 8 8) i o s).syms = c0.syms + nI (8 * s) ∧ samM c0 (rpS (ivP c0 8 8) i o s)
  | 0, _ => by
    have hs := ivP_same c0 8 8
    obtain ⟨n1, n2, n3, n4, n5, n6, n7, n8, n9⟩ := hs
    have hk := kD_ivP c0 8 8
    have hsent : (ivP c0 8 8).sent = c0.sent := (kD_un hk.1).2.2.2.2.2.2.2.2
    have hsyms : (ivP c0 8 8).syms = c0.syms := (kD_un hk.1).2.2.2.2.2.2.2.1
    have e : rpS (ivP c0 8 8) i o 0 = ivP c0 8 8 := rfl
    have e2 : rS Y i o 0 = Y := rfl
    rw [e, e2]
    generalize ivP c0 8 8 = X at *
    refine ⟨fun j hj => Nd_frame hc (hn j hj) ⟨congrFun n9 j, congrFun hsent j, congrFun n2 j, congrFun n1 j, congrFun n5 j, congrFun n6 j, congrFun n4 j, congrFun n3 j, congrFun n7 j⟩ (sM.rf Y j), rfl, ?_, n2, n3, n4, n5, n6, n7, n8, n9⟩
    rw [hsyms]
    show _ = c0.syms + nI 0
    rw [nI_0, Int32.add_zero]
  | s + 1, hs => by
    obtain ⟨i1, i2, i3, i4⟩ := rp_all ho hi hc hm hn hch h1 h2 hst hown s (by omega)
    have hkeep := rS_keep Y i o s
    have hY := rS_MI (i := i) (o := o) hm s
    have e : rpS (ivP c0 8 8) i o (s + 1) = rpN (rpS (ivP c0 8 8) i o s) i o s := rfl
    have e2 : rS Y i o (s + 1) = rZ (rS Y i o s) i o s := rfl
    have hV : (rpS (ivP c0 8 8) i o s).inv = (ivP c0 8 8).inv := (kF_un i2).2.2.2.2.2.2.2.2.2.2.1
    rw [e, e2]
    generalize rpS (ivP c0 8 8) i o s = X at *
    generalize rS Y i o s = Z at *
    obtain ⟨m1, m2, m3, m4, m5, m6, m7, m8⟩ := id i4
    have hcX : CI X := CI_samM hc i4
    have hr : ∀ k, rp X k o = rp c0 k o := fun k => rp_eq m6 k o
    obtain ⟨a1, -, a3, a4, -⟩ := rpN_at X i o s
    refine ⟨rp_one ho hi hcX hY i1 (fun k hk => ?_) m7 hV h1 h2 (fun k hk => ?_) ?_, a1.trans i2, ?_, i4.tr a4⟩
    · rw [hkeep.1, m7]
      exact hch k hk
    · rw [m7, hr, m4, m3]
      have := hst k hk
      exact ⟨this.1, by omega⟩
    · rw [hr, m4, m3]
      exact ⟨hown.1, by omega⟩
    · rw [a3, i3, Int32.add_assoc, nI_add]
      rfl
