/-- the one that sent least of the first n nodes told; 12: none -/
def bsM (m : MS) (o v : Nat) (x : Int32) : Nat → Nat
  | 0 => 12
  | n + 1 => if told x n = true ∧ mfr m o v n = true ∧ (bsM m o v x n = 12 ∨ m.sent n < m.sent (bsM m o v x n)) then n else bsM m o v x n
theorem bsM_le (m : MS) (o v : Nat) (x : Int32) : ∀ n, n ≤ 12 → bsM m o v x n = 12 ∨ bsM m o v x n < n
  | 0, _ => Or.inl rfl
  | n + 1, h => by
    unfold bsM
    split
    · omega
    · rcases bsM_le m o v x n (by omega) with q | q <;> omega
def lqX (m : MS) (o v : Nat) (x : Int32) : Nat → Int32
  | 0 => x
  | f + 1 => lqX m o v x f &&& (((nI 1) <<< (nI (bsM m o v (lqX m o v x f) 12) &&& 31)) ^^^ (-1))
def lqB (m : MS) (o v : Nat) (x : Int32) (f : Nat) : Nat := bsM m o v (lqX m o v x f) 12
def lqF (m : MS) (o v : Nat) (x : Int32) (V : Nat → Nat) : Nat → Nat → Nat
  | 0 => V
  | f + 1 => upN (lqF m o v x V f) f (lqB m o v x f)
theorem k_M_chooseLeast {l : Launch} {g : GX} {c : CS} {m : MS} {n d : Nat} (hd : 2 ≤ d) {o v : Nat} {x : Int32} (ho : o < 6) (hv : v < 65536) (hm : MI m) (hb : ∀ f, f < 8 → lqB m o v x f ≠ 12) : CE l g M_M_chooseLeast d 0 0 [.ref (aM g), .int (nI o), .int (nI v), .int x] n (hp g c m) (none) n (hp g c (m.s_chos (lqF m o v x m.chos 8))) := by
  refine CE.of (by decide +kernel) (lv := [(0, .ref (aM g)), (1, .int (nI o)), (2, .int (nI v)), (3, .int x)]) rfl (Nat.le_of_ble_eq_true rfl) ?_
  refine r_iload_n d_M_chooseLeast_0 3 rfl ?_
  refine r_istore (lv' := [(0, _), (1, _), (2, _), (3, _), (4, _)]) d_M_chooseLeast_1 (by decide) rfl ?_
  refine r_iconst (v := nI 0) d_M_chooseLeast_3 (by decide) ?_
  refine r_istore (lv' := [(0, _), (1, _), (2, _), (3, _), (4, _), (5, _)]) d_M_chooseLeast_4 (by decide) rfl ?_
  refine r_heap (h' := hp g c (m.s_chos (lqF m o v x m.chos 0))) rfl ?_
  refine r_less (lv' := [(0, .ref (aM g)), (1, .int (nI o)), (2, .int (nI v)), (3, .int x), (4, .int x), (5, .int (nI 0))]) (by simp) ?_
  refine back_ind (n := 8) (G := fun f => RJ l g M_M_chooseLeast (RMX d 0 0) (TQ g 0 0 (QE (none) n (hp g c (m.s_chos (lqF m o v x m.chos 8))))) XT n (hp g c (m.s_chos (lqF m o v x m.chos f))) 0 0 6 [(0, .ref (aM g)), (1, .int (nI o)), (2, .int (nI v)), (3, .int x), (4, .int (lqX m o v x f)), (5, .int (nI f))] []) ?_ ?_ 0 (Nat.zero_le _)
  · skip
    refine r_iload d_M_chooseLeast_6 5 rfl ?_
    refine r_bipush (v := nI 8) d_M_chooseLeast_8 (by decide) ?_
    refine r_icmp_geN (tgt := 107) d_M_chooseLeast_10 (by decide) (by omega) (by omega) (fun c10 => ?_) (fun c10 => ?_)
    rotate_left 1
    · exfalso; first | omega | (revert c10; decide) | cases c10
    refine r_return d_M_chooseLeast_107 rfl ⟨rfl, rfl, ?_⟩
    · rfl
  · intro f hb_f ih_f
    have hbl := bsM_le m o v (lqX m o v x f) 12 (Nat.le_refl _)
    have hbf : bsM m o v (lqX m o v x f) 12 ≠ 12 := hb f hb_f
    refine r_iload d_M_chooseLeast_6 5 rfl ?_
    refine r_bipush (v := nI 8) d_M_chooseLeast_8 (by decide) ?_
    refine r_icmp_geN (tgt := 107) d_M_chooseLeast_10 (by decide) (by omega) (by omega) (fun c10 => ?_) (fun c10 => ?_)
    · exfalso; first | omega | (revert c10; decide) | cases c10
    refine r_iconst (v := (-1)) d_M_chooseLeast_13 (by decide) ?_
    refine r_istore (lv' := [(0, _), (1, _), (2, _), (3, _), (4, _), (5, _), (6, _)]) d_M_chooseLeast_14 (by decide) rfl ?_
    refine r_iconst (v := nI 0) d_M_chooseLeast_16 (by decide) ?_
    refine r_istore (lv' := [(0, _), (1, _), (2, _), (3, _), (4, _), (5, _), (6, _), (7, _)]) d_M_chooseLeast_17 (by decide) rfl ?_
    refine back_ind (n := 12) (G := fun q => RJ l g M_M_chooseLeast (RMX d 0 0) (TQ g 0 0 (QE (none) n (hp g c (m.s_chos (lqF m o v x m.chos 8))))) XT n (hp g c (m.s_chos (lqF m o v x m.chos f))) 0 0 19 [(0, .ref (aM g)), (1, .int (nI o)), (2, .int (nI v)), (3, .int x), (4, .int (lqX m o v x f)), (5, .int (nI f)), (6, .int (bI (bsM m o v (lqX m o v x f) q))), (7, .int (nI q))] []) ?_ ?_ 0 (Nat.zero_le _)
    · skip
      refine r_iload d_M_chooseLeast_19 7 rfl ?_
      refine r_bipush (v := nI 12) d_M_chooseLeast_21 (by decide) ?_
      refine r_icmp_geN (tgt := 81) d_M_chooseLeast_23 (by decide) (by omega) (by omega) (fun c23 => ?_) (fun c23 => ?_)
      rotate_left 1
      · exfalso; first | omega | (revert c23; decide) | cases c23
      have hbn : bsM m o v (lqX m o v x f) 12 ≠ 12 := hbf
      refine r_at (lv' := [(0, .ref (aM g)), (1, .int (nI o)), (2, .int (nI v)), (3, .int x), (4, .int (lqX m o v x f)), (5, .int (nI f)), (6, .int (nI (bsM m o v (lqX m o v x f) 12))), (7, .int (nI 12))]) ?_ rfl (by rw [bI_n hbn]) rfl
      refine r_aload_n d_M_chooseLeast_81 0 rfl ?_
      refine rg_M_54 rfl d_M_chooseLeast_82 gM rfl ?_
      refine r_iload d_M_chooseLeast_85 5 rfl ?_
      refine r_iload d_M_chooseLeast_87 6 rfl ?_
      refine r_astN d_M_chooseLeast_89 gmCho (by omega) (by decide) (wm_chos) ?_
      refine r_iload d_M_chooseLeast_90 4 rfl ?_
      refine r_iconst (v := nI 1) d_M_chooseLeast_92 (by decide) ?_
      refine r_iload d_M_chooseLeast_93 6 rfl ?_
      refine r_ishl d_M_chooseLeast_95 ?_
      refine r_iconst (v := (-1)) d_M_chooseLeast_96 (by decide) ?_
      refine r_ixor d_M_chooseLeast_97 ?_
      refine r_iand d_M_chooseLeast_98 ?_
      refine r_istore (lv' := [(0, _), (1, _), (2, _), (3, _), (4, _), (5, _), (6, _), (7, _)]) d_M_chooseLeast_99 (by decide) rfl ?_
      refine r_iincN (lv' := [(0, _), (1, _), (2, _), (3, _), (4, _), (5, _), (6, _), (7, _)]) d_M_chooseLeast_101 5 rfl (by decide) rfl ?_
      refine r_goto (tgt := 6) d_M_chooseLeast_104 (by decide) ?_
      refine r_less (lv' := [(0, .ref (aM g)), (1, .int (nI o)), (2, .int (nI v)), (3, .int x), (4, .int ((lqX m o v x f) &&& (((nI 1) <<< ((nI (bsM m o v (lqX m o v x f) 12)) &&& 31)) ^^^ (-1)))), (5, .int (nI (f + 1)))]) (by simp) ?_
      exact r_at ih_f rfl rfl rfl
    · intro q hb_q ih_q
      have hnl := bsM_le m o v (lqX m o v x f) q (by omega)
      refine r_iload d_M_chooseLeast_19 7 rfl ?_
      refine r_bipush (v := nI 12) d_M_chooseLeast_21 (by decide) ?_
      refine r_icmp_geN (tgt := 81) d_M_chooseLeast_23 (by decide) (by omega) (by omega) (fun c23 => ?_) (fun c23 => ?_)
      · exfalso; first | omega | (revert c23; decide) | cases c23
      refine r_iload d_M_chooseLeast_26 4 rfl ?_
      refine r_iload d_M_chooseLeast_28 7 rfl ?_
      refine r_ishr d_M_chooseLeast_30 ?_
      refine r_iconst (v := nI 1) d_M_chooseLeast_31 (by decide) ?_
      refine r_iand d_M_chooseLeast_32 ?_
      refine r_iconst (v := nI 1) d_M_chooseLeast_33 (by decide) ?_
      refine r_icmp_ne (tgt := 75) d_M_chooseLeast_34 (by decide) (fun c34 => ?_) (fun c34 => ?_)
      · skip
        have ht : told (lqX m o v x f) q = false := decide_eq_false c34
        have hbs : bsM m o v (lqX m o v x f) (q + 1) = bsM m o v (lqX m o v x f) q := if_neg (fun qq => by rw [ht] at qq; exact absurd qq.1 (by decide))
        refine r_iincN (lv' := [(0, _), (1, _), (2, _), (3, _), (4, _), (5, _), (6, _), (7, _)]) d_M_chooseLeast_75 7 rfl (by decide) rfl ?_
        refine r_goto (tgt := 19) d_M_chooseLeast_78 (by decide) ?_
        exact r_at ih_q rfl (by first | (rw [hbs]; done) | (rw [hbs, bI_n hbn]; done) | (rw [hbs, bI_n hbn2]; done)) rfl
      · skip
        have ht : told (lqX m o v x f) q = true := decide_eq_true c34
        refine r_aload_n d_M_chooseLeast_37 0 rfl ?_
        refine r_iload d_M_chooseLeast_38 7 rfl ?_
        refine r_iload_n d_M_chooseLeast_40 1 rfl ?_
        refine r_iload_n d_M_chooseLeast_41 2 rfl ?_
        refine rc_M_93 rfl d_M_chooseLeast_42 (k_M_isFresh (m := m.s_chos (lqF m o v x m.chos f)) (by omega) hb_q ho hv hm) gM (room_ok (d' := d - 1) (by omega) (by decide)) ⟨Nat.le_refl _, Nat.le_refl _⟩ (Nat.le_of_ble_eq_true rfl) ?_
        refine r_top (y := b2 (mfr m o v q)) (congrArg b2 (congrFun (congrFun (congrFun (mfr_eq (m := m) rfl rfl rfl) o) v) q)) ?_
        refine r_if_eqB (tgt := 75) d_M_chooseLeast_45 (by decide) (fun c45 => ?_) (fun c45 => ?_)
        · skip
          have hbs : bsM m o v (lqX m o v x f) (q + 1) = bsM m o v (lqX m o v x f) q := if_neg (fun qq => by rw [c45] at qq; exact absurd qq.2.1 (by decide))
          refine r_iincN (lv' := [(0, _), (1, _), (2, _), (3, _), (4, _), (5, _), (6, _), (7, _)]) d_M_chooseLeast_75 7 rfl (by decide) rfl ?_
          refine r_goto (tgt := 19) d_M_chooseLeast_78 (by decide) ?_
          exact r_at ih_q rfl (by first | (rw [hbs]; done) | (rw [hbs, bI_n hbn]; done) | (rw [hbs, bI_n hbn2]; done)) rfl
        · skip
          refine r_iload d_M_chooseLeast_48 6 rfl ?_
          refine r_iconst (v := (-1)) d_M_chooseLeast_50 (by decide) ?_
          refine r_icmp_eq (tgt := 71) d_M_chooseLeast_51 (by decide) (fun c51 => ?_) (fun c51 => ?_)
          · skip
            have hb12 := bI_eq (by omega) c51
            have hbs : bsM m o v (lqX m o v x f) (q + 1) = q := if_pos ⟨ht, c45, Or.inl hb12⟩
            have hbn : q ≠ 12 := by omega
            refine r_iload d_M_chooseLeast_71 7 rfl ?_
            refine r_istore (lv' := [(0, _), (1, _), (2, _), (3, _), (4, _), (5, _), (6, _), (7, _)]) d_M_chooseLeast_73 (by decide) rfl ?_
            refine r_iincN (lv' := [(0, _), (1, _), (2, _), (3, _), (4, _), (5, _), (6, _), (7, _)]) d_M_chooseLeast_75 7 rfl (by decide) rfl ?_
            refine r_goto (tgt := 19) d_M_chooseLeast_78 (by decide) ?_
            exact r_at ih_q rfl (by first | (rw [hbs]; done) | (rw [hbs, bI_n hbn]; done) | (rw [hbs, bI_n hbn2]; done)) rfl
          · skip
            have hbn : bsM m o v (lqX m o v x f) q ≠ 12 := bI_ne c51
            refine r_at (lv' := [(0, .ref (aM g)), (1, .int (nI o)), (2, .int (nI v)), (3, .int x), (4, .int (lqX m o v x f)), (5, .int (nI f)), (6, .int (nI (bsM m o v (lqX m o v x f) q))), (7, .int (nI q))]) ?_ rfl (by rw [bI_n hbn]) rfl
            refine r_aload_n d_M_chooseLeast_54 0 rfl ?_
            refine rg_M_21 rfl d_M_chooseLeast_55 gM rfl ?_
            refine r_iload d_M_chooseLeast_58 7 rfl ?_
            refine r_ald (t := 0) d_M_chooseLeast_60 gmSent (by omega) (by decide) ?_
            refine r_aload_n d_M_chooseLeast_61 0 rfl ?_
            refine rg_M_21 rfl d_M_chooseLeast_62 gM rfl ?_
            refine r_iload d_M_chooseLeast_65 6 rfl ?_
            refine r_ald (t := 0) d_M_chooseLeast_67 gmSent (by omega) (by decide) ?_
            refine r_icmp_ge (tgt := 75) d_M_chooseLeast_68 (by decide) (fun c68 => ?_) (fun c68 => ?_)
            · skip
              have hbs : bsM m o v (lqX m o v x f) (q + 1) = bsM m o v (lqX m o v x f) q := if_neg (fun qq => by rcases qq.2.2 with z | z; exact hbn z; exact absurd z (Int32.not_lt.mpr c68))
              refine r_iincN (lv' := [(0, _), (1, _), (2, _), (3, _), (4, _), (5, _), (6, _), (7, _)]) d_M_chooseLeast_75 7 rfl (by decide) rfl ?_
              refine r_goto (tgt := 19) d_M_chooseLeast_78 (by decide) ?_
              exact r_at ih_q rfl (by first | (rw [hbs]; done) | (rw [hbs, bI_n hbn]; done) | (rw [hbs, bI_n hbn2]; done)) rfl
            · skip
              have hbs : bsM m o v (lqX m o v x f) (q + 1) = q := if_pos ⟨ht, c45, Or.inr (Int32.not_le.mp c68)⟩
              have hbn2 : q ≠ 12 := by omega
              refine r_iload d_M_chooseLeast_71 7 rfl ?_
              refine r_istore (lv' := [(0, _), (1, _), (2, _), (3, _), (4, _), (5, _), (6, _), (7, _)]) d_M_chooseLeast_73 (by decide) rfl ?_
              refine r_iincN (lv' := [(0, _), (1, _), (2, _), (3, _), (4, _), (5, _), (6, _), (7, _)]) d_M_chooseLeast_75 7 rfl (by decide) rfl ?_
              refine r_goto (tgt := 19) d_M_chooseLeast_78 (by decide) ?_
              exact r_at ih_q rfl (by first | (rw [hbs]; done) | (rw [hbs, bI_n hbn]; done) | (rw [hbs, bI_n hbn2]; done)) rfl
def rbM1 (m : MS) (i o : Nat) : MS := mgu m i (rx i o false)
def rbM2 (m : MS) (i o : Nat) : MS := mtk (rbM1 m i o) i (rx i o false) (mnw m o) (szM m o)
def rbM3 (m : MS) (i o : Nat) (x : Int32) : MS := (rbM2 m i o).s_chos (lqF (rbM2 m i o) o (mnw m o) x (rbM2 m i o).chos 8)
def rE (X : MS) (i o s : Nat) : Nat → Nat → Nat
  | 0 => X.eqs
  | k + 1 => upN (wrB (rE X i o s k) (16 * k) (rowT (X.chos k)) 8) (16 * k + 8) (syM X (X.chos k) (X.blk (8 * rx (X.chos k) o false + s)) i)
def rSn (X : MS) : Nat → Nat → Int32
  | 0 => X.sent
  | k + 1 => upN (rSn X k) (X.chos k) (rSn X k (X.chos k) + nI 1)
def rES (X : MS) (i o s : Nat) : Nat → Nat := stE (rE X i o s 8) 8 9 8
def rA (X : MS) (i o s : Nat) : Nat := 8 * (40 * i + X.blk (8 * rx i o false + s))
def rZ (X : MS) (i o s : Nat) : MS := ((X.s_sent (rSn X 8)).s_eqs (rES X i o s)).s_byts (wrB X.byts (rA X i o s) (fun k => rES X i o s (16 * k + 8)) 8)
def rS (X : MS) (i o : Nat) : Nat → MS
  | 0 => X
  | s + 1 => rZ (rS X i o s) i o s
def rbMC (m : MS) (i o : Nat) (x : Int32) : MS := if szM m o = 0 then rbM2 m i o else rS (rbM3 m i o x) i o (stp (szM m o))
theorem rE_lt {X : MS} {i o s : Nat} (h : B1 X.eqs) : ∀ k, B1 (rE X i o s k)
  | 0 => h
  | k + 1 => upN_ind (Q := fun x => x < 256) (wrB_lt (rE_lt h k) (fun q => rowT_lt _ q) 8) (syM_lt _ _ _ _)
theorem rES_lt {X : MS} {i o s : Nat} (h : B1 X.eqs) : B1 (rES X i o s) := stE_lt (rE_lt h 8) 8
theorem seb_keep (X : MS) (a : Nat → Int32) (b d : Nat → Nat) : (((X.s_sent a).s_eqs b).s_byts d).chos = X.chos ∧ (((X.s_sent a).s_eqs b).s_byts d).blk = X.blk ∧ (((X.s_sent a).s_eqs b).s_byts d).size = X.size ∧ (((X.s_sent a).s_eqs b).s_byts d).ver = X.ver ∧ (((X.s_sent a).s_eqs b).s_byts d).has = X.has ∧ (((X.s_sent a).s_eqs b).s_byts d).fail = X.fail ∧ (((X.s_sent a).s_eqs b).s_byts d).used = X.used ∧ (((X.s_sent a).s_eqs b).s_byts d).opn = X.opn := ⟨rfl, rfl, rfl, rfl, rfl, rfl, rfl, rfl⟩
theorem seb_eb (X : MS) (a : Nat → Int32) (b d : Nat → Nat) : (((X.s_sent a).s_eqs b).s_byts d).eqs = b ∧ (((X.s_sent a).s_eqs b).s_byts d).byts = d ∧ (((X.s_sent a).s_eqs b).s_byts d).sent = a := ⟨rfl, rfl, rfl⟩
theorem rS_keep (X : MS) (i o : Nat) : ∀ s, (rS X i o s).chos = X.chos ∧ (rS X i o s).blk = X.blk ∧ (rS X i o s).size = X.size ∧ (rS X i o s).ver = X.ver ∧ (rS X i o s).has = X.has ∧ (rS X i o s).fail = X.fail ∧ (rS X i o s).used = X.used ∧ (rS X i o s).opn = X.opn
  | 0 => ⟨rfl, rfl, rfl, rfl, rfl, rfl, rfl, rfl⟩
  | s + 1 => by
    obtain ⟨h1, h2, h3, h4, h5, h6, h7, h8⟩ := rS_keep X i o s
    obtain ⟨k1, k2, k3, k4, k5, k6, k7, k8⟩ := seb_keep (rS X i o s) (rSn (rS X i o s) 8) (rES (rS X i o s) i o s) (wrB (rS X i o s).byts (rA (rS X i o s) i o s) (fun k => rES (rS X i o s) i o s (16 * k + 8)) 8)
    exact ⟨k1.trans h1, k2.trans h2, k3.trans h3, k4.trans h4, k5.trans h5, k6.trans h6, k7.trans h7, k8.trans h8⟩
theorem rS_MI {X : MS} {i o : Nat} (h : MI X) (s : Nat) : MI (rS X i o s) := by
  obtain ⟨-, h2, h3, h4, -⟩ := rS_keep X i o s
  unfold MI
  rw [h2, h3, h4]
  exact h
theorem rS_eb (X : MS) (i o s : Nat) : (rS X i o (s + 1)).eqs = rES (rS X i o s) i o s ∧ (rS X i o (s + 1)).byts = wrB (rS X i o s).byts (rA (rS X i o s) i o s) (fun k => rES (rS X i o s) i o s (16 * k + 8)) 8 ∧ (rS X i o (s + 1)).sent = rSn (rS X i o s) 8 := seb_eb (rS X i o s) (rSn (rS X i o s) 8) (rES (rS X i o s) i o s) (wrB (rS X i o s).byts (rA (rS X i o s) i o s) (fun k => rES (rS X i o s) i o s (16 * k + 8)) 8)
theorem rS_lt {X : MS} {i o : Nat} (h1 : B1 X.byts) (h2 : B1 X.eqs) : ∀ s, B1 (rS X i o s).byts ∧ B1 (rS X i o s).eqs
  | 0 => ⟨h1, h2⟩
  | s + 1 => by
    have ih := rS_lt (i := i) (o := o) h1 h2 s
    obtain ⟨k1, k2, -⟩ := rS_eb X i o s
    rw [k1, k2]
    exact ⟨wrB_lt ih.1 (fun k => rES_lt ih.2 _) 8, rES_lt ih.2⟩
theorem slv_eq3 (X : MS) (S : Nat → Int32) (E : Nat → Nat) (w z : Nat) : ((X.s_sent S).s_eqs E).s_eqs (stE ((X.s_sent S).s_eqs E).eqs w z w) = ((X.s_sent S).s_eqs (stE E w z w)).s_byts X.byts := rfl
theorem byts_up (X : MS) (a : Nat → Int32) (b W : Nat → Nat) (i v : Nat) : (((X.s_sent a).s_eqs b).s_byts W).s_byts (upN (((X.s_sent a).s_eqs b).s_byts W).byts i v) = ((X.s_sent a).s_eqs b).s_byts (upN W i v) := rfl
theorem se_up (X : MS) (a : Nat → Int32) (E : Nat → Nat) (j v : Nat) (i : Nat) (u : Int32) : (((X.s_sent a).s_eqs E).s_eqs (upN ((X.s_sent a).s_eqs E).eqs j v)).s_sent (upN (((X.s_sent a).s_eqs E).s_eqs (upN ((X.s_sent a).s_eqs E).eqs j v)).sent i ((((X.s_sent a).s_eqs E).s_eqs (upN ((X.s_sent a).s_eqs E).eqs j v)).sent i + u)) = (X.s_sent (upN a i (a i + u))).s_eqs (upN E j v) := rfl
theorem k_M_rebuilds {l : Launch} {g : GX} {c : CS} {m : MS} {n d : Nat} (hd : 4 ≤ d) {i o : Nat} {x : Int32} (hi : i < 12) (ho : o < 6) (hm : MI m) (hD : B1 m.byts) (hE : B1 m.eqs) (hff : mff m o (mnw m o) < 12) (hf : ∀ k, k < stp (szM m o) → lf (fun b => mtU (rbM1 m i o).used i k (40 * i + b)) < 40) (hcl : 0 < szM m o → ∀ f, f < 8 → lqB (rbM2 m i o) o (mnw m o) x f ≠ 12) (hch : 0 < szM m o → ∀ k, k < 8 → (rbM3 m i o x).chos k < 12) (hpv : ∀ s, s < stp (szM m o) → ∀ q, q < 8 → stE (rE (rS (rbM3 m i o x) i o s) i o s 8) 8 9 q (16 * q + q) ≠ 0) : CE l g M_M_rebuilds d 0 0 [.ref (aM g), .int (nI i), .int (nI o), .int x] n (hp g c m) (some (.int (nI (8 * stp (szM m o))))) n (hp g c (rbMC m i o x)) := by
  have hw := mnw_lt (o := o) hm
  have hsz := szM_le (o := o) hm
  have h8 := stp_le hsz
  have hr := rx_lt (z := false) hi ho
  have hm1 : MI (rbM1 m i o) := MI_gu hm
  have hm2 : MI (rbM2 m i o) := MI_tk (m := rbM1 m i o) hm1 hw hsz hf
  refine CE.of (by decide +kernel) (lv := [(0, .ref (aM g)), (1, .int (nI i)), (2, .int (nI o)), (3, .int x)]) rfl (Nat.le_of_ble_eq_true rfl) ?_
  refine r_aload_n d_M_rebuilds_0 0 rfl ?_
  refine r_iload_n d_M_rebuilds_1 2 rfl ?_
  refine rc_M_140 rfl d_M_rebuilds_2 (k_M_newest (by omega) ho hm) gM (room_ok (d' := d - 1) (by omega) (by decide)) ⟨Nat.le_refl _, Nat.le_refl _⟩ (Nat.le_of_ble_eq_true rfl) ?_
  refine r_istore (lv' := [(0, _), (1, _), (2, _), (3, _), (4, _)]) d_M_rebuilds_5 (by decide) rfl ?_
  refine r_aload_n d_M_rebuilds_7 0 rfl ?_
  refine r_iload_n d_M_rebuilds_8 2 rfl ?_
  refine r_iload d_M_rebuilds_9 4 rfl ?_
  refine rc_M_146 rfl d_M_rebuilds_11 (k_M_sizeOf (by omega) ho hw hm hff) gM (room_ok (d' := d - 1) (by omega) (by decide)) ⟨Nat.le_refl _, Nat.le_refl _⟩ (Nat.le_of_ble_eq_true rfl) ?_
  refine r_top (y := nI (szM m o)) rfl ?_
  refine r_istore (lv' := [(0, _), (1, _), (2, _), (3, _), (4, _), (5, _)]) d_M_rebuilds_14 (by decide) rfl ?_
  refine r_aload_n d_M_rebuilds_16 0 rfl ?_
  refine r_iload_n d_M_rebuilds_17 1 rfl ?_
  refine r_iload_n d_M_rebuilds_18 2 rfl ?_
  refine r_iconst (v := nI 0) d_M_rebuilds_19 (by decide) ?_
  refine rc_M_89 rfl d_M_rebuilds_20 (k_M_givesUp (z := false) (by omega) hi ho hm) gM (room_ok (d' := d - 1) (by omega) (by decide)) ⟨Nat.le_refl _, Nat.le_refl _⟩ (Nat.le_of_ble_eq_true rfl) ?_
  refine r_aload_n d_M_rebuilds_23 0 rfl ?_
  refine r_iload_n d_M_rebuilds_24 1 rfl ?_
  refine r_iload_n d_M_rebuilds_25 2 rfl ?_
  refine r_iconst (v := nI 0) d_M_rebuilds_26 (by decide) ?_
  refine r_iload d_M_rebuilds_27 4 rfl ?_
  refine r_iload d_M_rebuilds_29 5 rfl ?_
  refine rc_M_111 rfl d_M_rebuilds_31 (k_M_takes (m := rbM1 m i o) (z := false) (by omega) hi ho hsz hf) gM (room_ok (d' := d - 1) (by omega) (by decide)) ⟨Nat.le_refl _, Nat.le_refl _⟩ (Nat.le_of_ble_eq_true rfl) ?_
  refine r_heap (h' := hp g c (rbM2 m i o)) rfl ?_
  refine r_iload d_M_rebuilds_34 5 rfl ?_
  refine r_if_neN (tgt := 41) d_M_rebuilds_36 (by decide) (by omega) (fun c36 => ?_) (fun c36 => ?_)
  · skip
    have hpos : 0 < szM m o := by omega
    have hch3 := hch hpos
    have hB3 : B1 (rbM3 m i o x).byts := by rw [show (rbM3 m i o x).byts = m.byts from (show (rbM1 m i o).byts = m.byts by unfold rbM1 mgu; split <;> rfl)]; exact hD
    have hE3 : B1 (rbM3 m i o x).eqs := by rw [show (rbM3 m i o x).eqs = m.eqs from (samG_gu m i (rx i o false)).2.2.2.2.2.2.2.2.2.2.2]; exact hE
    refine r_aload_n d_M_rebuilds_41 0 rfl ?_
    refine r_iload_n d_M_rebuilds_42 2 rfl ?_
    refine r_iload d_M_rebuilds_43 4 rfl ?_
    refine r_iload_n d_M_rebuilds_45 3 rfl ?_
    refine rc_M_155 rfl d_M_rebuilds_46 (k_M_chooseLeast (m := rbM2 m i o) (by omega) ho hw hm2 (hcl hpos)) gM (room_ok (d' := d - 1) (by omega) (by decide)) ⟨Nat.le_refl _, Nat.le_refl _⟩ (Nat.le_of_ble_eq_true rfl) ?_
    refine r_heap (h' := hp g c (rbM3 m i o x)) rfl ?_
    refine r_iload_n d_M_rebuilds_49 1 rfl ?_
    refine r_iload_n d_M_rebuilds_50 2 rfl ?_
    refine r_iconst (v := nI 0) d_M_rebuilds_51 (by decide) ?_
    refine rc_M_79 rfl d_M_rebuilds_52 (k_M_at (i := i) (o := o) (z := false) (by omega)) (room_ok (d' := d - 1) (by omega) (by decide)) ⟨Nat.le_refl _, Nat.le_refl _⟩ (Nat.le_of_ble_eq_true rfl) ?_
    refine r_istore (lv' := [(0, _), (1, _), (2, _), (3, _), (4, _), (5, _), (6, _)]) d_M_rebuilds_55 (by decide) rfl ?_
    refine r_iconst (v := nI 0) d_M_rebuilds_57 (by decide) ?_
    refine r_istore (lv' := [(0, _), (1, _), (2, _), (3, _), (4, _), (5, _), (6, _), (7, _)]) d_M_rebuilds_58 (by decide) rfl ?_
    refine r_heap (h' := hp g c (rS (rbM3 m i o x) i o 0)) rfl ?_
    refine r_less (lv' := [(0, .ref (aM g)), (1, .int (nI i)), (2, .int (nI o)), (3, .int x), (4, .int (nI (mnw m o))), (5, .int (nI (szM m o))), (6, .int (nI (rx i o false))), (7, .int (nI 0))]) (by simp) ?_
    refine back_ind (n := stp (szM m o)) (G := fun s => RJ l g M_M_rebuilds (RMX d 0 0) (TQ g 0 0 (QE (some (.int (nI (8 * stp (szM m o))))) n (hp g c (rbMC m i o x)))) XT n (hp g c (rS (rbM3 m i o x) i o s)) 0 0 60 [(0, .ref (aM g)), (1, .int (nI i)), (2, .int (nI o)), (3, .int x), (4, .int (nI (mnw m o))), (5, .int (nI (szM m o))), (6, .int (nI (rx i o false))), (7, .int (nI s))] []) ?_ ?_ 0 (Nat.zero_le _)
    · skip
      refine r_iload d_M_rebuilds_60 7 rfl ?_
      refine r_iload d_M_rebuilds_62 5 rfl ?_
      refine rc_M_83 rfl d_M_rebuilds_64 (k_M_stripes (by omega) (by omega)) (room_ok (d' := d - 1) (by omega) (by decide)) ⟨Nat.le_refl _, Nat.le_refl _⟩ (Nat.le_of_ble_eq_true rfl) ?_
      refine r_icmp_geN (tgt := 240) d_M_rebuilds_67 (by decide) (by omega) (by omega) (fun c67 => ?_) (fun c67 => ?_)
      rotate_left 1
      · exfalso; first | omega | (revert c67; decide) | cases c67
      refine r_bipush (v := nI 8) d_M_rebuilds_240 (by decide) ?_
      refine r_iload d_M_rebuilds_242 5 rfl ?_
      refine rc_M_83 rfl d_M_rebuilds_244 (k_M_stripes (by omega) (by omega)) (room_ok (d' := d - 1) (by omega) (by decide)) ⟨Nat.le_refl _, Nat.le_refl _⟩ (Nat.le_of_ble_eq_true rfl) ?_
      refine r_imulN d_M_rebuilds_247 ?_
      refine r_ireturn d_M_rebuilds_248 rfl rfl ⟨?_, rfl, ?_⟩
      · rfl
      · exact congrArg (hp g c) (if_neg c36).symm
    · intro s hb_s ih_s
      have hX : MI (rS (rbM3 m i o x) i o s) := rS_MI (X := rbM3 m i o x) hm2 s
      have hXl := rS_lt (X := rbM3 m i o x) (i := i) (o := o) hB3 hE3 s
      obtain ⟨k1, k2, -⟩ := rS_keep (rbM3 m i o x) i o s
      have hXc : ∀ k, k < 8 → (rS (rbM3 m i o x) i o s).chos k < 12 := by rw [k1]; exact hch3
      have hEE : B1 (rE (rS (rbM3 m i o x) i o s) i o s 8) := rE_lt hXl.2 8
      have hb41 := hX.2.2 (8 * rx i o false + s)
      have hpp := hpv s hb_s
      refine r_iload d_M_rebuilds_60 7 rfl ?_
      refine r_iload d_M_rebuilds_62 5 rfl ?_
      refine rc_M_83 rfl d_M_rebuilds_64 (k_M_stripes (by omega) (by omega)) (room_ok (d' := d - 1) (by omega) (by decide)) ⟨Nat.le_refl _, Nat.le_refl _⟩ (Nat.le_of_ble_eq_true rfl) ?_
      refine r_icmp_geN (tgt := 240) d_M_rebuilds_67 (by decide) (by omega) (by omega) (fun c67 => ?_) (fun c67 => ?_)
      · exfalso; first | omega | (revert c67; decide) | cases c67
      refine r_iconst (v := nI 0) d_M_rebuilds_70 (by decide) ?_
      refine r_istore (lv' := [(0, _), (1, _), (2, _), (3, _), (4, _), (5, _), (6, _), (7, _), (8, _)]) d_M_rebuilds_71 (by decide) rfl ?_
      refine r_heap (h' := hp g c (((rS (rbM3 m i o x) i o s).s_sent (rSn (rS (rbM3 m i o x) i o s) 0)).s_eqs (rE (rS (rbM3 m i o x) i o s) i o s 0))) rfl ?_
      refine r_less (lv' := [(0, .ref (aM g)), (1, .int (nI i)), (2, .int (nI o)), (3, .int x), (4, .int (nI (mnw m o))), (5, .int (nI (szM m o))), (6, .int (nI (rx i o false))), (7, .int (nI s)), (8, .int (nI 0))]) (by simp) ?_
      refine back_ind (n := 8) (G := fun k => RJ l g M_M_rebuilds (RMX d 0 0) (TQ g 0 0 (QE (some (.int (nI (8 * stp (szM m o))))) n (hp g c (rbMC m i o x)))) XT n (hp g c (((rS (rbM3 m i o x) i o s).s_sent (rSn (rS (rbM3 m i o x) i o s) k)).s_eqs (rE (rS (rbM3 m i o x) i o s) i o s k))) 0 0 73 [(0, .ref (aM g)), (1, .int (nI i)), (2, .int (nI o)), (3, .int x), (4, .int (nI (mnw m o))), (5, .int (nI (szM m o))), (6, .int (nI (rx i o false))), (7, .int (nI s)), (8, .int (nI k))] []) ?_ ?_ 0 (Nat.zero_le _)
      · skip
        refine r_iload d_M_rebuilds_73 8 rfl ?_
        refine r_bipush (v := nI 8) d_M_rebuilds_75 (by decide) ?_
        refine r_icmp_geN (tgt := 182) d_M_rebuilds_77 (by decide) (by omega) (by omega) (fun c77 => ?_) (fun c77 => ?_)
        rotate_left 1
        · exfalso; first | omega | (revert c77; decide) | cases c77
        refine r_aload_n d_M_rebuilds_182 0 rfl ?_
        refine r_bipush (v := nI 8) d_M_rebuilds_183 (by decide) ?_
        refine r_iconst (v := nI 1) d_M_rebuilds_185 (by decide) ?_
        refine rc_M_137 rfl d_M_rebuilds_186 (k_M_solve (m := ((rS (rbM3 m i o x) i o s).s_sent (rSn (rS (rbM3 m i o x) i o s) 8)).s_eqs (rE (rS (rbM3 m i o x) i o s) i o s 8)) (w := 8) (r := 1) (by omega) (by decide) (by decide) (by decide) hEE hpp) gM (room_ok (d' := d - 1) (by omega) (by decide)) ⟨Nat.le_refl _, Nat.le_refl _⟩ (Nat.le_of_ble_eq_true rfl) ?_
        refine r_iconst (v := nI 0) d_M_rebuilds_189 (by decide) ?_
        refine r_istore (lv' := [(0, _), (1, _), (2, _), (3, _), (4, _), (5, _), (6, _), (7, _), (8, _)]) d_M_rebuilds_190 (by decide) rfl ?_
        refine r_heap (h' := hp g c ((((rS (rbM3 m i o x) i o s).s_sent (rSn (rS (rbM3 m i o x) i o s) 8)).s_eqs (rES (rS (rbM3 m i o x) i o s) i o s)).s_byts (wrB (rS (rbM3 m i o x) i o s).byts (rA (rS (rbM3 m i o x) i o s) i o s) (fun k => rES (rS (rbM3 m i o x) i o s) i o s (16 * k + 8)) 0))) (congrArg (hp g c) (slv_eq3 (rS (rbM3 m i o x) i o s) (rSn (rS (rbM3 m i o x) i o s) 8) (rE (rS (rbM3 m i o x) i o s) i o s 8) 8 (8 + 1))) ?_
        refine back_ind (n := 8) (G := fun k => RJ l g M_M_rebuilds (RMX d 0 0) (TQ g 0 0 (QE (some (.int (nI (8 * stp (szM m o))))) n (hp g c (rbMC m i o x)))) XT n (hp g c ((((rS (rbM3 m i o x) i o s).s_sent (rSn (rS (rbM3 m i o x) i o s) 8)).s_eqs (rES (rS (rbM3 m i o x) i o s) i o s)).s_byts (wrB (rS (rbM3 m i o x) i o s).byts (rA (rS (rbM3 m i o x) i o s) i o s) (fun k => rES (rS (rbM3 m i o x) i o s) i o s (16 * k + 8)) k))) 0 0 192 [(0, .ref (aM g)), (1, .int (nI i)), (2, .int (nI o)), (3, .int x), (4, .int (nI (mnw m o))), (5, .int (nI (szM m o))), (6, .int (nI (rx i o false))), (7, .int (nI s)), (8, .int (nI k))] []) ?_ ?_ 0 (Nat.zero_le _)
        · skip
          refine r_iload d_M_rebuilds_192 8 rfl ?_
          refine r_bipush (v := nI 8) d_M_rebuilds_194 (by decide) ?_
          refine r_icmp_geN (tgt := 234) d_M_rebuilds_196 (by decide) (by omega) (by omega) (fun c196 => ?_) (fun c196 => ?_)
          rotate_left 1
          · exfalso; first | omega | (revert c196; decide) | cases c196
          refine r_iincN (lv' := [(0, _), (1, _), (2, _), (3, _), (4, _), (5, _), (6, _), (7, _), (8, _)]) d_M_rebuilds_234 7 rfl (by decide) rfl ?_
          refine r_goto (tgt := 60) d_M_rebuilds_237 (by decide) ?_
          refine r_less (lv' := [(0, .ref (aM g)), (1, .int (nI i)), (2, .int (nI o)), (3, .int x), (4, .int (nI (mnw m o))), (5, .int (nI (szM m o))), (6, .int (nI (rx i o false))), (7, .int (nI (s + 1)))]) (by simp) ?_
          exact r_at ih_s rfl rfl rfl
        · intro k hb_k ih_k
          refine r_iload d_M_rebuilds_192 8 rfl ?_
          refine r_bipush (v := nI 8) d_M_rebuilds_194 (by decide) ?_
          refine r_icmp_geN (tgt := 234) d_M_rebuilds_196 (by decide) (by omega) (by omega) (fun c196 => ?_) (fun c196 => ?_)
          · exfalso; first | omega | (revert c196; decide) | cases c196
          refine r_aload_n d_M_rebuilds_199 0 rfl ?_
          refine rg_M_27 rfl d_M_rebuilds_200 gM rfl ?_
          refine r_aload_n d_M_rebuilds_203 0 rfl ?_
          refine r_iload_n d_M_rebuilds_204 1 rfl ?_
          refine r_iload d_M_rebuilds_205 6 rfl ?_
          refine r_iload d_M_rebuilds_207 7 rfl ?_
          refine r_iload d_M_rebuilds_209 8 rfl ?_
          refine rc_M_103 rfl d_M_rebuilds_211 (k_M_byteAt (m := (((rS (rbM3 m i o x) i o s).s_sent (rSn (rS (rbM3 m i o x) i o s) 8)).s_eqs (rES (rS (rbM3 m i o x) i o s) i o s)).s_byts (wrB (rS (rbM3 m i o x) i o s).byts (rA (rS (rbM3 m i o x) i o s) i o s) (fun k => rES (rS (rbM3 m i o x) i o s) i o s (16 * k + 8)) k)) (i := i) (r := rx i o false) (s := s) (k := k) (by omega) (by omega)) gM (room_ok (d' := d - 1) (by omega) (by decide)) ⟨Nat.le_refl _, Nat.le_refl _⟩ (Nat.le_of_ble_eq_true rfl) ?_
          have hA : rA (rS (rbM3 m i o x) i o s) i o s < 3833 := by unfold rA; omega
          refine r_top (y := nI (rA (rS (rbM3 m i o x) i o s) i o s + k)) (congrArg (fun z => nI (8 * (40 * i + z (8 * rx i o false + s)) + k)) (seb_keep (rS (rbM3 m i o x) i o s) (rSn (rS (rbM3 m i o x) i o s) 8) (rES (rS (rbM3 m i o x) i o s) i o s) _).2.1) ?_
          refine r_aload_n d_M_rebuilds_214 0 rfl ?_
          refine rg_M_51 rfl d_M_rebuilds_215 gM rfl ?_
          refine r_bipush (v := nI 16) d_M_rebuilds_218 (by decide) ?_
          refine r_iload d_M_rebuilds_220 8 rfl ?_
          refine r_imulN d_M_rebuilds_222 ?_
          refine r_bipush (v := nI 8) d_M_rebuilds_223 (by decide) ?_
          refine r_iaddN d_M_rebuilds_225 ?_
          refine r_aldN d_M_rebuilds_226 gmEqs (by omega) (by decide) ?_
          refine r_top (y := nI (rES (rS (rbM3 m i o x) i o s) i o s (16 * k + 8))) (congrArg nI (congrFun (seb_eb (rS (rbM3 m i o x) i o s) (rSn (rS (rbM3 m i o x) i o s) 8) (rES (rS (rbM3 m i o x) i o s) i o s) _).1 _)) ?_
          refine r_astN d_M_rebuilds_227 gmByts (by omega) (by decide) (wm_byts) ?_
          refine r_iincN (lv' := [(0, _), (1, _), (2, _), (3, _), (4, _), (5, _), (6, _), (7, _), (8, _)]) d_M_rebuilds_228 8 rfl (by decide) rfl ?_
          refine r_goto (tgt := 192) d_M_rebuilds_231 (by decide) ?_
          exact r_at ih_k (congrArg (hp g c) (byts_up (rS (rbM3 m i o x) i o s) (rSn (rS (rbM3 m i o x) i o s) 8) (rES (rS (rbM3 m i o x) i o s) i o s) _ _ _)) rfl rfl
      · intro k hb_k ih_k
        have hXk := hXc k hb_k
        have hrc := rx_lt (z := false) hXk ho
        have hb40 := hX.2.2 (8 * (rx ((rS (rbM3 m i o x) i o s).chos k) o false) + s)
        refine r_iload d_M_rebuilds_73 8 rfl ?_
        refine r_bipush (v := nI 8) d_M_rebuilds_75 (by decide) ?_
        refine r_icmp_geN (tgt := 182) d_M_rebuilds_77 (by decide) (by omega) (by omega) (fun c77 => ?_) (fun c77 => ?_)
        · exfalso; first | omega | (revert c77; decide) | cases c77
        refine r_iconst (v := nI 0) d_M_rebuilds_80 (by decide) ?_
        refine r_istore (lv' := [(0, _), (1, _), (2, _), (3, _), (4, _), (5, _), (6, _), (7, _), (8, _), (9, _)]) d_M_rebuilds_81 (by decide) rfl ?_
        refine r_heap (h' := hp g c (((rS (rbM3 m i o x) i o s).s_sent (rSn (rS (rbM3 m i o x) i o s) k)).s_eqs (wrB (rE (rS (rbM3 m i o x) i o s) i o s k) (16 * k) (rowT ((rS (rbM3 m i o x) i o s).chos k)) 0))) rfl ?_
        refine back_ind (n := 8) (G := fun q => RJ l g M_M_rebuilds (RMX d 0 0) (TQ g 0 0 (QE (some (.int (nI (8 * stp (szM m o))))) n (hp g c (rbMC m i o x)))) XT n (hp g c (((rS (rbM3 m i o x) i o s).s_sent (rSn (rS (rbM3 m i o x) i o s) k)).s_eqs (wrB (rE (rS (rbM3 m i o x) i o s) i o s k) (16 * k) (rowT ((rS (rbM3 m i o x) i o s).chos k)) q))) 0 0 83 [(0, .ref (aM g)), (1, .int (nI i)), (2, .int (nI o)), (3, .int x), (4, .int (nI (mnw m o))), (5, .int (nI (szM m o))), (6, .int (nI (rx i o false))), (7, .int (nI s)), (8, .int (nI k)), (9, .int (nI q))] []) ?_ ?_ 0 (Nat.zero_le _)
        · skip
          refine r_iload d_M_rebuilds_83 9 rfl ?_
          refine r_bipush (v := nI 8) d_M_rebuilds_85 (by decide) ?_
          refine r_icmp_geN (tgt := 121) d_M_rebuilds_87 (by decide) (by omega) (by omega) (fun c87 => ?_) (fun c87 => ?_)
          rotate_left 1
          · exfalso; first | omega | (revert c87; decide) | cases c87
          refine r_aload_n d_M_rebuilds_121 0 rfl ?_
          refine rg_M_51 rfl d_M_rebuilds_122 gM rfl ?_
          refine r_bipush (v := nI 16) d_M_rebuilds_125 (by decide) ?_
          refine r_iload d_M_rebuilds_127 8 rfl ?_
          refine r_imulN d_M_rebuilds_129 ?_
          refine r_bipush (v := nI 8) d_M_rebuilds_130 (by decide) ?_
          refine r_iaddN d_M_rebuilds_132 ?_
          refine r_aload_n d_M_rebuilds_133 0 rfl ?_
          refine r_aload_n d_M_rebuilds_134 0 rfl ?_
          refine rg_M_54 rfl d_M_rebuilds_135 gM rfl ?_
          refine r_iload d_M_rebuilds_138 8 rfl ?_
          refine r_aldN d_M_rebuilds_140 gmCho (by omega) (by decide) ?_
          refine r_top (y := nI ((rS (rbM3 m i o x) i o s).chos k)) rfl ?_
          refine r_iload_n d_M_rebuilds_141 1 rfl ?_
          refine r_aload_n d_M_rebuilds_142 0 rfl ?_
          refine rg_M_54 rfl d_M_rebuilds_143 gM rfl ?_
          refine r_iload d_M_rebuilds_146 8 rfl ?_
          refine r_aldN d_M_rebuilds_148 gmCho (by omega) (by decide) ?_
          refine r_top (y := nI ((rS (rbM3 m i o x) i o s).chos k)) rfl ?_
          refine r_iload_n d_M_rebuilds_149 2 rfl ?_
          refine r_iconst (v := nI 0) d_M_rebuilds_150 (by decide) ?_
          refine rc_M_79 rfl d_M_rebuilds_151 (k_M_at (i := (rS (rbM3 m i o x) i o s).chos k) (o := o) (z := false) (by omega)) (room_ok (d' := d - 1) (by omega) (by decide)) ⟨Nat.le_refl _, Nat.le_refl _⟩ (Nat.le_of_ble_eq_true rfl) ?_
          refine r_iload d_M_rebuilds_154 7 rfl ?_
          refine rc_M_159 rfl d_M_rebuilds_156 (k_M_symbolOf (m := ((rS (rbM3 m i o x) i o s).s_sent (rSn (rS (rbM3 m i o x) i o s) k)).s_eqs (wrB (rE (rS (rbM3 m i o x) i o s) i o s k) (16 * k) (rowT ((rS (rbM3 m i o x) i o s).chos k)) 8)) (i := (rS (rbM3 m i o x) i o s).chos k) (j := i) (r := (rx ((rS (rbM3 m i o x) i o s).chos k) o false)) (s := s) (by omega) hXk hi (by omega) hX hXl.1) gM (room_ok (d' := d - 1) (by omega) (by decide)) ⟨Nat.le_refl _, Nat.le_refl _⟩ (Nat.le_of_ble_eq_true rfl) ?_
          refine r_top (y := nI (syM (rS (rbM3 m i o x) i o s) ((rS (rbM3 m i o x) i o s).chos k) ((rS (rbM3 m i o x) i o s).blk (8 * (rx ((rS (rbM3 m i o x) i o s).chos k) o false) + s)) i)) rfl ?_
          refine r_astN d_M_rebuilds_159 gmEqs (by omega) (by decide) (wm_eqs) ?_
          refine r_aload_n d_M_rebuilds_160 0 rfl ?_
          refine rg_M_21 rfl d_M_rebuilds_161 gM rfl ?_
          refine r_aload_n d_M_rebuilds_164 0 rfl ?_
          refine rg_M_54 rfl d_M_rebuilds_165 gM rfl ?_
          refine r_iload d_M_rebuilds_168 8 rfl ?_
          refine r_aldN d_M_rebuilds_170 gmCho (by omega) (by decide) ?_
          refine r_top (y := nI ((rS (rbM3 m i o x) i o s).chos k)) rfl ?_
          refine r_dup2 d_M_rebuilds_171 rfl rfl ?_
          refine r_ald (t := 0) d_M_rebuilds_172 gmSent (by omega) (by decide) ?_
          refine r_iconst (v := nI 1) d_M_rebuilds_173 (by decide) ?_
          refine r_iadd d_M_rebuilds_174 ?_
          refine r_ast d_M_rebuilds_175 gmSent (by omega) (by decide) rfl (wm_sent) ?_
          refine r_iincN (lv' := [(0, _), (1, _), (2, _), (3, _), (4, _), (5, _), (6, _), (7, _), (8, _), (9, _)]) d_M_rebuilds_176 8 rfl (by decide) rfl ?_
          refine r_goto (tgt := 73) d_M_rebuilds_179 (by decide) ?_
          refine r_less (lv' := [(0, .ref (aM g)), (1, .int (nI i)), (2, .int (nI o)), (3, .int x), (4, .int (nI (mnw m o))), (5, .int (nI (szM m o))), (6, .int (nI (rx i o false))), (7, .int (nI s)), (8, .int (nI (k + 1)))]) (by simp) ?_
          exact r_at ih_k (congrArg (hp g c) (se_up (rS (rbM3 m i o x) i o s) (rSn (rS (rbM3 m i o x) i o s) k) (wrB (rE (rS (rbM3 m i o x) i o s) i o s k) (16 * k) (rowT ((rS (rbM3 m i o x) i o s).chos k)) 8) _ _ _ _)) rfl rfl
        · intro q hb_q ih_q
          refine r_iload d_M_rebuilds_83 9 rfl ?_
          refine r_bipush (v := nI 8) d_M_rebuilds_85 (by decide) ?_
          refine r_icmp_geN (tgt := 121) d_M_rebuilds_87 (by decide) (by omega) (by omega) (fun c87 => ?_) (fun c87 => ?_)
          · exfalso; first | omega | (revert c87; decide) | cases c87
          refine r_aload_n d_M_rebuilds_90 0 rfl ?_
          refine rg_M_51 rfl d_M_rebuilds_91 gM rfl ?_
          refine r_bipush (v := nI 16) d_M_rebuilds_94 (by decide) ?_
          refine r_iload d_M_rebuilds_96 8 rfl ?_
          refine r_imulN d_M_rebuilds_98 ?_
          refine r_iload d_M_rebuilds_99 9 rfl ?_
          refine r_iaddN d_M_rebuilds_101 ?_
          refine r_aload_n d_M_rebuilds_102 0 rfl ?_
          refine rg_M_54 rfl d_M_rebuilds_103 gM rfl ?_
          refine r_iload d_M_rebuilds_106 8 rfl ?_
          refine r_aldN d_M_rebuilds_108 gmCho (by omega) (by decide) ?_
          refine r_top (y := nI ((rS (rbM3 m i o x) i o s).chos k)) rfl ?_
          refine r_iload d_M_rebuilds_109 9 rfl ?_
          refine rc_M_76 rfl d_M_rebuilds_111 (k_M_row (m := ((rS (rbM3 m i o x) i o s).s_sent (rSn (rS (rbM3 m i o x) i o s) k)).s_eqs (wrB (rE (rS (rbM3 m i o x) i o s) i o s k) (16 * k) (rowT ((rS (rbM3 m i o x) i o s).chos k)) q)) (by omega) hXk (by omega)) (room_ok (d' := d - 1) (by omega) (by decide)) ⟨Nat.le_refl _, Nat.le_refl _⟩ (Nat.le_of_ble_eq_true rfl) ?_
          refine r_astN d_M_rebuilds_114 gmEqs (by omega) (by decide) (wm_eqs) ?_
          refine r_iincN (lv' := [(0, _), (1, _), (2, _), (3, _), (4, _), (5, _), (6, _), (7, _), (8, _), (9, _)]) d_M_rebuilds_115 9 rfl (by decide) rfl ?_
          refine r_goto (tgt := 83) d_M_rebuilds_118 (by decide) ?_
          exact r_at ih_q rfl rfl rfl
  · skip
    have hz : stp (szM m o) = 0 := by rw [c36]; rfl
    refine r_iconst (v := nI 0) d_M_rebuilds_39 (by decide) ?_
    refine r_ireturn d_M_rebuilds_40 rfl rfl ⟨?_, rfl, ?_⟩
    · rw [hz]
    · exact congrArg (hp g c) (if_pos c36).symm
