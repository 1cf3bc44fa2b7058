theorem frs_eq {c c' : CS} (h1 : c'.live = c.live) (h2 : c'.sw = c.sw) (h3 : c'.hver = c.hver) : frs c' = frs c := by
  funext o v i
  unfold frs rver rp
  rw [h1, h2, h3]
theorem rver_eq {c c' : CS} (h2 : c'.sw = c.sw) (h3 : c'.hver = c.hver) (i o : Nat) : rver c' i o = rver c i o := by
  unfold rver rp
  rw [h2, h3]
theorem nwL_eq {c c' : CS} (h1 : c'.live = c.live) (h2 : c'.sw = c.sw) (h3 : c'.hver = c.hver) (o : Nat) : ∀ b, nwL c' o b = nwL c o b
  | 0 => rfl
  | b + 1 => by
    unfold nwL
    rw [nwL_eq h1 h2 h3 o b, rver_eq h2 h3, frs_eq h1 h2 h3]
theorem nw_eq {c c' : CS} (h1 : c'.live = c.live) (h2 : c'.sw = c.sw) (h3 : c'.hver = c.hver) {o : Nat} : nw c' o = nw c o := nwL_eq h1 h2 h3 o 12
theorem nbS_eq {c c' : CS} (h1 : c'.live = c.live) (h2 : c'.sw = c.sw) (h3 : c'.hver = c.hver) (h4 : c'.hbyt = c.hbyt) {o : Nat} : nbS c' o = nbS c o := by
  unfold nbS ffr rbyt rp
  rw [nw_eq h1 h2 h3, frs_eq h1 h2 h3, h2, h4]
theorem stl_eq {c c' : CS} (h1 : c'.live = c.live) (h2 : c'.sw = c.sw) (h3 : c'.hver = c.hver) (h4 : c'.unst = c.unst) {i o : Nat} : stl c' i o = stl c i o := by
  unfold stl
  rw [nw_eq h1 h2 h3, frs_eq h1 h2 h3, h4]
/-- the one that sent least of the first n nodes; 12: none -/
def bsL (c : CS) (i o : Nat) (x : Int32) : Nat → Nat
  | 0 => 12
  | n + 1 => if n ≠ i ∧ told x n = true ∧ frs c o (nw c o) n = true ∧ (bsL c i o x n = 12 ∨ c.sent n < c.sent (bsL c i o x n)) then n else bsL c i o x n
def bI (b : Nat) : Int32 := if b = 12 then (-1) else nI b
theorem bsL_le (c : CS) (i o : Nat) (x : Int32) : ∀ n, n ≤ 12 → bsL c i o x n = 12 ∨ bsL c i o x n < n
  | 0, _ => Or.inl rfl
  | n + 1, h => by
    unfold bsL
    split
    · omega
    · rcases bsL_le c i o x n (by omega) with q | q <;> omega
def csX (c : CS) (i o : Nat) (x : Int32) : Nat → Int32
  | 0 => x
  | f + 1 => csX c i o x f &&& (((nI 1) <<< (nI (bsL c i o (csX c i o x f) 12) &&& 31)) ^^^ (-1))
def csB (c : CS) (i o : Nat) (x : Int32) (f : Nat) : Nat := bsL c i o (csX c i o x f) 12
def csF (c : CS) (i o : Nat) (x : Int32) (V : Nat → Nat) : Nat → Nat → Nat
  | 0 => V
  | f + 1 => upN (csF c i o x V f) f (csB c i o x f)
def csN (c : CS) (i o : Nat) (x : Int32) : Nat := lfF (fun f => decide (csB c i o x f ≠ 12)) 8 0
theorem bI_12 : bI 12 = -1 := rfl
theorem bI_n {b : Nat} (h : b ≠ 12) : bI b = nI b := if_neg h
theorem bI_ne {b : Nat} (h : ¬ bI b = -1) : b ≠ 12 := fun e => h (by rw [e]; rfl)
theorem bI_eq {b : Nat} (hb : b ≤ 12) (h : bI b = -1) : b = 12 := by
  rcases Nat.lt_or_ge b 12 with q | q
  · rw [bI_n (by omega)] at h
    exact absurd h (nI_m1 (by omega))
  · omega
theorem k_S_chooseLeastSent {l : Launch} {g : GX} {c : CS} {m : MS} {n d : Nat} (hd : 3 ≤ d) {i o : Nat} {x : Int32} (hi : i < 12) (ho : o < 6) (hc : CI c) : CE l g M_S_chooseLeastSent d 0 0 [.ref (aS g), .int (nI i), .int (nI o), .int x] n (hp g c m) (some (.int (nI (csN c i o x)))) n (hp g (c.s_chos (csF c i o x c.chos (csN c i o x))) m) := by
  have hw := nw_lt (o := o) hc
  refine CE.of (by decide +kernel) (lv := [(0, .ref (aS g)), (1, .int (nI i)), (2, .int (nI o)), (3, .int x)]) rfl (Nat.le_of_ble_eq_true rfl) ?_
  refine r_aload_n d_S_chooseLeastSent_0 0 rfl ?_
  refine r_iload_n d_S_chooseLeastSent_1 2 rfl ?_
  refine rc_S_134 rfl d_S_chooseLeastSent_2 (k_S_newestOf (by omega) ho hc) gS (room_ok (d' := d - 1) (by omega) (by decide)) ⟨Nat.le_refl _, Nat.le_refl _⟩ (Nat.le_of_ble_eq_true rfl) ?_
  refine r_istore (lv' := [(0, _), (1, _), (2, _), (3, _), (4, _)]) d_S_chooseLeastSent_5 (by decide) rfl ?_
  refine r_iload_n d_S_chooseLeastSent_7 3 rfl ?_
  refine r_istore (lv' := [(0, _), (1, _), (2, _), (3, _), (4, _), (5, _)]) d_S_chooseLeastSent_8 (by decide) rfl ?_
  refine r_heap (h' := hp g (c.s_chos (csF c i o x c.chos 0)) m) rfl ?_
  refine r_iconst (v := nI 0) d_S_chooseLeastSent_10 (by decide) ?_
  refine r_istore (lv' := [(0, _), (1, _), (2, _), (3, _), (4, _), (5, _), (6, _)]) d_S_chooseLeastSent_11 (by decide) rfl ?_
  refine r_less (lv' := [(0, .ref (aS g)), (1, .int (nI i)), (2, .int (nI o)), (3, .int x), (4, .int (nI (nw c o))), (5, .int x), (6, .int (nI 0))]) (by simp) ?_
  refine back_ind (n := 8) (G := fun f => (∀ j, j < f → csB c i o x j ≠ 12) → RJ l g M_S_chooseLeastSent (RMX d 0 0) (TQ g 0 0 (QE (some (.int (nI (csN c i o x)))) n (hp g (c.s_chos (csF c i o x c.chos (csN c i o x))) m))) XT n (hp g (c.s_chos (csF c i o x c.chos f)) m) 0 0 13 [(0, .ref (aS g)), (1, .int (nI i)), (2, .int (nI o)), (3, .int x), (4, .int (nI (nw c o))), (5, .int (csX c i o x f)), (6, .int (nI f))] []) ?_ ?_ 0 (Nat.zero_le _) (fun j hj => absurd hj (by omega))
  · skip
    intro hv_f
    have eN : csN c i o x = 8 := lfF_all (f := 8) (k := 0) (fun j _ hj => decide_eq_true (hv_f j (by omega)))
    refine r_iload d_S_chooseLeastSent_13 6 rfl ?_
    refine r_bipush (v := nI 8) d_S_chooseLeastSent_15 (by decide) ?_
    refine r_icmp_geN (tgt := 135) d_S_chooseLeastSent_17 (by decide) (by omega) (by omega) (fun c17 => ?_) (fun c17 => ?_)
    rotate_left 1
    · exfalso; first | omega | (revert c17; decide) | cases c17
    refine r_iload d_S_chooseLeastSent_135 6 rfl ?_
    refine r_ireturn d_S_chooseLeastSent_137 rfl rfl ⟨?_, rfl, ?_⟩
    · rw [eN]
    · rw [eN]
  · intro f hb_f ih_f hv_f
    have hbl := bsL_le c i o (csX c i o x f) 12 (Nat.le_refl _)
    refine r_iload d_S_chooseLeastSent_13 6 rfl ?_
    refine r_bipush (v := nI 8) d_S_chooseLeastSent_15 (by decide) ?_
    refine r_icmp_geN (tgt := 135) d_S_chooseLeastSent_17 (by decide) (by omega) (by omega) (fun c17 => ?_) (fun c17 => ?_)
    · exfalso; first | omega | (revert c17; decide) | cases c17
    refine r_iconst (v := (-1)) d_S_chooseLeastSent_20 (by decide) ?_
    refine r_istore (lv' := [(0, _), (1, _), (2, _), (3, _), (4, _), (5, _), (6, _), (7, _)]) d_S_chooseLeastSent_21 (by decide) rfl ?_
    refine r_iconst (v := nI 0) d_S_chooseLeastSent_23 (by decide) ?_
    refine r_istore (lv' := [(0, _), (1, _), (2, _), (3, _), (4, _), (5, _), (6, _), (7, _), (8, _)]) d_S_chooseLeastSent_24 (by decide) rfl ?_
    refine back_ind (n := 12) (G := fun q => RJ l g M_S_chooseLeastSent (RMX d 0 0) (TQ g 0 0 (QE (some (.int (nI (csN c i o x)))) n (hp g (c.s_chos (csF c i o x c.chos (csN c i o x))) m))) XT n (hp g (c.s_chos (csF c i o x c.chos f)) m) 0 0 26 [(0, .ref (aS g)), (1, .int (nI i)), (2, .int (nI o)), (3, .int x), (4, .int (nI (nw c o))), (5, .int (csX c i o x f)), (6, .int (nI f)), (7, .int (bI (bsL c i o (csX c i o x f) q))), (8, .int (nI q))] []) ?_ ?_ 0 (Nat.zero_le _)
    · skip
      refine r_iload d_S_chooseLeastSent_26 8 rfl ?_
      refine r_bipush (v := nI 12) d_S_chooseLeastSent_28 (by decide) ?_
      refine r_icmp_geN (tgt := 100) d_S_chooseLeastSent_30 (by decide) (by omega) (by omega) (fun c30 => ?_) (fun c30 => ?_)
      rotate_left 1
      · exfalso; first | omega | (revert c30; decide) | cases c30
      refine r_iload d_S_chooseLeastSent_100 7 rfl ?_
      refine r_iconst (v := (-1)) d_S_chooseLeastSent_102 (by decide) ?_
      refine r_icmp_ne (tgt := 109) d_S_chooseLeastSent_103 (by decide) (fun c103 => ?_) (fun c103 => ?_)
      · skip
        skip
        have hbn : bsL c i o (csX c i o x f) 12 ≠ 12 := bI_ne c103
        refine r_at (lv' := [(0, .ref (aS g)), (1, .int (nI i)), (2, .int (nI o)), (3, .int x), (4, .int (nI (nw c o))), (5, .int (csX c i o x f)), (6, .int (nI f)), (7, .int (nI (bsL c i o (csX c i o x f) 12))), (8, .int (nI 12))]) ?_ rfl (by rw [bI_n hbn]) rfl
        refine r_aload_n d_S_chooseLeastSent_109 0 rfl ?_
        refine rg_S_52 rfl d_S_chooseLeastSent_110 gS rfl ?_
        refine r_iload d_S_chooseLeastSent_113 6 rfl ?_
        refine r_iload d_S_chooseLeastSent_115 7 rfl ?_
        refine r_astN d_S_chooseLeastSent_117 gCho (by omega) (by decide) (wchos) ?_
        refine r_iload d_S_chooseLeastSent_118 5 rfl ?_
        refine r_iconst (v := nI 1) d_S_chooseLeastSent_120 (by decide) ?_
        refine r_iload d_S_chooseLeastSent_121 7 rfl ?_
        refine r_ishl d_S_chooseLeastSent_123 ?_
        refine r_iconst (v := (-1)) d_S_chooseLeastSent_124 (by decide) ?_
        refine r_ixor d_S_chooseLeastSent_125 ?_
        refine r_iand d_S_chooseLeastSent_126 ?_
        refine r_istore (lv' := [(0, _), (1, _), (2, _), (3, _), (4, _), (5, _), (6, _), (7, _), (8, _)]) d_S_chooseLeastSent_127 (by decide) rfl ?_
        refine r_iincN (lv' := [(0, _), (1, _), (2, _), (3, _), (4, _), (5, _), (6, _), (7, _), (8, _)]) d_S_chooseLeastSent_129 6 rfl (by decide) rfl ?_
        refine r_goto (tgt := 13) d_S_chooseLeastSent_132 (by decide) ?_
        refine r_less (lv' := [(0, .ref (aS g)), (1, .int (nI i)), (2, .int (nI o)), (3, .int x), (4, .int (nI (nw c o))), (5, .int ((csX c i o x f) &&& (((nI 1) <<< ((nI (bsL c i o (csX c i o x f) 12)) &&& 31)) ^^^ (-1)))), (6, .int (nI (f + 1)))]) (by simp) ?_
        exact r_at (ih_f (fun j hj => by rcases Nat.lt_or_ge j f with q | q; exact hv_f j q; rw [show j = f by omega]; exact hbn)) rfl rfl rfl
      · skip
        have eB : bsL c i o (csX c i o x f) 12 = 12 := bI_eq (by omega) c103
        have eN : csN c i o x = f := lfF_at (f := 8) (k := 0) (fun j _ hj => decide_eq_true (hv_f j hj)) (by show decide (bsL c i o (csX c i o x f) 12 ≠ 12) = false; rw [eB]; rfl) (Nat.zero_le _) (by omega)
        refine r_iload d_S_chooseLeastSent_106 6 rfl ?_
        refine r_ireturn d_S_chooseLeastSent_108 rfl rfl ⟨?_, rfl, ?_⟩
        · rw [eN]
        · rw [eN]
    · intro q hb_q ih_q
      have hnl := bsL_le c i o (csX c i o x f) q (by omega)
      refine r_iload d_S_chooseLeastSent_26 8 rfl ?_
      refine r_bipush (v := nI 12) d_S_chooseLeastSent_28 (by decide) ?_
      refine r_icmp_geN (tgt := 100) d_S_chooseLeastSent_30 (by decide) (by omega) (by omega) (fun c30 => ?_) (fun c30 => ?_)
      · exfalso; first | omega | (revert c30; decide) | cases c30
      refine r_iload d_S_chooseLeastSent_33 8 rfl ?_
      refine r_iload_n d_S_chooseLeastSent_35 1 rfl ?_
      refine r_icmp_eqN (tgt := 94) d_S_chooseLeastSent_36 (by decide) (by omega) (by omega) (fun c36 => ?_) (fun c36 => ?_)
      · skip
        have hbs : bsL c i o (csX c i o x f) (q + 1) = bsL c i o (csX c i o x f) q := if_neg (fun qq => qq.1 c36)
        refine r_iincN (lv' := [(0, _), (1, _), (2, _), (3, _), (4, _), (5, _), (6, _), (7, _), (8, _)]) d_S_chooseLeastSent_94 8 rfl (by decide) rfl ?_
        refine r_goto (tgt := 26) d_S_chooseLeastSent_97 (by decide) ?_
        exact r_at ih_q rfl (by first | (rw [hbs]; done) | (rw [hbs, bI_n hbn]; done) | (rw [hbs, bI_n hbn2]; done)) rfl
      · skip
        refine r_iload d_S_chooseLeastSent_39 5 rfl ?_
        refine r_iload d_S_chooseLeastSent_41 8 rfl ?_
        refine rc_S_231 rfl d_S_chooseLeastSent_43 (k_S_isTold (by omega)) (room_ok (d' := d - 1) (by omega) (by decide)) ⟨Nat.le_refl _, Nat.le_refl _⟩ (Nat.le_of_ble_eq_true rfl) ?_
        refine r_if_eqB (tgt := 94) d_S_chooseLeastSent_46 (by decide) (fun c46 => ?_) (fun c46 => ?_)
        · skip
          have hbs : bsL c i o (csX c i o x f) (q + 1) = bsL c i o (csX c i o x f) q := if_neg (fun qq => by rw [c46] at qq; exact absurd qq.2.1 (by decide))
          refine r_iincN (lv' := [(0, _), (1, _), (2, _), (3, _), (4, _), (5, _), (6, _), (7, _), (8, _)]) d_S_chooseLeastSent_94 8 rfl (by decide) rfl ?_
          refine r_goto (tgt := 26) d_S_chooseLeastSent_97 (by decide) ?_
          exact r_at ih_q rfl (by first | (rw [hbs]; done) | (rw [hbs, bI_n hbn]; done) | (rw [hbs, bI_n hbn2]; done)) rfl
        · skip
          refine r_aload_n d_S_chooseLeastSent_49 0 rfl ?_
          refine r_iload d_S_chooseLeastSent_50 8 rfl ?_
          refine r_iload_n d_S_chooseLeastSent_52 2 rfl ?_
          refine r_iload d_S_chooseLeastSent_53 4 rfl ?_
          refine rc_S_159 rfl d_S_chooseLeastSent_55 (k_S_isFresh (c := c.s_chos (csF c i o x c.chos f)) (by omega) hb_q ho hw hc) gS (room_ok (d' := d - 1) (by omega) (by decide)) ⟨Nat.le_refl _, Nat.le_refl _⟩ (Nat.le_of_ble_eq_true rfl) ?_
          refine r_top (y := b2 (frs c o (nw c o) q)) rfl ?_
          refine r_if_eqB (tgt := 94) d_S_chooseLeastSent_58 (by decide) (fun c58 => ?_) (fun c58 => ?_)
          · skip
            have hbs : bsL c i o (csX c i o x f) (q + 1) = bsL c i o (csX c i o x f) q := if_neg (fun qq => by rw [c58] at qq; exact absurd qq.2.2.1 (by decide))
            refine r_iincN (lv' := [(0, _), (1, _), (2, _), (3, _), (4, _), (5, _), (6, _), (7, _), (8, _)]) d_S_chooseLeastSent_94 8 rfl (by decide) rfl ?_
            refine r_goto (tgt := 26) d_S_chooseLeastSent_97 (by decide) ?_
            exact r_at ih_q rfl (by first | (rw [hbs]; done) | (rw [hbs, bI_n hbn]; done) | (rw [hbs, bI_n hbn2]; done)) rfl
          · skip
            refine r_iload d_S_chooseLeastSent_61 7 rfl ?_
            refine r_iconst (v := (-1)) d_S_chooseLeastSent_63 (by decide) ?_
            refine r_icmp_eq (tgt := 90) d_S_chooseLeastSent_64 (by decide) (fun c64 => ?_) (fun c64 => ?_)
            · skip
              have hb12 := bI_eq (by omega) c64
              have hbs : bsL c i o (csX c i o x f) (q + 1) = q := if_pos ⟨c36, c46, c58, Or.inl hb12⟩
              have hbn : q ≠ 12 := by omega
              refine r_iload d_S_chooseLeastSent_90 8 rfl ?_
              refine r_istore (lv' := [(0, _), (1, _), (2, _), (3, _), (4, _), (5, _), (6, _), (7, _), (8, _)]) d_S_chooseLeastSent_92 (by decide) rfl ?_
              refine r_iincN (lv' := [(0, _), (1, _), (2, _), (3, _), (4, _), (5, _), (6, _), (7, _), (8, _)]) d_S_chooseLeastSent_94 8 rfl (by decide) rfl ?_
              refine r_goto (tgt := 26) d_S_chooseLeastSent_97 (by decide) ?_
              exact r_at ih_q rfl (by first | (rw [hbs]; done) | (rw [hbs, bI_n hbn]; done) | (rw [hbs, bI_n hbn2]; done)) rfl
            · skip
              have hbn : bsL c i o (csX c i o x f) q ≠ 12 := bI_ne c64
              refine r_at (lv' := [(0, .ref (aS g)), (1, .int (nI i)), (2, .int (nI o)), (3, .int x), (4, .int (nI (nw c o))), (5, .int (csX c i o x f)), (6, .int (nI f)), (7, .int (nI (bsL c i o (csX c i o x f) q))), (8, .int (nI q))]) ?_ rfl (by rw [bI_n hbn]) rfl
              refine r_aload_n d_S_chooseLeastSent_67 0 rfl ?_
              refine rg_S_18 rfl d_S_chooseLeastSent_68 gS rfl ?_
              refine r_iload d_S_chooseLeastSent_71 8 rfl ?_
              refine r_qld (t := 2) rfl d_S_chooseLeastSent_73 gNodes (by omega) (by decide) rfl ?_
              refine rg_S_163 rfl d_S_chooseLeastSent_74 (gN (i := q) (by omega)) rfl ?_
              refine r_aload_n d_S_chooseLeastSent_77 0 rfl ?_
              refine rg_S_18 rfl d_S_chooseLeastSent_78 gS rfl ?_
              refine r_iload d_S_chooseLeastSent_81 7 rfl ?_
              refine r_qld (t := 2) rfl d_S_chooseLeastSent_83 gNodes (by omega) (by decide) rfl ?_
              refine rg_S_163 rfl d_S_chooseLeastSent_84 (gN (i := bsL c i o (csX c i o x f) q) (by omega)) rfl ?_
              refine r_icmp_ge (tgt := 94) d_S_chooseLeastSent_87 (by decide) (fun c87 => ?_) (fun c87 => ?_)
              · skip
                have hbs : bsL c i o (csX c i o x f) (q + 1) = bsL c i o (csX c i o x f) q := if_neg (fun qq => by rcases qq.2.2.2 with z | z; exact hbn z; exact absurd z (Int32.not_lt.mpr c87))
                refine r_iincN (lv' := [(0, _), (1, _), (2, _), (3, _), (4, _), (5, _), (6, _), (7, _), (8, _)]) d_S_chooseLeastSent_94 8 rfl (by decide) rfl ?_
                refine r_goto (tgt := 26) d_S_chooseLeastSent_97 (by decide) ?_
                exact r_at ih_q rfl (by first | (rw [hbs]; done) | (rw [hbs, bI_n hbn]; done) | (rw [hbs, bI_n hbn2]; done)) rfl
              · skip
                have hbs : bsL c i o (csX c i o x f) (q + 1) = q := if_pos ⟨c36, c46, c58, Or.inr (Int32.not_le.mp c87)⟩
                have hbn2 : q ≠ 12 := by omega
                refine r_iload d_S_chooseLeastSent_90 8 rfl ?_
                refine r_istore (lv' := [(0, _), (1, _), (2, _), (3, _), (4, _), (5, _), (6, _), (7, _), (8, _)]) d_S_chooseLeastSent_92 (by decide) rfl ?_
                refine r_iincN (lv' := [(0, _), (1, _), (2, _), (3, _), (4, _), (5, _), (6, _), (7, _), (8, _)]) d_S_chooseLeastSent_94 8 rfl (by decide) rfl ?_
                refine r_goto (tgt := 26) d_S_chooseLeastSent_97 (by decide) ?_
                exact r_at ih_q rfl (by first | (rw [hbs]; done) | (rw [hbs, bI_n hbn]; done) | (rw [hbs, bI_n hbn2]; done)) rfl
theorem bsL_ch (c : CS) (V : Nat → Nat) (i o : Nat) (x : Int32) : ∀ n, bsL (c.s_chos V) i o x n = bsL c i o x n
  | 0 => rfl
  | n + 1 => by
    show (if n ≠ i ∧ told x n = true ∧ frs (c.s_chos V) o (nw (c.s_chos V) o) n = true ∧ (bsL (c.s_chos V) i o x n = 12 ∨ c.sent n < c.sent (bsL (c.s_chos V) i o x n)) then n else bsL (c.s_chos V) i o x n) = _
    rw [bsL_ch c V i o x n, nw_eq (c := c) (c' := c.s_chos V) rfl rfl rfl, frs_eq (c := c) (c' := c.s_chos V) rfl rfl rfl]
    rfl
theorem csX_ch (c : CS) (V : Nat → Nat) (i o : Nat) (x : Int32) : ∀ f, csX (c.s_chos V) i o x f = csX c i o x f
  | 0 => rfl
  | f + 1 => by
    unfold csX
    rw [csX_ch c V i o x f, bsL_ch]
theorem csB_ch (c : CS) (V : Nat → Nat) (i o : Nat) (x : Int32) (f : Nat) : csB (c.s_chos V) i o x f = csB c i o x f := by
  unfold csB
  rw [csX_ch, bsL_ch]
theorem csF_ch (c : CS) (V : Nat → Nat) (i o : Nat) (x : Int32) (Z : Nat → Nat) : ∀ f, csF (c.s_chos V) i o x Z f = csF c i o x Z f
  | 0 => rfl
  | f + 1 => by
    unfold csF
    rw [csF_ch c V i o x Z f, csB_ch]
theorem csN_ch (c : CS) (V : Nat → Nat) (i o : Nat) (x : Int32) : csN (c.s_chos V) i o x = csN c i o x := by
  unfold csN
  congr 1
  funext f
  rw [csB_ch]
theorem hcs_lh (c : CS) (i o : Nat) (x : Int32) (m : MS) (g : GX) (V : Nat → Nat) : hp g ((c.s_chos V).s_chos (csF (c.s_chos V) i o x (c.s_chos V).chos (csN (c.s_chos V) i o x))) m = hp g (c.s_chos (csF c i o x V (csN c i o x))) m := by
  rw [csF_ch, csN_ch]
  rfl
def hnO (c : CS) (i o : Nat) : Bool := stl c i o && decide (0 < nbS c o)
def lhW (c : CS) (i : Nat) (x : Int32) : Nat → Nat → Nat
  | 0 => c.chos
  | o + 1 => if hnO c i o = true then csF c i o x (lhW c i x o) (csN c i o x) else lhW c i x o
def lhN (c : CS) (i : Nat) (x : Int32) : Nat := lfF (fun o => !(hnO c i o && decide (csN c i o x < 8))) 6 0
def lhC (c : CS) (i : Nat) (x : Int32) : CS := c.s_chos (lhW c i x (if lhN c i x < 6 then lhN c i x + 1 else 6))
theorem csN_le (c : CS) (i o : Nat) (x : Int32) : csN c i o x ≤ 8 := by
  have q := (lfF_ge (fun f => decide (csB c i o x f ≠ 12)) 8 0).2
  unfold csN
  omega
theorem k_S_lacksHelpers {l : Launch} {g : GX} {c : CS} {m : MS} {n d : Nat} (hd : 4 ≤ d) {i : Nat} {x : Int32} (hi : i < 12) (hc : CI c) : CE l g M_S_lacksHelpers d 0 0 [.ref (aS g), .int (nI i), .int x] n (hp g c m) (some (.int (b2 (decide (lhN c i x < 6))))) n (hp g (lhC c i x) m) := by
  refine CE.of (by decide +kernel) (lv := [(0, .ref (aS g)), (1, .int (nI i)), (2, .int x)]) rfl (Nat.le_of_ble_eq_true rfl) ?_
  refine r_heap (h' := hp g (c.s_chos (lhW c i x 0)) m) rfl ?_
  refine r_iconst (v := nI 0) d_S_lacksHelpers_0 (by decide) ?_
  refine r_istore_n (lv' := [(0, _), (1, _), (2, _), (3, _)]) d_S_lacksHelpers_1 (by decide) rfl ?_
  refine back_ind (n := 6) (G := fun o => (∀ j, j < o → (hnO c i j && decide (csN c i j x < 8)) = false) → RJ l g M_S_lacksHelpers (RMX d 0 0) (TQ g 0 0 (QE (some (.int (b2 (decide (lhN c i x < 6))))) n (hp g (lhC c i x) m))) XT n (hp g (c.s_chos (lhW c i x o)) m) 0 0 2 [(0, .ref (aS g)), (1, .int (nI i)), (2, .int x), (3, .int (nI o))] []) ?_ ?_ 0 (Nat.zero_le _) (fun j hj => absurd hj (by omega))
  · skip
    intro hv_o
    have eN : lhN c i x = 6 := lfF_all (f := 6) (k := 0) (fun j _ hj => by rw [hv_o j (by omega)]; rfl)
    refine r_iload_n d_S_lacksHelpers_2 3 rfl ?_
    refine r_bipush (v := nI 6) d_S_lacksHelpers_3 (by decide) ?_
    refine r_icmp_geN (tgt := 45) d_S_lacksHelpers_5 (by decide) (by omega) (by omega) (fun c5 => ?_) (fun c5 => ?_)
    rotate_left 1
    · exfalso; first | omega | (revert c5; decide) | cases c5
    refine r_iconst (v := nI 0) d_S_lacksHelpers_45 (by decide) ?_
    refine r_ireturn d_S_lacksHelpers_46 rfl rfl ⟨?_, rfl, ?_⟩
    · exact vb0 (decide_eq_false (by omega))
    · unfold lhC; rw [eN, if_neg (by decide)]
  · intro o hb_o ih_o hv_o
    have hn8 := csN_le c i o x
    have hnb := nbS_lt (o := o) hc
    refine r_iload_n d_S_lacksHelpers_2 3 rfl ?_
    refine r_bipush (v := nI 6) d_S_lacksHelpers_3 (by decide) ?_
    refine r_icmp_geN (tgt := 45) d_S_lacksHelpers_5 (by decide) (by omega) (by omega) (fun c5 => ?_) (fun c5 => ?_)
    · exfalso; first | omega | (revert c5; decide) | cases c5
    refine r_aload_n d_S_lacksHelpers_8 0 rfl ?_
    refine r_iload_n d_S_lacksHelpers_9 1 rfl ?_
    refine r_iload_n d_S_lacksHelpers_10 3 rfl ?_
    refine rc_S_152 rfl d_S_lacksHelpers_11 (k_S_isStale (c := c.s_chos (lhW c i x o)) (by omega) hi hb_o hc) gS (room_ok (d' := d - 1) (by omega) (by decide)) ⟨Nat.le_refl _, Nat.le_refl _⟩ (Nat.le_of_ble_eq_true rfl) ?_
    refine r_top (y := b2 (stl c i o)) (congrArg b2 (stl_eq (c := c) (c' := c.s_chos (lhW c i x o)) rfl rfl rfl rfl)) ?_
    refine r_if_eqB (tgt := 39) d_S_lacksHelpers_14 (by decide) (fun c14 => ?_) (fun c14 => ?_)
    · skip
      have hh : hnO c i o = false := by simp [hnO, c14]
      have hno : (hnO c i o && decide (csN c i o x < 8)) = false := by rw [hh]; rfl
      have hwo : lhW c i x o = lhW c i x (o + 1) := (if_neg (by rw [hh]; decide)).symm
      refine r_iincN (lv' := [(0, _), (1, _), (2, _), (3, _)]) d_S_lacksHelpers_39 3 rfl (by decide) rfl ?_
      refine r_goto (tgt := 2) d_S_lacksHelpers_42 (by decide) ?_
      exact r_at (ih_o (fun j hj => by rcases Nat.lt_or_ge j o with q | q; exact hv_o j q; rw [show j = o by omega]; exact hno)) (congrArg (fun z => hp g (c.s_chos z) m) hwo) rfl rfl
    · skip
      refine r_aload_n d_S_lacksHelpers_17 0 rfl ?_
      refine r_iload_n d_S_lacksHelpers_18 3 rfl ?_
      refine rc_S_127 rfl d_S_lacksHelpers_19 (k_S_newestBytes (c := c.s_chos (lhW c i x o)) (by omega) hb_o hc) gS (room_ok (d' := d - 1) (by omega) (by decide)) ⟨Nat.le_refl _, Nat.le_refl _⟩ (Nat.le_of_ble_eq_true rfl) ?_
      refine r_top (y := nI (nbS c o)) (congrArg nI (nbS_eq (c := c) (c' := c.s_chos (lhW c i x o)) rfl rfl rfl rfl)) ?_
      refine r_if_leN (tgt := 39) d_S_lacksHelpers_22 (by decide) (by omega) (fun c22 => ?_) (fun c22 => ?_)
      · skip
        have hh : hnO c i o = false := by simp [hnO, c22]
        have hno : (hnO c i o && decide (csN c i o x < 8)) = false := by rw [hh]; rfl
        have hwo : lhW c i x o = lhW c i x (o + 1) := (if_neg (by rw [hh]; decide)).symm
        refine r_iincN (lv' := [(0, _), (1, _), (2, _), (3, _)]) d_S_lacksHelpers_39 3 rfl (by decide) rfl ?_
        refine r_goto (tgt := 2) d_S_lacksHelpers_42 (by decide) ?_
        exact r_at (ih_o (fun j hj => by rcases Nat.lt_or_ge j o with q | q; exact hv_o j q; rw [show j = o by omega]; exact hno)) (congrArg (fun z => hp g (c.s_chos z) m) hwo) rfl rfl
      · skip
        have hh : hnO c i o = true := by simp [hnO, c14, c22]
        have hwo : csF c i o x (lhW c i x o) (csN c i o x) = lhW c i x (o + 1) := (if_pos hh).symm
        refine r_aload_n d_S_lacksHelpers_25 0 rfl ?_
        refine r_iload_n d_S_lacksHelpers_26 1 rfl ?_
        refine r_iload_n d_S_lacksHelpers_27 3 rfl ?_
        refine r_iload_n d_S_lacksHelpers_28 2 rfl ?_
        refine rc_S_251 rfl d_S_lacksHelpers_29 (k_S_chooseLeastSent (c := c.s_chos (lhW c i x o)) (by omega) hi hb_o hc) gS (room_ok (d' := d - 1) (by omega) (by decide)) ⟨Nat.le_refl _, Nat.le_refl _⟩ (Nat.le_of_ble_eq_true rfl) ?_
        refine r_top (y := nI (csN c i o x)) (congrArg nI (csN_ch c _ i o x)) ?_
        refine r_heap (h' := hp g (c.s_chos (csF c i o x (lhW c i x o) (csN c i o x))) m) (hcs_lh c i o x m g _) ?_
        refine r_bipush (v := nI 8) d_S_lacksHelpers_32 (by decide) ?_
        refine r_icmp_geN (tgt := 39) d_S_lacksHelpers_34 (by decide) (by omega) (by omega) (fun c34 => ?_) (fun c34 => ?_)
        · skip
          have hno : (hnO c i o && decide (csN c i o x < 8)) = false := by rw [decide_eq_false (by omega), Bool.and_false]
          refine r_iincN (lv' := [(0, _), (1, _), (2, _), (3, _)]) d_S_lacksHelpers_39 3 rfl (by decide) rfl ?_
          refine r_goto (tgt := 2) d_S_lacksHelpers_42 (by decide) ?_
          exact r_at (ih_o (fun j hj => by rcases Nat.lt_or_ge j o with q | q; exact hv_o j q; rw [show j = o by omega]; exact hno)) (congrArg (fun z => hp g (c.s_chos z) m) hwo) rfl rfl
        · skip
          have eN : lhN c i x = o := lfF_at (f := 6) (k := 0) (fun j _ hj => by rw [hv_o j hj]; rfl) (by rw [hh, decide_eq_true (by omega)]; rfl) (Nat.zero_le _) (by omega)
          refine r_iconst (v := nI 1) d_S_lacksHelpers_37 (by decide) ?_
          refine r_ireturn d_S_lacksHelpers_38 rfl rfl ⟨?_, rfl, ?_⟩
          · exact vb1 (decide_eq_true (by omega))
          · unfold lhC; rw [eN, if_pos hb_o, hwo]
def rmL (c : CS) (i : Nat) : Nat → Int32
  | 0 => nI 40 - nI (frN c i)
  | o + 1 => if stl c i o = true then rmL c i o + (nI (stp (nbS c o)) - nI (rstr c i o)) else rmL c i o
def lrN (c : CS) (i : Nat) : Nat := lfF (fun o => decide (rmL c i (o + 1) ≤ nI 40)) 6 0
theorem k_S_lacksRoom {l : Launch} {g : GX} {c : CS} {m : MS} {n d : Nat} (hd : 4 ≤ d) {i : Nat} (hi : i < 12) (hc : CI c) : CE l g M_S_lacksRoom d 0 0 [.ref (aS g), .int (nI i)] n (hp g c m) (some (.int (b2 (decide (lrN c i < 6))))) n (hp g c m) := by
  refine CE.of (by decide +kernel) (lv := [(0, .ref (aS g)), (1, .int (nI i))]) rfl (Nat.le_of_ble_eq_true rfl) ?_
  refine r_bipush (v := nI 40) d_S_lacksRoom_0 (by decide) ?_
  refine r_aload_n d_S_lacksRoom_2 0 rfl ?_
  refine rg_S_18 rfl d_S_lacksRoom_3 gS rfl ?_
  refine r_iload_n d_S_lacksRoom_6 1 rfl ?_
  refine r_qld (t := 2) rfl d_S_lacksRoom_7 gNodes (by omega) (by decide) rfl ?_
  refine rc_S_140 rfl d_S_lacksRoom_8 (k_N_freeBlocks (by omega) hi) (gN (i := i) (by omega)) (room_ok (d' := d - 1) (by omega) (by decide)) ⟨Nat.le_refl _, Nat.le_refl _⟩ (Nat.le_of_ble_eq_true rfl) ?_
  refine r_isub d_S_lacksRoom_11 ?_
  refine r_istore_n (lv' := [(0, _), (1, _), (2, _)]) d_S_lacksRoom_12 (by decide) rfl ?_
  refine r_iconst (v := nI 0) d_S_lacksRoom_13 (by decide) ?_
  refine r_istore_n (lv' := [(0, _), (1, _), (2, _), (3, _)]) d_S_lacksRoom_14 (by decide) rfl ?_
  refine back_ind (n := 6) (G := fun o => (∀ j, j < o → rmL c i (j + 1) ≤ nI 40) → RJ l g M_S_lacksRoom (RMX d 0 0) (TQ g 0 0 (QE (some (.int (b2 (decide (lrN c i < 6))))) n (hp g c m))) XT n (hp g c m) 0 0 15 [(0, .ref (aS g)), (1, .int (nI i)), (2, .int (rmL c i o)), (3, .int (nI o))] []) ?_ ?_ 0 (Nat.zero_le _) (fun j hj => absurd hj (by omega))
  · skip
    intro hv_o
    have eN : lrN c i = 6 := lfF_all (f := 6) (k := 0) (fun j _ hj => decide_eq_true (hv_o j (by omega)))
    refine r_iload_n d_S_lacksRoom_15 3 rfl ?_
    refine r_bipush (v := nI 6) d_S_lacksRoom_16 (by decide) ?_
    refine r_icmp_geN (tgt := 70) d_S_lacksRoom_18 (by decide) (by omega) (by omega) (fun c18 => ?_) (fun c18 => ?_)
    rotate_left 1
    · exfalso; first | omega | (revert c18; decide) | cases c18
    refine r_iconst (v := nI 0) d_S_lacksRoom_70 (by decide) ?_
    refine r_ireturn d_S_lacksRoom_71 rfl rfl ⟨?_, rfl, ?_⟩
    · exact vb0 (decide_eq_false (by omega))
    · rfl
  · intro o hb_o ih_o hv_o
    have hnb := nbS_lt (o := o) hc
    have hq := rp_lt (c := c) (i := i) hb_o
    refine r_iload_n d_S_lacksRoom_15 3 rfl ?_
    refine r_bipush (v := nI 6) d_S_lacksRoom_16 (by decide) ?_
    refine r_icmp_geN (tgt := 70) d_S_lacksRoom_18 (by decide) (by omega) (by omega) (fun c18 => ?_) (fun c18 => ?_)
    · exfalso; first | omega | (revert c18; decide) | cases c18
    refine r_aload_n d_S_lacksRoom_21 0 rfl ?_
    refine r_iload_n d_S_lacksRoom_22 1 rfl ?_
    refine r_iload_n d_S_lacksRoom_23 3 rfl ?_
    refine rc_S_152 rfl d_S_lacksRoom_24 (k_S_isStale (by omega) hi hb_o hc) gS (room_ok (d' := d - 1) (by omega) (by decide)) ⟨Nat.le_refl _, Nat.le_refl _⟩ (Nat.le_of_ble_eq_true rfl) ?_
    refine r_if_eqB (tgt := 56) d_S_lacksRoom_27 (by decide) (fun c27 => ?_) (fun c27 => ?_)
    · skip
      have hr : rmL c i (o + 1) = rmL c i o := if_neg (by rw [c27]; decide)
      refine r_iload_n d_S_lacksRoom_56 2 rfl ?_
      refine r_bipush (v := nI 40) d_S_lacksRoom_57 (by decide) ?_
      refine r_icmp_le (tgt := 64) d_S_lacksRoom_59 (by decide) (fun c59 => ?_) (fun c59 => ?_)
      · skip
        refine r_iincN (lv' := [(0, _), (1, _), (2, _), (3, _)]) d_S_lacksRoom_64 3 rfl (by decide) rfl ?_
        refine r_goto (tgt := 15) d_S_lacksRoom_67 (by decide) ?_
        exact r_at (ih_o (fun j hj => by rcases Nat.lt_or_ge j o with q | q; exact hv_o j q; rw [show j = o by omega, hr]; exact c59)) rfl (by rw [hr]) rfl
      · skip
        have eN : lrN c i = o := lfF_at (f := 6) (k := 0) (fun j _ hj => decide_eq_true (hv_o j hj)) (decide_eq_false (by rw [hr]; exact c59)) (Nat.zero_le _) (by omega)
        refine r_iconst (v := nI 1) d_S_lacksRoom_62 (by decide) ?_
        refine r_ireturn d_S_lacksRoom_63 rfl rfl ⟨?_, rfl, ?_⟩
        · exact vb1 (decide_eq_true (by omega))
        · rfl
    · skip
      have hr : rmL c i (o + 1) = rmL c i o + (nI (stp (nbS c o)) - nI (rstr c i o)) := if_pos c27
      refine r_iload_n d_S_lacksRoom_30 2 rfl ?_
      refine r_aload_n d_S_lacksRoom_31 0 rfl ?_
      refine r_iload_n d_S_lacksRoom_32 3 rfl ?_
      refine rc_S_127 rfl d_S_lacksRoom_33 (k_S_newestBytes (by omega) hb_o hc) gS (room_ok (d' := d - 1) (by omega) (by decide)) ⟨Nat.le_refl _, Nat.le_refl _⟩ (Nat.le_of_ble_eq_true rfl) ?_
      refine rc_S_92 rfl d_S_lacksRoom_36 (k_S_stripesOf (by omega) hnb) (room_ok (d' := d - 1) (by omega) (by decide)) ⟨Nat.le_refl _, Nat.le_refl _⟩ (Nat.le_of_ble_eq_true rfl) ?_
      refine r_aload_n d_S_lacksRoom_39 0 rfl ?_
      refine rg_S_18 rfl d_S_lacksRoom_40 gS rfl ?_
      refine r_iload_n d_S_lacksRoom_43 1 rfl ?_
      refine r_qld (t := 2) rfl d_S_lacksRoom_44 gNodes (by omega) (by decide) rfl ?_
      refine rg_S_173 rfl d_S_lacksRoom_45 (gN (i := i) (by omega)) rfl ?_
      refine r_iload_n d_S_lacksRoom_48 3 rfl ?_
      refine r_qld (t := 3) rfl d_S_lacksRoom_49 (gR (i := i) (by omega)) (by omega) (by decide) rfl ?_
      refine rg_S_204 rfl d_S_lacksRoom_50 (gH (i := i) (p := rp c i o) (by omega) (by omega)) rfl ?_
      refine r_top (y := nI (rstr c i o)) rfl ?_
      refine r_isub d_S_lacksRoom_53 ?_
      refine r_iadd d_S_lacksRoom_54 ?_
      refine r_istore_n (lv' := [(0, _), (1, _), (2, _), (3, _)]) d_S_lacksRoom_55 (by decide) rfl ?_
      refine r_iload_n d_S_lacksRoom_56 2 rfl ?_
      refine r_bipush (v := nI 40) d_S_lacksRoom_57 (by decide) ?_
      refine r_icmp_le (tgt := 64) d_S_lacksRoom_59 (by decide) (fun c59 => ?_) (fun c59 => ?_)
      · skip
        refine r_iincN (lv' := [(0, _), (1, _), (2, _), (3, _)]) d_S_lacksRoom_64 3 rfl (by decide) rfl ?_
        refine r_goto (tgt := 15) d_S_lacksRoom_67 (by decide) ?_
        exact r_at (ih_o (fun j hj => by rcases Nat.lt_or_ge j o with q | q; exact hv_o j q; rw [show j = o by omega, hr]; exact c59)) rfl (by rw [hr]) rfl
      · skip
        have eN : lrN c i = o := lfF_at (f := 6) (k := 0) (fun j _ hj => decide_eq_true (hv_o j hj)) (decide_eq_false (by rw [hr]; exact c59)) (Nat.zero_le _) (by omega)
        refine r_iconst (v := nI 1) d_S_lacksRoom_62 (by decide) ?_
        refine r_ireturn d_S_lacksRoom_63 rfl rfl ⟨?_, rfl, ?_⟩
        · exact vb1 (decide_eq_true (by omega))
        · rfl
