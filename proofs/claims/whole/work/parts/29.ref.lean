def tdX (x : Int32) (i : Nat) : Int32 := x &&& (((nI 1) <<< (nI i &&& 31)) ^^^ (-1))
def mmL (m : MS) (i : Nat) : Nat → Int32
  | 0 => nI (usN m i)
  | o + 1 => if wtM m i o = true then mmL m i o + (nI (stp (szM m o)) - (if m.has (rx i o false) = true then nI (stp (m.size (rx i o false))) else nI 0)) else mmL m i o
def fuM (m : MS) (i : Nat) : Nat → Bool
  | 0 => false
  | o + 1 => if wtM m i o = true then (fuM m i o || decide (¬ mmL m i (o + 1) ≤ nI 40)) else fuM m i o
def rcW (m : MS) (i : Nat) (x : Int32) : Nat → Nat → Nat
  | 0 => m.chos
  | o + 1 => if wtM m i o = true ∧ 0 < szM m o then chF (selM m o (mnw m o) (tdX x i)) (rcW m i x o) 8 12 else rcW m i x o
def rfW (m : MS) (i : Nat) (x : Int32) (j : Nat) : MS := m.s_chos (chF (selM m j (mnw m j) (tdX x i)) (rcW m i x j) 8 12)
def rbLM (m : MS) (i : Nat) (x : Int32) : Nat → MS
  | 0 => m.s_chos (rcW m i x 6)
  | o + 1 => if wtM (rbLM m i x o) i o = true then rbMC (rbLM m i x o) i o (tdX x i) else rbLM m i x o
def rbSM (m : MS) (i : Nat) (x : Int32) : Nat → Nat
  | 0 => 0
  | o + 1 => if wtM (rbLM m i x o) i o = true then rbSM m i x o + 8 * stp (szM (rbLM m i x o) o) else rbSM m i x o
theorem wtM_nw {m : MS} {i o : Nat} (h : wtM m i o = true) : 0 < mnw m o := by
  unfold wtM at h
  simp at h
  exact h.1.2
theorem chos_eq (m : MS) (V : Nat → Nat) (o v : Nat) (x : Int32) : selM (m.s_chos V) o v x = selM m o v x := by
  rw [selM_eq (m := m) (m' := m.s_chos V) rfl rfl rfl]
theorem nw_chos (m : MS) (V : Nat → Nat) (o : Nat) : mnw (m.s_chos V) o = mnw m o := mnw_eq (m := m) rfl rfl rfl
theorem wt_chos (m : MS) (V : Nat → Nat) (i o : Nat) : wtM (m.s_chos V) i o = wtM m i o := wtM_eq (m := m) rfl rfl rfl rfl
theorem sz_chos (m : MS) (V : Nat → Nat) (o : Nat) : (m.s_chos V).size (rx (mff (m.s_chos V) o (mnw m o)) o false) = szM m o := by
  rw [mff_eq (m := m) (m' := m.s_chos V) rfl rfl rfl]
  rfl
theorem ff_chos (m : MS) (V : Nat → Nat) (o v : Nat) : mff (m.s_chos V) o v = mff m o v := mff_eq (m := m) rfl rfl rfl
theorem lh_chos (m : MS) (V : Nat → Nat) (o v : Nat) (x : Int32) (g : GX) (c : CS) : hp g c ((m.s_chos V).s_chos (chF (selM (m.s_chos V) o v x) (m.s_chos V).chos 8 12)) = hp g c (m.s_chos (chF (selM m o v x) V 8 12)) := by
  rw [chos_eq]
  rfl
theorem k_M_rebuildFew {l : Launch} {g : GX} {c : CS} {m : MS} {n d : Nat} (hd : 4 ≤ d) {i : Nat} {x : Int32} (hi : i < 12) (hm : MI m) (h : m.fail i = false) {j : Nat} (hj : j < 6) (hj1 : wtM m i j = true) (hj2 : 0 < szM m j) (hj3 : ct (selM m j (mnw m j) (tdX x i)) 12 < 8) (hbf : ∀ o, o < j → wtM m i o = true → 0 < szM m o → 8 ≤ ct (selM m o (mnw m o) (tdX x i)) 12) : CE l g M_M_rebuild d 0 0 [.ref (aM g), .int (nI i), .int x] n (hp g c m) (some (.int (-4))) n (hp g c (rfW m i x j)) := by
  refine CE.of (by decide +kernel) (lv := [(0, .ref (aM g)), (1, .int (nI i)), (2, .int x)]) rfl (Nat.le_of_ble_eq_true rfl) ?_
  refine r_iload_n d_M_rebuild_0 1 rfl ?_
  refine rc_M_72 rfl d_M_rebuild_1 (k_M_isNodeN (by omega) hi) (room_ok (d' := d - 1) (by omega) (by decide)) ⟨Nat.le_refl _, Nat.le_refl _⟩ (Nat.le_of_ble_eq_true rfl) ?_
  refine r_if_neB (tgt := 10) d_M_rebuild_4 (by decide) (fun c4 => ?_) (fun c4 => ?_)
  rotate_left 1
  · exfalso; first | omega | (revert c4; decide) | cases c4
  refine r_aload_n d_M_rebuild_10 0 rfl ?_
  refine rg_M_17 rfl d_M_rebuild_11 gM rfl ?_
  refine r_iload_n d_M_rebuild_14 1 rfl ?_
  refine r_zldB d_M_rebuild_15 gmFail (by omega) (by decide) ?_
  refine r_if_eqB (tgt := 22) d_M_rebuild_16 (by decide) (fun c16 => ?_) (fun c16 => ?_)
  rotate_left 1
  · exact absurd (h.symm.trans c16) (by decide)
  refine r_iload_n d_M_rebuild_22 2 rfl ?_
  refine r_iconst (v := nI 1) d_M_rebuild_23 (by decide) ?_
  refine r_iload_n d_M_rebuild_24 1 rfl ?_
  refine r_ishl d_M_rebuild_25 ?_
  refine r_iconst (v := (-1)) d_M_rebuild_26 (by decide) ?_
  refine r_ixor d_M_rebuild_27 ?_
  refine r_iand d_M_rebuild_28 ?_
  refine r_top (y := tdX x i) rfl ?_
  refine r_istore_n (lv' := [(0, _), (1, _), (2, _), (3, _)]) d_M_rebuild_29 (by decide) rfl ?_
  refine r_aload_n d_M_rebuild_30 0 rfl ?_
  refine r_iload_n d_M_rebuild_31 1 rfl ?_
  refine rc_M_131 rfl d_M_rebuild_32 (k_M_usedBy (by omega) hi) gM (room_ok (d' := d - 1) (by omega) (by decide)) ⟨Nat.le_refl _, Nat.le_refl _⟩ (Nat.le_of_ble_eq_true rfl) ?_
  refine r_top (y := mmL m i 0) rfl ?_
  refine r_istore (lv' := [(0, _), (1, _), (2, _), (3, _), (4, _)]) d_M_rebuild_35 (by decide) rfl ?_
  refine r_iconst (v := nI 0) d_M_rebuild_37 (by decide) ?_
  refine r_top (y := b2 (fuM m i 0)) rfl ?_
  refine r_istore (lv' := [(0, _), (1, _), (2, _), (3, _), (4, _), (5, _)]) d_M_rebuild_38 (by decide) rfl ?_
  refine r_iconst (v := nI 0) d_M_rebuild_40 (by decide) ?_
  refine r_istore (lv' := [(0, _), (1, _), (2, _), (3, _), (4, _), (5, _), (6, _)]) d_M_rebuild_41 (by decide) rfl ?_
  refine r_heap (h' := hp g c (m.s_chos (rcW m i x 0))) rfl ?_
  refine r_less (lv' := [(0, .ref (aM g)), (1, .int (nI i)), (2, .int x), (3, .int (tdX x i)), (4, .int (mmL m i 0)), (5, .int (b2 (fuM m i 0))), (6, .int (nI 0))]) (by simp) ?_
  refine back_ind (n := j) (G := fun o => RJ l g M_M_rebuild (RMX d 0 0) (TQ g 0 0 (QE (some (.int (-4))) n (hp g c (rfW m i x j)))) XT n (hp g c (m.s_chos (rcW m i x o))) 0 0 43 [(0, .ref (aM g)), (1, .int (nI i)), (2, .int x), (3, .int (tdX x i)), (4, .int (mmL m i o)), (5, .int (b2 (fuM m i o))), (6, .int (nI o))] []) ?_ ?_ 0 (Nat.zero_le _)
  · skip
    have hw := mnw_lt (o := j) hm
    have hsz := szM_le (o := j) hm
    have hc12 := ct_le (selM m j (mnw m j) (tdX x i)) 12
    refine r_iload d_M_rebuild_43 6 rfl ?_
    refine r_bipush (v := nI 6) d_M_rebuild_45 (by decide) ?_
    refine r_icmp_geN (tgt := 171) d_M_rebuild_47 (by decide) (by omega) (by omega) (fun c47 => ?_) (fun c47 => ?_)
    · exfalso; first | omega | (revert c47; decide) | cases c47
    refine r_aload_n d_M_rebuild_50 0 rfl ?_
    refine r_iload_n d_M_rebuild_51 1 rfl ?_
    refine r_iload d_M_rebuild_52 6 rfl ?_
    refine rc_M_162 rfl d_M_rebuild_54 (k_M_wants (m := m.s_chos (rcW m i x j)) (by omega) hi (by omega) hm) gM (room_ok (d' := d - 1) (by omega) (by decide)) ⟨Nat.le_refl _, Nat.le_refl _⟩ (Nat.le_of_ble_eq_true rfl) ?_
    refine r_top (y := b2 (wtM m i j)) (congrArg b2 (wt_chos m _ i _)) ?_
    refine r_if_eqB (tgt := 165) d_M_rebuild_57 (by decide) (fun c57 => ?_) (fun c57 => ?_)
    · exact absurd (hj1.symm.trans c57) (by decide)
    have hff := mff_nw (wtM_nw c57)
    refine r_aload_n d_M_rebuild_60 0 rfl ?_
    refine r_iload d_M_rebuild_61 6 rfl ?_
    refine rc_M_140 rfl d_M_rebuild_63 (k_M_newest (m := m.s_chos (rcW m i x j)) (by omega) (by omega) hm) gM (room_ok (d' := d - 1) (by omega) (by decide)) ⟨Nat.le_refl _, Nat.le_refl _⟩ (Nat.le_of_ble_eq_true rfl) ?_
    refine r_top (y := nI (mnw m j)) (congrArg nI (nw_chos m _ _)) ?_
    refine r_istore (lv' := [(0, _), (1, _), (2, _), (3, _), (4, _), (5, _), (6, _), (7, _)]) d_M_rebuild_66 (by decide) rfl ?_
    refine r_aload_n d_M_rebuild_68 0 rfl ?_
    refine r_iload d_M_rebuild_69 6 rfl ?_
    refine r_iload d_M_rebuild_71 7 rfl ?_
    refine rc_M_146 rfl d_M_rebuild_73 (k_M_sizeOf (m := m.s_chos (rcW m i x j)) (by omega) (by omega) hw hm (by rw [ff_chos]; exact hff)) gM (room_ok (d' := d - 1) (by omega) (by decide)) ⟨Nat.le_refl _, Nat.le_refl _⟩ (Nat.le_of_ble_eq_true rfl) ?_
    refine r_top (y := nI (szM m j)) (congrArg nI (sz_chos m _ _)) ?_
    refine r_istore (lv' := [(0, _), (1, _), (2, _), (3, _), (4, _), (5, _), (6, _), (7, _), (8, _)]) d_M_rebuild_76 (by decide) rfl ?_
    refine r_iload d_M_rebuild_78 8 rfl ?_
    refine r_if_leN (tgt := 102) d_M_rebuild_80 (by decide) (by omega) (fun c80 => ?_) (fun c80 => ?_)
    · exfalso; first | omega | (revert c80; decide) | cases c80
    refine r_aload_n d_M_rebuild_83 0 rfl ?_
    refine r_iload d_M_rebuild_84 6 rfl ?_
    refine r_iload d_M_rebuild_86 7 rfl ?_
    refine r_iload_n d_M_rebuild_88 3 rfl ?_
    refine r_bipush (v := nI 8) d_M_rebuild_89 (by decide) ?_
    refine rc_M_143 rfl d_M_rebuild_91 (k_M_choose (m := m.s_chos (rcW m i x j)) (mo := 8) (by omega) (by omega) hw (by decide) hm) gM (room_ok (d' := d - 1) (by omega) (by decide)) ⟨Nat.le_refl _, Nat.le_refl _⟩ (Nat.le_of_ble_eq_true rfl) ?_
    refine r_top (y := nI (ct (selM m j (mnw m j) (tdX x i)) 12)) (by rw [chos_eq]) ?_
    refine r_heap (h' := hp g c (m.s_chos (chF (selM m j (mnw m j) (tdX x i)) (rcW m i x j) 8 12))) (lh_chos m _ _ _ _ g c) ?_
    refine r_bipush (v := nI 8) d_M_rebuild_94 (by decide) ?_
    refine r_icmp_geN (tgt := 102) d_M_rebuild_96 (by decide) (by omega) (by omega) (fun c96 => ?_) (fun c96 => ?_)
    · exfalso; first | omega | (revert c96; decide) | cases c96
    refine r_bipush (v := (-4)) d_M_rebuild_99 (by decide) ?_
    refine r_ireturn d_M_rebuild_101 rfl rfl ⟨?_, rfl, ?_⟩
    · rfl
    · rfl
  · intro o hb_o ih_o
    have hb6 : o < 6 := by omega
    have hw := mnw_lt (o := o) hm
    have hsz := szM_le (o := o) hm
    have hr := rx_lt (z := false) hi hb6
    have hs1 := hm.1 (rx i o false)
    have hc12 := ct_le (selM m o (mnw m o) (tdX x i)) 12
    refine r_iload d_M_rebuild_43 6 rfl ?_
    refine r_bipush (v := nI 6) d_M_rebuild_45 (by decide) ?_
    refine r_icmp_geN (tgt := 171) d_M_rebuild_47 (by decide) (by omega) (by omega) (fun c47 => ?_) (fun c47 => ?_)
    · exfalso; first | omega | (revert c47; decide) | cases c47
    refine r_aload_n d_M_rebuild_50 0 rfl ?_
    refine r_iload_n d_M_rebuild_51 1 rfl ?_
    refine r_iload d_M_rebuild_52 6 rfl ?_
    refine rc_M_162 rfl d_M_rebuild_54 (k_M_wants (m := m.s_chos (rcW m i x o)) (by omega) hi (by omega) hm) gM (room_ok (d' := d - 1) (by omega) (by decide)) ⟨Nat.le_refl _, Nat.le_refl _⟩ (Nat.le_of_ble_eq_true rfl) ?_
    refine r_top (y := b2 (wtM m i o)) (congrArg b2 (wt_chos m _ i _)) ?_
    refine r_if_eqB (tgt := 165) d_M_rebuild_57 (by decide) (fun c57 => ?_) (fun c57 => ?_)
    · skip
      have hmm : mmL m i (o + 1) = mmL m i o := if_neg (by rw [c57]; decide)
      have hfu : fuM m i (o + 1) = fuM m i o := if_neg (by rw [c57]; decide)
      have hrc : rcW m i x o = rcW m i x (o + 1) := (if_neg (fun q => by rw [c57] at q; exact absurd q.1 (by decide))).symm
      refine r_iincN (lv' := [(0, _), (1, _), (2, _), (3, _), (4, _), (5, _), (6, _)]) d_M_rebuild_165 6 rfl (by decide) rfl ?_
      refine r_goto (tgt := 43) d_M_rebuild_168 (by decide) ?_
      exact r_at ih_o (congrArg (fun z => hp g c (m.s_chos z)) hrc) (by rw [hmm, hfu]; try rfl) rfl
    · skip
      have hnw := wtM_nw c57
      have hff := mff_nw hnw
      refine r_aload_n d_M_rebuild_60 0 rfl ?_
      refine r_iload d_M_rebuild_61 6 rfl ?_
      refine rc_M_140 rfl d_M_rebuild_63 (k_M_newest (m := m.s_chos (rcW m i x o)) (by omega) (by omega) hm) gM (room_ok (d' := d - 1) (by omega) (by decide)) ⟨Nat.le_refl _, Nat.le_refl _⟩ (Nat.le_of_ble_eq_true rfl) ?_
      refine r_top (y := nI (mnw m o)) (congrArg nI (nw_chos m _ _)) ?_
      refine r_istore (lv' := [(0, _), (1, _), (2, _), (3, _), (4, _), (5, _), (6, _), (7, _)]) d_M_rebuild_66 (by decide) rfl ?_
      refine r_aload_n d_M_rebuild_68 0 rfl ?_
      refine r_iload d_M_rebuild_69 6 rfl ?_
      refine r_iload d_M_rebuild_71 7 rfl ?_
      refine rc_M_146 rfl d_M_rebuild_73 (k_M_sizeOf (m := m.s_chos (rcW m i x o)) (by omega) (by omega) hw hm (by rw [ff_chos]; exact hff)) gM (room_ok (d' := d - 1) (by omega) (by decide)) ⟨Nat.le_refl _, Nat.le_refl _⟩ (Nat.le_of_ble_eq_true rfl) ?_
      refine r_top (y := nI (szM m o)) (congrArg nI (sz_chos m _ _)) ?_
      refine r_istore (lv' := [(0, _), (1, _), (2, _), (3, _), (4, _), (5, _), (6, _), (7, _), (8, _)]) d_M_rebuild_76 (by decide) rfl ?_
      refine r_iload d_M_rebuild_78 8 rfl ?_
      refine r_if_leN (tgt := 102) d_M_rebuild_80 (by decide) (by omega) (fun c80 => ?_) (fun c80 => ?_)
      · skip
        have hrc : rcW m i x o = rcW m i x (o + 1) := (if_neg (fun q => absurd q.2 (by omega))).symm
        refine r_iload_n d_M_rebuild_102 1 rfl ?_
        refine r_iload d_M_rebuild_103 6 rfl ?_
        refine r_iconst (v := nI 0) d_M_rebuild_105 (by decide) ?_
        refine rc_M_79 rfl d_M_rebuild_106 (k_M_at (i := i) (o := o) (z := false) (by omega)) (room_ok (d' := d - 1) (by omega) (by decide)) ⟨Nat.le_refl _, Nat.le_refl _⟩ (Nat.le_of_ble_eq_true rfl) ?_
        refine r_istore (lv' := [(0, _), (1, _), (2, _), (3, _), (4, _), (5, _), (6, _), (7, _), (8, _), (9, _)]) d_M_rebuild_109 (by decide) rfl ?_
        refine r_iload d_M_rebuild_111 4 rfl ?_
        refine r_iload d_M_rebuild_113 8 rfl ?_
        refine rc_M_83 rfl d_M_rebuild_115 (k_M_stripes (by omega) (by omega)) (room_ok (d' := d - 1) (by omega) (by decide)) ⟨Nat.le_refl _, Nat.le_refl _⟩ (Nat.le_of_ble_eq_true rfl) ?_
        refine r_aload_n d_M_rebuild_118 0 rfl ?_
        refine rg_M_30 rfl d_M_rebuild_119 gM rfl ?_
        refine r_iload d_M_rebuild_122 9 rfl ?_
        refine r_zldB d_M_rebuild_124 gmHas (by omega) (by decide) ?_
        refine r_top (y := b2 (m.has (rx i o false))) rfl ?_
        refine r_if_eqB (tgt := 141) d_M_rebuild_125 (by decide) (fun c125 => ?_) (fun c125 => ?_)
        · skip
          have hmm : mmL m i (o + 1) = mmL m i o + (nI (stp (szM m o)) - nI 0) := (if_pos c57).trans (by rw [if_neg (by rw [c125]; decide)])
          refine r_iconst (v := nI 0) d_M_rebuild_141 (by decide) ?_
          refine r_isub d_M_rebuild_142 ?_
          refine r_iadd d_M_rebuild_143 ?_
          refine r_istore (lv' := [(0, _), (1, _), (2, _), (3, _), (4, _), (5, _), (6, _), (7, _), (8, _), (9, _)]) d_M_rebuild_144 (by decide) rfl ?_
          refine r_iload d_M_rebuild_146 5 rfl ?_
          refine r_if_neB (tgt := 158) d_M_rebuild_148 (by decide) (fun c148 => ?_) (fun c148 => ?_)
          · skip
            have hfu : fuM m i (o + 1) = true := (if_pos c57).trans (by rw [c148]; rfl)
            refine r_iconst (v := nI 1) d_M_rebuild_158 (by decide) ?_
            refine r_goto (tgt := 163) d_M_rebuild_159 (by decide) ?_
            refine r_istore (lv' := [(0, _), (1, _), (2, _), (3, _), (4, _), (5, _), (6, _), (7, _), (8, _), (9, _)]) d_M_rebuild_163 (by decide) rfl ?_
            refine r_iincN (lv' := [(0, _), (1, _), (2, _), (3, _), (4, _), (5, _), (6, _), (7, _), (8, _), (9, _)]) d_M_rebuild_165 6 rfl (by decide) rfl ?_
            refine r_goto (tgt := 43) d_M_rebuild_168 (by decide) ?_
            refine r_less (lv' := [(0, .ref (aM g)), (1, .int (nI i)), (2, .int x), (3, .int (tdX x i)), (4, .int ((mmL m i o) + ((nI (stp (szM m o))) - (nI 0)))), (5, .int (nI 1)), (6, .int (nI (o + 1)))]) (by simp) ?_
            exact r_at ih_o (congrArg (fun z => hp g c (m.s_chos z)) hrc) (by rw [hmm, hfu]; try rfl) rfl
          · skip
            refine r_iload d_M_rebuild_151 4 rfl ?_
            refine r_bipush (v := nI 40) d_M_rebuild_153 (by decide) ?_
            refine r_icmp_le (tgt := 162) d_M_rebuild_155 (by decide) (fun c155 => ?_) (fun c155 => ?_)
            · skip
              have hfu : fuM m i (o + 1) = false := (if_pos c57).trans (by rw [c148, hmm, decide_eq_false (fun q => q c155)]; rfl)
              refine r_iconst (v := nI 0) d_M_rebuild_162 (by decide) ?_
              refine r_istore (lv' := [(0, _), (1, _), (2, _), (3, _), (4, _), (5, _), (6, _), (7, _), (8, _), (9, _)]) d_M_rebuild_163 (by decide) rfl ?_
              refine r_iincN (lv' := [(0, _), (1, _), (2, _), (3, _), (4, _), (5, _), (6, _), (7, _), (8, _), (9, _)]) d_M_rebuild_165 6 rfl (by decide) rfl ?_
              refine r_goto (tgt := 43) d_M_rebuild_168 (by decide) ?_
              refine r_less (lv' := [(0, .ref (aM g)), (1, .int (nI i)), (2, .int x), (3, .int (tdX x i)), (4, .int ((mmL m i o) + ((nI (stp (szM m o))) - (nI 0)))), (5, .int (nI 0)), (6, .int (nI (o + 1)))]) (by simp) ?_
              exact r_at ih_o (congrArg (fun z => hp g c (m.s_chos z)) hrc) (by rw [hmm, hfu]; try rfl) rfl
            · skip
              have hfu : fuM m i (o + 1) = true := (if_pos c57).trans (by rw [c148, hmm, decide_eq_true c155]; rfl)
              refine r_iconst (v := nI 1) d_M_rebuild_158 (by decide) ?_
              refine r_goto (tgt := 163) d_M_rebuild_159 (by decide) ?_
              refine r_istore (lv' := [(0, _), (1, _), (2, _), (3, _), (4, _), (5, _), (6, _), (7, _), (8, _), (9, _)]) d_M_rebuild_163 (by decide) rfl ?_
              refine r_iincN (lv' := [(0, _), (1, _), (2, _), (3, _), (4, _), (5, _), (6, _), (7, _), (8, _), (9, _)]) d_M_rebuild_165 6 rfl (by decide) rfl ?_
              refine r_goto (tgt := 43) d_M_rebuild_168 (by decide) ?_
              refine r_less (lv' := [(0, .ref (aM g)), (1, .int (nI i)), (2, .int x), (3, .int (tdX x i)), (4, .int ((mmL m i o) + ((nI (stp (szM m o))) - (nI 0)))), (5, .int (nI 1)), (6, .int (nI (o + 1)))]) (by simp) ?_
              exact r_at ih_o (congrArg (fun z => hp g c (m.s_chos z)) hrc) (by rw [hmm, hfu]; try rfl) rfl
        · skip
          have hmm : mmL m i (o + 1) = mmL m i o + (nI (stp (szM m o)) - nI (stp (m.size (rx i o false)))) := (if_pos c57).trans (by rw [if_pos c125])
          refine r_aload_n d_M_rebuild_128 0 rfl ?_
          refine rg_M_36 rfl d_M_rebuild_129 gM rfl ?_
          refine r_iload d_M_rebuild_132 9 rfl ?_
          refine r_aldN d_M_rebuild_134 gmSize (by omega) (by decide) ?_
          refine r_top (y := nI (m.size (rx i o false))) rfl ?_
          refine rc_M_83 rfl d_M_rebuild_135 (k_M_stripes (by omega) (by omega)) (room_ok (d' := d - 1) (by omega) (by decide)) ⟨Nat.le_refl _, Nat.le_refl _⟩ (Nat.le_of_ble_eq_true rfl) ?_
          refine r_goto (tgt := 142) d_M_rebuild_138 (by decide) ?_
          refine r_isub d_M_rebuild_142 ?_
          refine r_iadd d_M_rebuild_143 ?_
          refine r_istore (lv' := [(0, _), (1, _), (2, _), (3, _), (4, _), (5, _), (6, _), (7, _), (8, _), (9, _)]) d_M_rebuild_144 (by decide) rfl ?_
          refine r_iload d_M_rebuild_146 5 rfl ?_
          refine r_if_neB (tgt := 158) d_M_rebuild_148 (by decide) (fun c148 => ?_) (fun c148 => ?_)
          · skip
            have hfu : fuM m i (o + 1) = true := (if_pos c57).trans (by rw [c148]; rfl)
            refine r_iconst (v := nI 1) d_M_rebuild_158 (by decide) ?_
            refine r_goto (tgt := 163) d_M_rebuild_159 (by decide) ?_
            refine r_istore (lv' := [(0, _), (1, _), (2, _), (3, _), (4, _), (5, _), (6, _), (7, _), (8, _), (9, _)]) d_M_rebuild_163 (by decide) rfl ?_
            refine r_iincN (lv' := [(0, _), (1, _), (2, _), (3, _), (4, _), (5, _), (6, _), (7, _), (8, _), (9, _)]) d_M_rebuild_165 6 rfl (by decide) rfl ?_
            refine r_goto (tgt := 43) d_M_rebuild_168 (by decide) ?_
            refine r_less (lv' := [(0, .ref (aM g)), (1, .int (nI i)), (2, .int x), (3, .int (tdX x i)), (4, .int ((mmL m i o) + ((nI (stp (szM m o))) - (nI (stp (m.size (rx i o false))))))), (5, .int (nI 1)), (6, .int (nI (o + 1)))]) (by simp) ?_
            exact r_at ih_o (congrArg (fun z => hp g c (m.s_chos z)) hrc) (by rw [hmm, hfu]; try rfl) rfl
          · skip
            refine r_iload d_M_rebuild_151 4 rfl ?_
            refine r_bipush (v := nI 40) d_M_rebuild_153 (by decide) ?_
            refine r_icmp_le (tgt := 162) d_M_rebuild_155 (by decide) (fun c155 => ?_) (fun c155 => ?_)
            · skip
              have hfu : fuM m i (o + 1) = false := (if_pos c57).trans (by rw [c148, hmm, decide_eq_false (fun q => q c155)]; rfl)
              refine r_iconst (v := nI 0) d_M_rebuild_162 (by decide) ?_
              refine r_istore (lv' := [(0, _), (1, _), (2, _), (3, _), (4, _), (5, _), (6, _), (7, _), (8, _), (9, _)]) d_M_rebuild_163 (by decide) rfl ?_
              refine r_iincN (lv' := [(0, _), (1, _), (2, _), (3, _), (4, _), (5, _), (6, _), (7, _), (8, _), (9, _)]) d_M_rebuild_165 6 rfl (by decide) rfl ?_
              refine r_goto (tgt := 43) d_M_rebuild_168 (by decide) ?_
              refine r_less (lv' := [(0, .ref (aM g)), (1, .int (nI i)), (2, .int x), (3, .int (tdX x i)), (4, .int ((mmL m i o) + ((nI (stp (szM m o))) - (nI (stp (m.size (rx i o false))))))), (5, .int (nI 0)), (6, .int (nI (o + 1)))]) (by simp) ?_
              exact r_at ih_o (congrArg (fun z => hp g c (m.s_chos z)) hrc) (by rw [hmm, hfu]; try rfl) rfl
            · skip
              have hfu : fuM m i (o + 1) = true := (if_pos c57).trans (by rw [c148, hmm, decide_eq_true c155]; rfl)
              refine r_iconst (v := nI 1) d_M_rebuild_158 (by decide) ?_
              refine r_goto (tgt := 163) d_M_rebuild_159 (by decide) ?_
              refine r_istore (lv' := [(0, _), (1, _), (2, _), (3, _), (4, _), (5, _), (6, _), (7, _), (8, _), (9, _)]) d_M_rebuild_163 (by decide) rfl ?_
              refine r_iincN (lv' := [(0, _), (1, _), (2, _), (3, _), (4, _), (5, _), (6, _), (7, _), (8, _), (9, _)]) d_M_rebuild_165 6 rfl (by decide) rfl ?_
              refine r_goto (tgt := 43) d_M_rebuild_168 (by decide) ?_
              refine r_less (lv' := [(0, .ref (aM g)), (1, .int (nI i)), (2, .int x), (3, .int (tdX x i)), (4, .int ((mmL m i o) + ((nI (stp (szM m o))) - (nI (stp (m.size (rx i o false))))))), (5, .int (nI 1)), (6, .int (nI (o + 1)))]) (by simp) ?_
              exact r_at ih_o (congrArg (fun z => hp g c (m.s_chos z)) hrc) (by rw [hmm, hfu]; try rfl) rfl
      · skip
        have hrc : chF (selM m o (mnw m o) (tdX x i)) (rcW m i x o) 8 12 = rcW m i x (o + 1) := (if_pos ⟨c57, c80⟩).symm
        refine r_aload_n d_M_rebuild_83 0 rfl ?_
        refine r_iload d_M_rebuild_84 6 rfl ?_
        refine r_iload d_M_rebuild_86 7 rfl ?_
        refine r_iload_n d_M_rebuild_88 3 rfl ?_
        refine r_bipush (v := nI 8) d_M_rebuild_89 (by decide) ?_
        refine rc_M_143 rfl d_M_rebuild_91 (k_M_choose (m := m.s_chos (rcW m i x o)) (mo := 8) (by omega) (by omega) hw (by decide) hm) gM (room_ok (d' := d - 1) (by omega) (by decide)) ⟨Nat.le_refl _, Nat.le_refl _⟩ (Nat.le_of_ble_eq_true rfl) ?_
        refine r_top (y := nI (ct (selM m o (mnw m o) (tdX x i)) 12)) (by rw [chos_eq]) ?_
        refine r_heap (h' := hp g c (m.s_chos (chF (selM m o (mnw m o) (tdX x i)) (rcW m i x o) 8 12))) (lh_chos m _ _ _ _ g c) ?_
        refine r_bipush (v := nI 8) d_M_rebuild_94 (by decide) ?_
        refine r_icmp_geN (tgt := 102) d_M_rebuild_96 (by decide) (by omega) (by omega) (fun c96 => ?_) (fun c96 => ?_)
        rotate_left 1
        · exact absurd (hbf o hb_o c57 c80) (by omega)
        refine r_iload_n d_M_rebuild_102 1 rfl ?_
        refine r_iload d_M_rebuild_103 6 rfl ?_
        refine r_iconst (v := nI 0) d_M_rebuild_105 (by decide) ?_
        refine rc_M_79 rfl d_M_rebuild_106 (k_M_at (i := i) (o := o) (z := false) (by omega)) (room_ok (d' := d - 1) (by omega) (by decide)) ⟨Nat.le_refl _, Nat.le_refl _⟩ (Nat.le_of_ble_eq_true rfl) ?_
        refine r_istore (lv' := [(0, _), (1, _), (2, _), (3, _), (4, _), (5, _), (6, _), (7, _), (8, _), (9, _)]) d_M_rebuild_109 (by decide) rfl ?_
        refine r_iload d_M_rebuild_111 4 rfl ?_
        refine r_iload d_M_rebuild_113 8 rfl ?_
        refine rc_M_83 rfl d_M_rebuild_115 (k_M_stripes (by omega) (by omega)) (room_ok (d' := d - 1) (by omega) (by decide)) ⟨Nat.le_refl _, Nat.le_refl _⟩ (Nat.le_of_ble_eq_true rfl) ?_
        refine r_aload_n d_M_rebuild_118 0 rfl ?_
        refine rg_M_30 rfl d_M_rebuild_119 gM rfl ?_
        refine r_iload d_M_rebuild_122 9 rfl ?_
        refine r_zldB d_M_rebuild_124 gmHas (by omega) (by decide) ?_
        refine r_top (y := b2 (m.has (rx i o false))) rfl ?_
        refine r_if_eqB (tgt := 141) d_M_rebuild_125 (by decide) (fun c125 => ?_) (fun c125 => ?_)
        · skip
          have hmm : mmL m i (o + 1) = mmL m i o + (nI (stp (szM m o)) - nI 0) := (if_pos c57).trans (by rw [if_neg (by rw [c125]; decide)])
          refine r_iconst (v := nI 0) d_M_rebuild_141 (by decide) ?_
          refine r_isub d_M_rebuild_142 ?_
          refine r_iadd d_M_rebuild_143 ?_
          refine r_istore (lv' := [(0, _), (1, _), (2, _), (3, _), (4, _), (5, _), (6, _), (7, _), (8, _), (9, _)]) d_M_rebuild_144 (by decide) rfl ?_
          refine r_iload d_M_rebuild_146 5 rfl ?_
          refine r_if_neB (tgt := 158) d_M_rebuild_148 (by decide) (fun c148 => ?_) (fun c148 => ?_)
          · skip
            have hfu : fuM m i (o + 1) = true := (if_pos c57).trans (by rw [c148]; rfl)
            refine r_iconst (v := nI 1) d_M_rebuild_158 (by decide) ?_
            refine r_goto (tgt := 163) d_M_rebuild_159 (by decide) ?_
            refine r_istore (lv' := [(0, _), (1, _), (2, _), (3, _), (4, _), (5, _), (6, _), (7, _), (8, _), (9, _)]) d_M_rebuild_163 (by decide) rfl ?_
            refine r_iincN (lv' := [(0, _), (1, _), (2, _), (3, _), (4, _), (5, _), (6, _), (7, _), (8, _), (9, _)]) d_M_rebuild_165 6 rfl (by decide) rfl ?_
            refine r_goto (tgt := 43) d_M_rebuild_168 (by decide) ?_
            refine r_less (lv' := [(0, .ref (aM g)), (1, .int (nI i)), (2, .int x), (3, .int (tdX x i)), (4, .int ((mmL m i o) + ((nI (stp (szM m o))) - (nI 0)))), (5, .int (nI 1)), (6, .int (nI (o + 1)))]) (by simp) ?_
            exact r_at ih_o (congrArg (fun z => hp g c (m.s_chos z)) hrc) (by rw [hmm, hfu]; try rfl) rfl
          · skip
            refine r_iload d_M_rebuild_151 4 rfl ?_
            refine r_bipush (v := nI 40) d_M_rebuild_153 (by decide) ?_
            refine r_icmp_le (tgt := 162) d_M_rebuild_155 (by decide) (fun c155 => ?_) (fun c155 => ?_)
            · skip
              have hfu : fuM m i (o + 1) = false := (if_pos c57).trans (by rw [c148, hmm, decide_eq_false (fun q => q c155)]; rfl)
              refine r_iconst (v := nI 0) d_M_rebuild_162 (by decide) ?_
              refine r_istore (lv' := [(0, _), (1, _), (2, _), (3, _), (4, _), (5, _), (6, _), (7, _), (8, _), (9, _)]) d_M_rebuild_163 (by decide) rfl ?_
              refine r_iincN (lv' := [(0, _), (1, _), (2, _), (3, _), (4, _), (5, _), (6, _), (7, _), (8, _), (9, _)]) d_M_rebuild_165 6 rfl (by decide) rfl ?_
              refine r_goto (tgt := 43) d_M_rebuild_168 (by decide) ?_
              refine r_less (lv' := [(0, .ref (aM g)), (1, .int (nI i)), (2, .int x), (3, .int (tdX x i)), (4, .int ((mmL m i o) + ((nI (stp (szM m o))) - (nI 0)))), (5, .int (nI 0)), (6, .int (nI (o + 1)))]) (by simp) ?_
              exact r_at ih_o (congrArg (fun z => hp g c (m.s_chos z)) hrc) (by rw [hmm, hfu]; try rfl) rfl
            · skip
              have hfu : fuM m i (o + 1) = true := (if_pos c57).trans (by rw [c148, hmm, decide_eq_true c155]; rfl)
              refine r_iconst (v := nI 1) d_M_rebuild_158 (by decide) ?_
              refine r_goto (tgt := 163) d_M_rebuild_159 (by decide) ?_
              refine r_istore (lv' := [(0, _), (1, _), (2, _), (3, _), (4, _), (5, _), (6, _), (7, _), (8, _), (9, _)]) d_M_rebuild_163 (by decide) rfl ?_
              refine r_iincN (lv' := [(0, _), (1, _), (2, _), (3, _), (4, _), (5, _), (6, _), (7, _), (8, _), (9, _)]) d_M_rebuild_165 6 rfl (by decide) rfl ?_
              refine r_goto (tgt := 43) d_M_rebuild_168 (by decide) ?_
              refine r_less (lv' := [(0, .ref (aM g)), (1, .int (nI i)), (2, .int x), (3, .int (tdX x i)), (4, .int ((mmL m i o) + ((nI (stp (szM m o))) - (nI 0)))), (5, .int (nI 1)), (6, .int (nI (o + 1)))]) (by simp) ?_
              exact r_at ih_o (congrArg (fun z => hp g c (m.s_chos z)) hrc) (by rw [hmm, hfu]; try rfl) rfl
        · skip
          have hmm : mmL m i (o + 1) = mmL m i o + (nI (stp (szM m o)) - nI (stp (m.size (rx i o false)))) := (if_pos c57).trans (by rw [if_pos c125])
          refine r_aload_n d_M_rebuild_128 0 rfl ?_
          refine rg_M_36 rfl d_M_rebuild_129 gM rfl ?_
          refine r_iload d_M_rebuild_132 9 rfl ?_
          refine r_aldN d_M_rebuild_134 gmSize (by omega) (by decide) ?_
          refine r_top (y := nI (m.size (rx i o false))) rfl ?_
          refine rc_M_83 rfl d_M_rebuild_135 (k_M_stripes (by omega) (by omega)) (room_ok (d' := d - 1) (by omega) (by decide)) ⟨Nat.le_refl _, Nat.le_refl _⟩ (Nat.le_of_ble_eq_true rfl) ?_
          refine r_goto (tgt := 142) d_M_rebuild_138 (by decide) ?_
          refine r_isub d_M_rebuild_142 ?_
          refine r_iadd d_M_rebuild_143 ?_
          refine r_istore (lv' := [(0, _), (1, _), (2, _), (3, _), (4, _), (5, _), (6, _), (7, _), (8, _), (9, _)]) d_M_rebuild_144 (by decide) rfl ?_
          refine r_iload d_M_rebuild_146 5 rfl ?_
          refine r_if_neB (tgt := 158) d_M_rebuild_148 (by decide) (fun c148 => ?_) (fun c148 => ?_)
          · skip
            have hfu : fuM m i (o + 1) = true := (if_pos c57).trans (by rw [c148]; rfl)
            refine r_iconst (v := nI 1) d_M_rebuild_158 (by decide) ?_
            refine r_goto (tgt := 163) d_M_rebuild_159 (by decide) ?_
            refine r_istore (lv' := [(0, _), (1, _), (2, _), (3, _), (4, _), (5, _), (6, _), (7, _), (8, _), (9, _)]) d_M_rebuild_163 (by decide) rfl ?_
            refine r_iincN (lv' := [(0, _), (1, _), (2, _), (3, _), (4, _), (5, _), (6, _), (7, _), (8, _), (9, _)]) d_M_rebuild_165 6 rfl (by decide) rfl ?_
            refine r_goto (tgt := 43) d_M_rebuild_168 (by decide) ?_
            refine r_less (lv' := [(0, .ref (aM g)), (1, .int (nI i)), (2, .int x), (3, .int (tdX x i)), (4, .int ((mmL m i o) + ((nI (stp (szM m o))) - (nI (stp (m.size (rx i o false))))))), (5, .int (nI 1)), (6, .int (nI (o + 1)))]) (by simp) ?_
            exact r_at ih_o (congrArg (fun z => hp g c (m.s_chos z)) hrc) (by rw [hmm, hfu]; try rfl) rfl
          · skip
            refine r_iload d_M_rebuild_151 4 rfl ?_
            refine r_bipush (v := nI 40) d_M_rebuild_153 (by decide) ?_
            refine r_icmp_le (tgt := 162) d_M_rebuild_155 (by decide) (fun c155 => ?_) (fun c155 => ?_)
            · skip
              have hfu : fuM m i (o + 1) = false := (if_pos c57).trans (by rw [c148, hmm, decide_eq_false (fun q => q c155)]; rfl)
              refine r_iconst (v := nI 0) d_M_rebuild_162 (by decide) ?_
              refine r_istore (lv' := [(0, _), (1, _), (2, _), (3, _), (4, _), (5, _), (6, _), (7, _), (8, _), (9, _)]) d_M_rebuild_163 (by decide) rfl ?_
              refine r_iincN (lv' := [(0, _), (1, _), (2, _), (3, _), (4, _), (5, _), (6, _), (7, _), (8, _), (9, _)]) d_M_rebuild_165 6 rfl (by decide) rfl ?_
              refine r_goto (tgt := 43) d_M_rebuild_168 (by decide) ?_
              refine r_less (lv' := [(0, .ref (aM g)), (1, .int (nI i)), (2, .int x), (3, .int (tdX x i)), (4, .int ((mmL m i o) + ((nI (stp (szM m o))) - (nI (stp (m.size (rx i o false))))))), (5, .int (nI 0)), (6, .int (nI (o + 1)))]) (by simp) ?_
              exact r_at ih_o (congrArg (fun z => hp g c (m.s_chos z)) hrc) (by rw [hmm, hfu]; try rfl) rfl
            · skip
              have hfu : fuM m i (o + 1) = true := (if_pos c57).trans (by rw [c148, hmm, decide_eq_true c155]; rfl)
              refine r_iconst (v := nI 1) d_M_rebuild_158 (by decide) ?_
              refine r_goto (tgt := 163) d_M_rebuild_159 (by decide) ?_
              refine r_istore (lv' := [(0, _), (1, _), (2, _), (3, _), (4, _), (5, _), (6, _), (7, _), (8, _), (9, _)]) d_M_rebuild_163 (by decide) rfl ?_
              refine r_iincN (lv' := [(0, _), (1, _), (2, _), (3, _), (4, _), (5, _), (6, _), (7, _), (8, _), (9, _)]) d_M_rebuild_165 6 rfl (by decide) rfl ?_
              refine r_goto (tgt := 43) d_M_rebuild_168 (by decide) ?_
              refine r_less (lv' := [(0, .ref (aM g)), (1, .int (nI i)), (2, .int x), (3, .int (tdX x i)), (4, .int ((mmL m i o) + ((nI (stp (szM m o))) - (nI (stp (m.size (rx i o false))))))), (5, .int (nI 1)), (6, .int (nI (o + 1)))]) (by simp) ?_
              exact r_at ih_o (congrArg (fun z => hp g c (m.s_chos z)) hrc) (by rw [hmm, hfu]; try rfl) rfl
theorem k_M_rebuildFull {l : Launch} {g : GX} {c : CS} {m : MS} {n d : Nat} (hd : 4 ≤ d) {i : Nat} {x : Int32} (hi : i < 12) (hm : MI m) (h : m.fail i = false) (hok : ∀ o, o < 6 → wtM m i o = true → 0 < szM m o → 8 ≤ ct (selM m o (mnw m o) (tdX x i)) 12) (hfull : fuM m i 6 = true) : CE l g M_M_rebuild d 0 0 [.ref (aM g), .int (nI i), .int x] n (hp g c m) (some (.int (-5))) n (hp g c (m.s_chos (rcW m i x 6))) := by
  refine CE.of (by decide +kernel) (lv := [(0, .ref (aM g)), (1, .int (nI i)), (2, .int x)]) rfl (Nat.le_of_ble_eq_true rfl) ?_
  refine r_iload_n d_M_rebuild_0 1 rfl ?_
  refine rc_M_72 rfl d_M_rebuild_1 (k_M_isNodeN (by omega) hi) (room_ok (d' := d - 1) (by omega) (by decide)) ⟨Nat.le_refl _, Nat.le_refl _⟩ (Nat.le_of_ble_eq_true rfl) ?_
  refine r_if_neB (tgt := 10) d_M_rebuild_4 (by decide) (fun c4 => ?_) (fun c4 => ?_)
  rotate_left 1
  · exfalso; first | omega | (revert c4; decide) | cases c4
  refine r_aload_n d_M_rebuild_10 0 rfl ?_
  refine rg_M_17 rfl d_M_rebuild_11 gM rfl ?_
  refine r_iload_n d_M_rebuild_14 1 rfl ?_
  refine r_zldB d_M_rebuild_15 gmFail (by omega) (by decide) ?_
  refine r_if_eqB (tgt := 22) d_M_rebuild_16 (by decide) (fun c16 => ?_) (fun c16 => ?_)
  rotate_left 1
  · exact absurd (h.symm.trans c16) (by decide)
  refine r_iload_n d_M_rebuild_22 2 rfl ?_
  refine r_iconst (v := nI 1) d_M_rebuild_23 (by decide) ?_
  refine r_iload_n d_M_rebuild_24 1 rfl ?_
  refine r_ishl d_M_rebuild_25 ?_
  refine r_iconst (v := (-1)) d_M_rebuild_26 (by decide) ?_
  refine r_ixor d_M_rebuild_27 ?_
  refine r_iand d_M_rebuild_28 ?_
  refine r_top (y := tdX x i) rfl ?_
  refine r_istore_n (lv' := [(0, _), (1, _), (2, _), (3, _)]) d_M_rebuild_29 (by decide) rfl ?_
  refine r_aload_n d_M_rebuild_30 0 rfl ?_
  refine r_iload_n d_M_rebuild_31 1 rfl ?_
  refine rc_M_131 rfl d_M_rebuild_32 (k_M_usedBy (by omega) hi) gM (room_ok (d' := d - 1) (by omega) (by decide)) ⟨Nat.le_refl _, Nat.le_refl _⟩ (Nat.le_of_ble_eq_true rfl) ?_
  refine r_top (y := mmL m i 0) rfl ?_
  refine r_istore (lv' := [(0, _), (1, _), (2, _), (3, _), (4, _)]) d_M_rebuild_35 (by decide) rfl ?_
  refine r_iconst (v := nI 0) d_M_rebuild_37 (by decide) ?_
  refine r_top (y := b2 (fuM m i 0)) rfl ?_
  refine r_istore (lv' := [(0, _), (1, _), (2, _), (3, _), (4, _), (5, _)]) d_M_rebuild_38 (by decide) rfl ?_
  refine r_iconst (v := nI 0) d_M_rebuild_40 (by decide) ?_
  refine r_istore (lv' := [(0, _), (1, _), (2, _), (3, _), (4, _), (5, _), (6, _)]) d_M_rebuild_41 (by decide) rfl ?_
  refine r_heap (h' := hp g c (m.s_chos (rcW m i x 0))) rfl ?_
  refine r_less (lv' := [(0, .ref (aM g)), (1, .int (nI i)), (2, .int x), (3, .int (tdX x i)), (4, .int (mmL m i 0)), (5, .int (b2 (fuM m i 0))), (6, .int (nI 0))]) (by simp) ?_
  refine back_ind (n := 6) (G := fun o => RJ l g M_M_rebuild (RMX d 0 0) (TQ g 0 0 (QE (some (.int (-5))) n (hp g c (m.s_chos (rcW m i x 6))))) XT n (hp g c (m.s_chos (rcW m i x o))) 0 0 43 [(0, .ref (aM g)), (1, .int (nI i)), (2, .int x), (3, .int (tdX x i)), (4, .int (mmL m i o)), (5, .int (b2 (fuM m i o))), (6, .int (nI o))] []) ?_ ?_ 0 (Nat.zero_le _)
  · skip
    skip
    refine r_iload d_M_rebuild_43 6 rfl ?_
    refine r_bipush (v := nI 6) d_M_rebuild_45 (by decide) ?_
    refine r_icmp_geN (tgt := 171) d_M_rebuild_47 (by decide) (by omega) (by omega) (fun c47 => ?_) (fun c47 => ?_)
    rotate_left 1
    · exfalso; first | omega | (revert c47; decide) | cases c47
    refine r_iload d_M_rebuild_171 5 rfl ?_
    refine r_if_eqB (tgt := 179) d_M_rebuild_173 (by decide) (fun c173 => ?_) (fun c173 => ?_)
    · exact absurd (hfull.symm.trans c173) (by decide)
    refine r_bipush (v := (-5)) d_M_rebuild_176 (by decide) ?_
    refine r_ireturn d_M_rebuild_178 rfl rfl ⟨?_, rfl, ?_⟩
    · rfl
    · rfl
  · intro o hb_o ih_o
    have hb6 : o < 6 := by omega
    have hw := mnw_lt (o := o) hm
    have hsz := szM_le (o := o) hm
    have hr := rx_lt (z := false) hi hb6
    have hs1 := hm.1 (rx i o false)
    have hc12 := ct_le (selM m o (mnw m o) (tdX x i)) 12
    refine r_iload d_M_rebuild_43 6 rfl ?_
    refine r_bipush (v := nI 6) d_M_rebuild_45 (by decide) ?_
    refine r_icmp_geN (tgt := 171) d_M_rebuild_47 (by decide) (by omega) (by omega) (fun c47 => ?_) (fun c47 => ?_)
    · exfalso; first | omega | (revert c47; decide) | cases c47
    refine r_aload_n d_M_rebuild_50 0 rfl ?_
    refine r_iload_n d_M_rebuild_51 1 rfl ?_
    refine r_iload d_M_rebuild_52 6 rfl ?_
    refine rc_M_162 rfl d_M_rebuild_54 (k_M_wants (m := m.s_chos (rcW m i x o)) (by omega) hi (by omega) hm) gM (room_ok (d' := d - 1) (by omega) (by decide)) ⟨Nat.le_refl _, Nat.le_refl _⟩ (Nat.le_of_ble_eq_true rfl) ?_
    refine r_top (y := b2 (wtM m i o)) (congrArg b2 (wt_chos m _ i _)) ?_
    refine r_if_eqB (tgt := 165) d_M_rebuild_57 (by decide) (fun c57 => ?_) (fun c57 => ?_)
    · skip
      have hmm : mmL m i (o + 1) = mmL m i o := if_neg (by rw [c57]; decide)
      have hfu : fuM m i (o + 1) = fuM m i o := if_neg (by rw [c57]; decide)
      have hrc : rcW m i x o = rcW m i x (o + 1) := (if_neg (fun q => by rw [c57] at q; exact absurd q.1 (by decide))).symm
      refine r_iincN (lv' := [(0, _), (1, _), (2, _), (3, _), (4, _), (5, _), (6, _)]) d_M_rebuild_165 6 rfl (by decide) rfl ?_
      refine r_goto (tgt := 43) d_M_rebuild_168 (by decide) ?_
      exact r_at ih_o (congrArg (fun z => hp g c (m.s_chos z)) hrc) (by rw [hmm, hfu]; try rfl) rfl
    · skip
      have hnw := wtM_nw c57
      have hff := mff_nw hnw
      refine r_aload_n d_M_rebuild_60 0 rfl ?_
      refine r_iload d_M_rebuild_61 6 rfl ?_
      refine rc_M_140 rfl d_M_rebuild_63 (k_M_newest (m := m.s_chos (rcW m i x o)) (by omega) (by omega) hm) gM (room_ok (d' := d - 1) (by omega) (by decide)) ⟨Nat.le_refl _, Nat.le_refl _⟩ (Nat.le_of_ble_eq_true rfl) ?_
      refine r_top (y := nI (mnw m o)) (congrArg nI (nw_chos m _ _)) ?_
      refine r_istore (lv' := [(0, _), (1, _), (2, _), (3, _), (4, _), (5, _), (6, _), (7, _)]) d_M_rebuild_66 (by decide) rfl ?_
      refine r_aload_n d_M_rebuild_68 0 rfl ?_
      refine r_iload d_M_rebuild_69 6 rfl ?_
      refine r_iload d_M_rebuild_71 7 rfl ?_
      refine rc_M_146 rfl d_M_rebuild_73 (k_M_sizeOf (m := m.s_chos (rcW m i x o)) (by omega) (by omega) hw hm (by rw [ff_chos]; exact hff)) gM (room_ok (d' := d - 1) (by omega) (by decide)) ⟨Nat.le_refl _, Nat.le_refl _⟩ (Nat.le_of_ble_eq_true rfl) ?_
      refine r_top (y := nI (szM m o)) (congrArg nI (sz_chos m _ _)) ?_
      refine r_istore (lv' := [(0, _), (1, _), (2, _), (3, _), (4, _), (5, _), (6, _), (7, _), (8, _)]) d_M_rebuild_76 (by decide) rfl ?_
      refine r_iload d_M_rebuild_78 8 rfl ?_
      refine r_if_leN (tgt := 102) d_M_rebuild_80 (by decide) (by omega) (fun c80 => ?_) (fun c80 => ?_)
      · skip
        have hrc : rcW m i x o = rcW m i x (o + 1) := (if_neg (fun q => absurd q.2 (by omega))).symm
        refine r_iload_n d_M_rebuild_102 1 rfl ?_
        refine r_iload d_M_rebuild_103 6 rfl ?_
        refine r_iconst (v := nI 0) d_M_rebuild_105 (by decide) ?_
        refine rc_M_79 rfl d_M_rebuild_106 (k_M_at (i := i) (o := o) (z := false) (by omega)) (room_ok (d' := d - 1) (by omega) (by decide)) ⟨Nat.le_refl _, Nat.le_refl _⟩ (Nat.le_of_ble_eq_true rfl) ?_
        refine r_istore (lv' := [(0, _), (1, _), (2, _), (3, _), (4, _), (5, _), (6, _), (7, _), (8, _), (9, _)]) d_M_rebuild_109 (by decide) rfl ?_
        refine r_iload d_M_rebuild_111 4 rfl ?_
        refine r_iload d_M_rebuild_113 8 rfl ?_
        refine rc_M_83 rfl d_M_rebuild_115 (k_M_stripes (by omega) (by omega)) (room_ok (d' := d - 1) (by omega) (by decide)) ⟨Nat.le_refl _, Nat.le_refl _⟩ (Nat.le_of_ble_eq_true rfl) ?_
        refine r_aload_n d_M_rebuild_118 0 rfl ?_
        refine rg_M_30 rfl d_M_rebuild_119 gM rfl ?_
        refine r_iload d_M_rebuild_122 9 rfl ?_
        refine r_zldB d_M_rebuild_124 gmHas (by omega) (by decide) ?_
        refine r_top (y := b2 (m.has (rx i o false))) rfl ?_
        refine r_if_eqB (tgt := 141) d_M_rebuild_125 (by decide) (fun c125 => ?_) (fun c125 => ?_)
        · skip
          have hmm : mmL m i (o + 1) = mmL m i o + (nI (stp (szM m o)) - nI 0) := (if_pos c57).trans (by rw [if_neg (by rw [c125]; decide)])
          refine r_iconst (v := nI 0) d_M_rebuild_141 (by decide) ?_
          refine r_isub d_M_rebuild_142 ?_
          refine r_iadd d_M_rebuild_143 ?_
          refine r_istore (lv' := [(0, _), (1, _), (2, _), (3, _), (4, _), (5, _), (6, _), (7, _), (8, _), (9, _)]) d_M_rebuild_144 (by decide) rfl ?_
          refine r_iload d_M_rebuild_146 5 rfl ?_
          refine r_if_neB (tgt := 158) d_M_rebuild_148 (by decide) (fun c148 => ?_) (fun c148 => ?_)
          · skip
            have hfu : fuM m i (o + 1) = true := (if_pos c57).trans (by rw [c148]; rfl)
            refine r_iconst (v := nI 1) d_M_rebuild_158 (by decide) ?_
            refine r_goto (tgt := 163) d_M_rebuild_159 (by decide) ?_
            refine r_istore (lv' := [(0, _), (1, _), (2, _), (3, _), (4, _), (5, _), (6, _), (7, _), (8, _), (9, _)]) d_M_rebuild_163 (by decide) rfl ?_
            refine r_iincN (lv' := [(0, _), (1, _), (2, _), (3, _), (4, _), (5, _), (6, _), (7, _), (8, _), (9, _)]) d_M_rebuild_165 6 rfl (by decide) rfl ?_
            refine r_goto (tgt := 43) d_M_rebuild_168 (by decide) ?_
            refine r_less (lv' := [(0, .ref (aM g)), (1, .int (nI i)), (2, .int x), (3, .int (tdX x i)), (4, .int ((mmL m i o) + ((nI (stp (szM m o))) - (nI 0)))), (5, .int (nI 1)), (6, .int (nI (o + 1)))]) (by simp) ?_
            exact r_at ih_o (congrArg (fun z => hp g c (m.s_chos z)) hrc) (by rw [hmm, hfu]; try rfl) rfl
          · skip
            refine r_iload d_M_rebuild_151 4 rfl ?_
            refine r_bipush (v := nI 40) d_M_rebuild_153 (by decide) ?_
            refine r_icmp_le (tgt := 162) d_M_rebuild_155 (by decide) (fun c155 => ?_) (fun c155 => ?_)
            · skip
              have hfu : fuM m i (o + 1) = false := (if_pos c57).trans (by rw [c148, hmm, decide_eq_false (fun q => q c155)]; rfl)
              refine r_iconst (v := nI 0) d_M_rebuild_162 (by decide) ?_
              refine r_istore (lv' := [(0, _), (1, _), (2, _), (3, _), (4, _), (5, _), (6, _), (7, _), (8, _), (9, _)]) d_M_rebuild_163 (by decide) rfl ?_
              refine r_iincN (lv' := [(0, _), (1, _), (2, _), (3, _), (4, _), (5, _), (6, _), (7, _), (8, _), (9, _)]) d_M_rebuild_165 6 rfl (by decide) rfl ?_
              refine r_goto (tgt := 43) d_M_rebuild_168 (by decide) ?_
              refine r_less (lv' := [(0, .ref (aM g)), (1, .int (nI i)), (2, .int x), (3, .int (tdX x i)), (4, .int ((mmL m i o) + ((nI (stp (szM m o))) - (nI 0)))), (5, .int (nI 0)), (6, .int (nI (o + 1)))]) (by simp) ?_
              exact r_at ih_o (congrArg (fun z => hp g c (m.s_chos z)) hrc) (by rw [hmm, hfu]; try rfl) rfl
            · skip
              have hfu : fuM m i (o + 1) = true := (if_pos c57).trans (by rw [c148, hmm, decide_eq_true c155]; rfl)
              refine r_iconst (v := nI 1) d_M_rebuild_158 (by decide) ?_
              refine r_goto (tgt := 163) d_M_rebuild_159 (by decide) ?_
              refine r_istore (lv' := [(0, _), (1, _), (2, _), (3, _), (4, _), (5, _), (6, _), (7, _), (8, _), (9, _)]) d_M_rebuild_163 (by decide) rfl ?_
              refine r_iincN (lv' := [(0, _), (1, _), (2, _), (3, _), (4, _), (5, _), (6, _), (7, _), (8, _), (9, _)]) d_M_rebuild_165 6 rfl (by decide) rfl ?_
              refine r_goto (tgt := 43) d_M_rebuild_168 (by decide) ?_
              refine r_less (lv' := [(0, .ref (aM g)), (1, .int (nI i)), (2, .int x), (3, .int (tdX x i)), (4, .int ((mmL m i o) + ((nI (stp (szM m o))) - (nI 0)))), (5, .int (nI 1)), (6, .int (nI (o + 1)))]) (by simp) ?_
              exact r_at ih_o (congrArg (fun z => hp g c (m.s_chos z)) hrc) (by rw [hmm, hfu]; try rfl) rfl
        · skip
          have hmm : mmL m i (o + 1) = mmL m i o + (nI (stp (szM m o)) - nI (stp (m.size (rx i o false)))) := (if_pos c57).trans (by rw [if_pos c125])
          refine r_aload_n d_M_rebuild_128 0 rfl ?_
          refine rg_M_36 rfl d_M_rebuild_129 gM rfl ?_
          refine r_iload d_M_rebuild_132 9 rfl ?_
          refine r_aldN d_M_rebuild_134 gmSize (by omega) (by decide) ?_
          refine r_top (y := nI (m.size (rx i o false))) rfl ?_
          refine rc_M_83 rfl d_M_rebuild_135 (k_M_stripes (by omega) (by omega)) (room_ok (d' := d - 1) (by omega) (by decide)) ⟨Nat.le_refl _, Nat.le_refl _⟩ (Nat.le_of_ble_eq_true rfl) ?_
          refine r_goto (tgt := 142) d_M_rebuild_138 (by decide) ?_
          refine r_isub d_M_rebuild_142 ?_
          refine r_iadd d_M_rebuild_143 ?_
          refine r_istore (lv' := [(0, _), (1, _), (2, _), (3, _), (4, _), (5, _), (6, _), (7, _), (8, _), (9, _)]) d_M_rebuild_144 (by decide) rfl ?_
          refine r_iload d_M_rebuild_146 5 rfl ?_
          refine r_if_neB (tgt := 158) d_M_rebuild_148 (by decide) (fun c148 => ?_) (fun c148 => ?_)
          · skip
            have hfu : fuM m i (o + 1) = true := (if_pos c57).trans (by rw [c148]; rfl)
            refine r_iconst (v := nI 1) d_M_rebuild_158 (by decide) ?_
            refine r_goto (tgt := 163) d_M_rebuild_159 (by decide) ?_
            refine r_istore (lv' := [(0, _), (1, _), (2, _), (3, _), (4, _), (5, _), (6, _), (7, _), (8, _), (9, _)]) d_M_rebuild_163 (by decide) rfl ?_
            refine r_iincN (lv' := [(0, _), (1, _), (2, _), (3, _), (4, _), (5, _), (6, _), (7, _), (8, _), (9, _)]) d_M_rebuild_165 6 rfl (by decide) rfl ?_
            refine r_goto (tgt := 43) d_M_rebuild_168 (by decide) ?_
            refine r_less (lv' := [(0, .ref (aM g)), (1, .int (nI i)), (2, .int x), (3, .int (tdX x i)), (4, .int ((mmL m i o) + ((nI (stp (szM m o))) - (nI (stp (m.size (rx i o false))))))), (5, .int (nI 1)), (6, .int (nI (o + 1)))]) (by simp) ?_
            exact r_at ih_o (congrArg (fun z => hp g c (m.s_chos z)) hrc) (by rw [hmm, hfu]; try rfl) rfl
          · skip
            refine r_iload d_M_rebuild_151 4 rfl ?_
            refine r_bipush (v := nI 40) d_M_rebuild_153 (by decide) ?_
            refine r_icmp_le (tgt := 162) d_M_rebuild_155 (by decide) (fun c155 => ?_) (fun c155 => ?_)
            · skip
              have hfu : fuM m i (o + 1) = false := (if_pos c57).trans (by rw [c148, hmm, decide_eq_false (fun q => q c155)]; rfl)
              refine r_iconst (v := nI 0) d_M_rebuild_162 (by decide) ?_
              refine r_istore (lv' := [(0, _), (1, _), (2, _), (3, _), (4, _), (5, _), (6, _), (7, _), (8, _), (9, _)]) d_M_rebuild_163 (by decide) rfl ?_
              refine r_iincN (lv' := [(0, _), (1, _), (2, _), (3, _), (4, _), (5, _), (6, _), (7, _), (8, _), (9, _)]) d_M_rebuild_165 6 rfl (by decide) rfl ?_
              refine r_goto (tgt := 43) d_M_rebuild_168 (by decide) ?_
              refine r_less (lv' := [(0, .ref (aM g)), (1, .int (nI i)), (2, .int x), (3, .int (tdX x i)), (4, .int ((mmL m i o) + ((nI (stp (szM m o))) - (nI (stp (m.size (rx i o false))))))), (5, .int (nI 0)), (6, .int (nI (o + 1)))]) (by simp) ?_
              exact r_at ih_o (congrArg (fun z => hp g c (m.s_chos z)) hrc) (by rw [hmm, hfu]; try rfl) rfl
            · skip
              have hfu : fuM m i (o + 1) = true := (if_pos c57).trans (by rw [c148, hmm, decide_eq_true c155]; rfl)
              refine r_iconst (v := nI 1) d_M_rebuild_158 (by decide) ?_
              refine r_goto (tgt := 163) d_M_rebuild_159 (by decide) ?_
              refine r_istore (lv' := [(0, _), (1, _), (2, _), (3, _), (4, _), (5, _), (6, _), (7, _), (8, _), (9, _)]) d_M_rebuild_163 (by decide) rfl ?_
              refine r_iincN (lv' := [(0, _), (1, _), (2, _), (3, _), (4, _), (5, _), (6, _), (7, _), (8, _), (9, _)]) d_M_rebuild_165 6 rfl (by decide) rfl ?_
              refine r_goto (tgt := 43) d_M_rebuild_168 (by decide) ?_
              refine r_less (lv' := [(0, .ref (aM g)), (1, .int (nI i)), (2, .int x), (3, .int (tdX x i)), (4, .int ((mmL m i o) + ((nI (stp (szM m o))) - (nI (stp (m.size (rx i o false))))))), (5, .int (nI 1)), (6, .int (nI (o + 1)))]) (by simp) ?_
              exact r_at ih_o (congrArg (fun z => hp g c (m.s_chos z)) hrc) (by rw [hmm, hfu]; try rfl) rfl
      · skip
        have hrc : chF (selM m o (mnw m o) (tdX x i)) (rcW m i x o) 8 12 = rcW m i x (o + 1) := (if_pos ⟨c57, c80⟩).symm
        refine r_aload_n d_M_rebuild_83 0 rfl ?_
        refine r_iload d_M_rebuild_84 6 rfl ?_
        refine r_iload d_M_rebuild_86 7 rfl ?_
        refine r_iload_n d_M_rebuild_88 3 rfl ?_
        refine r_bipush (v := nI 8) d_M_rebuild_89 (by decide) ?_
        refine rc_M_143 rfl d_M_rebuild_91 (k_M_choose (m := m.s_chos (rcW m i x o)) (mo := 8) (by omega) (by omega) hw (by decide) hm) gM (room_ok (d' := d - 1) (by omega) (by decide)) ⟨Nat.le_refl _, Nat.le_refl _⟩ (Nat.le_of_ble_eq_true rfl) ?_
        refine r_top (y := nI (ct (selM m o (mnw m o) (tdX x i)) 12)) (by rw [chos_eq]) ?_
        refine r_heap (h' := hp g c (m.s_chos (chF (selM m o (mnw m o) (tdX x i)) (rcW m i x o) 8 12))) (lh_chos m _ _ _ _ g c) ?_
        refine r_bipush (v := nI 8) d_M_rebuild_94 (by decide) ?_
        refine r_icmp_geN (tgt := 102) d_M_rebuild_96 (by decide) (by omega) (by omega) (fun c96 => ?_) (fun c96 => ?_)
        rotate_left 1
        · exact absurd (hok o hb_o c57 c80) (by omega)
        refine r_iload_n d_M_rebuild_102 1 rfl ?_
        refine r_iload d_M_rebuild_103 6 rfl ?_
        refine r_iconst (v := nI 0) d_M_rebuild_105 (by decide) ?_
        refine rc_M_79 rfl d_M_rebuild_106 (k_M_at (i := i) (o := o) (z := false) (by omega)) (room_ok (d' := d - 1) (by omega) (by decide)) ⟨Nat.le_refl _, Nat.le_refl _⟩ (Nat.le_of_ble_eq_true rfl) ?_
        refine r_istore (lv' := [(0, _), (1, _), (2, _), (3, _), (4, _), (5, _), (6, _), (7, _), (8, _), (9, _)]) d_M_rebuild_109 (by decide) rfl ?_
        refine r_iload d_M_rebuild_111 4 rfl ?_
        refine r_iload d_M_rebuild_113 8 rfl ?_
        refine rc_M_83 rfl d_M_rebuild_115 (k_M_stripes (by omega) (by omega)) (room_ok (d' := d - 1) (by omega) (by decide)) ⟨Nat.le_refl _, Nat.le_refl _⟩ (Nat.le_of_ble_eq_true rfl) ?_
        refine r_aload_n d_M_rebuild_118 0 rfl ?_
        refine rg_M_30 rfl d_M_rebuild_119 gM rfl ?_
        refine r_iload d_M_rebuild_122 9 rfl ?_
        refine r_zldB d_M_rebuild_124 gmHas (by omega) (by decide) ?_
        refine r_top (y := b2 (m.has (rx i o false))) rfl ?_
        refine r_if_eqB (tgt := 141) d_M_rebuild_125 (by decide) (fun c125 => ?_) (fun c125 => ?_)
        · skip
          have hmm : mmL m i (o + 1) = mmL m i o + (nI (stp (szM m o)) - nI 0) := (if_pos c57).trans (by rw [if_neg (by rw [c125]; decide)])
          refine r_iconst (v := nI 0) d_M_rebuild_141 (by decide) ?_
          refine r_isub d_M_rebuild_142 ?_
          refine r_iadd d_M_rebuild_143 ?_
          refine r_istore (lv' := [(0, _), (1, _), (2, _), (3, _), (4, _), (5, _), (6, _), (7, _), (8, _), (9, _)]) d_M_rebuild_144 (by decide) rfl ?_
          refine r_iload d_M_rebuild_146 5 rfl ?_
          refine r_if_neB (tgt := 158) d_M_rebuild_148 (by decide) (fun c148 => ?_) (fun c148 => ?_)
          · skip
            have hfu : fuM m i (o + 1) = true := (if_pos c57).trans (by rw [c148]; rfl)
            refine r_iconst (v := nI 1) d_M_rebuild_158 (by decide) ?_
            refine r_goto (tgt := 163) d_M_rebuild_159 (by decide) ?_
            refine r_istore (lv' := [(0, _), (1, _), (2, _), (3, _), (4, _), (5, _), (6, _), (7, _), (8, _), (9, _)]) d_M_rebuild_163 (by decide) rfl ?_
            refine r_iincN (lv' := [(0, _), (1, _), (2, _), (3, _), (4, _), (5, _), (6, _), (7, _), (8, _), (9, _)]) d_M_rebuild_165 6 rfl (by decide) rfl ?_
            refine r_goto (tgt := 43) d_M_rebuild_168 (by decide) ?_
            refine r_less (lv' := [(0, .ref (aM g)), (1, .int (nI i)), (2, .int x), (3, .int (tdX x i)), (4, .int ((mmL m i o) + ((nI (stp (szM m o))) - (nI 0)))), (5, .int (nI 1)), (6, .int (nI (o + 1)))]) (by simp) ?_
            exact r_at ih_o (congrArg (fun z => hp g c (m.s_chos z)) hrc) (by rw [hmm, hfu]; try rfl) rfl
          · skip
            refine r_iload d_M_rebuild_151 4 rfl ?_
            refine r_bipush (v := nI 40) d_M_rebuild_153 (by decide) ?_
            refine r_icmp_le (tgt := 162) d_M_rebuild_155 (by decide) (fun c155 => ?_) (fun c155 => ?_)
            · skip
              have hfu : fuM m i (o + 1) = false := (if_pos c57).trans (by rw [c148, hmm, decide_eq_false (fun q => q c155)]; rfl)
              refine r_iconst (v := nI 0) d_M_rebuild_162 (by decide) ?_
              refine r_istore (lv' := [(0, _), (1, _), (2, _), (3, _), (4, _), (5, _), (6, _), (7, _), (8, _), (9, _)]) d_M_rebuild_163 (by decide) rfl ?_
              refine r_iincN (lv' := [(0, _), (1, _), (2, _), (3, _), (4, _), (5, _), (6, _), (7, _), (8, _), (9, _)]) d_M_rebuild_165 6 rfl (by decide) rfl ?_
              refine r_goto (tgt := 43) d_M_rebuild_168 (by decide) ?_
              refine r_less (lv' := [(0, .ref (aM g)), (1, .int (nI i)), (2, .int x), (3, .int (tdX x i)), (4, .int ((mmL m i o) + ((nI (stp (szM m o))) - (nI 0)))), (5, .int (nI 0)), (6, .int (nI (o + 1)))]) (by simp) ?_
              exact r_at ih_o (congrArg (fun z => hp g c (m.s_chos z)) hrc) (by rw [hmm, hfu]; try rfl) rfl
            · skip
              have hfu : fuM m i (o + 1) = true := (if_pos c57).trans (by rw [c148, hmm, decide_eq_true c155]; rfl)
              refine r_iconst (v := nI 1) d_M_rebuild_158 (by decide) ?_
              refine r_goto (tgt := 163) d_M_rebuild_159 (by decide) ?_
              refine r_istore (lv' := [(0, _), (1, _), (2, _), (3, _), (4, _), (5, _), (6, _), (7, _), (8, _), (9, _)]) d_M_rebuild_163 (by decide) rfl ?_
              refine r_iincN (lv' := [(0, _), (1, _), (2, _), (3, _), (4, _), (5, _), (6, _), (7, _), (8, _), (9, _)]) d_M_rebuild_165 6 rfl (by decide) rfl ?_
              refine r_goto (tgt := 43) d_M_rebuild_168 (by decide) ?_
              refine r_less (lv' := [(0, .ref (aM g)), (1, .int (nI i)), (2, .int x), (3, .int (tdX x i)), (4, .int ((mmL m i o) + ((nI (stp (szM m o))) - (nI 0)))), (5, .int (nI 1)), (6, .int (nI (o + 1)))]) (by simp) ?_
              exact r_at ih_o (congrArg (fun z => hp g c (m.s_chos z)) hrc) (by rw [hmm, hfu]; try rfl) rfl
        · skip
          have hmm : mmL m i (o + 1) = mmL m i o + (nI (stp (szM m o)) - nI (stp (m.size (rx i o false)))) := (if_pos c57).trans (by rw [if_pos c125])
          refine r_aload_n d_M_rebuild_128 0 rfl ?_
          refine rg_M_36 rfl d_M_rebuild_129 gM rfl ?_
          refine r_iload d_M_rebuild_132 9 rfl ?_
          refine r_aldN d_M_rebuild_134 gmSize (by omega) (by decide) ?_
          refine r_top (y := nI (m.size (rx i o false))) rfl ?_
          refine rc_M_83 rfl d_M_rebuild_135 (k_M_stripes (by omega) (by omega)) (room_ok (d' := d - 1) (by omega) (by decide)) ⟨Nat.le_refl _, Nat.le_refl _⟩ (Nat.le_of_ble_eq_true rfl) ?_
          refine r_goto (tgt := 142) d_M_rebuild_138 (by decide) ?_
          refine r_isub d_M_rebuild_142 ?_
          refine r_iadd d_M_rebuild_143 ?_
          refine r_istore (lv' := [(0, _), (1, _), (2, _), (3, _), (4, _), (5, _), (6, _), (7, _), (8, _), (9, _)]) d_M_rebuild_144 (by decide) rfl ?_
          refine r_iload d_M_rebuild_146 5 rfl ?_
          refine r_if_neB (tgt := 158) d_M_rebuild_148 (by decide) (fun c148 => ?_) (fun c148 => ?_)
          · skip
            have hfu : fuM m i (o + 1) = true := (if_pos c57).trans (by rw [c148]; rfl)
            refine r_iconst (v := nI 1) d_M_rebuild_158 (by decide) ?_
            refine r_goto (tgt := 163) d_M_rebuild_159 (by decide) ?_
            refine r_istore (lv' := [(0, _), (1, _), (2, _), (3, _), (4, _), (5, _), (6, _), (7, _), (8, _), (9, _)]) d_M_rebuild_163 (by decide) rfl ?_
            refine r_iincN (lv' := [(0, _), (1, _), (2, _), (3, _), (4, _), (5, _), (6, _), (7, _), (8, _), (9, _)]) d_M_rebuild_165 6 rfl (by decide) rfl ?_
            refine r_goto (tgt := 43) d_M_rebuild_168 (by decide) ?_
            refine r_less (lv' := [(0, .ref (aM g)), (1, .int (nI i)), (2, .int x), (3, .int (tdX x i)), (4, .int ((mmL m i o) + ((nI (stp (szM m o))) - (nI (stp (m.size (rx i o false))))))), (5, .int (nI 1)), (6, .int (nI (o + 1)))]) (by simp) ?_
            exact r_at ih_o (congrArg (fun z => hp g c (m.s_chos z)) hrc) (by rw [hmm, hfu]; try rfl) rfl
          · skip
            refine r_iload d_M_rebuild_151 4 rfl ?_
            refine r_bipush (v := nI 40) d_M_rebuild_153 (by decide) ?_
            refine r_icmp_le (tgt := 162) d_M_rebuild_155 (by decide) (fun c155 => ?_) (fun c155 => ?_)
            · skip
              have hfu : fuM m i (o + 1) = false := (if_pos c57).trans (by rw [c148, hmm, decide_eq_false (fun q => q c155)]; rfl)
              refine r_iconst (v := nI 0) d_M_rebuild_162 (by decide) ?_
              refine r_istore (lv' := [(0, _), (1, _), (2, _), (3, _), (4, _), (5, _), (6, _), (7, _), (8, _), (9, _)]) d_M_rebuild_163 (by decide) rfl ?_
              refine r_iincN (lv' := [(0, _), (1, _), (2, _), (3, _), (4, _), (5, _), (6, _), (7, _), (8, _), (9, _)]) d_M_rebuild_165 6 rfl (by decide) rfl ?_
              refine r_goto (tgt := 43) d_M_rebuild_168 (by decide) ?_
              refine r_less (lv' := [(0, .ref (aM g)), (1, .int (nI i)), (2, .int x), (3, .int (tdX x i)), (4, .int ((mmL m i o) + ((nI (stp (szM m o))) - (nI (stp (m.size (rx i o false))))))), (5, .int (nI 0)), (6, .int (nI (o + 1)))]) (by simp) ?_
              exact r_at ih_o (congrArg (fun z => hp g c (m.s_chos z)) hrc) (by rw [hmm, hfu]; try rfl) rfl
            · skip
              have hfu : fuM m i (o + 1) = true := (if_pos c57).trans (by rw [c148, hmm, decide_eq_true c155]; rfl)
              refine r_iconst (v := nI 1) d_M_rebuild_158 (by decide) ?_
              refine r_goto (tgt := 163) d_M_rebuild_159 (by decide) ?_
              refine r_istore (lv' := [(0, _), (1, _), (2, _), (3, _), (4, _), (5, _), (6, _), (7, _), (8, _), (9, _)]) d_M_rebuild_163 (by decide) rfl ?_
              refine r_iincN (lv' := [(0, _), (1, _), (2, _), (3, _), (4, _), (5, _), (6, _), (7, _), (8, _), (9, _)]) d_M_rebuild_165 6 rfl (by decide) rfl ?_
              refine r_goto (tgt := 43) d_M_rebuild_168 (by decide) ?_
              refine r_less (lv' := [(0, .ref (aM g)), (1, .int (nI i)), (2, .int x), (3, .int (tdX x i)), (4, .int ((mmL m i o) + ((nI (stp (szM m o))) - (nI (stp (m.size (rx i o false))))))), (5, .int (nI 1)), (6, .int (nI (o + 1)))]) (by simp) ?_
              exact r_at ih_o (congrArg (fun z => hp g c (m.s_chos z)) hrc) (by rw [hmm, hfu]; try rfl) rfl
theorem k_M_rebuild {l : Launch} {g : GX} {c : CS} {m : MS} {n d : Nat} (hd : 5 ≤ d) {i : Nat} {x : Int32} (hi : i < 12) (hm : MI m) (h : m.fail i = false) (hok : ∀ o, o < 6 → wtM m i o = true → 0 < szM m o → 8 ≤ ct (selM m o (mnw m o) (tdX x i)) 12) (hfull : fuM m i 6 = false) (H0 : (∀ o, o < 6 → MI (rbLM m i x o))) (H : (∀ o, o < 6 → wtM (rbLM m i x o) i o = true → B1 (rbLM m i x o).byts ∧ B1 (rbLM m i x o).eqs ∧ (∀ k, k < stp (szM (rbLM m i x o) o) → lf (fun b => mtU (rbM1 (rbLM m i x o) i o).used i k (40 * i + b)) < 40) ∧ (0 < szM (rbLM m i x o) o → ∀ f, f < 8 → lqB (rbM2 (rbLM m i x o) i o) o (mnw (rbLM m i x o) o) (tdX x i) f ≠ 12) ∧ (0 < szM (rbLM m i x o) o → ∀ k, k < 8 → (rbM3 (rbLM m i x o) i o (tdX x i)).chos k < 12) ∧ (∀ s, s < stp (szM (rbLM m i x o) o) → ∀ q, q < 8 → stE (rE (rS (rbM3 (rbLM m i x o) i o (tdX x i)) i o s) i o s 8) 8 9 q (16 * q + q) ≠ 0))) : CE l g M_M_rebuild d 0 0 [.ref (aM g), .int (nI i), .int x] n (hp g c m) (some (.int (nI (rbSM m i x 6)))) n (hp g c ((rbLM m i x 6).s_syms ((rbLM m i x 6).syms + nI (rbSM m i x 6)))) := by
  refine CE.of (by decide +kernel) (lv := [(0, .ref (aM g)), (1, .int (nI i)), (2, .int x)]) rfl (Nat.le_of_ble_eq_true rfl) ?_
  refine r_iload_n d_M_rebuild_0 1 rfl ?_
  refine rc_M_72 rfl d_M_rebuild_1 (k_M_isNodeN (by omega) hi) (room_ok (d' := d - 1) (by omega) (by decide)) ⟨Nat.le_refl _, Nat.le_refl _⟩ (Nat.le_of_ble_eq_true rfl) ?_
  refine r_if_neB (tgt := 10) d_M_rebuild_4 (by decide) (fun c4 => ?_) (fun c4 => ?_)
  rotate_left 1
  · exfalso; first | omega | (revert c4; decide) | cases c4
  refine r_aload_n d_M_rebuild_10 0 rfl ?_
  refine rg_M_17 rfl d_M_rebuild_11 gM rfl ?_
  refine r_iload_n d_M_rebuild_14 1 rfl ?_
  refine r_zldB d_M_rebuild_15 gmFail (by omega) (by decide) ?_
  refine r_if_eqB (tgt := 22) d_M_rebuild_16 (by decide) (fun c16 => ?_) (fun c16 => ?_)
  rotate_left 1
  · exact absurd (h.symm.trans c16) (by decide)
  refine r_iload_n d_M_rebuild_22 2 rfl ?_
  refine r_iconst (v := nI 1) d_M_rebuild_23 (by decide) ?_
  refine r_iload_n d_M_rebuild_24 1 rfl ?_
  refine r_ishl d_M_rebuild_25 ?_
  refine r_iconst (v := (-1)) d_M_rebuild_26 (by decide) ?_
  refine r_ixor d_M_rebuild_27 ?_
  refine r_iand d_M_rebuild_28 ?_
  refine r_top (y := tdX x i) rfl ?_
  refine r_istore_n (lv' := [(0, _), (1, _), (2, _), (3, _)]) d_M_rebuild_29 (by decide) rfl ?_
  refine r_aload_n d_M_rebuild_30 0 rfl ?_
  refine r_iload_n d_M_rebuild_31 1 rfl ?_
  refine rc_M_131 rfl d_M_rebuild_32 (k_M_usedBy (by omega) hi) gM (room_ok (d' := d - 1) (by omega) (by decide)) ⟨Nat.le_refl _, Nat.le_refl _⟩ (Nat.le_of_ble_eq_true rfl) ?_
  refine r_top (y := mmL m i 0) rfl ?_
  refine r_istore (lv' := [(0, _), (1, _), (2, _), (3, _), (4, _)]) d_M_rebuild_35 (by decide) rfl ?_
  refine r_iconst (v := nI 0) d_M_rebuild_37 (by decide) ?_
  refine r_top (y := b2 (fuM m i 0)) rfl ?_
  refine r_istore (lv' := [(0, _), (1, _), (2, _), (3, _), (4, _), (5, _)]) d_M_rebuild_38 (by decide) rfl ?_
  refine r_iconst (v := nI 0) d_M_rebuild_40 (by decide) ?_
  refine r_istore (lv' := [(0, _), (1, _), (2, _), (3, _), (4, _), (5, _), (6, _)]) d_M_rebuild_41 (by decide) rfl ?_
  refine r_heap (h' := hp g c (m.s_chos (rcW m i x 0))) rfl ?_
  refine r_less (lv' := [(0, .ref (aM g)), (1, .int (nI i)), (2, .int x), (3, .int (tdX x i)), (4, .int (mmL m i 0)), (5, .int (b2 (fuM m i 0))), (6, .int (nI 0))]) (by simp) ?_
  refine back_ind (n := 6) (G := fun o => RJ l g M_M_rebuild (RMX d 0 0) (TQ g 0 0 (QE (some (.int (nI (rbSM m i x 6)))) n (hp g c ((rbLM m i x 6).s_syms ((rbLM m i x 6).syms + nI (rbSM m i x 6)))))) XT n (hp g c (m.s_chos (rcW m i x o))) 0 0 43 [(0, .ref (aM g)), (1, .int (nI i)), (2, .int x), (3, .int (tdX x i)), (4, .int (mmL m i o)), (5, .int (b2 (fuM m i o))), (6, .int (nI o))] []) ?_ ?_ 0 (Nat.zero_le _)
  · skip
    skip
    refine r_iload d_M_rebuild_43 6 rfl ?_
    refine r_bipush (v := nI 6) d_M_rebuild_45 (by decide) ?_
    refine r_icmp_geN (tgt := 171) d_M_rebuild_47 (by decide) (by omega) (by omega) (fun c47 => ?_) (fun c47 => ?_)
    rotate_left 1
    · exfalso; first | omega | (revert c47; decide) | cases c47
    refine r_iload d_M_rebuild_171 5 rfl ?_
    refine r_if_eqB (tgt := 179) d_M_rebuild_173 (by decide) (fun c173 => ?_) (fun c173 => ?_)
    rotate_left 1
    · exact absurd (hfull.symm.trans c173) (by decide)
    refine r_iconst (v := nI 0) d_M_rebuild_179 (by decide) ?_
    refine r_top (y := nI (rbSM m i x 0)) rfl ?_
    refine r_istore (lv' := [(0, _), (1, _), (2, _), (3, _), (4, _), (5, _), (6, _)]) d_M_rebuild_180 (by decide) rfl ?_
    refine r_iconst (v := nI 0) d_M_rebuild_182 (by decide) ?_
    refine r_istore (lv' := [(0, _), (1, _), (2, _), (3, _), (4, _), (5, _), (6, _), (7, _)]) d_M_rebuild_183 (by decide) rfl ?_
    refine r_heap (h' := hp g c (rbLM m i x 0)) rfl ?_
    refine r_less (lv' := [(0, .ref (aM g)), (1, .int (nI i)), (2, .int x), (3, .int (tdX x i)), (6, .int (nI (rbSM m i x 0))), (7, .int (nI 0))]) (by simp) ?_
    refine back_ind (n := 6) (G := fun o => RJ l g M_M_rebuild (RMX d 0 0) (TQ g 0 0 (QE (some (.int (nI (rbSM m i x 6)))) n (hp g c ((rbLM m i x 6).s_syms ((rbLM m i x 6).syms + nI (rbSM m i x 6)))))) XT n (hp g c (rbLM m i x o)) 0 0 185 [(0, .ref (aM g)), (1, .int (nI i)), (2, .int x), (3, .int (tdX x i)), (6, .int (nI (rbSM m i x o))), (7, .int (nI o))] []) ?_ ?_ 0 (Nat.zero_le _)
    · skip
      refine r_iload d_M_rebuild_185 5 rfl ?_
      refine r_bipush (v := nI 6) d_M_rebuild_187 (by decide) ?_
      refine r_icmp_geN (tgt := 221) d_M_rebuild_189 (by decide) (by omega) (by omega) (fun c189 => ?_) (fun c189 => ?_)
      rotate_left 1
      · exfalso; first | omega | (revert c189; decide) | cases c189
      refine r_aload_n d_M_rebuild_221 0 rfl ?_
      refine r_dup d_M_rebuild_222 rfl ?_
      refine rg_M_169 rfl d_M_rebuild_223 gM rfl ?_
      refine r_iload d_M_rebuild_226 4 rfl ?_
      refine r_iadd d_M_rebuild_228 ?_
      refine rp_M_169 rfl d_M_rebuild_229 gM (Nat.le_of_ble_eq_true rfl) rfl (wM_syms (v := ((rbLM m i x 6).syms) + (nI (rbSM m i x 6)))) ?_
      refine r_iload d_M_rebuild_232 4 rfl ?_
      refine r_ireturn d_M_rebuild_234 rfl rfl ⟨?_, rfl, ?_⟩
      · rfl
      · rfl
    · intro o hb_o ih_o
      have hci := H0 o hb_o
      have hH := H o hb_o
      refine r_iload d_M_rebuild_185 5 rfl ?_
      refine r_bipush (v := nI 6) d_M_rebuild_187 (by decide) ?_
      refine r_icmp_geN (tgt := 221) d_M_rebuild_189 (by decide) (by omega) (by omega) (fun c189 => ?_) (fun c189 => ?_)
      · exfalso; first | omega | (revert c189; decide) | cases c189
      refine r_aload_n d_M_rebuild_192 0 rfl ?_
      refine r_iload_n d_M_rebuild_193 1 rfl ?_
      refine r_iload d_M_rebuild_194 5 rfl ?_
      refine rc_M_162 rfl d_M_rebuild_196 (k_M_wants (m := rbLM m i x o) (by omega) hi hb_o hci) gM (room_ok (d' := d - 1) (by omega) (by decide)) ⟨Nat.le_refl _, Nat.le_refl _⟩ (Nat.le_of_ble_eq_true rfl) ?_
      refine r_if_eqB (tgt := 215) d_M_rebuild_199 (by decide) (fun c199 => ?_) (fun c199 => ?_)
      · skip
        have hst : rbLM m i x (o + 1) = rbLM m i x o := if_neg (by rw [c199]; decide)
        have hsm : rbSM m i x (o + 1) = rbSM m i x o := if_neg (by rw [c199]; decide)
        refine r_iincN (lv' := [(0, _), (1, _), (2, _), (3, _), (6, _), (7, _)]) d_M_rebuild_215 5 rfl (by decide) rfl ?_
        refine r_goto (tgt := 185) d_M_rebuild_218 (by decide) ?_
        exact r_at ih_o (congrArg (hp g c) hst.symm) (by rw [hsm]) rfl
      · skip
        have hst : rbLM m i x (o + 1) = rbMC (rbLM m i x o) i o (tdX x i) := if_pos c199
        have hsm : rbSM m i x (o + 1) = rbSM m i x o + 8 * stp (szM (rbLM m i x o) o) := if_pos c199
        obtain ⟨g1, g2, g3, g4, g5, g6⟩ := hH c199
        refine r_iload d_M_rebuild_202 4 rfl ?_
        refine r_aload_n d_M_rebuild_204 0 rfl ?_
        refine r_iload_n d_M_rebuild_205 1 rfl ?_
        refine r_iload d_M_rebuild_206 5 rfl ?_
        refine r_iload_n d_M_rebuild_208 3 rfl ?_
        refine rc_M_166 rfl d_M_rebuild_209 (k_M_rebuilds (m := rbLM m i x o) (x := tdX x i) (by omega) hi hb_o hci g1 g2 (mff_nw (wtM_nw c199)) g3 g4 g5 g6) gM (room_ok (d' := d - 1) (by omega) (by decide)) ⟨Nat.le_refl _, Nat.le_refl _⟩ (Nat.le_of_ble_eq_true rfl) ?_
        refine r_iaddN d_M_rebuild_212 ?_
        refine r_istore (lv' := [(0, _), (1, _), (2, _), (3, _), (6, _), (7, _)]) d_M_rebuild_213 (by decide) rfl ?_
        refine r_iincN (lv' := [(0, _), (1, _), (2, _), (3, _), (6, _), (7, _)]) d_M_rebuild_215 5 rfl (by decide) rfl ?_
        refine r_goto (tgt := 185) d_M_rebuild_218 (by decide) ?_
        exact r_at ih_o (congrArg (hp g c) hst.symm) (by rw [hsm]) rfl
  · intro o hb_o ih_o
    have hb6 : o < 6 := by omega
    have hw := mnw_lt (o := o) hm
    have hsz := szM_le (o := o) hm
    have hr := rx_lt (z := false) hi hb6
    have hs1 := hm.1 (rx i o false)
    have hc12 := ct_le (selM m o (mnw m o) (tdX x i)) 12
    refine r_iload d_M_rebuild_43 6 rfl ?_
    refine r_bipush (v := nI 6) d_M_rebuild_45 (by decide) ?_
    refine r_icmp_geN (tgt := 171) d_M_rebuild_47 (by decide) (by omega) (by omega) (fun c47 => ?_) (fun c47 => ?_)
    · exfalso; first | omega | (revert c47; decide) | cases c47
    refine r_aload_n d_M_rebuild_50 0 rfl ?_
    refine r_iload_n d_M_rebuild_51 1 rfl ?_
    refine r_iload d_M_rebuild_52 6 rfl ?_
    refine rc_M_162 rfl d_M_rebuild_54 (k_M_wants (m := m.s_chos (rcW m i x o)) (by omega) hi (by omega) hm) gM (room_ok (d' := d - 1) (by omega) (by decide)) ⟨Nat.le_refl _, Nat.le_refl _⟩ (Nat.le_of_ble_eq_true rfl) ?_
    refine r_top (y := b2 (wtM m i o)) (congrArg b2 (wt_chos m _ i _)) ?_
    refine r_if_eqB (tgt := 165) d_M_rebuild_57 (by decide) (fun c57 => ?_) (fun c57 => ?_)
    · skip
      have hmm : mmL m i (o + 1) = mmL m i o := if_neg (by rw [c57]; decide)
      have hfu : fuM m i (o + 1) = fuM m i o := if_neg (by rw [c57]; decide)
      have hrc : rcW m i x o = rcW m i x (o + 1) := (if_neg (fun q => by rw [c57] at q; exact absurd q.1 (by decide))).symm
      refine r_iincN (lv' := [(0, _), (1, _), (2, _), (3, _), (4, _), (5, _), (6, _)]) d_M_rebuild_165 6 rfl (by decide) rfl ?_
      refine r_goto (tgt := 43) d_M_rebuild_168 (by decide) ?_
      exact r_at ih_o (congrArg (fun z => hp g c (m.s_chos z)) hrc) (by rw [hmm, hfu]; try rfl) rfl
    · skip
      have hnw := wtM_nw c57
      have hff := mff_nw hnw
      refine r_aload_n d_M_rebuild_60 0 rfl ?_
      refine r_iload d_M_rebuild_61 6 rfl ?_
      refine rc_M_140 rfl d_M_rebuild_63 (k_M_newest (m := m.s_chos (rcW m i x o)) (by omega) (by omega) hm) gM (room_ok (d' := d - 1) (by omega) (by decide)) ⟨Nat.le_refl _, Nat.le_refl _⟩ (Nat.le_of_ble_eq_true rfl) ?_
      refine r_top (y := nI (mnw m o)) (congrArg nI (nw_chos m _ _)) ?_
      refine r_istore (lv' := [(0, _), (1, _), (2, _), (3, _), (4, _), (5, _), (6, _), (7, _)]) d_M_rebuild_66 (by decide) rfl ?_
      refine r_aload_n d_M_rebuild_68 0 rfl ?_
      refine r_iload d_M_rebuild_69 6 rfl ?_
      refine r_iload d_M_rebuild_71 7 rfl ?_
      refine rc_M_146 rfl d_M_rebuild_73 (k_M_sizeOf (m := m.s_chos (rcW m i x o)) (by omega) (by omega) hw hm (by rw [ff_chos]; exact hff)) gM (room_ok (d' := d - 1) (by omega) (by decide)) ⟨Nat.le_refl _, Nat.le_refl _⟩ (Nat.le_of_ble_eq_true rfl) ?_
      refine r_top (y := nI (szM m o)) (congrArg nI (sz_chos m _ _)) ?_
      refine r_istore (lv' := [(0, _), (1, _), (2, _), (3, _), (4, _), (5, _), (6, _), (7, _), (8, _)]) d_M_rebuild_76 (by decide) rfl ?_
      refine r_iload d_M_rebuild_78 8 rfl ?_
      refine r_if_leN (tgt := 102) d_M_rebuild_80 (by decide) (by omega) (fun c80 => ?_) (fun c80 => ?_)
      · skip
        have hrc : rcW m i x o = rcW m i x (o + 1) := (if_neg (fun q => absurd q.2 (by omega))).symm
        refine r_iload_n d_M_rebuild_102 1 rfl ?_
        refine r_iload d_M_rebuild_103 6 rfl ?_
        refine r_iconst (v := nI 0) d_M_rebuild_105 (by decide) ?_
        refine rc_M_79 rfl d_M_rebuild_106 (k_M_at (i := i) (o := o) (z := false) (by omega)) (room_ok (d' := d - 1) (by omega) (by decide)) ⟨Nat.le_refl _, Nat.le_refl _⟩ (Nat.le_of_ble_eq_true rfl) ?_
        refine r_istore (lv' := [(0, _), (1, _), (2, _), (3, _), (4, _), (5, _), (6, _), (7, _), (8, _), (9, _)]) d_M_rebuild_109 (by decide) rfl ?_
        refine r_iload d_M_rebuild_111 4 rfl ?_
        refine r_iload d_M_rebuild_113 8 rfl ?_
        refine rc_M_83 rfl d_M_rebuild_115 (k_M_stripes (by omega) (by omega)) (room_ok (d' := d - 1) (by omega) (by decide)) ⟨Nat.le_refl _, Nat.le_refl _⟩ (Nat.le_of_ble_eq_true rfl) ?_
        refine r_aload_n d_M_rebuild_118 0 rfl ?_
        refine rg_M_30 rfl d_M_rebuild_119 gM rfl ?_
        refine r_iload d_M_rebuild_122 9 rfl ?_
        refine r_zldB d_M_rebuild_124 gmHas (by omega) (by decide) ?_
        refine r_top (y := b2 (m.has (rx i o false))) rfl ?_
        refine r_if_eqB (tgt := 141) d_M_rebuild_125 (by decide) (fun c125 => ?_) (fun c125 => ?_)
        · skip
          have hmm : mmL m i (o + 1) = mmL m i o + (nI (stp (szM m o)) - nI 0) := (if_pos c57).trans (by rw [if_neg (by rw [c125]; decide)])
          refine r_iconst (v := nI 0) d_M_rebuild_141 (by decide) ?_
          refine r_isub d_M_rebuild_142 ?_
          refine r_iadd d_M_rebuild_143 ?_
          refine r_istore (lv' := [(0, _), (1, _), (2, _), (3, _), (4, _), (5, _), (6, _), (7, _), (8, _), (9, _)]) d_M_rebuild_144 (by decide) rfl ?_
          refine r_iload d_M_rebuild_146 5 rfl ?_
          refine r_if_neB (tgt := 158) d_M_rebuild_148 (by decide) (fun c148 => ?_) (fun c148 => ?_)
          · skip
            have hfu : fuM m i (o + 1) = true := (if_pos c57).trans (by rw [c148]; rfl)
            refine r_iconst (v := nI 1) d_M_rebuild_158 (by decide) ?_
            refine r_goto (tgt := 163) d_M_rebuild_159 (by decide) ?_
            refine r_istore (lv' := [(0, _), (1, _), (2, _), (3, _), (4, _), (5, _), (6, _), (7, _), (8, _), (9, _)]) d_M_rebuild_163 (by decide) rfl ?_
            refine r_iincN (lv' := [(0, _), (1, _), (2, _), (3, _), (4, _), (5, _), (6, _), (7, _), (8, _), (9, _)]) d_M_rebuild_165 6 rfl (by decide) rfl ?_
            refine r_goto (tgt := 43) d_M_rebuild_168 (by decide) ?_
            refine r_less (lv' := [(0, .ref (aM g)), (1, .int (nI i)), (2, .int x), (3, .int (tdX x i)), (4, .int ((mmL m i o) + ((nI (stp (szM m o))) - (nI 0)))), (5, .int (nI 1)), (6, .int (nI (o + 1)))]) (by simp) ?_
            exact r_at ih_o (congrArg (fun z => hp g c (m.s_chos z)) hrc) (by rw [hmm, hfu]; try rfl) rfl
          · skip
            refine r_iload d_M_rebuild_151 4 rfl ?_
            refine r_bipush (v := nI 40) d_M_rebuild_153 (by decide) ?_
            refine r_icmp_le (tgt := 162) d_M_rebuild_155 (by decide) (fun c155 => ?_) (fun c155 => ?_)
            · skip
              have hfu : fuM m i (o + 1) = false := (if_pos c57).trans (by rw [c148, hmm, decide_eq_false (fun q => q c155)]; rfl)
              refine r_iconst (v := nI 0) d_M_rebuild_162 (by decide) ?_
              refine r_istore (lv' := [(0, _), (1, _), (2, _), (3, _), (4, _), (5, _), (6, _), (7, _), (8, _), (9, _)]) d_M_rebuild_163 (by decide) rfl ?_
              refine r_iincN (lv' := [(0, _), (1, _), (2, _), (3, _), (4, _), (5, _), (6, _), (7, _), (8, _), (9, _)]) d_M_rebuild_165 6 rfl (by decide) rfl ?_
              refine r_goto (tgt := 43) d_M_rebuild_168 (by decide) ?_
              refine r_less (lv' := [(0, .ref (aM g)), (1, .int (nI i)), (2, .int x), (3, .int (tdX x i)), (4, .int ((mmL m i o) + ((nI (stp (szM m o))) - (nI 0)))), (5, .int (nI 0)), (6, .int (nI (o + 1)))]) (by simp) ?_
              exact r_at ih_o (congrArg (fun z => hp g c (m.s_chos z)) hrc) (by rw [hmm, hfu]; try rfl) rfl
            · skip
              have hfu : fuM m i (o + 1) = true := (if_pos c57).trans (by rw [c148, hmm, decide_eq_true c155]; rfl)
              refine r_iconst (v := nI 1) d_M_rebuild_158 (by decide) ?_
              refine r_goto (tgt := 163) d_M_rebuild_159 (by decide) ?_
              refine r_istore (lv' := [(0, _), (1, _), (2, _), (3, _), (4, _), (5, _), (6, _), (7, _), (8, _), (9, _)]) d_M_rebuild_163 (by decide) rfl ?_
              refine r_iincN (lv' := [(0, _), (1, _), (2, _), (3, _), (4, _), (5, _), (6, _), (7, _), (8, _), (9, _)]) d_M_rebuild_165 6 rfl (by decide) rfl ?_
              refine r_goto (tgt := 43) d_M_rebuild_168 (by decide) ?_
              refine r_less (lv' := [(0, .ref (aM g)), (1, .int (nI i)), (2, .int x), (3, .int (tdX x i)), (4, .int ((mmL m i o) + ((nI (stp (szM m o))) - (nI 0)))), (5, .int (nI 1)), (6, .int (nI (o + 1)))]) (by simp) ?_
              exact r_at ih_o (congrArg (fun z => hp g c (m.s_chos z)) hrc) (by rw [hmm, hfu]; try rfl) rfl
        · skip
          have hmm : mmL m i (o + 1) = mmL m i o + (nI (stp (szM m o)) - nI (stp (m.size (rx i o false)))) := (if_pos c57).trans (by rw [if_pos c125])
          refine r_aload_n d_M_rebuild_128 0 rfl ?_
          refine rg_M_36 rfl d_M_rebuild_129 gM rfl ?_
          refine r_iload d_M_rebuild_132 9 rfl ?_
          refine r_aldN d_M_rebuild_134 gmSize (by omega) (by decide) ?_
          refine r_top (y := nI (m.size (rx i o false))) rfl ?_
          refine rc_M_83 rfl d_M_rebuild_135 (k_M_stripes (by omega) (by omega)) (room_ok (d' := d - 1) (by omega) (by decide)) ⟨Nat.le_refl _, Nat.le_refl _⟩ (Nat.le_of_ble_eq_true rfl) ?_
          refine r_goto (tgt := 142) d_M_rebuild_138 (by decide) ?_
          refine r_isub d_M_rebuild_142 ?_
          refine r_iadd d_M_rebuild_143 ?_
          refine r_istore (lv' := [(0, _), (1, _), (2, _), (3, _), (4, _), (5, _), (6, _), (7, _), (8, _), (9, _)]) d_M_rebuild_144 (by decide) rfl ?_
          refine r_iload d_M_rebuild_146 5 rfl ?_
          refine r_if_neB (tgt := 158) d_M_rebuild_148 (by decide) (fun c148 => ?_) (fun c148 => ?_)
          · skip
            have hfu : fuM m i (o + 1) = true := (if_pos c57).trans (by rw [c148]; rfl)
            refine r_iconst (v := nI 1) d_M_rebuild_158 (by decide) ?_
            refine r_goto (tgt := 163) d_M_rebuild_159 (by decide) ?_
            refine r_istore (lv' := [(0, _), (1, _), (2, _), (3, _), (4, _), (5, _), (6, _), (7, _), (8, _), (9, _)]) d_M_rebuild_163 (by decide) rfl ?_
            refine r_iincN (lv' := [(0, _), (1, _), (2, _), (3, _), (4, _), (5, _), (6, _), (7, _), (8, _), (9, _)]) d_M_rebuild_165 6 rfl (by decide) rfl ?_
            refine r_goto (tgt := 43) d_M_rebuild_168 (by decide) ?_
            refine r_less (lv' := [(0, .ref (aM g)), (1, .int (nI i)), (2, .int x), (3, .int (tdX x i)), (4, .int ((mmL m i o) + ((nI (stp (szM m o))) - (nI (stp (m.size (rx i o false))))))), (5, .int (nI 1)), (6, .int (nI (o + 1)))]) (by simp) ?_
            exact r_at ih_o (congrArg (fun z => hp g c (m.s_chos z)) hrc) (by rw [hmm, hfu]; try rfl) rfl
          · skip
            refine r_iload d_M_rebuild_151 4 rfl ?_
            refine r_bipush (v := nI 40) d_M_rebuild_153 (by decide) ?_
            refine r_icmp_le (tgt := 162) d_M_rebuild_155 (by decide) (fun c155 => ?_) (fun c155 => ?_)
            · skip
              have hfu : fuM m i (o + 1) = false := (if_pos c57).trans (by rw [c148, hmm, decide_eq_false (fun q => q c155)]; rfl)
              refine r_iconst (v := nI 0) d_M_rebuild_162 (by decide) ?_
              refine r_istore (lv' := [(0, _), (1, _), (2, _), (3, _), (4, _), (5, _), (6, _), (7, _), (8, _), (9, _)]) d_M_rebuild_163 (by decide) rfl ?_
              refine r_iincN (lv' := [(0, _), (1, _), (2, _), (3, _), (4, _), (5, _), (6, _), (7, _), (8, _), (9, _)]) d_M_rebuild_165 6 rfl (by decide) rfl ?_
              refine r_goto (tgt := 43) d_M_rebuild_168 (by decide) ?_
              refine r_less (lv' := [(0, .ref (aM g)), (1, .int (nI i)), (2, .int x), (3, .int (tdX x i)), (4, .int ((mmL m i o) + ((nI (stp (szM m o))) - (nI (stp (m.size (rx i o false))))))), (5, .int (nI 0)), (6, .int (nI (o + 1)))]) (by simp) ?_
              exact r_at ih_o (congrArg (fun z => hp g c (m.s_chos z)) hrc) (by rw [hmm, hfu]; try rfl) rfl
            · skip
              have hfu : fuM m i (o + 1) = true := (if_pos c57).trans (by rw [c148, hmm, decide_eq_true c155]; rfl)
              refine r_iconst (v := nI 1) d_M_rebuild_158 (by decide) ?_
              refine r_goto (tgt := 163) d_M_rebuild_159 (by decide) ?_
              refine r_istore (lv' := [(0, _), (1, _), (2, _), (3, _), (4, _), (5, _), (6, _), (7, _), (8, _), (9, _)]) d_M_rebuild_163 (by decide) rfl ?_
              refine r_iincN (lv' := [(0, _), (1, _), (2, _), (3, _), (4, _), (5, _), (6, _), (7, _), (8, _), (9, _)]) d_M_rebuild_165 6 rfl (by decide) rfl ?_
              refine r_goto (tgt := 43) d_M_rebuild_168 (by decide) ?_
              refine r_less (lv' := [(0, .ref (aM g)), (1, .int (nI i)), (2, .int x), (3, .int (tdX x i)), (4, .int ((mmL m i o) + ((nI (stp (szM m o))) - (nI (stp (m.size (rx i o false))))))), (5, .int (nI 1)), (6, .int (nI (o + 1)))]) (by simp) ?_
              exact r_at ih_o (congrArg (fun z => hp g c (m.s_chos z)) hrc) (by rw [hmm, hfu]; try rfl) rfl
      · skip
        have hrc : chF (selM m o (mnw m o) (tdX x i)) (rcW m i x o) 8 12 = rcW m i x (o + 1) := (if_pos ⟨c57, c80⟩).symm
        refine r_aload_n d_M_rebuild_83 0 rfl ?_
        refine r_iload d_M_rebuild_84 6 rfl ?_
        refine r_iload d_M_rebuild_86 7 rfl ?_
        refine r_iload_n d_M_rebuild_88 3 rfl ?_
        refine r_bipush (v := nI 8) d_M_rebuild_89 (by decide) ?_
        refine rc_M_143 rfl d_M_rebuild_91 (k_M_choose (m := m.s_chos (rcW m i x o)) (mo := 8) (by omega) (by omega) hw (by decide) hm) gM (room_ok (d' := d - 1) (by omega) (by decide)) ⟨Nat.le_refl _, Nat.le_refl _⟩ (Nat.le_of_ble_eq_true rfl) ?_
        refine r_top (y := nI (ct (selM m o (mnw m o) (tdX x i)) 12)) (by rw [chos_eq]) ?_
        refine r_heap (h' := hp g c (m.s_chos (chF (selM m o (mnw m o) (tdX x i)) (rcW m i x o) 8 12))) (lh_chos m _ _ _ _ g c) ?_
        refine r_bipush (v := nI 8) d_M_rebuild_94 (by decide) ?_
        refine r_icmp_geN (tgt := 102) d_M_rebuild_96 (by decide) (by omega) (by omega) (fun c96 => ?_) (fun c96 => ?_)
        rotate_left 1
        · exact absurd (hok o hb_o c57 c80) (by omega)
        refine r_iload_n d_M_rebuild_102 1 rfl ?_
        refine r_iload d_M_rebuild_103 6 rfl ?_
        refine r_iconst (v := nI 0) d_M_rebuild_105 (by decide) ?_
        refine rc_M_79 rfl d_M_rebuild_106 (k_M_at (i := i) (o := o) (z := false) (by omega)) (room_ok (d' := d - 1) (by omega) (by decide)) ⟨Nat.le_refl _, Nat.le_refl _⟩ (Nat.le_of_ble_eq_true rfl) ?_
        refine r_istore (lv' := [(0, _), (1, _), (2, _), (3, _), (4, _), (5, _), (6, _), (7, _), (8, _), (9, _)]) d_M_rebuild_109 (by decide) rfl ?_
        refine r_iload d_M_rebuild_111 4 rfl ?_
        refine r_iload d_M_rebuild_113 8 rfl ?_
        refine rc_M_83 rfl d_M_rebuild_115 (k_M_stripes (by omega) (by omega)) (room_ok (d' := d - 1) (by omega) (by decide)) ⟨Nat.le_refl _, Nat.le_refl _⟩ (Nat.le_of_ble_eq_true rfl) ?_
        refine r_aload_n d_M_rebuild_118 0 rfl ?_
        refine rg_M_30 rfl d_M_rebuild_119 gM rfl ?_
        refine r_iload d_M_rebuild_122 9 rfl ?_
        refine r_zldB d_M_rebuild_124 gmHas (by omega) (by decide) ?_
        refine r_top (y := b2 (m.has (rx i o false))) rfl ?_
        refine r_if_eqB (tgt := 141) d_M_rebuild_125 (by decide) (fun c125 => ?_) (fun c125 => ?_)
        · skip
          have hmm : mmL m i (o + 1) = mmL m i o + (nI (stp (szM m o)) - nI 0) := (if_pos c57).trans (by rw [if_neg (by rw [c125]; decide)])
          refine r_iconst (v := nI 0) d_M_rebuild_141 (by decide) ?_
          refine r_isub d_M_rebuild_142 ?_
          refine r_iadd d_M_rebuild_143 ?_
          refine r_istore (lv' := [(0, _), (1, _), (2, _), (3, _), (4, _), (5, _), (6, _), (7, _), (8, _), (9, _)]) d_M_rebuild_144 (by decide) rfl ?_
          refine r_iload d_M_rebuild_146 5 rfl ?_
          refine r_if_neB (tgt := 158) d_M_rebuild_148 (by decide) (fun c148 => ?_) (fun c148 => ?_)
          · skip
            have hfu : fuM m i (o + 1) = true := (if_pos c57).trans (by rw [c148]; rfl)
            refine r_iconst (v := nI 1) d_M_rebuild_158 (by decide) ?_
            refine r_goto (tgt := 163) d_M_rebuild_159 (by decide) ?_
            refine r_istore (lv' := [(0, _), (1, _), (2, _), (3, _), (4, _), (5, _), (6, _), (7, _), (8, _), (9, _)]) d_M_rebuild_163 (by decide) rfl ?_
            refine r_iincN (lv' := [(0, _), (1, _), (2, _), (3, _), (4, _), (5, _), (6, _), (7, _), (8, _), (9, _)]) d_M_rebuild_165 6 rfl (by decide) rfl ?_
            refine r_goto (tgt := 43) d_M_rebuild_168 (by decide) ?_
            refine r_less (lv' := [(0, .ref (aM g)), (1, .int (nI i)), (2, .int x), (3, .int (tdX x i)), (4, .int ((mmL m i o) + ((nI (stp (szM m o))) - (nI 0)))), (5, .int (nI 1)), (6, .int (nI (o + 1)))]) (by simp) ?_
            exact r_at ih_o (congrArg (fun z => hp g c (m.s_chos z)) hrc) (by rw [hmm, hfu]; try rfl) rfl
          · skip
            refine r_iload d_M_rebuild_151 4 rfl ?_
            refine r_bipush (v := nI 40) d_M_rebuild_153 (by decide) ?_
            refine r_icmp_le (tgt := 162) d_M_rebuild_155 (by decide) (fun c155 => ?_) (fun c155 => ?_)
            · skip
              have hfu : fuM m i (o + 1) = false := (if_pos c57).trans (by rw [c148, hmm, decide_eq_false (fun q => q c155)]; rfl)
              refine r_iconst (v := nI 0) d_M_rebuild_162 (by decide) ?_
              refine r_istore (lv' := [(0, _), (1, _), (2, _), (3, _), (4, _), (5, _), (6, _), (7, _), (8, _), (9, _)]) d_M_rebuild_163 (by decide) rfl ?_
              refine r_iincN (lv' := [(0, _), (1, _), (2, _), (3, _), (4, _), (5, _), (6, _), (7, _), (8, _), (9, _)]) d_M_rebuild_165 6 rfl (by decide) rfl ?_
              refine r_goto (tgt := 43) d_M_rebuild_168 (by decide) ?_
              refine r_less (lv' := [(0, .ref (aM g)), (1, .int (nI i)), (2, .int x), (3, .int (tdX x i)), (4, .int ((mmL m i o) + ((nI (stp (szM m o))) - (nI 0)))), (5, .int (nI 0)), (6, .int (nI (o + 1)))]) (by simp) ?_
              exact r_at ih_o (congrArg (fun z => hp g c (m.s_chos z)) hrc) (by rw [hmm, hfu]; try rfl) rfl
            · skip
              have hfu : fuM m i (o + 1) = true := (if_pos c57).trans (by rw [c148, hmm, decide_eq_true c155]; rfl)
              refine r_iconst (v := nI 1) d_M_rebuild_158 (by decide) ?_
              refine r_goto (tgt := 163) d_M_rebuild_159 (by decide) ?_
              refine r_istore (lv' := [(0, _), (1, _), (2, _), (3, _), (4, _), (5, _), (6, _), (7, _), (8, _), (9, _)]) d_M_rebuild_163 (by decide) rfl ?_
              refine r_iincN (lv' := [(0, _), (1, _), (2, _), (3, _), (4, _), (5, _), (6, _), (7, _), (8, _), (9, _)]) d_M_rebuild_165 6 rfl (by decide) rfl ?_
              refine r_goto (tgt := 43) d_M_rebuild_168 (by decide) ?_
              refine r_less (lv' := [(0, .ref (aM g)), (1, .int (nI i)), (2, .int x), (3, .int (tdX x i)), (4, .int ((mmL m i o) + ((nI (stp (szM m o))) - (nI 0)))), (5, .int (nI 1)), (6, .int (nI (o + 1)))]) (by simp) ?_
              exact r_at ih_o (congrArg (fun z => hp g c (m.s_chos z)) hrc) (by rw [hmm, hfu]; try rfl) rfl
        · skip
          have hmm : mmL m i (o + 1) = mmL m i o + (nI (stp (szM m o)) - nI (stp (m.size (rx i o false)))) := (if_pos c57).trans (by rw [if_pos c125])
          refine r_aload_n d_M_rebuild_128 0 rfl ?_
          refine rg_M_36 rfl d_M_rebuild_129 gM rfl ?_
          refine r_iload d_M_rebuild_132 9 rfl ?_
          refine r_aldN d_M_rebuild_134 gmSize (by omega) (by decide) ?_
          refine r_top (y := nI (m.size (rx i o false))) rfl ?_
          refine rc_M_83 rfl d_M_rebuild_135 (k_M_stripes (by omega) (by omega)) (room_ok (d' := d - 1) (by omega) (by decide)) ⟨Nat.le_refl _, Nat.le_refl _⟩ (Nat.le_of_ble_eq_true rfl) ?_
          refine r_goto (tgt := 142) d_M_rebuild_138 (by decide) ?_
          refine r_isub d_M_rebuild_142 ?_
          refine r_iadd d_M_rebuild_143 ?_
          refine r_istore (lv' := [(0, _), (1, _), (2, _), (3, _), (4, _), (5, _), (6, _), (7, _), (8, _), (9, _)]) d_M_rebuild_144 (by decide) rfl ?_
          refine r_iload d_M_rebuild_146 5 rfl ?_
          refine r_if_neB (tgt := 158) d_M_rebuild_148 (by decide) (fun c148 => ?_) (fun c148 => ?_)
          · skip
            have hfu : fuM m i (o + 1) = true := (if_pos c57).trans (by rw [c148]; rfl)
            refine r_iconst (v := nI 1) d_M_rebuild_158 (by decide) ?_
            refine r_goto (tgt := 163) d_M_rebuild_159 (by decide) ?_
            refine r_istore (lv' := [(0, _), (1, _), (2, _), (3, _), (4, _), (5, _), (6, _), (7, _), (8, _), (9, _)]) d_M_rebuild_163 (by decide) rfl ?_
            refine r_iincN (lv' := [(0, _), (1, _), (2, _), (3, _), (4, _), (5, _), (6, _), (7, _), (8, _), (9, _)]) d_M_rebuild_165 6 rfl (by decide) rfl ?_
            refine r_goto (tgt := 43) d_M_rebuild_168 (by decide) ?_
            refine r_less (lv' := [(0, .ref (aM g)), (1, .int (nI i)), (2, .int x), (3, .int (tdX x i)), (4, .int ((mmL m i o) + ((nI (stp (szM m o))) - (nI (stp (m.size (rx i o false))))))), (5, .int (nI 1)), (6, .int (nI (o + 1)))]) (by simp) ?_
            exact r_at ih_o (congrArg (fun z => hp g c (m.s_chos z)) hrc) (by rw [hmm, hfu]; try rfl) rfl
          · skip
            refine r_iload d_M_rebuild_151 4 rfl ?_
            refine r_bipush (v := nI 40) d_M_rebuild_153 (by decide) ?_
            refine r_icmp_le (tgt := 162) d_M_rebuild_155 (by decide) (fun c155 => ?_) (fun c155 => ?_)
            · skip
              have hfu : fuM m i (o + 1) = false := (if_pos c57).trans (by rw [c148, hmm, decide_eq_false (fun q => q c155)]; rfl)
              refine r_iconst (v := nI 0) d_M_rebuild_162 (by decide) ?_
              refine r_istore (lv' := [(0, _), (1, _), (2, _), (3, _), (4, _), (5, _), (6, _), (7, _), (8, _), (9, _)]) d_M_rebuild_163 (by decide) rfl ?_
              refine r_iincN (lv' := [(0, _), (1, _), (2, _), (3, _), (4, _), (5, _), (6, _), (7, _), (8, _), (9, _)]) d_M_rebuild_165 6 rfl (by decide) rfl ?_
              refine r_goto (tgt := 43) d_M_rebuild_168 (by decide) ?_
              refine r_less (lv' := [(0, .ref (aM g)), (1, .int (nI i)), (2, .int x), (3, .int (tdX x i)), (4, .int ((mmL m i o) + ((nI (stp (szM m o))) - (nI (stp (m.size (rx i o false))))))), (5, .int (nI 0)), (6, .int (nI (o + 1)))]) (by simp) ?_
              exact r_at ih_o (congrArg (fun z => hp g c (m.s_chos z)) hrc) (by rw [hmm, hfu]; try rfl) rfl
            · skip
              have hfu : fuM m i (o + 1) = true := (if_pos c57).trans (by rw [c148, hmm, decide_eq_true c155]; rfl)
              refine r_iconst (v := nI 1) d_M_rebuild_158 (by decide) ?_
              refine r_goto (tgt := 163) d_M_rebuild_159 (by decide) ?_
              refine r_istore (lv' := [(0, _), (1, _), (2, _), (3, _), (4, _), (5, _), (6, _), (7, _), (8, _), (9, _)]) d_M_rebuild_163 (by decide) rfl ?_
              refine r_iincN (lv' := [(0, _), (1, _), (2, _), (3, _), (4, _), (5, _), (6, _), (7, _), (8, _), (9, _)]) d_M_rebuild_165 6 rfl (by decide) rfl ?_
              refine r_goto (tgt := 43) d_M_rebuild_168 (by decide) ?_
              refine r_less (lv' := [(0, .ref (aM g)), (1, .int (nI i)), (2, .int x), (3, .int (tdX x i)), (4, .int ((mmL m i o) + ((nI (stp (szM m o))) - (nI (stp (m.size (rx i o false))))))), (5, .int (nI 1)), (6, .int (nI (o + 1)))]) (by simp) ?_
              exact r_at ih_o (congrArg (fun z => hp g c (m.s_chos z)) hrc) (by rw [hmm, hfu]; try rfl) rfl
