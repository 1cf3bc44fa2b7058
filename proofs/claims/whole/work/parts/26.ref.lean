theorem k_M_feedFull {l : Launch} {g : GX} {c : CS} {m : MS} {n d : Nat} (hd : 1 ≤ d) {w : Int64} {k : Nat} (h1 : 1 ≤ k) (h2 : k ≤ 8) (ht : m.taped ≤ 240) (hf : 240 < m.taped + k) : CE l g M_M_feed d 0 0 [.ref (aM g), .long w, .int (nI k)] n (hp g c m) (some (.int (-5))) n (hp g c m) := by
  refine CE.of (by decide +kernel) (lv := [(0, .ref (aM g)), (1, .long w), (3, .int (nI k))]) rfl (Nat.le_of_ble_eq_true rfl) ?_
  refine r_iload_n d_M_feed_0 2 rfl ?_
  refine r_iconst (v := nI 1) d_M_feed_1 (by decide) ?_
  refine r_bipush (v := nI 8) d_M_feed_2 (by decide) ?_
  refine rc_M_60 rfl d_M_feed_4 (k_M_inG (a := nI 1) (b := nI 8) (by omega)) (room_ok (d' := d - 1) (by omega) (by decide)) ⟨Nat.le_refl _, Nat.le_refl _⟩ (Nat.le_of_ble_eq_true rfl) ?_
  refine r_if_neB (tgt := 13) d_M_feed_7 (by decide) (fun c7 => ?_) (fun c7 => ?_)
  rotate_left 1
  · exact absurd (⟨nI_nlt h1 (by omega), nI_nlt h2 (by decide)⟩ : ¬ nI k < nI 1 ∧ ¬ nI 8 < nI k) (of_decide_eq_false c7)
  refine r_aload_n d_M_feed_13 0 rfl ?_
  refine rg_M_96 rfl d_M_feed_14 gM rfl ?_
  refine r_iload_n d_M_feed_17 2 rfl ?_
  refine r_iaddN d_M_feed_18 ?_
  refine r_sipush (v := nI 240) d_M_feed_19 (by decide) ?_
  refine r_icmp_leN (tgt := 28) d_M_feed_22 (by decide) (by omega) (by omega) (fun c22 => ?_) (fun c22 => ?_)
  · exfalso; first | omega | (revert c22; decide) | cases c22
  refine r_bipush (v := (-5)) d_M_feed_25 (by decide) ?_
  refine r_ireturn d_M_feed_27 rfl rfl ⟨?_, rfl, ?_⟩
  · rfl
  · rfl
def fdMC (m : MS) (w : Int64) (k s : Nat) : MS := (m.s_tape (fdT m.tape m.taped w k s)).s_taped (m.taped + s)
theorem k_M_feed {l : Launch} {g : GX} {c : CS} {m : MS} {n d : Nat} (hd : 1 ≤ d) {w : Int64} {k : Nat} (h1 : 1 ≤ k) (h2 : k ≤ 8) (hf : m.taped + k ≤ 240) : CE l g M_M_feed d 0 0 [.ref (aM g), .long w, .int (nI k)] n (hp g c m) (some (.int (nI (m.taped + k)))) n (hp g c (fdMC m w k k)) := by
  refine CE.of (by decide +kernel) (lv := [(0, .ref (aM g)), (1, .long w), (3, .int (nI k))]) rfl (Nat.le_of_ble_eq_true rfl) ?_
  refine r_iload_n d_M_feed_0 2 rfl ?_
  refine r_iconst (v := nI 1) d_M_feed_1 (by decide) ?_
  refine r_bipush (v := nI 8) d_M_feed_2 (by decide) ?_
  refine rc_M_60 rfl d_M_feed_4 (k_M_inG (a := nI 1) (b := nI 8) (by omega)) (room_ok (d' := d - 1) (by omega) (by decide)) ⟨Nat.le_refl _, Nat.le_refl _⟩ (Nat.le_of_ble_eq_true rfl) ?_
  refine r_if_neB (tgt := 13) d_M_feed_7 (by decide) (fun c7 => ?_) (fun c7 => ?_)
  rotate_left 1
  · exact absurd (⟨nI_nlt h1 (by omega), nI_nlt h2 (by decide)⟩ : ¬ nI k < nI 1 ∧ ¬ nI 8 < nI k) (of_decide_eq_false c7)
  refine r_aload_n d_M_feed_13 0 rfl ?_
  refine rg_M_96 rfl d_M_feed_14 gM rfl ?_
  refine r_iload_n d_M_feed_17 2 rfl ?_
  refine r_iaddN d_M_feed_18 ?_
  refine r_sipush (v := nI 240) d_M_feed_19 (by decide) ?_
  refine r_icmp_leN (tgt := 28) d_M_feed_22 (by decide) (by omega) (by omega) (fun c22 => ?_) (fun c22 => ?_)
  rotate_left 1
  · exfalso; first | omega | (revert c22; decide) | cases c22
  refine r_iload_n d_M_feed_28 2 rfl ?_
  refine r_iconst (v := nI 1) d_M_feed_29 (by decide) ?_
  refine r_isub d_M_feed_30 ?_
  refine r_istore (lv' := [(0, _), (1, _), (3, _), (4, _)]) d_M_feed_31 (by decide) rfl ?_
  refine r_heap (h' := hp g c (fdMC m w k 0)) rfl ?_
  refine back_ind (n := k) (G := fun s => RJ l g M_M_feed (RMX d 0 0) (TQ g 0 0 (QE (some (.int (nI (m.taped + k)))) n (hp g c (fdMC m w k k)))) XT n (hp g c (fdMC m w k s)) 0 0 33 [(0, .ref (aM g)), (1, .long w), (3, .int (nI k)), (4, .int (nI (k - s) - nI 1))] []) ?_ ?_ 0 (Nat.zero_le _)
  · skip
    refine r_iload d_M_feed_33 3 rfl ?_
    refine r_if_lt (tgt := 75) d_M_feed_35 (by decide) (fun c35 => ?_) (fun c35 => ?_)
    rotate_left 1
    · first | exact absurd (show nI (k - k) - nI 1 < 0 by rw [Nat.sub_self]; decide) c35 | exact absurd c35 (by rw [hes]; exact nI_pos (by omega)) | exact absurd (show nI (k - k) - nI 1 < 0 by rw [Nat.sub_self]; decide) (Int32.not_lt.mpr c35)
    refine r_aload_n d_M_feed_75 0 rfl ?_
    refine rg_M_96 rfl d_M_feed_76 gM rfl ?_
    refine r_ireturn d_M_feed_79 rfl rfl ⟨?_, rfl, ?_⟩
    · rfl
    · rfl
  · intro s hb_s ih_s
    have hes : nI (k - s) - nI 1 = nI (k - s - 1) := pk_sub (by omega)
    refine r_iload d_M_feed_33 3 rfl ?_
    refine r_if_lt (tgt := 75) d_M_feed_35 (by decide) (fun c35 => ?_) (fun c35 => ?_)
    · first | exact absurd (show nI (k - k) - nI 1 < 0 by rw [Nat.sub_self]; decide) c35 | exact absurd c35 (by rw [hes]; exact nI_pos (by omega)) | exact absurd (show nI (k - k) - nI 1 < 0 by rw [Nat.sub_self]; decide) (Int32.not_lt.mpr c35)
    refine r_at (lv' := [(0, .ref (aM g)), (1, .long w), (3, .int (nI k)), (4, .int (nI (k - s - 1)))]) ?_ rfl (by rw [hes]) rfl
    refine r_aload_n d_M_feed_38 0 rfl ?_
    refine rg_M_7 rfl d_M_feed_39 gM rfl ?_
    refine r_aload_n d_M_feed_42 0 rfl ?_
    refine rg_M_96 rfl d_M_feed_43 gM rfl ?_
    refine r_top (y := nI (m.taped + s)) rfl ?_
    refine r_lload_n d_M_feed_46 1 rfl ?_
    refine r_bipush (v := nI 8) d_M_feed_47 (by decide) ?_
    refine r_iload d_M_feed_49 3 rfl ?_
    refine r_imulN d_M_feed_51 ?_
    refine r_lshr d_M_feed_52 ?_
    refine r_l2i d_M_feed_53 ?_
    refine r_sipush (v := nI 255) d_M_feed_54 (by decide) ?_
    refine r_iand d_M_feed_57 ?_
    refine r_top (y := (nI (fdB w (k - s - 1)))) (and255x _) ?_
    refine r_astN d_M_feed_58 gmTape (by omega) (by decide) (wm_tape) ?_
    refine r_aload_n d_M_feed_59 0 rfl ?_
    refine r_dup d_M_feed_60 rfl ?_
    refine rg_M_96 rfl d_M_feed_61 gM rfl ?_
    refine r_top (y := nI (m.taped + s)) rfl ?_
    refine r_iconst (v := nI 1) d_M_feed_64 (by decide) ?_
    refine r_iaddN d_M_feed_65 ?_
    refine rp_M_96 rfl d_M_feed_66 gM (Nat.le_of_ble_eq_true rfl) rfl (wM_taped (v := (m.taped + s) + 1)) ?_
    refine r_iinc (lv' := [(0, _), (1, _), (3, _), (4, _)]) d_M_feed_69 3 rfl rfl (by decide) rfl ?_
    refine r_goto (tgt := 33) d_M_feed_72 (by decide) ?_
    exact r_at ih_s rfl (by rw [show nI (k - (s + 1)) - nI 1 = nI (k - s - 1) + Int32.ofInt (-1) by rw [show k - (s + 1) = k - s - 1 by omega, Int32.sub_eq_add_neg]; rfl]) rfl
theorem k_M_cut {l : Launch} {g : GX} {c : CS} {m : MS} {n d : Nat} (hd : 1 ≤ d) {k : Nat} (hk : k < 24) : CE l g M_M_cut d 0 0 [.ref (aM g), .int (nI k)] n (hp g c m) (some (.int (nI 1))) n (hp g c (m.s_cutA (nI k))) := by
  refine CE.of (by decide +kernel) (lv := [(0, .ref (aM g)), (1, .int (nI k))]) rfl (Nat.le_of_ble_eq_true rfl) ?_
  refine r_iload_n d_M_cut_0 1 rfl ?_
  refine r_iconst (v := nI 0) d_M_cut_1 (by decide) ?_
  refine r_bipush (v := nI 23) d_M_cut_2 (by decide) ?_
  refine rc_M_60 rfl d_M_cut_4 (k_M_inT (K := 23) (by decide) (by omega)) (room_ok (d' := d - 1) (by omega) (by decide)) ⟨Nat.le_refl _, Nat.le_refl _⟩ (Nat.le_of_ble_eq_true rfl) ?_
  refine r_if_neB (tgt := 13) d_M_cut_7 (by decide) (fun c7 => ?_) (fun c7 => ?_)
  rotate_left 1
  · exfalso; first | omega | (revert c7; decide) | cases c7
  refine r_aload_n d_M_cut_13 0 rfl ?_
  refine r_iload_n d_M_cut_14 1 rfl ?_
  refine rp_M_13 rfl d_M_cut_15 gM (Nat.le_of_ble_eq_true rfl) rfl (wM_cutA (v := nI k)) ?_
  refine r_iconst (v := nI 1) d_M_cut_18 (by decide) ?_
  refine r_ireturn d_M_cut_19 rfl rfl ⟨?_, rfl, ?_⟩
  · rfl
  · rfl
def rfN (m : MS) (o : Nat) : Int32 := if m.opn o = true then (-3) else if lvM m < 9 then (-4) else nI 0
theorem k_M_refused {l : Launch} {g : GX} {c : CS} {m : MS} {n d : Nat} (hd : 2 ≤ d) {o : Nat} (ho : o < 6) : CE l g M_M_refused d 0 0 [.ref (aM g), .int (nI o)] n (hp g c m) (some (.int (rfN m o))) n (hp g c m) := by
  have hl12 : lvM m ≤ 12 := lvM_le m
  refine CE.of (by decide +kernel) (lv := [(0, .ref (aM g)), (1, .int (nI o))]) rfl (Nat.le_of_ble_eq_true rfl) ?_
  refine r_iload_n d_M_refused_0 1 rfl ?_
  refine rc_M_125 rfl d_M_refused_1 (k_M_isObjectN (by omega) ho) (room_ok (d' := d - 1) (by omega) (by decide)) ⟨Nat.le_refl _, Nat.le_refl _⟩ (Nat.le_of_ble_eq_true rfl) ?_
  refine r_if_neB (tgt := 12) d_M_refused_4 (by decide) (fun c4 => ?_) (fun c4 => ?_)
  rotate_left 1
  · exfalso; first | omega | (revert c4; decide) | cases c4
  refine r_aload_n d_M_refused_12 0 rfl ?_
  refine rg_M_45 rfl d_M_refused_13 gM rfl ?_
  refine r_iload_n d_M_refused_16 1 rfl ?_
  refine r_zldB d_M_refused_17 gmOpn (by omega) (by decide) ?_
  refine r_if_eqB (tgt := 26) d_M_refused_18 (by decide) (fun c18 => ?_) (fun c18 => ?_)
  · skip
    refine r_aload_n d_M_refused_26 0 rfl ?_
    refine rc_M_107 rfl d_M_refused_27 (k_M_live (by omega)) gM (room_ok (d' := d - 1) (by omega) (by decide)) ⟨Nat.le_refl _, Nat.le_refl _⟩ (Nat.le_of_ble_eq_true rfl) ?_
    refine r_top (y := nI (lvM m)) rfl ?_
    refine r_bipush (v := nI 9) d_M_refused_30 (by decide) ?_
    refine r_icmp_geN (tgt := 40) d_M_refused_32 (by decide) (by omega) (by omega) (fun c32 => ?_) (fun c32 => ?_)
    · skip
      refine r_iconst (v := nI 0) d_M_refused_40 (by decide) ?_
      refine r_ireturn d_M_refused_41 rfl rfl ⟨?_, rfl, ?_⟩
      · unfold rfN; first | (rw [if_pos c18]; done) | (rw [if_neg (by rw [c18]; decide), if_pos c32]; done) | (rw [if_neg (by rw [c18]; decide), if_neg (by omega)])
      · rfl
    · skip
      refine r_bipush (v := (-4)) d_M_refused_35 (by decide) ?_
      refine r_goto (tgt := 41) d_M_refused_37 (by decide) ?_
      refine r_ireturn d_M_refused_41 rfl rfl ⟨?_, rfl, ?_⟩
      · unfold rfN; first | (rw [if_pos c18]; done) | (rw [if_neg (by rw [c18]; decide), if_pos c32]; done) | (rw [if_neg (by rw [c18]; decide), if_neg (by omega)])
      · rfl
  · skip
    refine r_bipush (v := (-3)) d_M_refused_21 (by decide) ?_
    refine r_goto (tgt := 41) d_M_refused_23 (by decide) ?_
    refine r_ireturn d_M_refused_41 rfl rfl ⟨?_, rfl, ?_⟩
    · unfold rfN; first | (rw [if_pos c18]; done) | (rw [if_neg (by rw [c18]; decide), if_pos c32]; done) | (rw [if_neg (by rw [c18]; decide), if_neg (by omega)])
    · rfl
theorem k_M_put_no {l : Launch} {g : GX} {c : CS} {m : MS} {n d : Nat} (hd : 3 ≤ d) {o : Nat} (ho : o < 6) (h : ¬ rfN m o = 0) : CE l g M_M_put d 0 0 [.ref (aM g), .int (nI o)] n (hp g c m) (some (.int (rfN m o))) n (hp g c m) := by
  refine CE.of (by decide +kernel) (lv := [(0, .ref (aM g)), (1, .int (nI o))]) rfl (Nat.le_of_ble_eq_true rfl) ?_
  refine r_aload_n d_M_put_0 0 rfl ?_
  refine r_iload_n d_M_put_1 1 rfl ?_
  refine rc_M_128 rfl d_M_put_2 (k_M_refused (by omega) ho) gM (room_ok (d' := d - 1) (by omega) (by decide)) ⟨Nat.le_refl _, Nat.le_refl _⟩ (Nat.le_of_ble_eq_true rfl) ?_
  refine r_istore_n (lv' := [(0, _), (1, _), (2, _)]) d_M_put_5 (by decide) rfl ?_
  refine r_iload_n d_M_put_6 2 rfl ?_
  refine r_if_eq (tgt := 12) d_M_put_7 (by decide) (fun c7 => ?_) (fun c7 => ?_)
  · exact absurd c7 h
  refine r_iload_n d_M_put_10 2 rfl ?_
  refine r_ireturn d_M_put_11 rfl rfl ⟨?_, rfl, ?_⟩
  · rfl
  · rfl
theorem k_M_remove_no {l : Launch} {g : GX} {c : CS} {m : MS} {n d : Nat} (hd : 3 ≤ d) {o : Nat} (ho : o < 6) (h : ¬ rfN m o = 0) : CE l g M_M_remove d 0 0 [.ref (aM g), .int (nI o)] n (hp g c m) (some (.int (rfN m o))) n (hp g c m) := by
  refine CE.of (by decide +kernel) (lv := [(0, .ref (aM g)), (1, .int (nI o))]) rfl (Nat.le_of_ble_eq_true rfl) ?_
  refine r_aload_n d_M_remove_0 0 rfl ?_
  refine r_iload_n d_M_remove_1 1 rfl ?_
  refine rc_M_128 rfl d_M_remove_2 (k_M_refused (by omega) ho) gM (room_ok (d' := d - 1) (by omega) (by decide)) ⟨Nat.le_refl _, Nat.le_refl _⟩ (Nat.le_of_ble_eq_true rfl) ?_
  refine r_istore_n (lv' := [(0, _), (1, _), (2, _)]) d_M_remove_5 (by decide) rfl ?_
  refine r_iload_n d_M_remove_6 2 rfl ?_
  refine r_if_eq (tgt := 12) d_M_remove_7 (by decide) (fun c7 => ?_) (fun c7 => ?_)
  · exact absurd c7 h
  refine r_iload_n d_M_remove_10 2 rfl ?_
  refine r_ireturn d_M_remove_11 rfl rfl ⟨?_, rfl, ?_⟩
  · rfl
  · rfl
theorem usN_le (m : MS) (i : Nat) : usN m i ≤ 40 := ct_le _ 40
theorem k_M_put_full {l : Launch} {g : GX} {c : CS} {m : MS} {n d : Nat} (hd : 3 ≤ d) {o j : Nat} (ho : o < 6) (h : rfN m o = 0) (hT : m.taped ≤ 240) (hj : j < 12) (hf : m.fail j = false) (hu : 40 - usN m j < stp m.taped) (hb : ∀ i, i < j → m.fail i = true ∨ stp m.taped ≤ 40 - usN m i) : CE l g M_M_put d 0 0 [.ref (aM g), .int (nI o)] n (hp g c m) (some (.int (-5))) n (hp g c m) := by
  have h8 := stp_le hT
  have hus := usN_le m j
  refine CE.of (by decide +kernel) (lv := [(0, .ref (aM g)), (1, .int (nI o))]) rfl (Nat.le_of_ble_eq_true rfl) ?_
  refine r_aload_n d_M_put_0 0 rfl ?_
  refine r_iload_n d_M_put_1 1 rfl ?_
  refine rc_M_128 rfl d_M_put_2 (k_M_refused (by omega) ho) gM (room_ok (d' := d - 1) (by omega) (by decide)) ⟨Nat.le_refl _, Nat.le_refl _⟩ (Nat.le_of_ble_eq_true rfl) ?_
  refine r_istore_n (lv' := [(0, _), (1, _), (2, _)]) d_M_put_5 (by decide) rfl ?_
  refine r_iload_n d_M_put_6 2 rfl ?_
  refine r_if_eq (tgt := 12) d_M_put_7 (by decide) (fun c7 => ?_) (fun c7 => ?_)
  rotate_left 1
  · exact absurd h c7
  refine r_iconst (v := nI 0) d_M_put_12 (by decide) ?_
  refine r_istore_n (lv' := [(0, _), (1, _), (2, _), (3, _)]) d_M_put_13 (by decide) rfl ?_
  refine back_ind (n := j) (G := fun i => RJ l g M_M_put (RMX d 0 0) (TQ g 0 0 (QE (some (.int (-5))) n (hp g c m))) XT n (hp g c m) 0 0 14 [(0, .ref (aM g)), (1, .int (nI o)), (2, .int (rfN m o)), (3, .int (nI i))] []) ?_ ?_ 0 (Nat.zero_le _)
  · skip
    refine r_iload_n d_M_put_14 3 rfl ?_
    refine r_bipush (v := nI 12) d_M_put_15 (by decide) ?_
    refine r_icmp_geN (tgt := 56) d_M_put_17 (by decide) (by omega) (by omega) (fun c17 => ?_) (fun c17 => ?_)
    · exfalso; first | omega | (revert c17; decide) | cases c17
    refine r_aload_n d_M_put_20 0 rfl ?_
    refine rg_M_17 rfl d_M_put_21 gM rfl ?_
    refine r_iload_n d_M_put_24 3 rfl ?_
    refine r_zldB d_M_put_25 gmFail (by omega) (by decide) ?_
    refine r_if_neB (tgt := 50) d_M_put_26 (by decide) (fun c26 => ?_) (fun c26 => ?_)
    · exact absurd (hf.symm.trans c26) (by decide)
    refine r_bipush (v := nI 40) d_M_put_29 (by decide) ?_
    refine r_aload_n d_M_put_31 0 rfl ?_
    refine r_iload_n d_M_put_32 3 rfl ?_
    refine rc_M_131 rfl d_M_put_33 (k_M_usedBy (by omega) (by omega)) gM (room_ok (d' := d - 1) (by omega) (by decide)) ⟨Nat.le_refl _, Nat.le_refl _⟩ (Nat.le_of_ble_eq_true rfl) ?_
    refine r_isubN d_M_put_36 (by omega) ?_
    refine r_aload_n d_M_put_37 0 rfl ?_
    refine rg_M_96 rfl d_M_put_38 gM rfl ?_
    refine rc_M_83 rfl d_M_put_41 (k_M_stripes (by omega) (by omega)) (room_ok (d' := d - 1) (by omega) (by decide)) ⟨Nat.le_refl _, Nat.le_refl _⟩ (Nat.le_of_ble_eq_true rfl) ?_
    refine r_icmp_geN (tgt := 50) d_M_put_44 (by decide) (by omega) (by omega) (fun c44 => ?_) (fun c44 => ?_)
    · exfalso; first | omega | (revert c44; decide) | cases c44
    refine r_bipush (v := (-5)) d_M_put_47 (by decide) ?_
    refine r_ireturn d_M_put_49 rfl rfl ⟨?_, rfl, ?_⟩
    · rfl
    · rfl
  · intro i hb_i ih_i
    have hus2 := usN_le m i
    refine r_iload_n d_M_put_14 3 rfl ?_
    refine r_bipush (v := nI 12) d_M_put_15 (by decide) ?_
    refine r_icmp_geN (tgt := 56) d_M_put_17 (by decide) (by omega) (by omega) (fun c17 => ?_) (fun c17 => ?_)
    · exfalso; first | omega | (revert c17; decide) | cases c17
    refine r_aload_n d_M_put_20 0 rfl ?_
    refine rg_M_17 rfl d_M_put_21 gM rfl ?_
    refine r_iload_n d_M_put_24 3 rfl ?_
    refine r_zldB d_M_put_25 gmFail (by omega) (by decide) ?_
    refine r_if_neB (tgt := 50) d_M_put_26 (by decide) (fun c26 => ?_) (fun c26 => ?_)
    · skip
      refine r_iincN (lv' := [(0, _), (1, _), (2, _), (3, _)]) d_M_put_50 3 rfl (by decide) rfl ?_
      refine r_goto (tgt := 14) d_M_put_53 (by decide) ?_
      exact ih_i
    · skip
      refine r_bipush (v := nI 40) d_M_put_29 (by decide) ?_
      refine r_aload_n d_M_put_31 0 rfl ?_
      refine r_iload_n d_M_put_32 3 rfl ?_
      refine rc_M_131 rfl d_M_put_33 (k_M_usedBy (by omega) (by omega)) gM (room_ok (d' := d - 1) (by omega) (by decide)) ⟨Nat.le_refl _, Nat.le_refl _⟩ (Nat.le_of_ble_eq_true rfl) ?_
      refine r_isubN d_M_put_36 (by omega) ?_
      refine r_aload_n d_M_put_37 0 rfl ?_
      refine rg_M_96 rfl d_M_put_38 gM rfl ?_
      refine rc_M_83 rfl d_M_put_41 (k_M_stripes (by omega) (by omega)) (room_ok (d' := d - 1) (by omega) (by decide)) ⟨Nat.le_refl _, Nat.le_refl _⟩ (Nat.le_of_ble_eq_true rfl) ?_
      refine r_icmp_geN (tgt := 50) d_M_put_44 (by decide) (by omega) (by omega) (fun c44 => ?_) (fun c44 => ?_)
      rotate_left 1
      · rcases hb i hb_i with q | q; exact absurd (q.symm.trans c26) (by decide); omega
      refine r_iincN (lv' := [(0, _), (1, _), (2, _), (3, _)]) d_M_put_50 3 rfl (by decide) rfl ?_
      refine r_goto (tgt := 14) d_M_put_53 (by decide) ?_
      exact ih_i
theorem k_M_put_empty {l : Launch} {g : GX} {c : CS} {m : MS} {n d : Nat} (hd : 3 ≤ d) {o : Nat} (ho : o < 6) (h : rfN m o = 0) (hT : m.taped ≤ 240) (hok : ∀ i, i < 12 → m.fail i = false → stp m.taped ≤ 40 - usN m i) (h0 : m.taped = 0) : CE l g M_M_put d 0 0 [.ref (aM g), .int (nI o)] n (hp g c m) (some (.int (-6))) n (hp g c m) := by
  have h8 := stp_le hT
  refine CE.of (by decide +kernel) (lv := [(0, .ref (aM g)), (1, .int (nI o))]) rfl (Nat.le_of_ble_eq_true rfl) ?_
  refine r_aload_n d_M_put_0 0 rfl ?_
  refine r_iload_n d_M_put_1 1 rfl ?_
  refine rc_M_128 rfl d_M_put_2 (k_M_refused (by omega) ho) gM (room_ok (d' := d - 1) (by omega) (by decide)) ⟨Nat.le_refl _, Nat.le_refl _⟩ (Nat.le_of_ble_eq_true rfl) ?_
  refine r_istore_n (lv' := [(0, _), (1, _), (2, _)]) d_M_put_5 (by decide) rfl ?_
  refine r_iload_n d_M_put_6 2 rfl ?_
  refine r_if_eq (tgt := 12) d_M_put_7 (by decide) (fun c7 => ?_) (fun c7 => ?_)
  rotate_left 1
  · exact absurd h c7
  refine r_iconst (v := nI 0) d_M_put_12 (by decide) ?_
  refine r_istore_n (lv' := [(0, _), (1, _), (2, _), (3, _)]) d_M_put_13 (by decide) rfl ?_
  refine back_ind (n := 12) (G := fun i => RJ l g M_M_put (RMX d 0 0) (TQ g 0 0 (QE (some (.int (-6))) n (hp g c m))) XT n (hp g c m) 0 0 14 [(0, .ref (aM g)), (1, .int (nI o)), (2, .int (rfN m o)), (3, .int (nI i))] []) ?_ ?_ 0 (Nat.zero_le _)
  · skip
    refine r_iload_n d_M_put_14 3 rfl ?_
    refine r_bipush (v := nI 12) d_M_put_15 (by decide) ?_
    refine r_icmp_geN (tgt := 56) d_M_put_17 (by decide) (by omega) (by omega) (fun c17 => ?_) (fun c17 => ?_)
    rotate_left 1
    · exfalso; first | omega | (revert c17; decide) | cases c17
    refine r_aload_n d_M_put_56 0 rfl ?_
    refine rg_M_96 rfl d_M_put_57 gM rfl ?_
    refine r_if_neN (tgt := 66) d_M_put_60 (by decide) (by omega) (fun c60 => ?_) (fun c60 => ?_)
    · exfalso; first | omega | (revert c60; decide) | cases c60
    refine r_bipush (v := (-6)) d_M_put_63 (by decide) ?_
    refine r_ireturn d_M_put_65 rfl rfl ⟨?_, rfl, ?_⟩
    · rfl
    · rfl
  · intro i hb_i ih_i
    have hus2 := usN_le m i
    refine r_iload_n d_M_put_14 3 rfl ?_
    refine r_bipush (v := nI 12) d_M_put_15 (by decide) ?_
    refine r_icmp_geN (tgt := 56) d_M_put_17 (by decide) (by omega) (by omega) (fun c17 => ?_) (fun c17 => ?_)
    · exfalso; first | omega | (revert c17; decide) | cases c17
    refine r_aload_n d_M_put_20 0 rfl ?_
    refine rg_M_17 rfl d_M_put_21 gM rfl ?_
    refine r_iload_n d_M_put_24 3 rfl ?_
    refine r_zldB d_M_put_25 gmFail (by omega) (by decide) ?_
    refine r_if_neB (tgt := 50) d_M_put_26 (by decide) (fun c26 => ?_) (fun c26 => ?_)
    · skip
      refine r_iincN (lv' := [(0, _), (1, _), (2, _), (3, _)]) d_M_put_50 3 rfl (by decide) rfl ?_
      refine r_goto (tgt := 14) d_M_put_53 (by decide) ?_
      exact ih_i
    · skip
      refine r_bipush (v := nI 40) d_M_put_29 (by decide) ?_
      refine r_aload_n d_M_put_31 0 rfl ?_
      refine r_iload_n d_M_put_32 3 rfl ?_
      refine rc_M_131 rfl d_M_put_33 (k_M_usedBy (by omega) (by omega)) gM (room_ok (d' := d - 1) (by omega) (by decide)) ⟨Nat.le_refl _, Nat.le_refl _⟩ (Nat.le_of_ble_eq_true rfl) ?_
      refine r_isubN d_M_put_36 (by omega) ?_
      refine r_aload_n d_M_put_37 0 rfl ?_
      refine rg_M_96 rfl d_M_put_38 gM rfl ?_
      refine rc_M_83 rfl d_M_put_41 (k_M_stripes (by omega) (by omega)) (room_ok (d' := d - 1) (by omega) (by decide)) ⟨Nat.le_refl _, Nat.le_refl _⟩ (Nat.le_of_ble_eq_true rfl) ?_
      refine r_icmp_geN (tgt := 50) d_M_put_44 (by decide) (by omega) (by omega) (fun c44 => ?_) (fun c44 => ?_)
      rotate_left 1
      · exact absurd (hok i hb_i c26) (by omega)
      refine r_iincN (lv' := [(0, _), (1, _), (2, _), (3, _)]) d_M_put_50 3 rfl (by decide) rfl ?_
      refine r_goto (tgt := 14) d_M_put_53 (by decide) ?_
      exact ih_i
theorem k_M_put {l : Launch} {g : GX} {c : CS} {m : MS} {n d : Nat} (hd : 5 ≤ d) {o : Nat} (ho : o < 6) (h : rfN m o = 0) (hT : m.taped ≤ 240) (hok : ∀ i, i < 12 → m.fail i = false → stp m.taped ≤ 40 - usN m i) (h0 : 0 < m.taped) (hm : MI m) (hB : B1 m.tape) (hlt : m.latest o < 65535) (hcut : m.cutA = -1 ∨ ∃ k, k < 24 ∧ m.cutA = nI k) (hga : gaOk (gs1 m o) o (mst m)) : CE l g M_M_put d 0 0 [.ref (aM g), .int (nI o)] n (hp g c m) (some (.int (gsR m o))) n (hp g c ((gsM m o).s_taped 0)) := by
  have h8 := stp_le hT
  refine CE.of (by decide +kernel) (lv := [(0, .ref (aM g)), (1, .int (nI o))]) rfl (Nat.le_of_ble_eq_true rfl) ?_
  refine r_aload_n d_M_put_0 0 rfl ?_
  refine r_iload_n d_M_put_1 1 rfl ?_
  refine rc_M_128 rfl d_M_put_2 (k_M_refused (by omega) ho) gM (room_ok (d' := d - 1) (by omega) (by decide)) ⟨Nat.le_refl _, Nat.le_refl _⟩ (Nat.le_of_ble_eq_true rfl) ?_
  refine r_istore_n (lv' := [(0, _), (1, _), (2, _)]) d_M_put_5 (by decide) rfl ?_
  refine r_iload_n d_M_put_6 2 rfl ?_
  refine r_if_eq (tgt := 12) d_M_put_7 (by decide) (fun c7 => ?_) (fun c7 => ?_)
  rotate_left 1
  · exact absurd h c7
  refine r_iconst (v := nI 0) d_M_put_12 (by decide) ?_
  refine r_istore_n (lv' := [(0, _), (1, _), (2, _), (3, _)]) d_M_put_13 (by decide) rfl ?_
  refine back_ind (n := 12) (G := fun i => RJ l g M_M_put (RMX d 0 0) (TQ g 0 0 (QE (some (.int (gsR m o))) n (hp g c ((gsM m o).s_taped 0)))) XT n (hp g c m) 0 0 14 [(0, .ref (aM g)), (1, .int (nI o)), (2, .int (rfN m o)), (3, .int (nI i))] []) ?_ ?_ 0 (Nat.zero_le _)
  · skip
    refine r_iload_n d_M_put_14 3 rfl ?_
    refine r_bipush (v := nI 12) d_M_put_15 (by decide) ?_
    refine r_icmp_geN (tgt := 56) d_M_put_17 (by decide) (by omega) (by omega) (fun c17 => ?_) (fun c17 => ?_)
    rotate_left 1
    · exfalso; first | omega | (revert c17; decide) | cases c17
    refine r_aload_n d_M_put_56 0 rfl ?_
    refine rg_M_96 rfl d_M_put_57 gM rfl ?_
    refine r_if_neN (tgt := 66) d_M_put_60 (by decide) (by omega) (fun c60 => ?_) (fun c60 => ?_)
    rotate_left 1
    · exfalso; first | omega | (revert c60; decide) | cases c60
    refine r_aload_n d_M_put_66 0 rfl ?_
    refine r_iload_n d_M_put_67 1 rfl ?_
    refine rc_M_134 rfl d_M_put_68 (k_M_goes (by omega) ho hm hT hB hlt hcut hga) gM (room_ok (d' := d - 1) (by omega) (by decide)) ⟨Nat.le_refl _, Nat.le_refl _⟩ (Nat.le_of_ble_eq_true rfl) ?_
    refine r_istore_n (lv' := [(0, _), (1, _), (2, _), (3, _)]) d_M_put_71 (by decide) rfl ?_
    refine r_aload_n d_M_put_72 0 rfl ?_
    refine r_iconst (v := nI 0) d_M_put_73 (by decide) ?_
    refine rp_M_96 rfl d_M_put_74 gM (Nat.le_of_ble_eq_true rfl) rfl (wM_taped (v := 0)) ?_
    refine r_iload_n d_M_put_77 3 rfl ?_
    refine r_ireturn d_M_put_78 rfl rfl ⟨?_, rfl, ?_⟩
    · rfl
    · rfl
  · intro i hb_i ih_i
    have hus2 := usN_le m i
    refine r_iload_n d_M_put_14 3 rfl ?_
    refine r_bipush (v := nI 12) d_M_put_15 (by decide) ?_
    refine r_icmp_geN (tgt := 56) d_M_put_17 (by decide) (by omega) (by omega) (fun c17 => ?_) (fun c17 => ?_)
    · exfalso; first | omega | (revert c17; decide) | cases c17
    refine r_aload_n d_M_put_20 0 rfl ?_
    refine rg_M_17 rfl d_M_put_21 gM rfl ?_
    refine r_iload_n d_M_put_24 3 rfl ?_
    refine r_zldB d_M_put_25 gmFail (by omega) (by decide) ?_
    refine r_if_neB (tgt := 50) d_M_put_26 (by decide) (fun c26 => ?_) (fun c26 => ?_)
    · skip
      refine r_iincN (lv' := [(0, _), (1, _), (2, _), (3, _)]) d_M_put_50 3 rfl (by decide) rfl ?_
      refine r_goto (tgt := 14) d_M_put_53 (by decide) ?_
      exact ih_i
    · skip
      refine r_bipush (v := nI 40) d_M_put_29 (by decide) ?_
      refine r_aload_n d_M_put_31 0 rfl ?_
      refine r_iload_n d_M_put_32 3 rfl ?_
      refine rc_M_131 rfl d_M_put_33 (k_M_usedBy (by omega) (by omega)) gM (room_ok (d' := d - 1) (by omega) (by decide)) ⟨Nat.le_refl _, Nat.le_refl _⟩ (Nat.le_of_ble_eq_true rfl) ?_
      refine r_isubN d_M_put_36 (by omega) ?_
      refine r_aload_n d_M_put_37 0 rfl ?_
      refine rg_M_96 rfl d_M_put_38 gM rfl ?_
      refine rc_M_83 rfl d_M_put_41 (k_M_stripes (by omega) (by omega)) (room_ok (d' := d - 1) (by omega) (by decide)) ⟨Nat.le_refl _, Nat.le_refl _⟩ (Nat.le_of_ble_eq_true rfl) ?_
      refine r_icmp_geN (tgt := 50) d_M_put_44 (by decide) (by omega) (by omega) (fun c44 => ?_) (fun c44 => ?_)
      rotate_left 1
      · exact absurd (hok i hb_i c26) (by omega)
      refine r_iincN (lv' := [(0, _), (1, _), (2, _), (3, _)]) d_M_put_50 3 rfl (by decide) rfl ?_
      refine r_goto (tgt := 14) d_M_put_53 (by decide) ?_
      exact ih_i
theorem k_M_remove {l : Launch} {g : GX} {c : CS} {m : MS} {n d : Nat} (hd : 5 ≤ d) {o : Nat} (ho : o < 6) (h : rfN m o = 0) (hm : MI m) (hB : B1 m.tape) (hlt : m.latest o < 65535) (hcut : m.cutA = -1 ∨ ∃ k, k < 24 ∧ m.cutA = nI k) : CE l g M_M_remove d 0 0 [.ref (aM g), .int (nI o)] n (hp g c m) (some (.int (gsR (m.s_taped 0) o))) n (hp g c ((gsM (m.s_taped 0) o).s_taped m.taped)) := by
  refine CE.of (by decide +kernel) (lv := [(0, .ref (aM g)), (1, .int (nI o))]) rfl (Nat.le_of_ble_eq_true rfl) ?_
  refine r_aload_n d_M_remove_0 0 rfl ?_
  refine r_iload_n d_M_remove_1 1 rfl ?_
  refine rc_M_128 rfl d_M_remove_2 (k_M_refused (by omega) ho) gM (room_ok (d' := d - 1) (by omega) (by decide)) ⟨Nat.le_refl _, Nat.le_refl _⟩ (Nat.le_of_ble_eq_true rfl) ?_
  refine r_istore_n (lv' := [(0, _), (1, _), (2, _)]) d_M_remove_5 (by decide) rfl ?_
  refine r_iload_n d_M_remove_6 2 rfl ?_
  refine r_if_eq (tgt := 12) d_M_remove_7 (by decide) (fun c7 => ?_) (fun c7 => ?_)
  rotate_left 1
  · exact absurd h c7
  refine r_aload_n d_M_remove_12 0 rfl ?_
  refine rg_M_96 rfl d_M_remove_13 gM rfl ?_
  refine r_istore_n (lv' := [(0, _), (1, _), (2, _), (3, _)]) d_M_remove_16 (by decide) rfl ?_
  refine r_aload_n d_M_remove_17 0 rfl ?_
  refine r_iconst (v := nI 0) d_M_remove_18 (by decide) ?_
  refine rp_M_96 rfl d_M_remove_19 gM (Nat.le_of_ble_eq_true rfl) rfl (wM_taped (v := 0)) ?_
  refine r_aload_n d_M_remove_22 0 rfl ?_
  refine r_iload_n d_M_remove_23 1 rfl ?_
  refine rc_M_134 rfl d_M_remove_24 (k_M_goes (m := m.s_taped 0) (by omega) ho hm (show 0 ≤ 240 by decide) hB hlt hcut (fun i _ _ _ k hk => absurd (show k < stp 0 from hk) (by unfold stp; omega))) gM (room_ok (d' := d - 1) (by omega) (by decide)) ⟨Nat.le_refl _, Nat.le_refl _⟩ (Nat.le_of_ble_eq_true rfl) ?_
  refine r_istore (lv' := [(0, _), (1, _), (2, _), (3, _), (4, _)]) d_M_remove_27 (by decide) rfl ?_
  refine r_aload_n d_M_remove_29 0 rfl ?_
  refine r_iload_n d_M_remove_30 3 rfl ?_
  refine rp_M_96 rfl d_M_remove_31 gM (Nat.le_of_ble_eq_true rfl) rfl (wM_taped (v := m.taped)) ?_
  refine r_iload d_M_remove_34 4 rfl ?_
  refine r_ireturn d_M_remove_36 rfl rfl ⟨?_, rfl, ?_⟩
  · rfl
  · rfl
def tkn (m : MS) (o : Nat) : Nat → Bool
  | 0 => false
  | i + 1 => tkn m o i || (m.has (rx i o false) && decide (m.ver (rx i o false) = m.latest o))
def stMO (X : MS) (o : Nat) (t : Bool) (i : Nat) : MS := if X.fail i = false ∧ X.has (rx i o true) = true ∧ X.ver (rx i o true) = X.latest o then (if t = true then mfl X i o else mgu X i (rx i o true)) else X
def stM (m : MS) (o : Nat) (t : Bool) : Nat → MS
  | 0 => m
  | i + 1 => stMO (stM m o t i) o t i
theorem stMO_MI {X : MS} {o i : Nat} {t : Bool} (h : MI X) : MI (stMO X o t i) := by
  unfold stMO
  split
  · split
    · exact MI_fl h
    · exact MI_gu h
  · exact h
theorem stM_MI {m : MS} {o : Nat} {t : Bool} (h : MI m) : ∀ i, MI (stM m o t i)
  | 0 => h
  | i + 1 => stMO_MI (stM_MI h i)
theorem samG_st (m : MS) (o : Nat) (t : Bool) : ∀ i, samG m (stM m o t i)
  | 0 => samG.rf m
  | i + 1 => by
    refine (samG_st m o t i).tr ?_
    show samG _ (stMO _ o t i)
    unfold stMO
    split
    · split
      · exact samG_fl _ i o
      · exact samG_gu _ i _
    · exact samG.rf _
def seM (m : MS) (o : Nat) : MS := stM (m.s_opn (upN m.opn o false)) o (tkn m o 12) 12
theorem k_M_settle {l : Launch} {g : GX} {c : CS} {m : MS} {n d : Nat} (hd : 4 ≤ d) {o : Nat} (ho : o < 6) (hm : MI m) (hlt : m.latest o < 65536) (h : m.opn o = true) : CE l g M_M_settle d 0 0 [.ref (aM g), .int (nI o)] n (hp g c m) (some (.int (b2 (tkn m o 12)))) n (hp g c (seM m o)) := by
  refine CE.of (by decide +kernel) (lv := [(0, .ref (aM g)), (1, .int (nI o))]) rfl (Nat.le_of_ble_eq_true rfl) ?_
  refine r_iload_n d_M_settle_0 1 rfl ?_
  refine rc_M_125 rfl d_M_settle_1 (k_M_isObjectN (by omega) ho) (room_ok (d' := d - 1) (by omega) (by decide)) ⟨Nat.le_refl _, Nat.le_refl _⟩ (Nat.le_of_ble_eq_true rfl) ?_
  refine r_if_neB (tgt := 10) d_M_settle_4 (by decide) (fun c4 => ?_) (fun c4 => ?_)
  rotate_left 1
  · exfalso; first | omega | (revert c4; decide) | cases c4
  refine r_aload_n d_M_settle_10 0 rfl ?_
  refine rg_M_45 rfl d_M_settle_11 gM rfl ?_
  refine r_iload_n d_M_settle_14 1 rfl ?_
  refine r_zldB d_M_settle_15 gmOpn (by omega) (by decide) ?_
  refine r_if_neB (tgt := 22) d_M_settle_16 (by decide) (fun c16 => ?_) (fun c16 => ?_)
  rotate_left 1
  · exact absurd (h.symm.trans c16) (by decide)
  refine r_aload_n d_M_settle_22 0 rfl ?_
  refine rg_M_45 rfl d_M_settle_23 gM rfl ?_
  refine r_iload_n d_M_settle_26 1 rfl ?_
  refine r_iconst (v := nI 0) d_M_settle_27 (by decide) ?_
  refine r_zast (b := false) d_M_settle_28 rfl gmOpn (by omega) (by decide) (wm_opn) ?_
  refine r_iconst (v := nI 0) d_M_settle_29 (by decide) ?_
  refine r_top (y := b2 (tkn m o 0)) rfl ?_
  refine r_istore_n (lv' := [(0, _), (1, _), (2, _)]) d_M_settle_30 (by decide) rfl ?_
  refine r_iconst (v := nI 0) d_M_settle_31 (by decide) ?_
  refine r_istore_n (lv' := [(0, _), (1, _), (2, _), (3, _)]) d_M_settle_32 (by decide) rfl ?_
  refine r_less (lv' := [(0, .ref (aM g)), (1, .int (nI o)), (2, .int (b2 (tkn m o 0))), (3, .int (nI 0))]) (by simp) ?_
  refine back_ind (n := 12) (G := fun i => RJ l g M_M_settle (RMX d 0 0) (TQ g 0 0 (QE (some (.int (b2 (tkn m o 12)))) n (hp g c (seM m o)))) XT n (hp g c (m.s_opn (upN m.opn o false))) 0 0 33 [(0, .ref (aM g)), (1, .int (nI o)), (2, .int (b2 (tkn m o i))), (3, .int (nI i))] []) ?_ ?_ 0 (Nat.zero_le _)
  · skip
    refine r_iload_n d_M_settle_33 3 rfl ?_
    refine r_bipush (v := nI 12) d_M_settle_34 (by decide) ?_
    refine r_icmp_geN (tgt := 89) d_M_settle_36 (by decide) (by omega) (by omega) (fun c36 => ?_) (fun c36 => ?_)
    rotate_left 1
    · exfalso; first | omega | (revert c36; decide) | cases c36
    refine r_iconst (v := nI 0) d_M_settle_89 (by decide) ?_
    refine r_istore_n (lv' := [(0, _), (1, _), (2, _), (3, _)]) d_M_settle_90 (by decide) rfl ?_
    refine r_heap (h' := hp g c (stM (m.s_opn (upN m.opn o false)) o (tkn m o 12) 0)) rfl ?_
    refine r_less (lv' := [(0, .ref (aM g)), (1, .int (nI o)), (2, .int (b2 (tkn m o 12))), (3, .int (nI 0))]) (by simp) ?_
    refine back_ind (n := 12) (G := fun i => RJ l g M_M_settle (RMX d 0 0) (TQ g 0 0 (QE (some (.int (b2 (tkn m o 12)))) n (hp g c (seM m o)))) XT n (hp g c (stM (m.s_opn (upN m.opn o false)) o (tkn m o 12) i)) 0 0 91 [(0, .ref (aM g)), (1, .int (nI o)), (2, .int (b2 (tkn m o 12))), (3, .int (nI i))] []) ?_ ?_ 0 (Nat.zero_le _)
    · skip
      refine r_iload_n d_M_settle_91 3 rfl ?_
      refine r_bipush (v := nI 12) d_M_settle_92 (by decide) ?_
      refine r_icmp_geN (tgt := 166) d_M_settle_94 (by decide) (by omega) (by omega) (fun c94 => ?_) (fun c94 => ?_)
      rotate_left 1
      · exfalso; first | omega | (revert c94; decide) | cases c94
      refine r_iload_n d_M_settle_166 2 rfl ?_
      refine r_if_eqB (tgt := 174) d_M_settle_167 (by decide) (fun c167 => ?_) (fun c167 => ?_)
      · skip
        refine r_iconst (v := nI 0) d_M_settle_174 (by decide) ?_
        refine r_ireturn d_M_settle_175 rfl rfl ⟨?_, rfl, ?_⟩
        · first | exact vb1 c167 | exact vb0 c167
        · rfl
      · skip
        refine r_iconst (v := nI 1) d_M_settle_170 (by decide) ?_
        refine r_goto (tgt := 175) d_M_settle_171 (by decide) ?_
        refine r_ireturn d_M_settle_175 rfl rfl ⟨?_, rfl, ?_⟩
        · first | exact vb1 c167 | exact vb0 c167
        · rfl
    · intro i hb_i ih_i
      have hr := rx_lt (z := true) hb_i ho
      have hci : MI (stM (m.s_opn (upN m.opn o false)) o (tkn m o 12) i) := stM_MI (m := (m.s_opn (upN m.opn o false))) hm i
      have hv2 := hci.2.1 (rx i o true)
      have hbi : (stM (m.s_opn (upN m.opn o false)) o (tkn m o 12) i).latest o = m.latest o := congrFun (samG_st (m.s_opn (upN m.opn o false)) o (tkn m o 12) i).2.1 o
      refine r_iload_n d_M_settle_91 3 rfl ?_
      refine r_bipush (v := nI 12) d_M_settle_92 (by decide) ?_
      refine r_icmp_geN (tgt := 166) d_M_settle_94 (by decide) (by omega) (by omega) (fun c94 => ?_) (fun c94 => ?_)
      · exfalso; first | omega | (revert c94; decide) | cases c94
      refine r_iload_n d_M_settle_97 3 rfl ?_
      refine r_iload_n d_M_settle_98 1 rfl ?_
      refine r_iconst (v := nI 1) d_M_settle_99 (by decide) ?_
      refine rc_M_79 rfl d_M_settle_100 (k_M_at (i := i) (o := o) (z := true) (by omega)) (room_ok (d' := d - 1) (by omega) (by decide)) ⟨Nat.le_refl _, Nat.le_refl _⟩ (Nat.le_of_ble_eq_true rfl) ?_
      refine r_istore (lv' := [(0, _), (1, _), (2, _), (3, _), (4, _)]) d_M_settle_103 (by decide) rfl ?_
      refine r_aload_n d_M_settle_105 0 rfl ?_
      refine rg_M_17 rfl d_M_settle_106 gM rfl ?_
      refine r_iload_n d_M_settle_109 3 rfl ?_
      refine r_zldB d_M_settle_110 gmFail (by omega) (by decide) ?_
      refine r_if_neB (tgt := 160) d_M_settle_111 (by decide) (fun c111 => ?_) (fun c111 => ?_)
      · skip
        have hst : stM (m.s_opn (upN m.opn o false)) o (tkn m o 12) (i + 1) = stM (m.s_opn (upN m.opn o false)) o (tkn m o 12) i := if_neg (fun q => absurd (q.1.symm.trans c111) (by decide))
        refine r_iincN (lv' := [(0, _), (1, _), (2, _), (3, _), (4, _)]) d_M_settle_160 3 rfl (by decide) rfl ?_
        refine r_goto (tgt := 91) d_M_settle_163 (by decide) ?_
        refine r_less (lv' := [(0, .ref (aM g)), (1, .int (nI o)), (2, .int (b2 (tkn m o 12))), (3, .int (nI (i + 1)))]) (by simp) ?_
        exact r_at ih_i (congrArg (fun z => hp g c z) hst.symm) rfl rfl
      · skip
        refine r_aload_n d_M_settle_114 0 rfl ?_
        refine rg_M_30 rfl d_M_settle_115 gM rfl ?_
        refine r_iload d_M_settle_118 4 rfl ?_
        refine r_zldB d_M_settle_120 gmHas (by omega) (by decide) ?_
        refine r_if_eqB (tgt := 160) d_M_settle_121 (by decide) (fun c121 => ?_) (fun c121 => ?_)
        · skip
          have hst : stM (m.s_opn (upN m.opn o false)) o (tkn m o 12) (i + 1) = stM (m.s_opn (upN m.opn o false)) o (tkn m o 12) i := if_neg (fun q => absurd (q.2.1.symm.trans c121) (by decide))
          refine r_iincN (lv' := [(0, _), (1, _), (2, _), (3, _), (4, _)]) d_M_settle_160 3 rfl (by decide) rfl ?_
          refine r_goto (tgt := 91) d_M_settle_163 (by decide) ?_
          refine r_less (lv' := [(0, .ref (aM g)), (1, .int (nI o)), (2, .int (b2 (tkn m o 12))), (3, .int (nI (i + 1)))]) (by simp) ?_
          exact r_at ih_i (congrArg (fun z => hp g c z) hst.symm) rfl rfl
        · skip
          refine r_aload_n d_M_settle_124 0 rfl ?_
          refine rg_M_33 rfl d_M_settle_125 gM rfl ?_
          refine r_iload d_M_settle_128 4 rfl ?_
          refine r_aldN d_M_settle_130 gmVer (by omega) (by decide) ?_
          refine r_aload_n d_M_settle_131 0 rfl ?_
          refine rg_M_42 rfl d_M_settle_132 gM rfl ?_
          refine r_iload_n d_M_settle_135 1 rfl ?_
          refine r_aldN d_M_settle_136 gmLat (by omega) (by decide) ?_
          refine r_icmp_neN (tgt := 160) d_M_settle_137 (by decide) (by omega) (by omega) (fun c137 => ?_) (fun c137 => ?_)
          · skip
            have hst : stM (m.s_opn (upN m.opn o false)) o (tkn m o 12) (i + 1) = stM (m.s_opn (upN m.opn o false)) o (tkn m o 12) i := if_neg (fun q => c137 q.2.2)
            refine r_iincN (lv' := [(0, _), (1, _), (2, _), (3, _), (4, _)]) d_M_settle_160 3 rfl (by decide) rfl ?_
            refine r_goto (tgt := 91) d_M_settle_163 (by decide) ?_
            refine r_less (lv' := [(0, .ref (aM g)), (1, .int (nI o)), (2, .int (b2 (tkn m o 12))), (3, .int (nI (i + 1)))]) (by simp) ?_
            exact r_at ih_i (congrArg (fun z => hp g c z) hst.symm) rfl rfl
          · skip
            refine r_iload_n d_M_settle_140 2 rfl ?_
            refine r_if_eqB (tgt := 153) d_M_settle_141 (by decide) (fun c141 => ?_) (fun c141 => ?_)
            · skip
              have hst : stM (m.s_opn (upN m.opn o false)) o (tkn m o 12) (i + 1) = mgu (stM (m.s_opn (upN m.opn o false)) o (tkn m o 12) i) i (rx i o true) := (if_pos ⟨c111, c121, c137⟩).trans (if_neg (by rw [c141]; decide))
              refine r_aload_n d_M_settle_153 0 rfl ?_
              refine r_iload_n d_M_settle_154 3 rfl ?_
              refine r_iload_n d_M_settle_155 1 rfl ?_
              refine r_iconst (v := nI 1) d_M_settle_156 (by decide) ?_
              refine rc_M_89 rfl d_M_settle_157 (k_M_givesUp (m := stM (m.s_opn (upN m.opn o false)) o (tkn m o 12) i) (z := true) (by omega) hb_i ho hci) gM (room_ok (d' := d - 1) (by omega) (by decide)) ⟨Nat.le_refl _, Nat.le_refl _⟩ (Nat.le_of_ble_eq_true rfl) ?_
              refine r_iincN (lv' := [(0, _), (1, _), (2, _), (3, _), (4, _)]) d_M_settle_160 3 rfl (by decide) rfl ?_
              refine r_goto (tgt := 91) d_M_settle_163 (by decide) ?_
              refine r_less (lv' := [(0, .ref (aM g)), (1, .int (nI o)), (2, .int (b2 (tkn m o 12))), (3, .int (nI (i + 1)))]) (by simp) ?_
              exact r_at ih_i (congrArg (fun z => hp g c z) hst.symm) rfl rfl
            · skip
              have hst : stM (m.s_opn (upN m.opn o false)) o (tkn m o 12) (i + 1) = mfl (stM (m.s_opn (upN m.opn o false)) o (tkn m o 12) i) i o := (if_pos ⟨c111, c121, c137⟩).trans (if_pos c141)
              refine r_aload_n d_M_settle_144 0 rfl ?_
              refine r_iload_n d_M_settle_145 3 rfl ?_
              refine r_iload_n d_M_settle_146 1 rfl ?_
              refine rc_M_119 rfl d_M_settle_147 (k_M_flips (m := stM (m.s_opn (upN m.opn o false)) o (tkn m o 12) i) (by omega) hb_i ho hci) gM (room_ok (d' := d - 1) (by omega) (by decide)) ⟨Nat.le_refl _, Nat.le_refl _⟩ (Nat.le_of_ble_eq_true rfl) ?_
              refine r_goto (tgt := 160) d_M_settle_150 (by decide) ?_
              refine r_iincN (lv' := [(0, _), (1, _), (2, _), (3, _), (4, _)]) d_M_settle_160 3 rfl (by decide) rfl ?_
              refine r_goto (tgt := 91) d_M_settle_163 (by decide) ?_
              refine r_less (lv' := [(0, .ref (aM g)), (1, .int (nI o)), (2, .int (b2 (tkn m o 12))), (3, .int (nI (i + 1)))]) (by simp) ?_
              exact r_at ih_i (congrArg (fun z => hp g c z) hst.symm) rfl rfl
  · intro i hb_i ih_i
    have hr := rx_lt (z := false) hb_i ho
    have hv2 := hm.2.1 (rx i o false)
    refine r_iload_n d_M_settle_33 3 rfl ?_
    refine r_bipush (v := nI 12) d_M_settle_34 (by decide) ?_
    refine r_icmp_geN (tgt := 89) d_M_settle_36 (by decide) (by omega) (by omega) (fun c36 => ?_) (fun c36 => ?_)
    · exfalso; first | omega | (revert c36; decide) | cases c36
    refine r_iload_n d_M_settle_39 3 rfl ?_
    refine r_iload_n d_M_settle_40 1 rfl ?_
    refine r_iconst (v := nI 0) d_M_settle_41 (by decide) ?_
    refine rc_M_79 rfl d_M_settle_42 (k_M_at (i := i) (o := o) (z := false) (by omega)) (room_ok (d' := d - 1) (by omega) (by decide)) ⟨Nat.le_refl _, Nat.le_refl _⟩ (Nat.le_of_ble_eq_true rfl) ?_
    refine r_istore (lv' := [(0, _), (1, _), (2, _), (3, _), (4, _)]) d_M_settle_45 (by decide) rfl ?_
    refine r_iload_n d_M_settle_47 2 rfl ?_
    refine r_if_neB (tgt := 77) d_M_settle_48 (by decide) (fun c48 => ?_) (fun c48 => ?_)
    · skip
      have hk : tkn m o (i + 1) = true := by simp [tkn, c48]
      refine r_iconst (v := nI 1) d_M_settle_77 (by decide) ?_
      refine r_goto (tgt := 82) d_M_settle_78 (by decide) ?_
      refine r_istore_n (lv' := [(0, _), (1, _), (2, _), (3, _), (4, _)]) d_M_settle_82 (by decide) rfl ?_
      refine r_iincN (lv' := [(0, _), (1, _), (2, _), (3, _), (4, _)]) d_M_settle_83 3 rfl (by decide) rfl ?_
      refine r_goto (tgt := 33) d_M_settle_86 (by decide) ?_
      refine r_less (lv' := [(0, .ref (aM g)), (1, .int (nI o)), (2, .int (nI 1)), (3, .int (nI (i + 1)))]) (by simp) ?_
      exact r_at ih_i rfl (by rw [hk]; try rfl) rfl
    · skip
      refine r_aload_n d_M_settle_51 0 rfl ?_
      refine rg_M_30 rfl d_M_settle_52 gM rfl ?_
      refine r_iload d_M_settle_55 4 rfl ?_
      refine r_zldB d_M_settle_57 gmHas (by omega) (by decide) ?_
      refine r_top (y := b2 (m.has (rx i o false))) rfl ?_
      refine r_if_eqB (tgt := 81) d_M_settle_58 (by decide) (fun c58 => ?_) (fun c58 => ?_)
      · skip
        have hk : tkn m o (i + 1) = false := by simp [tkn, c48, c58]
        refine r_iconst (v := nI 0) d_M_settle_81 (by decide) ?_
        refine r_istore_n (lv' := [(0, _), (1, _), (2, _), (3, _), (4, _)]) d_M_settle_82 (by decide) rfl ?_
        refine r_iincN (lv' := [(0, _), (1, _), (2, _), (3, _), (4, _)]) d_M_settle_83 3 rfl (by decide) rfl ?_
        refine r_goto (tgt := 33) d_M_settle_86 (by decide) ?_
        refine r_less (lv' := [(0, .ref (aM g)), (1, .int (nI o)), (2, .int (nI 0)), (3, .int (nI (i + 1)))]) (by simp) ?_
        exact r_at ih_i rfl (by rw [hk]; try rfl) rfl
      · skip
        refine r_aload_n d_M_settle_61 0 rfl ?_
        refine rg_M_33 rfl d_M_settle_62 gM rfl ?_
        refine r_iload d_M_settle_65 4 rfl ?_
        refine r_aldN d_M_settle_67 gmVer (by omega) (by decide) ?_
        refine r_top (y := nI (m.ver (rx i o false))) rfl ?_
        refine r_aload_n d_M_settle_68 0 rfl ?_
        refine rg_M_42 rfl d_M_settle_69 gM rfl ?_
        refine r_iload_n d_M_settle_72 1 rfl ?_
        refine r_aldN d_M_settle_73 gmLat (by omega) (by decide) ?_
        refine r_top (y := nI (m.latest o)) rfl ?_
        refine r_icmp_neN (tgt := 81) d_M_settle_74 (by decide) (by omega) (by omega) (fun c74 => ?_) (fun c74 => ?_)
        · skip
          have hk : tkn m o (i + 1) = false := by simp [tkn, c48, c58, c74]
          refine r_iconst (v := nI 0) d_M_settle_81 (by decide) ?_
          refine r_istore_n (lv' := [(0, _), (1, _), (2, _), (3, _), (4, _)]) d_M_settle_82 (by decide) rfl ?_
          refine r_iincN (lv' := [(0, _), (1, _), (2, _), (3, _), (4, _)]) d_M_settle_83 3 rfl (by decide) rfl ?_
          refine r_goto (tgt := 33) d_M_settle_86 (by decide) ?_
          refine r_less (lv' := [(0, .ref (aM g)), (1, .int (nI o)), (2, .int (nI 0)), (3, .int (nI (i + 1)))]) (by simp) ?_
          exact r_at ih_i rfl (by rw [hk]; try rfl) rfl
        · skip
          have hk : tkn m o (i + 1) = true := by simp [tkn, c58, c74]
          refine r_iconst (v := nI 1) d_M_settle_77 (by decide) ?_
          refine r_goto (tgt := 82) d_M_settle_78 (by decide) ?_
          refine r_istore_n (lv' := [(0, _), (1, _), (2, _), (3, _), (4, _)]) d_M_settle_82 (by decide) rfl ?_
          refine r_iincN (lv' := [(0, _), (1, _), (2, _), (3, _), (4, _)]) d_M_settle_83 3 rfl (by decide) rfl ?_
          refine r_goto (tgt := 33) d_M_settle_86 (by decide) ?_
          refine r_less (lv' := [(0, .ref (aM g)), (1, .int (nI o)), (2, .int (nI 1)), (3, .int (nI (i + 1)))]) (by simp) ?_
          exact r_at ih_i rfl (by rw [hk]; try rfl) rfl
theorem k_M_got {l : Launch} {g : GX} {c : CS} {m : MS} {n d : Nat} (hd : 1 ≤ d) {i : Nat} (hi : i < m.gotN) (hg : m.gotN ≤ 240) : CE l g M_M_got d 0 0 [.ref (aM g), .int (nI i)] n (hp g c m) (some (.int (nI (m.got i)))) n (hp g c m) := by
  refine CE.of (by decide +kernel) (lv := [(0, .ref (aM g)), (1, .int (nI i))]) rfl (Nat.le_of_ble_eq_true rfl) ?_
  refine r_iload_n d_M_got_0 1 rfl ?_
  refine r_iconst (v := nI 0) d_M_got_1 (by decide) ?_
  refine r_aload_n d_M_got_2 0 rfl ?_
  refine rg_M_152 rfl d_M_got_3 gM rfl ?_
  refine r_iconst (v := nI 1) d_M_got_6 (by decide) ?_
  refine r_isub d_M_got_7 ?_
  refine rc_M_60 rfl d_M_got_8 (k_M_inM (K := m.gotN) (by omega)) (room_ok (d' := d - 1) (by omega) (by decide)) ⟨Nat.le_refl _, Nat.le_refl _⟩ (Nat.le_of_ble_eq_true rfl) ?_
  refine r_if_eqB (tgt := 23) d_M_got_11 (by decide) (fun c11 => ?_) (fun c11 => ?_)
  · exact absurd ((inR_n (by omega) (by omega)).symm.trans c11) (by rw [decide_eq_true hi]; decide)
  refine r_aload_n d_M_got_14 0 rfl ?_
  refine rg_M_48 rfl d_M_got_15 gM rfl ?_
  refine r_iload_n d_M_got_18 1 rfl ?_
  refine r_aldN d_M_got_19 gmGot (by omega) (by decide) ?_
  refine r_goto (tgt := 24) d_M_got_20 (by decide) ?_
  refine r_ireturn d_M_got_24 rfl rfl ⟨?_, rfl, ?_⟩
  · rfl
  · rfl
theorem k_M_version {l : Launch} {g : GX} {c : CS} {m : MS} {n d : Nat} (hd : 3 ≤ d) {o : Nat} (ho : o < 6) (hm : MI m) : CE l g M_M_version d 0 0 [.ref (aM g), .int (nI o)] n (hp g c m) (some (.int (nI (mnw m o)))) n (hp g c m) := by
  refine CE.of (by decide +kernel) (lv := [(0, .ref (aM g)), (1, .int (nI o))]) rfl (Nat.le_of_ble_eq_true rfl) ?_
  refine r_iload_n d_M_version_0 1 rfl ?_
  refine rc_M_125 rfl d_M_version_1 (k_M_isObjectN (by omega) ho) (room_ok (d' := d - 1) (by omega) (by decide)) ⟨Nat.le_refl _, Nat.le_refl _⟩ (Nat.le_of_ble_eq_true rfl) ?_
  refine r_if_eqB (tgt := 15) d_M_version_4 (by decide) (fun c4 => ?_) (fun c4 => ?_)
  · exfalso; first | omega | (revert c4; decide) | cases c4
  refine r_aload_n d_M_version_7 0 rfl ?_
  refine r_iload_n d_M_version_8 1 rfl ?_
  refine rc_M_140 rfl d_M_version_9 (k_M_newest (by omega) ho hm) gM (room_ok (d' := d - 1) (by omega) (by decide)) ⟨Nat.le_refl _, Nat.le_refl _⟩ (Nat.le_of_ble_eq_true rfl) ?_
  refine r_goto (tgt := 17) d_M_version_12 (by decide) ?_
  refine r_ireturn d_M_version_17 rfl rfl ⟨?_, rfl, ?_⟩
  · rfl
  · rfl
theorem k_M_open {l : Launch} {g : GX} {c : CS} {m : MS} {n d : Nat} (hd : 2 ≤ d) {o : Nat} (ho : o < 6) : CE l g M_M_open d 0 0 [.ref (aM g), .int (nI o)] n (hp g c m) (some (.int (b2 (m.opn o)))) n (hp g c m) := by
  refine CE.of (by decide +kernel) (lv := [(0, .ref (aM g)), (1, .int (nI o))]) rfl (Nat.le_of_ble_eq_true rfl) ?_
  refine r_iload_n d_M_open_0 1 rfl ?_
  refine rc_M_125 rfl d_M_open_1 (k_M_isObjectN (by omega) ho) (room_ok (d' := d - 1) (by omega) (by decide)) ⟨Nat.le_refl _, Nat.le_refl _⟩ (Nat.le_of_ble_eq_true rfl) ?_
  refine r_if_neB (tgt := 12) d_M_open_4 (by decide) (fun c4 => ?_) (fun c4 => ?_)
  rotate_left 1
  · exfalso; first | omega | (revert c4; decide) | cases c4
  refine r_aload_n d_M_open_12 0 rfl ?_
  refine rg_M_45 rfl d_M_open_13 gM rfl ?_
  refine r_iload_n d_M_open_16 1 rfl ?_
  refine r_zldB d_M_open_17 gmOpn (by omega) (by decide) ?_
  refine r_if_eqB (tgt := 25) d_M_open_18 (by decide) (fun c18 => ?_) (fun c18 => ?_)
  · skip
    refine r_iconst (v := nI 0) d_M_open_25 (by decide) ?_
    refine r_ireturn d_M_open_26 rfl rfl ⟨?_, rfl, ?_⟩
    · first | exact vb1 c18 | exact vb0 c18
    · rfl
  · skip
    refine r_iconst (v := nI 1) d_M_open_21 (by decide) ?_
    refine r_goto (tgt := 26) d_M_open_22 (by decide) ?_
    refine r_ireturn d_M_open_26 rfl rfl ⟨?_, rfl, ?_⟩
    · first | exact vb1 c18 | exact vb0 c18
    · rfl
theorem k_M_fail {l : Launch} {g : GX} {c : CS} {m : MS} {n d : Nat} (hd : 2 ≤ d) {i : Nat} (hi : i < 12) (h : m.fail i = false) : CE l g M_M_fail d 0 0 [.ref (aM g), .int (nI i)] n (hp g c m) (some (.int (nI 1))) n (hp g c (m.s_fail (upN m.fail i true))) := by
  refine CE.of (by decide +kernel) (lv := [(0, .ref (aM g)), (1, .int (nI i))]) rfl (Nat.le_of_ble_eq_true rfl) ?_
  refine r_iload_n d_M_fail_0 1 rfl ?_
  refine rc_M_72 rfl d_M_fail_1 (k_M_isNodeN (by omega) hi) (room_ok (d' := d - 1) (by omega) (by decide)) ⟨Nat.le_refl _, Nat.le_refl _⟩ (Nat.le_of_ble_eq_true rfl) ?_
  refine r_if_neB (tgt := 10) d_M_fail_4 (by decide) (fun c4 => ?_) (fun c4 => ?_)
  rotate_left 1
  · exfalso; first | omega | (revert c4; decide) | cases c4
  refine r_aload_n d_M_fail_10 0 rfl ?_
  refine rg_M_17 rfl d_M_fail_11 gM rfl ?_
  refine r_iload_n d_M_fail_14 1 rfl ?_
  refine r_zldB d_M_fail_15 gmFail (by omega) (by decide) ?_
  refine r_if_eqB (tgt := 22) d_M_fail_16 (by decide) (fun c16 => ?_) (fun c16 => ?_)
  rotate_left 1
  · exact absurd (h.symm.trans c16) (by decide)
  refine r_aload_n d_M_fail_22 0 rfl ?_
  refine rg_M_17 rfl d_M_fail_23 gM rfl ?_
  refine r_iload_n d_M_fail_26 1 rfl ?_
  refine r_iconst (v := nI 1) d_M_fail_27 (by decide) ?_
  refine r_zast (b := true) d_M_fail_28 rfl gmFail (by omega) (by decide) (wm_fail) ?_
  refine r_iconst (v := nI 1) d_M_fail_29 (by decide) ?_
  refine r_ireturn d_M_fail_30 rfl rfl ⟨?_, rfl, ?_⟩
  · rfl
  · rfl
def lvR (m : MS) (i : Nat) : MS := m.s_fail (upN m.fail i false)
def mgs (X : MS) (i : Nat) : Nat → MS
  | 0 => X
  | k + 1 => mgu (mgs X i k) i (rx i k true)
def mgsN (X : MS) (i : Nat) : Nat → Nat
  | 0 => 0
  | k + 1 => mgsN X i k + (if (mgs X i k).has (rx i k true) = true then 1 else 0)
theorem MI_mgs {X : MS} {i : Nat} (h : MI X) : ∀ k, MI (mgs X i k)
  | 0 => h
  | k + 1 => MI_gu (MI_mgs h k)
def mga (X : MS) (i : Nat) : Nat → MS
  | 0 => X
  | k + 1 => mgu (mgu (mga X i k) i (rx i k false)) i (rx i k true)
theorem MI_mga {X : MS} {i : Nat} (h : MI X) : ∀ k, MI (mga X i k)
  | 0 => h
  | k + 1 => MI_gu (MI_gu (MI_mga h k))
def wpM (m : MS) (i : Nat) : MS := lvR (mga m i 6) i
theorem k_M_back {l : Launch} {g : GX} {c : CS} {m : MS} {n d : Nat} (hd : 3 ≤ d) {i : Nat} (hi : i < 12) (hm : MI m) (h : m.fail i = true) : CE l g M_M_back d 0 0 [.ref (aM g), .int (nI i)] n (hp g c m) (some (.int (nI (mgsN (lvR m i) i 6)))) n (hp g c (mgs (lvR m i) i 6)) := by
  refine CE.of (by decide +kernel) (lv := [(0, .ref (aM g)), (1, .int (nI i))]) rfl (Nat.le_of_ble_eq_true rfl) ?_
  refine r_iload_n d_M_back_0 1 rfl ?_
  refine rc_M_72 rfl d_M_back_1 (k_M_isNodeN (by omega) hi) (room_ok (d' := d - 1) (by omega) (by decide)) ⟨Nat.le_refl _, Nat.le_refl _⟩ (Nat.le_of_ble_eq_true rfl) ?_
  refine r_if_neB (tgt := 10) d_M_back_4 (by decide) (fun c4 => ?_) (fun c4 => ?_)
  rotate_left 1
  · exfalso; first | omega | (revert c4; decide) | cases c4
  refine r_aload_n d_M_back_10 0 rfl ?_
  refine rg_M_17 rfl d_M_back_11 gM rfl ?_
  refine r_iload_n d_M_back_14 1 rfl ?_
  refine r_zldB d_M_back_15 gmFail (by omega) (by decide) ?_
  refine r_if_neB (tgt := 22) d_M_back_16 (by decide) (fun c16 => ?_) (fun c16 => ?_)
  rotate_left 1
  · exact absurd (h.symm.trans c16) (by decide)
  refine r_aload_n d_M_back_22 0 rfl ?_
  refine rg_M_17 rfl d_M_back_23 gM rfl ?_
  refine r_iload_n d_M_back_26 1 rfl ?_
  refine r_iconst (v := nI 0) d_M_back_27 (by decide) ?_
  refine r_zast (b := false) d_M_back_28 rfl gmFail (by omega) (by decide) (wm_fail) ?_
  refine r_heap (h' := hp g c (mgs (lvR m i) i 0)) rfl ?_
  refine r_iconst (v := nI 0) d_M_back_29 (by decide) ?_
  refine r_top (y := nI (mgsN (lvR m i) i 0)) rfl ?_
  refine r_istore_n (lv' := [(0, _), (1, _), (2, _)]) d_M_back_30 (by decide) rfl ?_
  refine r_iconst (v := nI 0) d_M_back_31 (by decide) ?_
  refine r_istore_n (lv' := [(0, _), (1, _), (2, _), (3, _)]) d_M_back_32 (by decide) rfl ?_
  refine back_ind (n := 6) (G := fun k => RJ l g M_M_back (RMX d 0 0) (TQ g 0 0 (QE (some (.int (nI (mgsN (lvR m i) i 6)))) n (hp g c (mgs (lvR m i) i 6)))) XT n (hp g c (mgs (lvR m i) i k)) 0 0 33 [(0, .ref (aM g)), (1, .int (nI i)), (2, .int (nI (mgsN (lvR m i) i k))), (3, .int (nI k))] []) ?_ ?_ 0 (Nat.zero_le _)
  · skip
    refine r_iload_n d_M_back_33 3 rfl ?_
    refine r_bipush (v := nI 6) d_M_back_34 (by decide) ?_
    refine r_icmp_geN (tgt := 74) d_M_back_36 (by decide) (by omega) (by omega) (fun c36 => ?_) (fun c36 => ?_)
    rotate_left 1
    · exfalso; first | omega | (revert c36; decide) | cases c36
    refine r_iload_n d_M_back_74 2 rfl ?_
    refine r_ireturn d_M_back_75 rfl rfl ⟨?_, rfl, ?_⟩
    · rfl
    · rfl
  · intro k hb_k ih_k
    have hX : MI (mgs (lvR m i) i k) := MI_mgs (X := lvR m i) hm k
    have hr := rx_lt (z := true) hi hb_k
    refine r_iload_n d_M_back_33 3 rfl ?_
    refine r_bipush (v := nI 6) d_M_back_34 (by decide) ?_
    refine r_icmp_geN (tgt := 74) d_M_back_36 (by decide) (by omega) (by omega) (fun c36 => ?_) (fun c36 => ?_)
    · exfalso; first | omega | (revert c36; decide) | cases c36
    refine r_iload_n d_M_back_39 2 rfl ?_
    refine r_aload_n d_M_back_40 0 rfl ?_
    refine rg_M_30 rfl d_M_back_41 gM rfl ?_
    refine r_iload_n d_M_back_44 1 rfl ?_
    refine r_iload_n d_M_back_45 3 rfl ?_
    refine r_iconst (v := nI 1) d_M_back_46 (by decide) ?_
    refine rc_M_79 rfl d_M_back_47 (k_M_at (i := i) (o := k) (z := true) (by omega)) (room_ok (d' := d - 1) (by omega) (by decide)) ⟨Nat.le_refl _, Nat.le_refl _⟩ (Nat.le_of_ble_eq_true rfl) ?_
    refine r_zldB d_M_back_50 gmHas (by omega) (by decide) ?_
    refine r_if_eqB (tgt := 58) d_M_back_51 (by decide) (fun c51 => ?_) (fun c51 => ?_)
    · skip
      refine r_iconst (v := nI 0) d_M_back_58 (by decide) ?_
      refine r_iaddN d_M_back_59 ?_
      refine r_istore_n (lv' := [(0, _), (1, _), (2, _), (3, _)]) d_M_back_60 (by decide) rfl ?_
      refine r_aload_n d_M_back_61 0 rfl ?_
      refine r_iload_n d_M_back_62 1 rfl ?_
      refine r_iload_n d_M_back_63 3 rfl ?_
      refine r_iconst (v := nI 1) d_M_back_64 (by decide) ?_
      refine rc_M_89 rfl d_M_back_65 (k_M_givesUp (m := mgs (lvR m i) i k) (z := true) (by omega) hi hb_k hX) gM (room_ok (d' := d - 1) (by omega) (by decide)) ⟨Nat.le_refl _, Nat.le_refl _⟩ (Nat.le_of_ble_eq_true rfl) ?_
      refine r_iincN (lv' := [(0, _), (1, _), (2, _), (3, _)]) d_M_back_68 3 rfl (by decide) rfl ?_
      refine r_goto (tgt := 33) d_M_back_71 (by decide) ?_
      exact r_at ih_k rfl (by simp [mgsN, c51]) rfl
    · skip
      refine r_iconst (v := nI 1) d_M_back_54 (by decide) ?_
      refine r_goto (tgt := 59) d_M_back_55 (by decide) ?_
      refine r_iaddN d_M_back_59 ?_
      refine r_istore_n (lv' := [(0, _), (1, _), (2, _), (3, _)]) d_M_back_60 (by decide) rfl ?_
      refine r_aload_n d_M_back_61 0 rfl ?_
      refine r_iload_n d_M_back_62 1 rfl ?_
      refine r_iload_n d_M_back_63 3 rfl ?_
      refine r_iconst (v := nI 1) d_M_back_64 (by decide) ?_
      refine rc_M_89 rfl d_M_back_65 (k_M_givesUp (m := mgs (lvR m i) i k) (z := true) (by omega) hi hb_k hX) gM (room_ok (d' := d - 1) (by omega) (by decide)) ⟨Nat.le_refl _, Nat.le_refl _⟩ (Nat.le_of_ble_eq_true rfl) ?_
      refine r_iincN (lv' := [(0, _), (1, _), (2, _), (3, _)]) d_M_back_68 3 rfl (by decide) rfl ?_
      refine r_goto (tgt := 33) d_M_back_71 (by decide) ?_
      exact r_at ih_k rfl (by simp [mgsN, c51]) rfl
theorem k_M_wipe {l : Launch} {g : GX} {c : CS} {m : MS} {n d : Nat} (hd : 3 ≤ d) {i : Nat} (hi : i < 12) (hm : MI m) : CE l g M_M_wipe d 0 0 [.ref (aM g), .int (nI i)] n (hp g c m) (some (.int (nI (usN m i)))) n (hp g c (wpM m i)) := by
  refine CE.of (by decide +kernel) (lv := [(0, .ref (aM g)), (1, .int (nI i))]) rfl (Nat.le_of_ble_eq_true rfl) ?_
  refine r_iload_n d_M_wipe_0 1 rfl ?_
  refine rc_M_72 rfl d_M_wipe_1 (k_M_isNodeN (by omega) hi) (room_ok (d' := d - 1) (by omega) (by decide)) ⟨Nat.le_refl _, Nat.le_refl _⟩ (Nat.le_of_ble_eq_true rfl) ?_
  refine r_if_neB (tgt := 10) d_M_wipe_4 (by decide) (fun c4 => ?_) (fun c4 => ?_)
  rotate_left 1
  · exfalso; first | omega | (revert c4; decide) | cases c4
  refine r_aload_n d_M_wipe_10 0 rfl ?_
  refine r_iload_n d_M_wipe_11 1 rfl ?_
  refine rc_M_131 rfl d_M_wipe_12 (k_M_usedBy (by omega) hi) gM (room_ok (d' := d - 1) (by omega) (by decide)) ⟨Nat.le_refl _, Nat.le_refl _⟩ (Nat.le_of_ble_eq_true rfl) ?_
  refine r_istore_n (lv' := [(0, _), (1, _), (2, _)]) d_M_wipe_15 (by decide) rfl ?_
  refine r_iconst (v := nI 0) d_M_wipe_16 (by decide) ?_
  refine r_heap (h' := hp g c (mga m i 0)) rfl ?_
  refine r_istore_n (lv' := [(0, _), (1, _), (2, _), (3, _)]) d_M_wipe_17 (by decide) rfl ?_
  refine back_ind (n := 6) (G := fun k => RJ l g M_M_wipe (RMX d 0 0) (TQ g 0 0 (QE (some (.int (nI (usN m i)))) n (hp g c (wpM m i)))) XT n (hp g c (mga m i k)) 0 0 18 [(0, .ref (aM g)), (1, .int (nI i)), (2, .int (nI (usN m i))), (3, .int (nI k))] []) ?_ ?_ 0 (Nat.zero_le _)
  · skip
    refine r_iload_n d_M_wipe_18 3 rfl ?_
    refine r_bipush (v := nI 6) d_M_wipe_19 (by decide) ?_
    refine r_icmp_geN (tgt := 44) d_M_wipe_21 (by decide) (by omega) (by omega) (fun c21 => ?_) (fun c21 => ?_)
    rotate_left 1
    · exfalso; first | omega | (revert c21; decide) | cases c21
    refine r_aload_n d_M_wipe_44 0 rfl ?_
    refine rg_M_17 rfl d_M_wipe_45 gM rfl ?_
    refine r_iload_n d_M_wipe_48 1 rfl ?_
    refine r_iconst (v := nI 0) d_M_wipe_49 (by decide) ?_
    refine r_zast (b := false) d_M_wipe_50 rfl gmFail (by omega) (by decide) (wm_fail) ?_
    refine r_iload_n d_M_wipe_51 2 rfl ?_
    refine r_ireturn d_M_wipe_52 rfl rfl ⟨?_, rfl, ?_⟩
    · rfl
    · rfl
  · intro k hb_k ih_k
    have hX := MI_mga (i := i) hm k
    refine r_iload_n d_M_wipe_18 3 rfl ?_
    refine r_bipush (v := nI 6) d_M_wipe_19 (by decide) ?_
    refine r_icmp_geN (tgt := 44) d_M_wipe_21 (by decide) (by omega) (by omega) (fun c21 => ?_) (fun c21 => ?_)
    · exfalso; first | omega | (revert c21; decide) | cases c21
    refine r_aload_n d_M_wipe_24 0 rfl ?_
    refine r_iload_n d_M_wipe_25 1 rfl ?_
    refine r_iload_n d_M_wipe_26 3 rfl ?_
    refine r_iconst (v := nI 0) d_M_wipe_27 (by decide) ?_
    refine rc_M_89 rfl d_M_wipe_28 (k_M_givesUp (m := mga m i k) (z := false) (by omega) hi hb_k hX) gM (room_ok (d' := d - 1) (by omega) (by decide)) ⟨Nat.le_refl _, Nat.le_refl _⟩ (Nat.le_of_ble_eq_true rfl) ?_
    refine r_aload_n d_M_wipe_31 0 rfl ?_
    refine r_iload_n d_M_wipe_32 1 rfl ?_
    refine r_iload_n d_M_wipe_33 3 rfl ?_
    refine r_iconst (v := nI 1) d_M_wipe_34 (by decide) ?_
    refine rc_M_89 rfl d_M_wipe_35 (k_M_givesUp (m := mgu (mga m i k) i (rx i k false)) (z := true) (by omega) hi hb_k (MI_gu hX)) gM (room_ok (d' := d - 1) (by omega) (by decide)) ⟨Nat.le_refl _, Nat.le_refl _⟩ (Nat.le_of_ble_eq_true rfl) ?_
    refine r_iincN (lv' := [(0, _), (1, _), (2, _), (3, _)]) d_M_wipe_38 3 rfl (by decide) rfl ?_
    refine r_goto (tgt := 18) d_M_wipe_41 (by decide) ?_
    exact ih_k
def wtM (m : MS) (i o : Nat) : Bool := !m.opn o && decide (0 < mnw m o) && !mfr m o (mnw m o) i
def syM (m : MS) (i b j : Nat) : Nat := xs (fun k => mulT (m.byts (8 * (40 * i + b) + k)) (rowT j k)) 8
theorem syM_lt (m : MS) (i b j : Nat) : syM m i b j < 256 := xs_lt (fun k => mulT_lt _ _) 8
theorem k_M_wants {l : Launch} {g : GX} {c : CS} {m : MS} {n d : Nat} (hd : 3 ≤ d) {i o : Nat} (hi : i < 12) (ho : o < 6) (hm : MI m) : CE l g M_M_wants d 0 0 [.ref (aM g), .int (nI i), .int (nI o)] n (hp g c m) (some (.int (b2 (wtM m i o)))) n (hp g c m) := by
  have hw := mnw_lt (o := o) hm
  refine CE.of (by decide +kernel) (lv := [(0, .ref (aM g)), (1, .int (nI i)), (2, .int (nI o))]) rfl (Nat.le_of_ble_eq_true rfl) ?_
  refine r_aload_n d_M_wants_0 0 rfl ?_
  refine r_iload_n d_M_wants_1 2 rfl ?_
  refine rc_M_140 rfl d_M_wants_2 (k_M_newest (by omega) ho hm) gM (room_ok (d' := d - 1) (by omega) (by decide)) ⟨Nat.le_refl _, Nat.le_refl _⟩ (Nat.le_of_ble_eq_true rfl) ?_
  refine r_istore_n (lv' := [(0, _), (1, _), (2, _), (3, _)]) d_M_wants_5 (by decide) rfl ?_
  refine r_aload_n d_M_wants_6 0 rfl ?_
  refine rg_M_45 rfl d_M_wants_7 gM rfl ?_
  refine r_iload_n d_M_wants_10 2 rfl ?_
  refine r_zldB d_M_wants_11 gmOpn (by omega) (by decide) ?_
  refine r_if_neB (tgt := 33) d_M_wants_12 (by decide) (fun c12 => ?_) (fun c12 => ?_)
  · skip
    have hk : wtM m i o = false := by simp [wtM, c12]
    refine r_iconst (v := nI 0) d_M_wants_33 (by decide) ?_
    refine r_ireturn d_M_wants_34 rfl rfl ⟨?_, rfl, ?_⟩
    · first | exact vb0 hk | exact vb1 hk
    · rfl
  · skip
    refine r_iload_n d_M_wants_15 3 rfl ?_
    refine r_if_leN (tgt := 33) d_M_wants_16 (by decide) (by omega) (fun c16 => ?_) (fun c16 => ?_)
    · skip
      have hk : wtM m i o = false := by simp [wtM, c16]
      refine r_iconst (v := nI 0) d_M_wants_33 (by decide) ?_
      refine r_ireturn d_M_wants_34 rfl rfl ⟨?_, rfl, ?_⟩
      · first | exact vb0 hk | exact vb1 hk
      · rfl
    · skip
      refine r_aload_n d_M_wants_19 0 rfl ?_
      refine r_iload_n d_M_wants_20 1 rfl ?_
      refine r_iload_n d_M_wants_21 2 rfl ?_
      refine r_iload_n d_M_wants_22 3 rfl ?_
      refine rc_M_93 rfl d_M_wants_23 (k_M_isFresh (by omega) hi ho hw hm) gM (room_ok (d' := d - 1) (by omega) (by decide)) ⟨Nat.le_refl _, Nat.le_refl _⟩ (Nat.le_of_ble_eq_true rfl) ?_
      refine r_if_neB (tgt := 33) d_M_wants_26 (by decide) (fun c26 => ?_) (fun c26 => ?_)
      · skip
        have hk : wtM m i o = false := by simp [wtM, c26]
        refine r_iconst (v := nI 0) d_M_wants_33 (by decide) ?_
        refine r_ireturn d_M_wants_34 rfl rfl ⟨?_, rfl, ?_⟩
        · first | exact vb0 hk | exact vb1 hk
        · rfl
      · skip
        have hk : wtM m i o = true := by simp [wtM, c12, c16, c26]
        refine r_iconst (v := nI 1) d_M_wants_29 (by decide) ?_
        refine r_goto (tgt := 34) d_M_wants_30 (by decide) ?_
        refine r_ireturn d_M_wants_34 rfl rfl ⟨?_, rfl, ?_⟩
        · first | exact vb0 hk | exact vb1 hk
        · rfl
theorem k_M_symbolOf {l : Launch} {g : GX} {c : CS} {m : MS} {n d : Nat} (hd : 2 ≤ d) {i j r s : Nat} (hi : i < 12) (hj : j < 12) (hrs : 8 * r + s < 1152) (hm : MI m) (hD : B1 m.byts) : CE l g M_M_symbolOf d 0 0 [.ref (aM g), .int (nI i), .int (nI j), .int (nI r), .int (nI s)] n (hp g c m) (some (.int (nI (syM m i (m.blk (8 * r + s)) j)))) n (hp g c m) := by
  have hb40 := hm.2.2 (8 * r + s)
  refine CE.of (by decide +kernel) (lv := [(0, .ref (aM g)), (1, .int (nI i)), (2, .int (nI j)), (3, .int (nI r)), (4, .int (nI s))]) rfl (Nat.le_of_ble_eq_true rfl) ?_
  refine r_iconst (v := nI 0) d_M_symbolOf_0 (by decide) ?_
  refine r_istore (lv' := [(0, _), (1, _), (2, _), (3, _), (4, _), (5, _)]) d_M_symbolOf_1 (by decide) rfl ?_
  refine r_iconst (v := nI 0) d_M_symbolOf_3 (by decide) ?_
  refine r_istore (lv' := [(0, _), (1, _), (2, _), (3, _), (4, _), (5, _), (6, _)]) d_M_symbolOf_4 (by decide) rfl ?_
  refine back_ind (n := 8) (G := fun k => RJ l g M_M_symbolOf (RMX d 0 0) (TQ g 0 0 (QE (some (.int (nI (syM m i (m.blk (8 * r + s)) j)))) n (hp g c m))) XT n (hp g c m) 0 0 6 [(0, .ref (aM g)), (1, .int (nI i)), (2, .int (nI j)), (3, .int (nI r)), (4, .int (nI s)), (5, .int (nI (xs (fun k => mulT (m.byts (8 * (40 * i + m.blk (8 * r + s)) + k)) (rowT j k)) k))), (6, .int (nI k))] []) ?_ ?_ 0 (Nat.zero_le _)
  · skip
    refine r_iload d_M_symbolOf_6 6 rfl ?_
    refine r_bipush (v := nI 8) d_M_symbolOf_8 (by decide) ?_
    refine r_icmp_geN (tgt := 48) d_M_symbolOf_10 (by decide) (by omega) (by omega) (fun c10 => ?_) (fun c10 => ?_)
    rotate_left 1
    · exfalso; first | omega | (revert c10; decide) | cases c10
    refine r_iload d_M_symbolOf_48 5 rfl ?_
    refine r_ireturn d_M_symbolOf_50 rfl rfl ⟨?_, rfl, ?_⟩
    · rfl
    · rfl
  · intro k hb_k ih_k
    refine r_iload d_M_symbolOf_6 6 rfl ?_
    refine r_bipush (v := nI 8) d_M_symbolOf_8 (by decide) ?_
    refine r_icmp_geN (tgt := 48) d_M_symbolOf_10 (by decide) (by omega) (by omega) (fun c10 => ?_) (fun c10 => ?_)
    · exfalso; first | omega | (revert c10; decide) | cases c10
    refine r_iload d_M_symbolOf_13 5 rfl ?_
    refine r_aload_n d_M_symbolOf_15 0 rfl ?_
    refine rg_M_27 rfl d_M_symbolOf_16 gM rfl ?_
    refine r_aload_n d_M_symbolOf_19 0 rfl ?_
    refine r_iload_n d_M_symbolOf_20 1 rfl ?_
    refine r_iload_n d_M_symbolOf_21 3 rfl ?_
    refine r_iload d_M_symbolOf_22 4 rfl ?_
    refine r_iload d_M_symbolOf_24 6 rfl ?_
    refine rc_M_103 rfl d_M_symbolOf_26 (k_M_byteAt (r := r) (s := s) (by omega) hrs) gM (room_ok (d' := d - 1) (by omega) (by decide)) ⟨Nat.le_refl _, Nat.le_refl _⟩ (Nat.le_of_ble_eq_true rfl) ?_
    refine r_aldN d_M_symbolOf_29 gmByts (by omega) (by decide) ?_
    refine r_iload_n d_M_symbolOf_30 2 rfl ?_
    refine r_iload d_M_symbolOf_31 6 rfl ?_
    refine rc_M_76 rfl d_M_symbolOf_33 (k_M_row (by omega) hj (by omega)) (room_ok (d' := d - 1) (by omega) (by decide)) ⟨Nat.le_refl _, Nat.le_refl _⟩ (Nat.le_of_ble_eq_true rfl) ?_
    refine rc_M_64 rfl d_M_symbolOf_36 (k_M_product (by omega) (hD _) (rowT_lt _ _)) (room_ok (d' := d - 1) (by omega) (by decide)) ⟨Nat.le_refl _, Nat.le_refl _⟩ (Nat.le_of_ble_eq_true rfl) ?_
    refine r_ixorN d_M_symbolOf_39 ?_
    refine r_istore (lv' := [(0, _), (1, _), (2, _), (3, _), (4, _), (5, _), (6, _)]) d_M_symbolOf_40 (by decide) rfl ?_
    refine r_iincN (lv' := [(0, _), (1, _), (2, _), (3, _), (4, _), (5, _), (6, _)]) d_M_symbolOf_42 6 rfl (by decide) rfl ?_
    refine r_goto (tgt := 6) d_M_symbolOf_45 (by decide) ?_
    exact ih_k
theorem k_M_fresh {l : Launch} {g : GX} {c : CS} {m : MS} {n d : Nat} (hd : 3 ≤ d) {i o : Nat} (hi : i < 12) (ho : o < 6) (hm : MI m) : CE l g M_M_fresh d 0 0 [.ref (aM g), .int (nI i), .int (nI o)] n (hp g c m) (some (.int (b2 (mfr m o (mnw m o) i)))) n (hp g c m) := by
  have hw := mnw_lt (o := o) hm
  refine CE.of (by decide +kernel) (lv := [(0, .ref (aM g)), (1, .int (nI i)), (2, .int (nI o))]) rfl (Nat.le_of_ble_eq_true rfl) ?_
  refine r_iload_n d_M_fresh_0 1 rfl ?_
  refine rc_M_72 rfl d_M_fresh_1 (k_M_isNodeN (by omega) hi) (room_ok (d' := d - 1) (by omega) (by decide)) ⟨Nat.le_refl _, Nat.le_refl _⟩ (Nat.le_of_ble_eq_true rfl) ?_
  refine r_if_eqB (tgt := 14) d_M_fresh_4 (by decide) (fun c4 => ?_) (fun c4 => ?_)
  · exfalso; first | omega | (revert c4; decide) | cases c4
  refine r_iload_n d_M_fresh_7 2 rfl ?_
  refine rc_M_125 rfl d_M_fresh_8 (k_M_isObjectN (by omega) ho) (room_ok (d' := d - 1) (by omega) (by decide)) ⟨Nat.le_refl _, Nat.le_refl _⟩ (Nat.le_of_ble_eq_true rfl) ?_
  refine r_if_neB (tgt := 19) d_M_fresh_11 (by decide) (fun c11 => ?_) (fun c11 => ?_)
  rotate_left 1
  · exfalso; first | omega | (revert c11; decide) | cases c11
  refine r_aload_n d_M_fresh_19 0 rfl ?_
  refine r_iload_n d_M_fresh_20 1 rfl ?_
  refine r_iload_n d_M_fresh_21 2 rfl ?_
  refine r_aload_n d_M_fresh_22 0 rfl ?_
  refine r_iload_n d_M_fresh_23 2 rfl ?_
  refine rc_M_140 rfl d_M_fresh_24 (k_M_newest (by omega) ho hm) gM (room_ok (d' := d - 1) (by omega) (by decide)) ⟨Nat.le_refl _, Nat.le_refl _⟩ (Nat.le_of_ble_eq_true rfl) ?_
  refine rc_M_93 rfl d_M_fresh_27 (k_M_isFresh (by omega) hi ho hw hm) gM (room_ok (d' := d - 1) (by omega) (by decide)) ⟨Nat.le_refl _, Nat.le_refl _⟩ (Nat.le_of_ble_eq_true rfl) ?_
  refine r_if_eqB (tgt := 37) d_M_fresh_30 (by decide) (fun c30 => ?_) (fun c30 => ?_)
  · skip
    refine r_iconst (v := nI 0) d_M_fresh_37 (by decide) ?_
    refine r_ireturn d_M_fresh_38 rfl rfl ⟨?_, rfl, ?_⟩
    · first | exact vb1 c30 | exact vb0 c30
    · rfl
  · skip
    refine r_iconst (v := nI 1) d_M_fresh_33 (by decide) ?_
    refine r_goto (tgt := 38) d_M_fresh_34 (by decide) ?_
    refine r_ireturn d_M_fresh_38 rfl rfl ⟨?_, rfl, ?_⟩
    · first | exact vb1 c30 | exact vb0 c30
    · rfl
theorem k_M_sent {l : Launch} {g : GX} {c : CS} {m : MS} {n d : Nat} (hd : 2 ≤ d) {i : Nat} (hi : i < 12) : CE l g M_M_sent d 0 0 [.ref (aM g), .int (nI i)] n (hp g c m) (some (.int (m.sent i))) n (hp g c m) := by
  refine CE.of (by decide +kernel) (lv := [(0, .ref (aM g)), (1, .int (nI i))]) rfl (Nat.le_of_ble_eq_true rfl) ?_
  refine r_iload_n d_M_sent_0 1 rfl ?_
  refine rc_M_72 rfl d_M_sent_1 (k_M_isNodeN (by omega) hi) (room_ok (d' := d - 1) (by omega) (by decide)) ⟨Nat.le_refl _, Nat.le_refl _⟩ (Nat.le_of_ble_eq_true rfl) ?_
  refine r_if_eqB (tgt := 16) d_M_sent_4 (by decide) (fun c4 => ?_) (fun c4 => ?_)
  · exfalso; first | omega | (revert c4; decide) | cases c4
  refine r_aload_n d_M_sent_7 0 rfl ?_
  refine rg_M_21 rfl d_M_sent_8 gM rfl ?_
  refine r_iload_n d_M_sent_11 1 rfl ?_
  refine r_ald (t := 0) d_M_sent_12 gmSent (by omega) (by decide) ?_
  refine r_goto (tgt := 18) d_M_sent_13 (by decide) ?_
  refine r_ireturn d_M_sent_18 rfl rfl ⟨?_, rfl, ?_⟩
  · rfl
  · rfl
theorem k_M_free {l : Launch} {g : GX} {c : CS} {m : MS} {n d : Nat} (hd : 2 ≤ d) {i : Nat} (hi : i < 12) : CE l g M_M_free d 0 0 [.ref (aM g), .int (nI i)] n (hp g c m) (some (.int (nI (40 - usN m i)))) n (hp g c m) := by
  have hus := usN_le m i
  refine CE.of (by decide +kernel) (lv := [(0, .ref (aM g)), (1, .int (nI i))]) rfl (Nat.le_of_ble_eq_true rfl) ?_
  refine r_iload_n d_M_free_0 1 rfl ?_
  refine rc_M_72 rfl d_M_free_1 (k_M_isNodeN (by omega) hi) (room_ok (d' := d - 1) (by omega) (by decide)) ⟨Nat.le_refl _, Nat.le_refl _⟩ (Nat.le_of_ble_eq_true rfl) ?_
  refine r_if_eqB (tgt := 18) d_M_free_4 (by decide) (fun c4 => ?_) (fun c4 => ?_)
  · exfalso; first | omega | (revert c4; decide) | cases c4
  refine r_bipush (v := nI 40) d_M_free_7 (by decide) ?_
  refine r_aload_n d_M_free_9 0 rfl ?_
  refine r_iload_n d_M_free_10 1 rfl ?_
  refine rc_M_131 rfl d_M_free_11 (k_M_usedBy (by omega) hi) gM (room_ok (d' := d - 1) (by omega) (by decide)) ⟨Nat.le_refl _, Nat.le_refl _⟩ (Nat.le_of_ble_eq_true rfl) ?_
  refine r_isubN d_M_free_14 (by omega) ?_
  refine r_goto (tgt := 20) d_M_free_15 (by decide) ?_
  refine r_ireturn d_M_free_20 rfl rfl ⟨?_, rfl, ?_⟩
  · rfl
  · rfl
theorem rem3 : ∀ w, w < 6 → nI w - nI w / nI 3 * nI 3 = nI (w % 3) := by decide +kernel
def recR (m : MS) (r q : Nat) : Int32 := if m.has r = false then (-1) else if q = 0 then nI (m.ver r) else if q = 1 then nI (m.size r) else nI (stp (m.size r))
def recM (m : MS) (i o w : Nat) : Int32 := recR m (rx i o (decide (2 < w))) (w % 3)
theorem k_M_record {l : Launch} {g : GX} {c : CS} {m : MS} {n d : Nat} (hd : 2 ≤ d) {i o w : Nat} (hi : i < 12) (ho : o < 6) (hw : w < 6) (hm : MI m) : CE l g M_M_record d 0 0 [.ref (aM g), .int (nI i), .int (nI o), .int (nI w)] n (hp g c m) (some (.int (recM m i o w))) n (hp g c m) := by
  have hw3 : w % 3 < 3 := Nat.mod_lt _ (by decide)
  refine CE.of (by decide +kernel) (lv := [(0, .ref (aM g)), (1, .int (nI i)), (2, .int (nI o)), (3, .int (nI w))]) rfl (Nat.le_of_ble_eq_true rfl) ?_
  refine r_iload_n d_M_record_0 1 rfl ?_
  refine rc_M_72 rfl d_M_record_1 (k_M_isNodeN (by omega) hi) (room_ok (d' := d - 1) (by omega) (by decide)) ⟨Nat.le_refl _, Nat.le_refl _⟩ (Nat.le_of_ble_eq_true rfl) ?_
  refine r_if_eqB (tgt := 23) d_M_record_4 (by decide) (fun c4 => ?_) (fun c4 => ?_)
  · exfalso; first | omega | (revert c4; decide) | cases c4
  refine r_iload_n d_M_record_7 2 rfl ?_
  refine rc_M_125 rfl d_M_record_8 (k_M_isObjectN (by omega) ho) (room_ok (d' := d - 1) (by omega) (by decide)) ⟨Nat.le_refl _, Nat.le_refl _⟩ (Nat.le_of_ble_eq_true rfl) ?_
  refine r_if_eqB (tgt := 23) d_M_record_11 (by decide) (fun c11 => ?_) (fun c11 => ?_)
  · exfalso; first | omega | (revert c11; decide) | cases c11
  refine r_iload_n d_M_record_14 3 rfl ?_
  refine r_iconst (v := nI 0) d_M_record_15 (by decide) ?_
  refine r_iconst (v := nI 5) d_M_record_16 (by decide) ?_
  refine rc_M_60 rfl d_M_record_17 (k_M_inT (K := 5) (by decide) (by omega)) (room_ok (d' := d - 1) (by omega) (by decide)) ⟨Nat.le_refl _, Nat.le_refl _⟩ (Nat.le_of_ble_eq_true rfl) ?_
  refine r_if_neB (tgt := 26) d_M_record_20 (by decide) (fun c20 => ?_) (fun c20 => ?_)
  rotate_left 1
  · exfalso; first | omega | (revert c20; decide) | cases c20
  refine r_iload_n d_M_record_26 1 rfl ?_
  refine r_iload_n d_M_record_27 2 rfl ?_
  refine r_iload_n d_M_record_28 3 rfl ?_
  refine r_iconst (v := nI 2) d_M_record_29 (by decide) ?_
  refine r_icmp_leN (tgt := 37) d_M_record_30 (by decide) (by omega) (by omega) (fun c30 => ?_) (fun c30 => ?_)
  · skip
    have ez : decide (2 < w) = false := decide_eq_false (by omega)
    have hr := rx_lt (z := false) hi ho
    have hs := hm.1 (rx i o false)
    refine r_iconst (v := nI 0) d_M_record_37 (by decide) ?_
    refine rc_M_79 rfl d_M_record_38 (k_M_at (i := i) (o := o) (z := false) (by omega)) (room_ok (d' := d - 1) (by omega) (by decide)) ⟨Nat.le_refl _, Nat.le_refl _⟩ (Nat.le_of_ble_eq_true rfl) ?_
    refine r_istore (lv' := [(0, _), (1, _), (2, _), (3, _), (4, _)]) d_M_record_41 (by decide) rfl ?_
    refine r_iload_n d_M_record_43 3 rfl ?_
    refine r_iconst (v := nI 3) d_M_record_44 (by decide) ?_
    refine r_irem d_M_record_45 (by decide) ?_
    refine r_top (y := nI (w % 3)) (rem3 w hw) ?_
    refine r_istore (lv' := [(0, _), (1, _), (2, _), (3, _), (4, _), (5, _)]) d_M_record_46 (by decide) rfl ?_
    refine r_aload_n d_M_record_48 0 rfl ?_
    refine rg_M_30 rfl d_M_record_49 gM rfl ?_
    refine r_iload d_M_record_52 4 rfl ?_
    refine r_zldB d_M_record_54 gmHas (by omega) (by decide) ?_
    refine r_if_neB (tgt := 62) d_M_record_55 (by decide) (fun c55 => ?_) (fun c55 => ?_)
    · skip
      refine r_iload d_M_record_62 5 rfl ?_
      refine r_if_neN (tgt := 77) d_M_record_64 (by decide) (by omega) (fun c64 => ?_) (fun c64 => ?_)
      · skip
        refine r_iload d_M_record_77 5 rfl ?_
        refine r_iconst (v := nI 1) d_M_record_79 (by decide) ?_
        refine r_icmp_neN (tgt := 93) d_M_record_80 (by decide) (by omega) (by omega) (fun c80 => ?_) (fun c80 => ?_)
        · skip
          refine r_aload_n d_M_record_93 0 rfl ?_
          refine rg_M_36 rfl d_M_record_94 gM rfl ?_
          refine r_iload d_M_record_97 4 rfl ?_
          refine r_aldN d_M_record_99 gmSize (by omega) (by decide) ?_
          refine rc_M_83 rfl d_M_record_100 (k_M_stripes (by omega) (by omega)) (room_ok (d' := d - 1) (by omega) (by decide)) ⟨Nat.le_refl _, Nat.le_refl _⟩ (Nat.le_of_ble_eq_true rfl) ?_
          refine r_ireturn d_M_record_103 rfl rfl ⟨?_, rfl, ?_⟩
          · refine congrArg (fun z => some (Value.int z)) ?_
            unfold recM recR
            rw [ez]
            first | (rw [if_pos c55]; done) | (rw [if_neg (by rw [c55]; decide), if_pos c64]; done) | (rw [if_neg (by rw [c55]; decide), if_neg c64, if_pos c80]; done) | (rw [if_neg (by rw [c55]; decide), if_neg c64, if_neg c80])
          · rfl
        · skip
          refine r_aload_n d_M_record_83 0 rfl ?_
          refine rg_M_36 rfl d_M_record_84 gM rfl ?_
          refine r_iload d_M_record_87 4 rfl ?_
          refine r_aldN d_M_record_89 gmSize (by omega) (by decide) ?_
          refine r_goto (tgt := 103) d_M_record_90 (by decide) ?_
          refine r_ireturn d_M_record_103 rfl rfl ⟨?_, rfl, ?_⟩
          · refine congrArg (fun z => some (Value.int z)) ?_
            unfold recM recR
            rw [ez]
            first | (rw [if_pos c55]; done) | (rw [if_neg (by rw [c55]; decide), if_pos c64]; done) | (rw [if_neg (by rw [c55]; decide), if_neg c64, if_pos c80]; done) | (rw [if_neg (by rw [c55]; decide), if_neg c64, if_neg c80])
          · rfl
      · skip
        refine r_aload_n d_M_record_67 0 rfl ?_
        refine rg_M_33 rfl d_M_record_68 gM rfl ?_
        refine r_iload d_M_record_71 4 rfl ?_
        refine r_aldN d_M_record_73 gmVer (by omega) (by decide) ?_
        refine r_goto (tgt := 103) d_M_record_74 (by decide) ?_
        refine r_ireturn d_M_record_103 rfl rfl ⟨?_, rfl, ?_⟩
        · refine congrArg (fun z => some (Value.int z)) ?_
          unfold recM recR
          rw [ez]
          first | (rw [if_pos c55]; done) | (rw [if_neg (by rw [c55]; decide), if_pos c64]; done) | (rw [if_neg (by rw [c55]; decide), if_neg c64, if_pos c80]; done) | (rw [if_neg (by rw [c55]; decide), if_neg c64, if_neg c80])
        · rfl
    · skip
      refine r_iconst (v := (-1)) d_M_record_58 (by decide) ?_
      refine r_goto (tgt := 103) d_M_record_59 (by decide) ?_
      refine r_ireturn d_M_record_103 rfl rfl ⟨?_, rfl, ?_⟩
      · refine congrArg (fun z => some (Value.int z)) ?_
        unfold recM recR
        rw [ez]
        first | (rw [if_pos c55]; done) | (rw [if_neg (by rw [c55]; decide), if_pos c64]; done) | (rw [if_neg (by rw [c55]; decide), if_neg c64, if_pos c80]; done) | (rw [if_neg (by rw [c55]; decide), if_neg c64, if_neg c80])
      · rfl
  · skip
    have ez : decide (2 < w) = true := decide_eq_true (by omega)
    have hr := rx_lt (z := true) hi ho
    have hs := hm.1 (rx i o true)
    refine r_iconst (v := nI 1) d_M_record_33 (by decide) ?_
    refine r_goto (tgt := 38) d_M_record_34 (by decide) ?_
    refine rc_M_79 rfl d_M_record_38 (k_M_at (i := i) (o := o) (z := true) (by omega)) (room_ok (d' := d - 1) (by omega) (by decide)) ⟨Nat.le_refl _, Nat.le_refl _⟩ (Nat.le_of_ble_eq_true rfl) ?_
    refine r_istore (lv' := [(0, _), (1, _), (2, _), (3, _), (4, _)]) d_M_record_41 (by decide) rfl ?_
    refine r_iload_n d_M_record_43 3 rfl ?_
    refine r_iconst (v := nI 3) d_M_record_44 (by decide) ?_
    refine r_irem d_M_record_45 (by decide) ?_
    refine r_top (y := nI (w % 3)) (rem3 w hw) ?_
    refine r_istore (lv' := [(0, _), (1, _), (2, _), (3, _), (4, _), (5, _)]) d_M_record_46 (by decide) rfl ?_
    refine r_aload_n d_M_record_48 0 rfl ?_
    refine rg_M_30 rfl d_M_record_49 gM rfl ?_
    refine r_iload d_M_record_52 4 rfl ?_
    refine r_zldB d_M_record_54 gmHas (by omega) (by decide) ?_
    refine r_if_neB (tgt := 62) d_M_record_55 (by decide) (fun c55 => ?_) (fun c55 => ?_)
    · skip
      refine r_iload d_M_record_62 5 rfl ?_
      refine r_if_neN (tgt := 77) d_M_record_64 (by decide) (by omega) (fun c64 => ?_) (fun c64 => ?_)
      · skip
        refine r_iload d_M_record_77 5 rfl ?_
        refine r_iconst (v := nI 1) d_M_record_79 (by decide) ?_
        refine r_icmp_neN (tgt := 93) d_M_record_80 (by decide) (by omega) (by omega) (fun c80 => ?_) (fun c80 => ?_)
        · skip
          refine r_aload_n d_M_record_93 0 rfl ?_
          refine rg_M_36 rfl d_M_record_94 gM rfl ?_
          refine r_iload d_M_record_97 4 rfl ?_
          refine r_aldN d_M_record_99 gmSize (by omega) (by decide) ?_
          refine rc_M_83 rfl d_M_record_100 (k_M_stripes (by omega) (by omega)) (room_ok (d' := d - 1) (by omega) (by decide)) ⟨Nat.le_refl _, Nat.le_refl _⟩ (Nat.le_of_ble_eq_true rfl) ?_
          refine r_ireturn d_M_record_103 rfl rfl ⟨?_, rfl, ?_⟩
          · refine congrArg (fun z => some (Value.int z)) ?_
            unfold recM recR
            rw [ez]
            first | (rw [if_pos c55]; done) | (rw [if_neg (by rw [c55]; decide), if_pos c64]; done) | (rw [if_neg (by rw [c55]; decide), if_neg c64, if_pos c80]; done) | (rw [if_neg (by rw [c55]; decide), if_neg c64, if_neg c80])
          · rfl
        · skip
          refine r_aload_n d_M_record_83 0 rfl ?_
          refine rg_M_36 rfl d_M_record_84 gM rfl ?_
          refine r_iload d_M_record_87 4 rfl ?_
          refine r_aldN d_M_record_89 gmSize (by omega) (by decide) ?_
          refine r_goto (tgt := 103) d_M_record_90 (by decide) ?_
          refine r_ireturn d_M_record_103 rfl rfl ⟨?_, rfl, ?_⟩
          · refine congrArg (fun z => some (Value.int z)) ?_
            unfold recM recR
            rw [ez]
            first | (rw [if_pos c55]; done) | (rw [if_neg (by rw [c55]; decide), if_pos c64]; done) | (rw [if_neg (by rw [c55]; decide), if_neg c64, if_pos c80]; done) | (rw [if_neg (by rw [c55]; decide), if_neg c64, if_neg c80])
          · rfl
      · skip
        refine r_aload_n d_M_record_67 0 rfl ?_
        refine rg_M_33 rfl d_M_record_68 gM rfl ?_
        refine r_iload d_M_record_71 4 rfl ?_
        refine r_aldN d_M_record_73 gmVer (by omega) (by decide) ?_
        refine r_goto (tgt := 103) d_M_record_74 (by decide) ?_
        refine r_ireturn d_M_record_103 rfl rfl ⟨?_, rfl, ?_⟩
        · refine congrArg (fun z => some (Value.int z)) ?_
          unfold recM recR
          rw [ez]
          first | (rw [if_pos c55]; done) | (rw [if_neg (by rw [c55]; decide), if_pos c64]; done) | (rw [if_neg (by rw [c55]; decide), if_neg c64, if_pos c80]; done) | (rw [if_neg (by rw [c55]; decide), if_neg c64, if_neg c80])
        · rfl
    · skip
      refine r_iconst (v := (-1)) d_M_record_58 (by decide) ?_
      refine r_goto (tgt := 103) d_M_record_59 (by decide) ?_
      refine r_ireturn d_M_record_103 rfl rfl ⟨?_, rfl, ?_⟩
      · refine congrArg (fun z => some (Value.int z)) ?_
        unfold recM recR
        rw [ez]
        first | (rw [if_pos c55]; done) | (rw [if_neg (by rw [c55]; decide), if_pos c64]; done) | (rw [if_neg (by rw [c55]; decide), if_neg c64, if_pos c80]; done) | (rw [if_neg (by rw [c55]; decide), if_neg c64, if_neg c80])
      · rfl
theorem k_M_block {l : Launch} {g : GX} {c : CS} {m : MS} {n d : Nat} (hd : 2 ≤ d) {i o s : Nat} {z : Bool} (hi : i < 12) (ho : o < 6) (hm : MI m) (hh : m.has (rx i o z) = true) (hs : s < stp (m.size (rx i o z))) : CE l g M_M_block d 0 0 [.ref (aM g), .int (nI i), .int (nI o), .int (nI s), .int (b2 z)] n (hp g c m) (some (.int (nI (m.blk (8 * rx i o z + s))))) n (hp g c m) := by
  have hr := rx_lt (z := z) hi ho
  have h24 := hm.1 (rx i o z)
  have h8 := stp_le h24
  refine CE.of (by decide +kernel) (lv := [(0, .ref (aM g)), (1, .int (nI i)), (2, .int (nI o)), (3, .int (nI s)), (4, .int (b2 z))]) rfl (Nat.le_of_ble_eq_true rfl) ?_
  refine r_iload_n d_M_block_0 1 rfl ?_
  refine rc_M_72 rfl d_M_block_1 (k_M_isNodeN (by omega) hi) (room_ok (d' := d - 1) (by omega) (by decide)) ⟨Nat.le_refl _, Nat.le_refl _⟩ (Nat.le_of_ble_eq_true rfl) ?_
  refine r_if_eqB (tgt := 14) d_M_block_4 (by decide) (fun c4 => ?_) (fun c4 => ?_)
  · exfalso; first | omega | (revert c4; decide) | cases c4
  refine r_iload_n d_M_block_7 2 rfl ?_
  refine rc_M_125 rfl d_M_block_8 (k_M_isObjectN (by omega) ho) (room_ok (d' := d - 1) (by omega) (by decide)) ⟨Nat.le_refl _, Nat.le_refl _⟩ (Nat.le_of_ble_eq_true rfl) ?_
  refine r_if_neB (tgt := 17) d_M_block_11 (by decide) (fun c11 => ?_) (fun c11 => ?_)
  rotate_left 1
  · exfalso; first | omega | (revert c11; decide) | cases c11
  refine r_iload_n d_M_block_17 1 rfl ?_
  refine r_iload_n d_M_block_18 2 rfl ?_
  refine r_iload d_M_block_19 4 rfl ?_
  refine rc_M_79 rfl d_M_block_21 (k_M_at (i := i) (o := o) (z := z) (by omega)) (room_ok (d' := d - 1) (by omega) (by decide)) ⟨Nat.le_refl _, Nat.le_refl _⟩ (Nat.le_of_ble_eq_true rfl) ?_
  refine r_istore (lv' := [(0, _), (1, _), (2, _), (3, _), (4, _), (5, _)]) d_M_block_24 (by decide) rfl ?_
  refine r_aload_n d_M_block_26 0 rfl ?_
  refine rg_M_30 rfl d_M_block_27 gM rfl ?_
  refine r_iload d_M_block_30 5 rfl ?_
  refine r_zldB d_M_block_32 gmHas (by omega) (by decide) ?_
  refine r_if_eqB (tgt := 71) d_M_block_33 (by decide) (fun c33 => ?_) (fun c33 => ?_)
  · exact absurd (hh.symm.trans c33) (by decide)
  refine r_iload_n d_M_block_36 3 rfl ?_
  refine r_iconst (v := nI 0) d_M_block_37 (by decide) ?_
  refine r_aload_n d_M_block_38 0 rfl ?_
  refine rg_M_36 rfl d_M_block_39 gM rfl ?_
  refine r_iload d_M_block_42 5 rfl ?_
  refine r_aldN d_M_block_44 gmSize (by omega) (by decide) ?_
  refine rc_M_83 rfl d_M_block_45 (k_M_stripes (by omega) (by omega)) (room_ok (d' := d - 1) (by omega) (by decide)) ⟨Nat.le_refl _, Nat.le_refl _⟩ (Nat.le_of_ble_eq_true rfl) ?_
  refine r_iconst (v := nI 1) d_M_block_48 (by decide) ?_
  refine r_isub d_M_block_49 ?_
  refine rc_M_60 rfl d_M_block_50 (k_M_inM (K := stp (m.size (rx i o z))) (by omega)) (room_ok (d' := d - 1) (by omega) (by decide)) ⟨Nat.le_refl _, Nat.le_refl _⟩ (Nat.le_of_ble_eq_true rfl) ?_
  refine r_if_eqB (tgt := 71) d_M_block_53 (by decide) (fun c53 => ?_) (fun c53 => ?_)
  · exact absurd ((inR_n (by omega) (by omega)).symm.trans c53) (by rw [decide_eq_true hs]; decide)
  refine r_aload_n d_M_block_56 0 rfl ?_
  refine rg_M_39 rfl d_M_block_57 gM rfl ?_
  refine r_bipush (v := nI 8) d_M_block_60 (by decide) ?_
  refine r_iload d_M_block_62 5 rfl ?_
  refine r_imulN d_M_block_64 ?_
  refine r_iload_n d_M_block_65 3 rfl ?_
  refine r_iaddN d_M_block_66 ?_
  refine r_aldN d_M_block_67 gmBlk (by omega) (by decide) ?_
  refine r_goto (tgt := 72) d_M_block_68 (by decide) ?_
  refine r_ireturn d_M_block_72 rfl rfl ⟨?_, rfl, ?_⟩
  · rfl
  · rfl
theorem k_M_block_no {l : Launch} {g : GX} {c : CS} {m : MS} {n d : Nat} (hd : 2 ≤ d) {i o : Nat} {s : Int32} {z : Bool} (hi : i < 12) (ho : o < 6) (hm : MI m) (h : m.has (rx i o z) = false ∨ inR s (stp (m.size (rx i o z))) = false) : CE l g M_M_block d 0 0 [.ref (aM g), .int (nI i), .int (nI o), .int s, .int (b2 z)] n (hp g c m) (some (.int (-1))) n (hp g c m) := by
  have hr := rx_lt (z := z) hi ho
  have h24 := hm.1 (rx i o z)
  have h8 := stp_le h24
  refine CE.of (by decide +kernel) (lv := [(0, .ref (aM g)), (1, .int (nI i)), (2, .int (nI o)), (3, .int s), (4, .int (b2 z))]) rfl (Nat.le_of_ble_eq_true rfl) ?_
  refine r_iload_n d_M_block_0 1 rfl ?_
  refine rc_M_72 rfl d_M_block_1 (k_M_isNodeN (by omega) hi) (room_ok (d' := d - 1) (by omega) (by decide)) ⟨Nat.le_refl _, Nat.le_refl _⟩ (Nat.le_of_ble_eq_true rfl) ?_
  refine r_if_eqB (tgt := 14) d_M_block_4 (by decide) (fun c4 => ?_) (fun c4 => ?_)
  · exfalso; first | omega | (revert c4; decide) | cases c4
  refine r_iload_n d_M_block_7 2 rfl ?_
  refine rc_M_125 rfl d_M_block_8 (k_M_isObjectN (by omega) ho) (room_ok (d' := d - 1) (by omega) (by decide)) ⟨Nat.le_refl _, Nat.le_refl _⟩ (Nat.le_of_ble_eq_true rfl) ?_
  refine r_if_neB (tgt := 17) d_M_block_11 (by decide) (fun c11 => ?_) (fun c11 => ?_)
  rotate_left 1
  · exfalso; first | omega | (revert c11; decide) | cases c11
  refine r_iload_n d_M_block_17 1 rfl ?_
  refine r_iload_n d_M_block_18 2 rfl ?_
  refine r_iload d_M_block_19 4 rfl ?_
  refine rc_M_79 rfl d_M_block_21 (k_M_at (i := i) (o := o) (z := z) (by omega)) (room_ok (d' := d - 1) (by omega) (by decide)) ⟨Nat.le_refl _, Nat.le_refl _⟩ (Nat.le_of_ble_eq_true rfl) ?_
  refine r_istore (lv' := [(0, _), (1, _), (2, _), (3, _), (4, _), (5, _)]) d_M_block_24 (by decide) rfl ?_
  refine r_aload_n d_M_block_26 0 rfl ?_
  refine rg_M_30 rfl d_M_block_27 gM rfl ?_
  refine r_iload d_M_block_30 5 rfl ?_
  refine r_zldB d_M_block_32 gmHas (by omega) (by decide) ?_
  refine r_if_eqB (tgt := 71) d_M_block_33 (by decide) (fun c33 => ?_) (fun c33 => ?_)
  · skip
    refine r_iconst (v := (-1)) d_M_block_71 (by decide) ?_
    refine r_ireturn d_M_block_72 rfl rfl ⟨?_, rfl, ?_⟩
    · rfl
    · rfl
  · skip
    refine r_iload_n d_M_block_36 3 rfl ?_
    refine r_iconst (v := nI 0) d_M_block_37 (by decide) ?_
    refine r_aload_n d_M_block_38 0 rfl ?_
    refine rg_M_36 rfl d_M_block_39 gM rfl ?_
    refine r_iload d_M_block_42 5 rfl ?_
    refine r_aldN d_M_block_44 gmSize (by omega) (by decide) ?_
    refine rc_M_83 rfl d_M_block_45 (k_M_stripes (by omega) (by omega)) (room_ok (d' := d - 1) (by omega) (by decide)) ⟨Nat.le_refl _, Nat.le_refl _⟩ (Nat.le_of_ble_eq_true rfl) ?_
    refine r_iconst (v := nI 1) d_M_block_48 (by decide) ?_
    refine r_isub d_M_block_49 ?_
    refine rc_M_60 rfl d_M_block_50 (k_M_inM (K := stp (m.size (rx i o z))) (by omega)) (room_ok (d' := d - 1) (by omega) (by decide)) ⟨Nat.le_refl _, Nat.le_refl _⟩ (Nat.le_of_ble_eq_true rfl) ?_
    refine r_if_eqB (tgt := 71) d_M_block_53 (by decide) (fun c53 => ?_) (fun c53 => ?_)
    rotate_left 1
    · exfalso; simp [c33, c53] at h
    refine r_iconst (v := (-1)) d_M_block_71 (by decide) ?_
    refine r_ireturn d_M_block_72 rfl rfl ⟨?_, rfl, ?_⟩
    · rfl
    · rfl
theorem k_M_byteOf {l : Launch} {g : GX} {c : CS} {m : MS} {n d : Nat} (hd : 2 ≤ d) {i b k : Nat} (hi : i < 12) (hb : b < 40) (hk : k < 8) (ht : m.used (40 * i + b) = true) : CE l g M_M_byteOf d 0 0 [.ref (aM g), .int (nI i), .int (nI b), .int (nI k)] n (hp g c m) (some (.int (nI (m.byts (8 * (40 * i + b) + k))))) n (hp g c m) := by
  refine CE.of (by decide +kernel) (lv := [(0, .ref (aM g)), (1, .int (nI i)), (2, .int (nI b)), (3, .int (nI k))]) rfl (Nat.le_of_ble_eq_true rfl) ?_
  refine r_iload_n d_M_byteOf_0 1 rfl ?_
  refine rc_M_72 rfl d_M_byteOf_1 (k_M_isNodeN (by omega) hi) (room_ok (d' := d - 1) (by omega) (by decide)) ⟨Nat.le_refl _, Nat.le_refl _⟩ (Nat.le_of_ble_eq_true rfl) ?_
  refine r_if_eqB (tgt := 27) d_M_byteOf_4 (by decide) (fun c4 => ?_) (fun c4 => ?_)
  · exfalso; first | omega | (revert c4; decide) | cases c4
  refine r_iload_n d_M_byteOf_7 2 rfl ?_
  refine r_iconst (v := nI 0) d_M_byteOf_8 (by decide) ?_
  refine r_bipush (v := nI 39) d_M_byteOf_9 (by decide) ?_
  refine rc_M_60 rfl d_M_byteOf_11 (k_M_inT (K := 39) (by decide) (by omega)) (room_ok (d' := d - 1) (by omega) (by decide)) ⟨Nat.le_refl _, Nat.le_refl _⟩ (Nat.le_of_ble_eq_true rfl) ?_
  refine r_if_eqB (tgt := 27) d_M_byteOf_14 (by decide) (fun c14 => ?_) (fun c14 => ?_)
  · exfalso; first | omega | (revert c14; decide) | cases c14
  refine r_iload_n d_M_byteOf_17 3 rfl ?_
  refine r_iconst (v := nI 0) d_M_byteOf_18 (by decide) ?_
  refine r_bipush (v := nI 7) d_M_byteOf_19 (by decide) ?_
  refine rc_M_60 rfl d_M_byteOf_21 (k_M_inT (K := 7) (by decide) (by omega)) (room_ok (d' := d - 1) (by omega) (by decide)) ⟨Nat.le_refl _, Nat.le_refl _⟩ (Nat.le_of_ble_eq_true rfl) ?_
  refine r_if_neB (tgt := 30) d_M_byteOf_24 (by decide) (fun c24 => ?_) (fun c24 => ?_)
  rotate_left 1
  · exfalso; first | omega | (revert c24; decide) | cases c24
  refine r_aload_n d_M_byteOf_30 0 rfl ?_
  refine rg_M_24 rfl d_M_byteOf_31 gM rfl ?_
  refine r_bipush (v := nI 40) d_M_byteOf_34 (by decide) ?_
  refine r_iload_n d_M_byteOf_36 1 rfl ?_
  refine r_imulN d_M_byteOf_37 ?_
  refine r_iload_n d_M_byteOf_38 2 rfl ?_
  refine r_iaddN d_M_byteOf_39 ?_
  refine r_zldB d_M_byteOf_40 gmUsed (by omega) (by decide) ?_
  refine r_if_eqB (tgt := 63) d_M_byteOf_41 (by decide) (fun c41 => ?_) (fun c41 => ?_)
  · exact absurd (ht.symm.trans c41) (by decide)
  refine r_aload_n d_M_byteOf_44 0 rfl ?_
  refine rg_M_27 rfl d_M_byteOf_45 gM rfl ?_
  refine r_bipush (v := nI 8) d_M_byteOf_48 (by decide) ?_
  refine r_bipush (v := nI 40) d_M_byteOf_50 (by decide) ?_
  refine r_iload_n d_M_byteOf_52 1 rfl ?_
  refine r_imulN d_M_byteOf_53 ?_
  refine r_iload_n d_M_byteOf_54 2 rfl ?_
  refine r_iaddN d_M_byteOf_55 ?_
  refine r_imulN d_M_byteOf_56 ?_
  refine r_iload_n d_M_byteOf_57 3 rfl ?_
  refine r_iaddN d_M_byteOf_58 ?_
  refine r_aldN d_M_byteOf_59 gmByts (by omega) (by decide) ?_
  refine r_goto (tgt := 64) d_M_byteOf_60 (by decide) ?_
  refine r_ireturn d_M_byteOf_64 rfl rfl ⟨?_, rfl, ?_⟩
  · rfl
  · rfl
theorem k_M_byteOf_no {l : Launch} {g : GX} {c : CS} {m : MS} {n d : Nat} (hd : 2 ≤ d) {i b k : Nat} (hi : i < 12) (hb : b < 40) (hk : k < 8) (ht : m.used (40 * i + b) = false) : CE l g M_M_byteOf d 0 0 [.ref (aM g), .int (nI i), .int (nI b), .int (nI k)] n (hp g c m) (some (.int (-1))) n (hp g c m) := by
  refine CE.of (by decide +kernel) (lv := [(0, .ref (aM g)), (1, .int (nI i)), (2, .int (nI b)), (3, .int (nI k))]) rfl (Nat.le_of_ble_eq_true rfl) ?_
  refine r_iload_n d_M_byteOf_0 1 rfl ?_
  refine rc_M_72 rfl d_M_byteOf_1 (k_M_isNodeN (by omega) hi) (room_ok (d' := d - 1) (by omega) (by decide)) ⟨Nat.le_refl _, Nat.le_refl _⟩ (Nat.le_of_ble_eq_true rfl) ?_
  refine r_if_eqB (tgt := 27) d_M_byteOf_4 (by decide) (fun c4 => ?_) (fun c4 => ?_)
  · exfalso; first | omega | (revert c4; decide) | cases c4
  refine r_iload_n d_M_byteOf_7 2 rfl ?_
  refine r_iconst (v := nI 0) d_M_byteOf_8 (by decide) ?_
  refine r_bipush (v := nI 39) d_M_byteOf_9 (by decide) ?_
  refine rc_M_60 rfl d_M_byteOf_11 (k_M_inT (K := 39) (by decide) (by omega)) (room_ok (d' := d - 1) (by omega) (by decide)) ⟨Nat.le_refl _, Nat.le_refl _⟩ (Nat.le_of_ble_eq_true rfl) ?_
  refine r_if_eqB (tgt := 27) d_M_byteOf_14 (by decide) (fun c14 => ?_) (fun c14 => ?_)
  · exfalso; first | omega | (revert c14; decide) | cases c14
  refine r_iload_n d_M_byteOf_17 3 rfl ?_
  refine r_iconst (v := nI 0) d_M_byteOf_18 (by decide) ?_
  refine r_bipush (v := nI 7) d_M_byteOf_19 (by decide) ?_
  refine rc_M_60 rfl d_M_byteOf_21 (k_M_inT (K := 7) (by decide) (by omega)) (room_ok (d' := d - 1) (by omega) (by decide)) ⟨Nat.le_refl _, Nat.le_refl _⟩ (Nat.le_of_ble_eq_true rfl) ?_
  refine r_if_neB (tgt := 30) d_M_byteOf_24 (by decide) (fun c24 => ?_) (fun c24 => ?_)
  rotate_left 1
  · exfalso; first | omega | (revert c24; decide) | cases c24
  refine r_aload_n d_M_byteOf_30 0 rfl ?_
  refine rg_M_24 rfl d_M_byteOf_31 gM rfl ?_
  refine r_bipush (v := nI 40) d_M_byteOf_34 (by decide) ?_
  refine r_iload_n d_M_byteOf_36 1 rfl ?_
  refine r_imulN d_M_byteOf_37 ?_
  refine r_iload_n d_M_byteOf_38 2 rfl ?_
  refine r_iaddN d_M_byteOf_39 ?_
  refine r_zldB d_M_byteOf_40 gmUsed (by omega) (by decide) ?_
  refine r_if_eqB (tgt := 63) d_M_byteOf_41 (by decide) (fun c41 => ?_) (fun c41 => ?_)
  rotate_left 1
  · exact absurd (ht.symm.trans c41) (by decide)
  refine r_iconst (v := (-1)) d_M_byteOf_63 (by decide) ?_
  refine r_ireturn d_M_byteOf_64 rfl rfl ⟨?_, rfl, ?_⟩
  · rfl
  · rfl
theorem k_M_symbol {l : Launch} {g : GX} {c : CS} {m : MS} {n d : Nat} (hd : 3 ≤ d) {i j o s : Nat} (hi : i < 12) (hj : j < 12) (ho : o < 6) (hm : MI m) (hD : B1 m.byts) (hh : m.has (rx i o false) = true) (hs : s < stp (m.size (rx i o false))) : CE l g M_M_symbol d 0 0 [.ref (aM g), .int (nI i), .int (nI j), .int (nI o), .int (nI s)] n (hp g c m) (some (.int (nI (syM m i (m.blk (8 * rx i o false + s)) j)))) n (hp g c m) := by
  have hr := rx_lt (z := false) hi ho
  have h24 := hm.1 (rx i o false)
  have h8 := stp_le h24
  refine CE.of (by decide +kernel) (lv := [(0, .ref (aM g)), (1, .int (nI i)), (2, .int (nI j)), (3, .int (nI o)), (4, .int (nI s))]) rfl (Nat.le_of_ble_eq_true rfl) ?_
  refine r_iload_n d_M_symbol_0 1 rfl ?_
  refine rc_M_72 rfl d_M_symbol_1 (k_M_isNodeN (by omega) hi) (room_ok (d' := d - 1) (by omega) (by decide)) ⟨Nat.le_refl _, Nat.le_refl _⟩ (Nat.le_of_ble_eq_true rfl) ?_
  refine r_if_eqB (tgt := 21) d_M_symbol_4 (by decide) (fun c4 => ?_) (fun c4 => ?_)
  · exfalso; first | omega | (revert c4; decide) | cases c4
  refine r_iload_n d_M_symbol_7 2 rfl ?_
  refine rc_M_72 rfl d_M_symbol_8 (k_M_isNodeN (by omega) hj) (room_ok (d' := d - 1) (by omega) (by decide)) ⟨Nat.le_refl _, Nat.le_refl _⟩ (Nat.le_of_ble_eq_true rfl) ?_
  refine r_if_eqB (tgt := 21) d_M_symbol_11 (by decide) (fun c11 => ?_) (fun c11 => ?_)
  · exfalso; first | omega | (revert c11; decide) | cases c11
  refine r_iload_n d_M_symbol_14 3 rfl ?_
  refine rc_M_125 rfl d_M_symbol_15 (k_M_isObjectN (by omega) ho) (room_ok (d' := d - 1) (by omega) (by decide)) ⟨Nat.le_refl _, Nat.le_refl _⟩ (Nat.le_of_ble_eq_true rfl) ?_
  refine r_if_neB (tgt := 24) d_M_symbol_18 (by decide) (fun c18 => ?_) (fun c18 => ?_)
  rotate_left 1
  · exfalso; first | omega | (revert c18; decide) | cases c18
  refine r_iload_n d_M_symbol_24 1 rfl ?_
  refine r_iload_n d_M_symbol_25 3 rfl ?_
  refine r_iconst (v := nI 0) d_M_symbol_26 (by decide) ?_
  refine rc_M_79 rfl d_M_symbol_27 (k_M_at (i := i) (o := o) (z := false) (by omega)) (room_ok (d' := d - 1) (by omega) (by decide)) ⟨Nat.le_refl _, Nat.le_refl _⟩ (Nat.le_of_ble_eq_true rfl) ?_
  refine r_istore (lv' := [(0, _), (1, _), (2, _), (3, _), (4, _), (5, _)]) d_M_symbol_30 (by decide) rfl ?_
  refine r_aload_n d_M_symbol_32 0 rfl ?_
  refine rg_M_30 rfl d_M_symbol_33 gM rfl ?_
  refine r_iload d_M_symbol_36 5 rfl ?_
  refine r_zldB d_M_symbol_38 gmHas (by omega) (by decide) ?_
  refine r_if_eqB (tgt := 76) d_M_symbol_39 (by decide) (fun c39 => ?_) (fun c39 => ?_)
  · exact absurd (hh.symm.trans c39) (by decide)
  refine r_iload d_M_symbol_42 4 rfl ?_
  refine r_iconst (v := nI 0) d_M_symbol_44 (by decide) ?_
  refine r_aload_n d_M_symbol_45 0 rfl ?_
  refine rg_M_36 rfl d_M_symbol_46 gM rfl ?_
  refine r_iload d_M_symbol_49 5 rfl ?_
  refine r_aldN d_M_symbol_51 gmSize (by omega) (by decide) ?_
  refine rc_M_83 rfl d_M_symbol_52 (k_M_stripes (by omega) (by omega)) (room_ok (d' := d - 1) (by omega) (by decide)) ⟨Nat.le_refl _, Nat.le_refl _⟩ (Nat.le_of_ble_eq_true rfl) ?_
  refine r_iconst (v := nI 1) d_M_symbol_55 (by decide) ?_
  refine r_isub d_M_symbol_56 ?_
  refine rc_M_60 rfl d_M_symbol_57 (k_M_inM (K := stp (m.size (rx i o false))) (by omega)) (room_ok (d' := d - 1) (by omega) (by decide)) ⟨Nat.le_refl _, Nat.le_refl _⟩ (Nat.le_of_ble_eq_true rfl) ?_
  refine r_if_eqB (tgt := 76) d_M_symbol_60 (by decide) (fun c60 => ?_) (fun c60 => ?_)
  · exact absurd ((inR_n (by omega) (by omega)).symm.trans c60) (by rw [decide_eq_true hs]; decide)
  refine r_aload_n d_M_symbol_63 0 rfl ?_
  refine r_iload_n d_M_symbol_64 1 rfl ?_
  refine r_iload_n d_M_symbol_65 2 rfl ?_
  refine r_iload d_M_symbol_66 5 rfl ?_
  refine r_iload d_M_symbol_68 4 rfl ?_
  refine rc_M_159 rfl d_M_symbol_70 (k_M_symbolOf (by omega) hi hj (by omega) hm hD) gM (room_ok (d' := d - 1) (by omega) (by decide)) ⟨Nat.le_refl _, Nat.le_refl _⟩ (Nat.le_of_ble_eq_true rfl) ?_
  refine r_goto (tgt := 77) d_M_symbol_73 (by decide) ?_
  refine r_ireturn d_M_symbol_77 rfl rfl ⟨?_, rfl, ?_⟩
  · rfl
  · rfl
theorem k_M_symbol_no {l : Launch} {g : GX} {c : CS} {m : MS} {n d : Nat} (hd : 2 ≤ d) {i j o : Nat} {s : Int32} (hi : i < 12) (hj : j < 12) (ho : o < 6) (hm : MI m) (h : m.has (rx i o false) = false ∨ inR s (stp (m.size (rx i o false))) = false) : CE l g M_M_symbol d 0 0 [.ref (aM g), .int (nI i), .int (nI j), .int (nI o), .int s] n (hp g c m) (some (.int (-1))) n (hp g c m) := by
  have hr := rx_lt (z := false) hi ho
  have h24 := hm.1 (rx i o false)
  have h8 := stp_le h24
  refine CE.of (by decide +kernel) (lv := [(0, .ref (aM g)), (1, .int (nI i)), (2, .int (nI j)), (3, .int (nI o)), (4, .int s)]) rfl (Nat.le_of_ble_eq_true rfl) ?_
  refine r_iload_n d_M_symbol_0 1 rfl ?_
  refine rc_M_72 rfl d_M_symbol_1 (k_M_isNodeN (by omega) hi) (room_ok (d' := d - 1) (by omega) (by decide)) ⟨Nat.le_refl _, Nat.le_refl _⟩ (Nat.le_of_ble_eq_true rfl) ?_
  refine r_if_eqB (tgt := 21) d_M_symbol_4 (by decide) (fun c4 => ?_) (fun c4 => ?_)
  · exfalso; first | omega | (revert c4; decide) | cases c4
  refine r_iload_n d_M_symbol_7 2 rfl ?_
  refine rc_M_72 rfl d_M_symbol_8 (k_M_isNodeN (by omega) hj) (room_ok (d' := d - 1) (by omega) (by decide)) ⟨Nat.le_refl _, Nat.le_refl _⟩ (Nat.le_of_ble_eq_true rfl) ?_
  refine r_if_eqB (tgt := 21) d_M_symbol_11 (by decide) (fun c11 => ?_) (fun c11 => ?_)
  · exfalso; first | omega | (revert c11; decide) | cases c11
  refine r_iload_n d_M_symbol_14 3 rfl ?_
  refine rc_M_125 rfl d_M_symbol_15 (k_M_isObjectN (by omega) ho) (room_ok (d' := d - 1) (by omega) (by decide)) ⟨Nat.le_refl _, Nat.le_refl _⟩ (Nat.le_of_ble_eq_true rfl) ?_
  refine r_if_neB (tgt := 24) d_M_symbol_18 (by decide) (fun c18 => ?_) (fun c18 => ?_)
  rotate_left 1
  · exfalso; first | omega | (revert c18; decide) | cases c18
  refine r_iload_n d_M_symbol_24 1 rfl ?_
  refine r_iload_n d_M_symbol_25 3 rfl ?_
  refine r_iconst (v := nI 0) d_M_symbol_26 (by decide) ?_
  refine rc_M_79 rfl d_M_symbol_27 (k_M_at (i := i) (o := o) (z := false) (by omega)) (room_ok (d' := d - 1) (by omega) (by decide)) ⟨Nat.le_refl _, Nat.le_refl _⟩ (Nat.le_of_ble_eq_true rfl) ?_
  refine r_istore (lv' := [(0, _), (1, _), (2, _), (3, _), (4, _), (5, _)]) d_M_symbol_30 (by decide) rfl ?_
  refine r_aload_n d_M_symbol_32 0 rfl ?_
  refine rg_M_30 rfl d_M_symbol_33 gM rfl ?_
  refine r_iload d_M_symbol_36 5 rfl ?_
  refine r_zldB d_M_symbol_38 gmHas (by omega) (by decide) ?_
  refine r_if_eqB (tgt := 76) d_M_symbol_39 (by decide) (fun c39 => ?_) (fun c39 => ?_)
  · skip
    refine r_iconst (v := (-1)) d_M_symbol_76 (by decide) ?_
    refine r_ireturn d_M_symbol_77 rfl rfl ⟨?_, rfl, ?_⟩
    · rfl
    · rfl
  · skip
    refine r_iload d_M_symbol_42 4 rfl ?_
    refine r_iconst (v := nI 0) d_M_symbol_44 (by decide) ?_
    refine r_aload_n d_M_symbol_45 0 rfl ?_
    refine rg_M_36 rfl d_M_symbol_46 gM rfl ?_
    refine r_iload d_M_symbol_49 5 rfl ?_
    refine r_aldN d_M_symbol_51 gmSize (by omega) (by decide) ?_
    refine rc_M_83 rfl d_M_symbol_52 (k_M_stripes (by omega) (by omega)) (room_ok (d' := d - 1) (by omega) (by decide)) ⟨Nat.le_refl _, Nat.le_refl _⟩ (Nat.le_of_ble_eq_true rfl) ?_
    refine r_iconst (v := nI 1) d_M_symbol_55 (by decide) ?_
    refine r_isub d_M_symbol_56 ?_
    refine rc_M_60 rfl d_M_symbol_57 (k_M_inM (K := stp (m.size (rx i o false))) (by omega)) (room_ok (d' := d - 1) (by omega) (by decide)) ⟨Nat.le_refl _, Nat.le_refl _⟩ (Nat.le_of_ble_eq_true rfl) ?_
    refine r_if_eqB (tgt := 76) d_M_symbol_60 (by decide) (fun c60 => ?_) (fun c60 => ?_)
    rotate_left 1
    · exfalso; simp [c39, c60] at h
    refine r_iconst (v := (-1)) d_M_symbol_76 (by decide) ?_
    refine r_ireturn d_M_symbol_77 rfl rfl ⟨?_, rfl, ?_⟩
    · rfl
    · rfl
theorem k_M_count_bad {l : Launch} {g : GX} {c : CS} {m : MS} {n d : Nat} (hd : 1 ≤ d) {x : Int32} (h : inR x 6 = false) : CE l g M_M_count d 0 0 [.ref (aM g), .int x] n (hp g c m) (some (.int (-2))) n (hp g c m) := by
  refine CE.of (by decide +kernel) (lv := [(0, .ref (aM g)), (1, .int x)]) rfl (Nat.le_of_ble_eq_true rfl) ?_
  refine r_iconst (v := nI 0) d_M_count_0 (by decide) ?_
  refine r_istore_n (lv' := [(0, _), (1, _), (2, _)]) d_M_count_1 (by decide) rfl ?_
  refine r_iload_n d_M_count_2 1 rfl ?_
  refine r_tswO (tgt := 98) d_M_count_3 (inR_out (by decide) h) (by decide) ?_
  refine r_bipush (v := (-2)) d_M_count_98 (by decide) ?_
  refine r_ireturn d_M_count_100 rfl rfl ⟨?_, rfl, ?_⟩
  · rfl
  · rfl
theorem k_M_count0 {l : Launch} {g : GX} {c : CS} {m : MS} {n d : Nat} (hd : 1 ≤ d)  : CE l g M_M_count d 0 0 [.ref (aM g), .int (nI 0)] n (hp g c m) (some (.int (nI (lvM m)))) n (hp g c m) := by
  refine CE.of (by decide +kernel) (lv := [(0, .ref (aM g)), (1, .int (nI 0))]) rfl (Nat.le_of_ble_eq_true rfl) ?_
  refine r_iconst (v := nI 0) d_M_count_0 (by decide) ?_
  refine r_istore_n (lv' := [(0, _), (1, _), (2, _)]) d_M_count_1 (by decide) rfl ?_
  refine r_iload_n d_M_count_2 1 rfl ?_
  refine r_tsw (off := 37) (tgt := 40) d_M_count_3 (by decide) (by decide) (by decide) (by decide) ?_
  refine r_aload_n d_M_count_40 0 rfl ?_
  refine rc_M_107 rfl d_M_count_41 (k_M_live (by omega)) gM (room_ok (d' := d - 1) (by omega) (by decide)) ⟨Nat.le_refl _, Nat.le_refl _⟩ (Nat.le_of_ble_eq_true rfl) ?_
  refine r_ireturn d_M_count_44 rfl rfl ⟨?_, rfl, ?_⟩
  · rfl
  · rfl
theorem k_M_count1 {l : Launch} {g : GX} {c : CS} {m : MS} {n d : Nat} (hd : 1 ≤ d)  : CE l g M_M_count d 0 0 [.ref (aM g), .int (nI 1)] n (hp g c m) (some (.int (nI m.taped))) n (hp g c m) := by
  refine CE.of (by decide +kernel) (lv := [(0, .ref (aM g)), (1, .int (nI 1))]) rfl (Nat.le_of_ble_eq_true rfl) ?_
  refine r_iconst (v := nI 0) d_M_count_0 (by decide) ?_
  refine r_istore_n (lv' := [(0, _), (1, _), (2, _)]) d_M_count_1 (by decide) rfl ?_
  refine r_iload_n d_M_count_2 1 rfl ?_
  refine r_tsw (off := 42) (tgt := 45) d_M_count_3 (by decide) (by decide) (by decide) (by decide) ?_
  refine r_aload_n d_M_count_45 0 rfl ?_
  refine rg_M_96 rfl d_M_count_46 gM rfl ?_
  refine r_ireturn d_M_count_49 rfl rfl ⟨?_, rfl, ?_⟩
  · rfl
  · rfl
theorem k_M_count2 {l : Launch} {g : GX} {c : CS} {m : MS} {n d : Nat} (hd : 1 ≤ d)  : CE l g M_M_count d 0 0 [.ref (aM g), .int (nI 2)] n (hp g c m) (some (.int (m.msgs))) n (hp g c m) := by
  refine CE.of (by decide +kernel) (lv := [(0, .ref (aM g)), (1, .int (nI 2))]) rfl (Nat.le_of_ble_eq_true rfl) ?_
  refine r_iconst (v := nI 0) d_M_count_0 (by decide) ?_
  refine r_istore_n (lv' := [(0, _), (1, _), (2, _)]) d_M_count_1 (by decide) rfl ?_
  refine r_iload_n d_M_count_2 1 rfl ?_
  refine r_tsw (off := 47) (tgt := 50) d_M_count_3 (by decide) (by decide) (by decide) (by decide) ?_
  refine r_aload_n d_M_count_50 0 rfl ?_
  refine rg_M_122 rfl d_M_count_51 gM rfl ?_
  refine r_ireturn d_M_count_54 rfl rfl ⟨?_, rfl, ?_⟩
  · rfl
  · rfl
theorem k_M_count3 {l : Launch} {g : GX} {c : CS} {m : MS} {n d : Nat} (hd : 1 ≤ d)  : CE l g M_M_count d 0 0 [.ref (aM g), .int (nI 3)] n (hp g c m) (some (.int (m.syms))) n (hp g c m) := by
  refine CE.of (by decide +kernel) (lv := [(0, .ref (aM g)), (1, .int (nI 3))]) rfl (Nat.le_of_ble_eq_true rfl) ?_
  refine r_iconst (v := nI 0) d_M_count_0 (by decide) ?_
  refine r_istore_n (lv' := [(0, _), (1, _), (2, _)]) d_M_count_1 (by decide) rfl ?_
  refine r_iload_n d_M_count_2 1 rfl ?_
  refine r_tsw (off := 52) (tgt := 55) d_M_count_3 (by decide) (by decide) (by decide) (by decide) ?_
  refine r_aload_n d_M_count_55 0 rfl ?_
  refine rg_M_169 rfl d_M_count_56 gM rfl ?_
  refine r_ireturn d_M_count_59 rfl rfl ⟨?_, rfl, ?_⟩
  · rfl
  · rfl
theorem k_M_count4 {l : Launch} {g : GX} {c : CS} {m : MS} {n d : Nat} (hd : 1 ≤ d)  : CE l g M_M_count d 0 0 [.ref (aM g), .int (nI 4)] n (hp g c m) (some (.int (nI (ct m.opn 6)))) n (hp g c m) := by
  refine CE.of (by decide +kernel) (lv := [(0, .ref (aM g)), (1, .int (nI 4))]) rfl (Nat.le_of_ble_eq_true rfl) ?_
  refine r_iconst (v := nI 0) d_M_count_0 (by decide) ?_
  refine r_istore_n (lv' := [(0, _), (1, _), (2, _)]) d_M_count_1 (by decide) rfl ?_
  refine r_iload_n d_M_count_2 1 rfl ?_
  refine r_tsw (off := 57) (tgt := 60) d_M_count_3 (by decide) (by decide) (by decide) (by decide) ?_
  refine r_iconst (v := nI 0) d_M_count_60 (by decide) ?_
  refine r_istore_n (lv' := [(0, _), (1, _), (2, _), (3, _)]) d_M_count_61 (by decide) rfl ?_
  refine back_ind (n := 6) (G := fun q => RJ l g M_M_count (RMX d 0 0) (TQ g 0 0 (QE (some (.int (nI (ct m.opn 6)))) n (hp g c m))) XT n (hp g c m) 0 0 62 [(0, .ref (aM g)), (1, .int (nI 4)), (2, .int (nI (ct m.opn q))), (3, .int (nI q))] []) ?_ ?_ 0 (Nat.zero_le _)
  · skip
    refine r_iload_n d_M_count_62 3 rfl ?_
    refine r_bipush (v := nI 6) d_M_count_63 (by decide) ?_
    refine r_icmp_geN (tgt := 91) d_M_count_65 (by decide) (by omega) (by omega) (fun c65 => ?_) (fun c65 => ?_)
    rotate_left 1
    · exfalso; first | omega | (revert c65; decide) | cases c65
    refine r_iload_n d_M_count_91 2 rfl ?_
    refine r_ireturn d_M_count_92 rfl rfl ⟨?_, rfl, ?_⟩
    · rfl
    · rfl
  · intro q hb_q ih_q
    refine r_iload_n d_M_count_62 3 rfl ?_
    refine r_bipush (v := nI 6) d_M_count_63 (by decide) ?_
    refine r_icmp_geN (tgt := 91) d_M_count_65 (by decide) (by omega) (by omega) (fun c65 => ?_) (fun c65 => ?_)
    · exfalso; first | omega | (revert c65; decide) | cases c65
    refine r_iload_n d_M_count_68 2 rfl ?_
    refine r_aload_n d_M_count_69 0 rfl ?_
    refine rg_M_45 rfl d_M_count_70 gM rfl ?_
    refine r_iload_n d_M_count_73 3 rfl ?_
    refine r_zldB d_M_count_74 gmOpn (by omega) (by decide) ?_
    refine r_if_eqB (tgt := 82) d_M_count_75 (by decide) (fun c75 => ?_) (fun c75 => ?_)
    · skip
      refine r_iconst (v := nI 0) d_M_count_82 (by decide) ?_
      refine r_iaddN d_M_count_83 ?_
      refine r_istore_n (lv' := [(0, _), (1, _), (2, _), (3, _)]) d_M_count_84 (by decide) rfl ?_
      refine r_iincN (lv' := [(0, _), (1, _), (2, _), (3, _)]) d_M_count_85 3 rfl (by decide) rfl ?_
      refine r_goto (tgt := 62) d_M_count_88 (by decide) ?_
      exact r_at ih_q rfl (by first | (rw [ct_t c75]; done) | (rw [ct_f c75]; rfl)) rfl
    · skip
      refine r_iconst (v := nI 1) d_M_count_78 (by decide) ?_
      refine r_goto (tgt := 83) d_M_count_79 (by decide) ?_
      refine r_iaddN d_M_count_83 ?_
      refine r_istore_n (lv' := [(0, _), (1, _), (2, _), (3, _)]) d_M_count_84 (by decide) rfl ?_
      refine r_iincN (lv' := [(0, _), (1, _), (2, _), (3, _)]) d_M_count_85 3 rfl (by decide) rfl ?_
      refine r_goto (tgt := 62) d_M_count_88 (by decide) ?_
      exact r_at ih_q rfl (by first | (rw [ct_t c75]; done) | (rw [ct_f c75]; rfl)) rfl
theorem k_M_count5 {l : Launch} {g : GX} {c : CS} {m : MS} {n d : Nat} (hd : 1 ≤ d)  : CE l g M_M_count d 0 0 [.ref (aM g), .int (nI 5)] n (hp g c m) (some (.int (m.cutA))) n (hp g c m) := by
  refine CE.of (by decide +kernel) (lv := [(0, .ref (aM g)), (1, .int (nI 5))]) rfl (Nat.le_of_ble_eq_true rfl) ?_
  refine r_iconst (v := nI 0) d_M_count_0 (by decide) ?_
  refine r_istore_n (lv' := [(0, _), (1, _), (2, _)]) d_M_count_1 (by decide) rfl ?_
  refine r_iload_n d_M_count_2 1 rfl ?_
  refine r_tsw (off := 90) (tgt := 93) d_M_count_3 (by decide) (by decide) (by decide) (by decide) ?_
  refine r_aload_n d_M_count_93 0 rfl ?_
  refine rg_M_13 rfl d_M_count_94 gM rfl ?_
  refine r_ireturn d_M_count_97 rfl rfl ⟨?_, rfl, ?_⟩
  · rfl
  · rfl
def dmN (m : MS) (i : Nat) (h : Int64) : Int64 := 31 * (31 * (31 * h + (b2 (!m.fail i)).toInt64) + (m.sent i).toInt64) + 40 - (nI (usN m i)).toInt64
def dmL (m : MS) (i o : Nat) (h : Int64) : Nat → Int64
  | 0 => h
  | w + 1 => 31 * dmL m i o h w + (recM m i o w).toInt64
def dmK (m : MS) (a : Nat) (h : Int64) : Nat → Int64
  | 0 => h
  | k + 1 => 31 * dmK m a h k + (nI (m.byts (a + k))).toInt64
def dmS (m : MS) (i r : Nat) (h : Int64) : Nat → Int64
  | 0 => h
  | s + 1 => dmK m (8 * (40 * i + m.blk (8 * r + s))) (dmS m i r h s) 8
def dmR (m : MS) (i o : Nat) (h : Int64) : Int64 := if m.has (rx i o false) = true then dmS m i (rx i o false) (dmL m i o h 6) (stp (m.size (rx i o false))) else dmL m i o h 6
def dmO (m : MS) (i : Nat) (h : Int64) : Nat → Int64
  | 0 => h
  | o + 1 => dmR m i o (dmO m i h o)
def dmA (m : MS) : Nat → Int64
  | 0 => 11
  | i + 1 => dmO m i (dmN m i (dmA m i)) 6
theorem k_M_digest {l : Launch} {g : GX} {c : CS} {m : MS} {n d : Nat} (hd : 3 ≤ d) (hm : MI m) : CE l g M_M_digest d 0 0 [.ref (aM g)] n (hp g c m) (some (.long (dmA m 12))) n (hp g c m) := by
  refine CE.of (by decide +kernel) (lv := [(0, .ref (aM g))]) rfl (Nat.le_of_ble_eq_true rfl) ?_
  refine r_ldc2 (v := 11) d_M_digest_0 (by decide +kernel) ?_
  refine r_lstore_n (lv' := [(0, _), (1, _)]) d_M_digest_3 (by decide) rfl ?_
  refine r_iconst (v := nI 0) d_M_digest_4 (by decide) ?_
  refine r_istore_n (lv' := [(0, _), (1, _), (3, _)]) d_M_digest_5 (by decide) rfl ?_
  refine r_less (lv' := [(0, .ref (aM g)), (1, .long (11 : Int64)), (3, .int (nI 0))]) (by simp) ?_
  refine back_ind (n := 12) (G := fun i => RJ l g M_M_digest (RMX d 0 0) (TQ g 0 0 (QE (some (.long (dmA m 12))) n (hp g c m))) XT n (hp g c m) 0 0 6 [(0, .ref (aM g)), (1, .long (dmA m i)), (3, .int (nI i))] []) ?_ ?_ 0 (Nat.zero_le _)
  · skip
    refine r_iload_n d_M_digest_6 2 rfl ?_
    refine r_bipush (v := nI 12) d_M_digest_7 (by decide) ?_
    refine r_icmp_geN (tgt := 199) d_M_digest_9 (by decide) (by omega) (by omega) (fun c9 => ?_) (fun c9 => ?_)
    rotate_left 1
    · exfalso; first | omega | (revert c9; decide) | cases c9
    refine r_lload_n d_M_digest_199 1 rfl ?_
    refine r_lreturn d_M_digest_200 rfl ⟨?_, rfl, ?_⟩
    · rfl
    · rfl
  · intro i hb_i ih_i
    refine r_iload_n d_M_digest_6 2 rfl ?_
    refine r_bipush (v := nI 12) d_M_digest_7 (by decide) ?_
    refine r_icmp_geN (tgt := 199) d_M_digest_9 (by decide) (by omega) (by omega) (fun c9 => ?_) (fun c9 => ?_)
    · exfalso; first | omega | (revert c9; decide) | cases c9
    refine r_ldc2 (v := 31) d_M_digest_12 (by decide +kernel) ?_
    refine r_ldc2 (v := 31) d_M_digest_15 (by decide +kernel) ?_
    refine r_ldc2 (v := 31) d_M_digest_18 (by decide +kernel) ?_
    refine r_lload_n d_M_digest_21 1 rfl ?_
    refine r_lmul d_M_digest_22 ?_
    refine r_aload_n d_M_digest_23 0 rfl ?_
    refine rg_M_17 rfl d_M_digest_24 gM rfl ?_
    refine r_iload_n d_M_digest_27 2 rfl ?_
    refine r_zldB d_M_digest_28 gmFail (by omega) (by decide) ?_
    have J29 : RJ l g M_M_digest (RMX d 0 0) (TQ g 0 0 (QE (some (.long (dmA m 12))) n (hp g c m))) XT n (hp g c m) 0 0 37 [(0, .ref (aM g)), (1, .long (dmA m i)), (3, .int (nI i))] [.int (b2 (!m.fail i)), .long ((31 : Int64) * (dmA m i)), .long (31 : Int64), .long (31 : Int64)] := by
      refine r_i2l d_M_digest_37 ?_
      refine r_ladd d_M_digest_38 ?_
      refine r_lmul d_M_digest_39 ?_
      refine r_aload_n d_M_digest_40 0 rfl ?_
      refine rg_M_21 rfl d_M_digest_41 gM rfl ?_
      refine r_iload_n d_M_digest_44 2 rfl ?_
      refine r_ald (t := 0) d_M_digest_45 gmSent (by omega) (by decide) ?_
      refine r_i2l d_M_digest_46 ?_
      refine r_ladd d_M_digest_47 ?_
      refine r_lmul d_M_digest_48 ?_
      refine r_ldc2 (v := 40) d_M_digest_49 (by decide +kernel) ?_
      refine r_ladd d_M_digest_52 ?_
      refine r_aload_n d_M_digest_53 0 rfl ?_
      refine r_iload_n d_M_digest_54 2 rfl ?_
      refine rc_M_131 rfl d_M_digest_55 (k_M_usedBy (by omega) hb_i) gM (room_ok (d' := d - 1) (by omega) (by decide)) ⟨Nat.le_refl _, Nat.le_refl _⟩ (Nat.le_of_ble_eq_true rfl) ?_
      refine r_i2l d_M_digest_58 ?_
      refine r_lsub d_M_digest_59 ?_
      refine r_lstore_n (lv' := [(0, _), (1, _), (3, _)]) d_M_digest_60 (by decide) rfl ?_
      refine r_iconst (v := nI 0) d_M_digest_61 (by decide) ?_
      refine r_istore (lv' := [(0, _), (1, _), (3, _), (4, _)]) d_M_digest_62 (by decide) rfl ?_
      refine r_less (lv' := [(0, .ref (aM g)), (1, .long ((((31 : Int64) * (((31 : Int64) * (((31 : Int64) * (dmA m i)) + ((b2 (!m.fail i)).toInt64))) + ((m.sent i).toInt64))) + (40 : Int64)) - ((nI (usN m i)).toInt64))), (3, .int (nI i)), (4, .int (nI 0))]) (by simp) ?_
      refine back_ind (n := 6) (G := fun o => RJ l g M_M_digest (RMX d 0 0) (TQ g 0 0 (QE (some (.long (dmA m 12))) n (hp g c m))) XT n (hp g c m) 0 0 64 [(0, .ref (aM g)), (1, .long (dmO m i (dmN m i (dmA m i)) o)), (3, .int (nI i)), (4, .int (nI o))] []) ?_ ?_ 0 (Nat.zero_le _)
      · skip
        refine r_iload d_M_digest_64 3 rfl ?_
        refine r_bipush (v := nI 6) d_M_digest_66 (by decide) ?_
        refine r_icmp_geN (tgt := 193) d_M_digest_68 (by decide) (by omega) (by omega) (fun c68 => ?_) (fun c68 => ?_)
        rotate_left 1
        · exfalso; first | omega | (revert c68; decide) | cases c68
        refine r_iincN (lv' := [(0, _), (1, _), (3, _), (4, _)]) d_M_digest_193 2 rfl (by decide) rfl ?_
        refine r_goto (tgt := 6) d_M_digest_196 (by decide) ?_
        refine r_less (lv' := [(0, .ref (aM g)), (1, .long (dmO m i (dmN m i (dmA m i)) 6)), (3, .int (nI (i + 1)))]) (by simp) ?_
        exact ih_i
      · intro o hb_o ih_o
        have hr := rx_lt (z := false) hb_i hb_o
        have h24 := hm.1 (rx i o false)
        have h8 := stp_le h24
        refine r_iload d_M_digest_64 3 rfl ?_
        refine r_bipush (v := nI 6) d_M_digest_66 (by decide) ?_
        refine r_icmp_geN (tgt := 193) d_M_digest_68 (by decide) (by omega) (by omega) (fun c68 => ?_) (fun c68 => ?_)
        · exfalso; first | omega | (revert c68; decide) | cases c68
        refine r_iconst (v := nI 0) d_M_digest_71 (by decide) ?_
        refine r_istore (lv' := [(0, _), (1, _), (3, _), (4, _), (5, _)]) d_M_digest_72 (by decide) rfl ?_
        refine back_ind (n := 6) (G := fun w => RJ l g M_M_digest (RMX d 0 0) (TQ g 0 0 (QE (some (.long (dmA m 12))) n (hp g c m))) XT n (hp g c m) 0 0 74 [(0, .ref (aM g)), (1, .long (dmL m i o (dmO m i (dmN m i (dmA m i)) o) w)), (3, .int (nI i)), (4, .int (nI o)), (5, .int (nI w))] []) ?_ ?_ 0 (Nat.zero_le _)
        · skip
          refine r_iload d_M_digest_74 4 rfl ?_
          refine r_bipush (v := nI 6) d_M_digest_76 (by decide) ?_
          refine r_icmp_geN (tgt := 104) d_M_digest_78 (by decide) (by omega) (by omega) (fun c78 => ?_) (fun c78 => ?_)
          rotate_left 1
          · exfalso; first | omega | (revert c78; decide) | cases c78
          refine r_iload_n d_M_digest_104 2 rfl ?_
          refine r_iload d_M_digest_105 3 rfl ?_
          refine r_iconst (v := nI 0) d_M_digest_107 (by decide) ?_
          refine rc_M_79 rfl d_M_digest_108 (k_M_at (i := i) (o := o) (z := false) (by omega)) (room_ok (d' := d - 1) (by omega) (by decide)) ⟨Nat.le_refl _, Nat.le_refl _⟩ (Nat.le_of_ble_eq_true rfl) ?_
          refine r_istore (lv' := [(0, _), (1, _), (3, _), (4, _), (5, _)]) d_M_digest_111 (by decide) rfl ?_
          refine r_iconst (v := nI 0) d_M_digest_113 (by decide) ?_
          rcases Bool.eq_false_or_eq_true (m.has (rx i o false)) with hh | hh
          · skip
            refine r_istore (lv' := [(0, _), (1, _), (3, _), (4, _), (5, _), (6, _)]) d_M_digest_114 (by decide) rfl ?_
            refine r_less (lv' := [(0, .ref (aM g)), (1, .long (dmL m i o (dmO m i (dmN m i (dmA m i)) o) 6)), (3, .int (nI i)), (4, .int (nI o)), (5, .int (nI (rx i o false))), (6, .int (nI 0))]) (by simp) ?_
            refine back_ind (n := stp (m.size (rx i o false))) (G := fun s => RJ l g M_M_digest (RMX d 0 0) (TQ g 0 0 (QE (some (.long (dmA m 12))) n (hp g c m))) XT n (hp g c m) 0 0 116 [(0, .ref (aM g)), (1, .long (dmS m i (rx i o false) (dmL m i o (dmO m i (dmN m i (dmA m i)) o) 6) s)), (3, .int (nI i)), (4, .int (nI o)), (5, .int (nI (rx i o false))), (6, .int (nI s))] []) ?_ ?_ 0 (Nat.zero_le _)
            · skip
              refine r_iload d_M_digest_116 5 rfl ?_
              refine r_aload_n d_M_digest_118 0 rfl ?_
              refine rg_M_36 rfl d_M_digest_119 gM rfl ?_
              refine r_iload d_M_digest_122 4 rfl ?_
              refine r_aldN d_M_digest_124 gmSize (by omega) (by decide) ?_
              refine rc_M_83 rfl d_M_digest_125 (k_M_stripes (by omega) (by omega)) (room_ok (d' := d - 1) (by omega) (by decide)) ⟨Nat.le_refl _, Nat.le_refl _⟩ (Nat.le_of_ble_eq_true rfl) ?_
              refine r_icmp_geN (tgt := 187) d_M_digest_128 (by decide) (by omega) (by omega) (fun c128 => ?_) (fun c128 => ?_)
              rotate_left 1
              · exfalso; first | omega | (revert c128; decide) | cases c128
              refine r_iincN (lv' := [(0, _), (1, _), (3, _), (4, _), (5, _), (6, _)]) d_M_digest_187 3 rfl (by decide) rfl ?_
              refine r_goto (tgt := 64) d_M_digest_190 (by decide) ?_
              refine r_less (lv' := [(0, .ref (aM g)), (1, .long (dmS m i (rx i o false) (dmL m i o (dmO m i (dmN m i (dmA m i)) o) 6) (stp (m.size (rx i o false))))), (3, .int (nI i)), (4, .int (nI (o + 1)))]) (by simp) ?_
              exact r_at ih_o rfl (by rw [show dmO m i (dmN m i (dmA m i)) (o + 1) = dmS m i (rx i o false) (dmL m i o (dmO m i (dmN m i (dmA m i)) o) 6) (stp (m.size (rx i o false))) from if_pos hh]) rfl
            · intro s hb_s ih_s
              have hb40 := hm.2.2 (8 * rx i o false + s)
              refine r_iload d_M_digest_116 5 rfl ?_
              refine r_aload_n d_M_digest_118 0 rfl ?_
              refine rg_M_36 rfl d_M_digest_119 gM rfl ?_
              refine r_iload d_M_digest_122 4 rfl ?_
              refine r_aldN d_M_digest_124 gmSize (by omega) (by decide) ?_
              refine rc_M_83 rfl d_M_digest_125 (k_M_stripes (by omega) (by omega)) (room_ok (d' := d - 1) (by omega) (by decide)) ⟨Nat.le_refl _, Nat.le_refl _⟩ (Nat.le_of_ble_eq_true rfl) ?_
              refine r_icmp_geN (tgt := 187) d_M_digest_128 (by decide) (by omega) (by omega) (fun c128 => ?_) (fun c128 => ?_)
              · exfalso; first | omega | (revert c128; decide) | cases c128
              refine r_aload_n d_M_digest_131 0 rfl ?_
              refine rg_M_30 rfl d_M_digest_132 gM rfl ?_
              refine r_iload d_M_digest_135 4 rfl ?_
              refine r_zldB d_M_digest_137 gmHas (by omega) (by decide) ?_
              refine r_if_eqB (tgt := 187) d_M_digest_138 (by decide) (fun c138 => ?_) (fun c138 => ?_)
              · exact absurd (hh.symm.trans c138) (by decide)
              refine r_iconst (v := nI 0) d_M_digest_141 (by decide) ?_
              refine r_istore (lv' := [(0, _), (1, _), (3, _), (4, _), (5, _), (6, _), (7, _)]) d_M_digest_142 (by decide) rfl ?_
              refine back_ind (n := 8) (G := fun k => RJ l g M_M_digest (RMX d 0 0) (TQ g 0 0 (QE (some (.long (dmA m 12))) n (hp g c m))) XT n (hp g c m) 0 0 144 [(0, .ref (aM g)), (1, .long (dmK m (8 * (40 * i + m.blk (8 * (rx i o false) + s))) (dmS m i (rx i o false) (dmL m i o (dmO m i (dmN m i (dmA m i)) o) 6) s) k)), (3, .int (nI i)), (4, .int (nI o)), (5, .int (nI (rx i o false))), (6, .int (nI s)), (7, .int (nI k))] []) ?_ ?_ 0 (Nat.zero_le _)
              · skip
                refine r_iload d_M_digest_144 6 rfl ?_
                refine r_bipush (v := nI 8) d_M_digest_146 (by decide) ?_
                refine r_icmp_geN (tgt := 181) d_M_digest_148 (by decide) (by omega) (by omega) (fun c148 => ?_) (fun c148 => ?_)
                rotate_left 1
                · exfalso; first | omega | (revert c148; decide) | cases c148
                refine r_iincN (lv' := [(0, _), (1, _), (3, _), (4, _), (5, _), (6, _), (7, _)]) d_M_digest_181 5 rfl (by decide) rfl ?_
                refine r_goto (tgt := 116) d_M_digest_184 (by decide) ?_
                refine r_less (lv' := [(0, .ref (aM g)), (1, .long (dmK m (8 * (40 * i + m.blk (8 * (rx i o false) + s))) (dmS m i (rx i o false) (dmL m i o (dmO m i (dmN m i (dmA m i)) o) 6) s) 8)), (3, .int (nI i)), (4, .int (nI o)), (5, .int (nI (rx i o false))), (6, .int (nI (s + 1)))]) (by simp) ?_
                exact ih_s
              · intro k hb_k ih_k
                refine r_iload d_M_digest_144 6 rfl ?_
                refine r_bipush (v := nI 8) d_M_digest_146 (by decide) ?_
                refine r_icmp_geN (tgt := 181) d_M_digest_148 (by decide) (by omega) (by omega) (fun c148 => ?_) (fun c148 => ?_)
                · exfalso; first | omega | (revert c148; decide) | cases c148
                refine r_ldc2 (v := 31) d_M_digest_151 (by decide +kernel) ?_
                refine r_lload_n d_M_digest_154 1 rfl ?_
                refine r_lmul d_M_digest_155 ?_
                refine r_aload_n d_M_digest_156 0 rfl ?_
                refine rg_M_27 rfl d_M_digest_157 gM rfl ?_
                refine r_aload_n d_M_digest_160 0 rfl ?_
                refine r_iload_n d_M_digest_161 2 rfl ?_
                refine r_iload d_M_digest_162 4 rfl ?_
                refine r_iload d_M_digest_164 5 rfl ?_
                refine r_iload d_M_digest_166 6 rfl ?_
                refine rc_M_103 rfl d_M_digest_168 (k_M_byteAt (r := (rx i o false)) (s := s) (by omega) (by omega)) gM (room_ok (d' := d - 1) (by omega) (by decide)) ⟨Nat.le_refl _, Nat.le_refl _⟩ (Nat.le_of_ble_eq_true rfl) ?_
                refine r_aldN d_M_digest_171 gmByts (by omega) (by decide) ?_
                refine r_i2l d_M_digest_172 ?_
                refine r_ladd d_M_digest_173 ?_
                refine r_lstore_n (lv' := [(0, _), (1, _), (3, _), (4, _), (5, _), (6, _), (7, _)]) d_M_digest_174 (by decide) rfl ?_
                refine r_iincN (lv' := [(0, _), (1, _), (3, _), (4, _), (5, _), (6, _), (7, _)]) d_M_digest_175 6 rfl (by decide) rfl ?_
                refine r_goto (tgt := 144) d_M_digest_178 (by decide) ?_
                exact ih_k
          · skip
            refine r_istore (lv' := [(0, _), (1, _), (3, _), (4, _), (5, _), (6, _)]) d_M_digest_114 (by decide) rfl ?_
            refine r_iload d_M_digest_116 5 rfl ?_
            refine r_aload_n d_M_digest_118 0 rfl ?_
            refine rg_M_36 rfl d_M_digest_119 gM rfl ?_
            refine r_iload d_M_digest_122 4 rfl ?_
            refine r_aldN d_M_digest_124 gmSize (by omega) (by decide) ?_
            refine rc_M_83 rfl d_M_digest_125 (k_M_stripes (by omega) (by omega)) (room_ok (d' := d - 1) (by omega) (by decide)) ⟨Nat.le_refl _, Nat.le_refl _⟩ (Nat.le_of_ble_eq_true rfl) ?_
            refine r_icmp_geN (tgt := 187) d_M_digest_128 (by decide) (by omega) (by omega) (fun c128 => ?_) (fun c128 => ?_)
            · skip
              refine r_iincN (lv' := [(0, _), (1, _), (3, _), (4, _), (5, _), (6, _)]) d_M_digest_187 3 rfl (by decide) rfl ?_
              refine r_goto (tgt := 64) d_M_digest_190 (by decide) ?_
              refine r_less (lv' := [(0, .ref (aM g)), (1, .long (dmL m i o (dmO m i (dmN m i (dmA m i)) o) 6)), (3, .int (nI i)), (4, .int (nI (o + 1)))]) (by simp) ?_
              exact r_at ih_o rfl (by rw [show dmO m i (dmN m i (dmA m i)) (o + 1) = dmL m i o (dmO m i (dmN m i (dmA m i)) o) 6 from if_neg (by rw [hh]; decide)]) rfl
            · skip
              refine r_aload_n d_M_digest_131 0 rfl ?_
              refine rg_M_30 rfl d_M_digest_132 gM rfl ?_
              refine r_iload d_M_digest_135 4 rfl ?_
              refine r_zldB d_M_digest_137 gmHas (by omega) (by decide) ?_
              refine r_if_eqB (tgt := 187) d_M_digest_138 (by decide) (fun c138 => ?_) (fun c138 => ?_)
              rotate_left 1
              · exact absurd (hh.symm.trans c138) (by decide)
              refine r_iincN (lv' := [(0, _), (1, _), (3, _), (4, _), (5, _), (6, _)]) d_M_digest_187 3 rfl (by decide) rfl ?_
              refine r_goto (tgt := 64) d_M_digest_190 (by decide) ?_
              refine r_less (lv' := [(0, .ref (aM g)), (1, .long (dmL m i o (dmO m i (dmN m i (dmA m i)) o) 6)), (3, .int (nI i)), (4, .int (nI (o + 1)))]) (by simp) ?_
              exact r_at ih_o rfl (by rw [show dmO m i (dmN m i (dmA m i)) (o + 1) = dmL m i o (dmO m i (dmN m i (dmA m i)) o) 6 from if_neg (by rw [hh]; decide)]) rfl
        · intro w hb_w ih_w
          refine r_iload d_M_digest_74 4 rfl ?_
          refine r_bipush (v := nI 6) d_M_digest_76 (by decide) ?_
          refine r_icmp_geN (tgt := 104) d_M_digest_78 (by decide) (by omega) (by omega) (fun c78 => ?_) (fun c78 => ?_)
          · exfalso; first | omega | (revert c78; decide) | cases c78
          refine r_ldc2 (v := 31) d_M_digest_81 (by decide +kernel) ?_
          refine r_lload_n d_M_digest_84 1 rfl ?_
          refine r_lmul d_M_digest_85 ?_
          refine r_aload_n d_M_digest_86 0 rfl ?_
          refine r_iload_n d_M_digest_87 2 rfl ?_
          refine r_iload d_M_digest_88 3 rfl ?_
          refine r_iload d_M_digest_90 4 rfl ?_
          refine rc_M_178 rfl d_M_digest_92 (k_M_record (by omega) hb_i hb_o (by omega) hm) gM (room_ok (d' := d - 1) (by omega) (by decide)) ⟨Nat.le_refl _, Nat.le_refl _⟩ (Nat.le_of_ble_eq_true rfl) ?_
          refine r_i2l d_M_digest_95 ?_
          refine r_ladd d_M_digest_96 ?_
          refine r_lstore_n (lv' := [(0, _), (1, _), (3, _), (4, _), (5, _)]) d_M_digest_97 (by decide) rfl ?_
          refine r_iincN (lv' := [(0, _), (1, _), (3, _), (4, _), (5, _)]) d_M_digest_98 4 rfl (by decide) rfl ?_
          refine r_goto (tgt := 74) d_M_digest_101 (by decide) ?_
          exact ih_w
    refine r_if_eqB (tgt := 36) d_M_digest_29 (by decide) (fun c29 => ?_) (fun c29 => ?_)
    · skip
      refine r_iconst (v := nI 1) d_M_digest_36 (by decide) ?_
      refine r_top (y := b2 (!m.fail i)) (by rw [c29]; rfl) ?_
      exact r_at J29 (rfl) rfl rfl
    · skip
      refine r_iconst (v := nI 0) d_M_digest_32 (by decide) ?_
      refine r_top (y := b2 (!m.fail i)) (by rw [c29]; rfl) ?_
      refine r_goto (tgt := 37) d_M_digest_33 (by decide) ?_
      exact r_at J29 (rfl) rfl rfl
def cmL (m : MS) : Nat → MS
  | 0 => m
  | i + 1 => (wpM (cmL m i) i).s_sent (upN (wpM (cmL m i) i).sent i (nI 0))
theorem cmL_MI {m : MS} (h : MI m) : ∀ i, MI (cmL m i)
  | 0 => h
  | i + 1 => MI_mga (i := i) (cmL_MI h i) 6
def cmB (X : MS) : Nat → MS
  | 0 => X
  | o + 1 => ((cmB X o).s_latest (upN (cmB X o).latest o 0)).s_opn (upN (cmB X o).opn o false)
def clrM (m : MS) : MS := ((cmB (cmL m 12) 6).s_taped 0).s_cutA (-1)
theorem k_M_clear {l : Launch} {g : GX} {c : CS} {m : MS} {n d : Nat} (hd : 4 ≤ d) (hm : MI m) : CE l g M_M_clear d 0 0 [.ref (aM g)] n (hp g c m) (some (.int (nI (ct (fun o => decide (0 < mnw m o)) 6)))) n (hp g c (clrM m)) := by
  refine CE.of (by decide +kernel) (lv := [(0, .ref (aM g))]) rfl (Nat.le_of_ble_eq_true rfl) ?_
  refine r_iconst (v := nI 0) d_M_clear_0 (by decide) ?_
  refine r_istore_n (lv' := [(0, _), (1, _)]) d_M_clear_1 (by decide) rfl ?_
  refine r_iconst (v := nI 0) d_M_clear_2 (by decide) ?_
  refine r_istore_n (lv' := [(0, _), (1, _), (2, _)]) d_M_clear_3 (by decide) rfl ?_
  refine back_ind (n := 6) (G := fun o => RJ l g M_M_clear (RMX d 0 0) (TQ g 0 0 (QE (some (.int (nI (ct (fun o => decide (0 < mnw m o)) 6)))) n (hp g c (clrM m)))) XT n (hp g c m) 0 0 4 [(0, .ref (aM g)), (1, .int (nI (ct (fun o => decide (0 < mnw m o)) o))), (2, .int (nI o))] []) ?_ ?_ 0 (Nat.zero_le _)
  · skip
    refine r_iload_n d_M_clear_4 2 rfl ?_
    refine r_bipush (v := nI 6) d_M_clear_5 (by decide) ?_
    refine r_icmp_geN (tgt := 32) d_M_clear_7 (by decide) (by omega) (by omega) (fun c7 => ?_) (fun c7 => ?_)
    rotate_left 1
    · exfalso; first | omega | (revert c7; decide) | cases c7
    refine r_iconst (v := nI 0) d_M_clear_32 (by decide) ?_
    refine r_istore_n (lv' := [(0, _), (1, _), (2, _)]) d_M_clear_33 (by decide) rfl ?_
    refine r_heap (h' := hp g c (cmL m 0)) rfl ?_
    refine back_ind (n := 12) (G := fun i => RJ l g M_M_clear (RMX d 0 0) (TQ g 0 0 (QE (some (.int (nI (ct (fun o => decide (0 < mnw m o)) 6)))) n (hp g c (clrM m)))) XT n (hp g c (cmL m i)) 0 0 34 [(0, .ref (aM g)), (1, .int (nI (ct (fun o => decide (0 < mnw m o)) 6))), (2, .int (nI i))] []) ?_ ?_ 0 (Nat.zero_le _)
    · skip
      refine r_iload_n d_M_clear_34 2 rfl ?_
      refine r_bipush (v := nI 12) d_M_clear_35 (by decide) ?_
      refine r_icmp_geN (tgt := 59) d_M_clear_37 (by decide) (by omega) (by omega) (fun c37 => ?_) (fun c37 => ?_)
      rotate_left 1
      · exfalso; first | omega | (revert c37; decide) | cases c37
      refine r_iconst (v := nI 0) d_M_clear_59 (by decide) ?_
      refine r_istore_n (lv' := [(0, _), (1, _), (2, _)]) d_M_clear_60 (by decide) rfl ?_
      refine r_heap (h' := hp g c (cmB (cmL m 12) 0)) rfl ?_
      refine back_ind (n := 6) (G := fun q => RJ l g M_M_clear (RMX d 0 0) (TQ g 0 0 (QE (some (.int (nI (ct (fun o => decide (0 < mnw m o)) 6)))) n (hp g c (clrM m)))) XT n (hp g c (cmB (cmL m 12) q)) 0 0 61 [(0, .ref (aM g)), (1, .int (nI (ct (fun o => decide (0 < mnw m o)) 6))), (2, .int (nI q))] []) ?_ ?_ 0 (Nat.zero_le _)
      · skip
        refine r_iload_n d_M_clear_61 2 rfl ?_
        refine r_bipush (v := nI 6) d_M_clear_62 (by decide) ?_
        refine r_icmp_geN (tgt := 87) d_M_clear_64 (by decide) (by omega) (by omega) (fun c64 => ?_) (fun c64 => ?_)
        rotate_left 1
        · exfalso; first | omega | (revert c64; decide) | cases c64
        refine r_aload_n d_M_clear_87 0 rfl ?_
        refine r_iconst (v := nI 0) d_M_clear_88 (by decide) ?_
        refine rp_M_96 rfl d_M_clear_89 gM (Nat.le_of_ble_eq_true rfl) rfl (wM_taped (v := 0)) ?_
        refine r_aload_n d_M_clear_92 0 rfl ?_
        refine r_iconst (v := (-1)) d_M_clear_93 (by decide) ?_
        refine rp_M_13 rfl d_M_clear_94 gM (Nat.le_of_ble_eq_true rfl) rfl (wM_cutA (v := (-1))) ?_
        refine r_iload_n d_M_clear_97 1 rfl ?_
        refine r_ireturn d_M_clear_98 rfl rfl ⟨?_, rfl, ?_⟩
        · rfl
        · rfl
      · intro q hb_q ih_q
        refine r_iload_n d_M_clear_61 2 rfl ?_
        refine r_bipush (v := nI 6) d_M_clear_62 (by decide) ?_
        refine r_icmp_geN (tgt := 87) d_M_clear_64 (by decide) (by omega) (by omega) (fun c64 => ?_) (fun c64 => ?_)
        · exfalso; first | omega | (revert c64; decide) | cases c64
        refine r_aload_n d_M_clear_67 0 rfl ?_
        refine rg_M_42 rfl d_M_clear_68 gM rfl ?_
        refine r_iload_n d_M_clear_71 2 rfl ?_
        refine r_iconst (v := nI 0) d_M_clear_72 (by decide) ?_
        refine r_astN d_M_clear_73 gmLat (by omega) (by decide) (wm_latest) ?_
        refine r_aload_n d_M_clear_74 0 rfl ?_
        refine rg_M_45 rfl d_M_clear_75 gM rfl ?_
        refine r_iload_n d_M_clear_78 2 rfl ?_
        refine r_iconst (v := nI 0) d_M_clear_79 (by decide) ?_
        refine r_zast (b := false) d_M_clear_80 rfl gmOpn (by omega) (by decide) (wm_opn) ?_
        refine r_iincN (lv' := [(0, _), (1, _), (2, _)]) d_M_clear_81 2 rfl (by decide) rfl ?_
        refine r_goto (tgt := 61) d_M_clear_84 (by decide) ?_
        exact ih_q
    · intro i hb_i ih_i
      have hci := cmL_MI hm i
      refine r_iload_n d_M_clear_34 2 rfl ?_
      refine r_bipush (v := nI 12) d_M_clear_35 (by decide) ?_
      refine r_icmp_geN (tgt := 59) d_M_clear_37 (by decide) (by omega) (by omega) (fun c37 => ?_) (fun c37 => ?_)
      · exfalso; first | omega | (revert c37; decide) | cases c37
      refine r_aload_n d_M_clear_40 0 rfl ?_
      refine r_iload_n d_M_clear_41 2 rfl ?_
      refine rc_M_181 rfl d_M_clear_42 (k_M_wipe (m := cmL m i) (by omega) hb_i hci) gM (room_ok (d' := d - 1) (by omega) (by decide)) ⟨Nat.le_refl _, Nat.le_refl _⟩ (Nat.le_of_ble_eq_true rfl) ?_
      refine r_pop d_M_clear_45 rfl ?_
      refine r_aload_n d_M_clear_46 0 rfl ?_
      refine rg_M_21 rfl d_M_clear_47 gM rfl ?_
      refine r_iload_n d_M_clear_50 2 rfl ?_
      refine r_iconst (v := nI 0) d_M_clear_51 (by decide) ?_
      refine r_ast d_M_clear_52 gmSent (by omega) (by decide) rfl (wm_sent) ?_
      refine r_iincN (lv' := [(0, _), (1, _), (2, _)]) d_M_clear_53 2 rfl (by decide) rfl ?_
      refine r_goto (tgt := 34) d_M_clear_56 (by decide) ?_
      exact ih_i
  · intro o hb_o ih_o
    have hw := mnw_lt (o := o) hm
    refine r_iload_n d_M_clear_4 2 rfl ?_
    refine r_bipush (v := nI 6) d_M_clear_5 (by decide) ?_
    refine r_icmp_geN (tgt := 32) d_M_clear_7 (by decide) (by omega) (by omega) (fun c7 => ?_) (fun c7 => ?_)
    · exfalso; first | omega | (revert c7; decide) | cases c7
    refine r_iload_n d_M_clear_10 1 rfl ?_
    refine r_aload_n d_M_clear_11 0 rfl ?_
    refine r_iload_n d_M_clear_12 2 rfl ?_
    refine rc_M_140 rfl d_M_clear_13 (k_M_newest (by omega) hb_o hm) gM (room_ok (d' := d - 1) (by omega) (by decide)) ⟨Nat.le_refl _, Nat.le_refl _⟩ (Nat.le_of_ble_eq_true rfl) ?_
    refine r_if_leN (tgt := 23) d_M_clear_16 (by decide) (by omega) (fun c16 => ?_) (fun c16 => ?_)
    · skip
      refine r_iconst (v := nI 0) d_M_clear_23 (by decide) ?_
      refine r_iaddN d_M_clear_24 ?_
      refine r_istore_n (lv' := [(0, _), (1, _), (2, _)]) d_M_clear_25 (by decide) rfl ?_
      refine r_iincN (lv' := [(0, _), (1, _), (2, _)]) d_M_clear_26 2 rfl (by decide) rfl ?_
      refine r_goto (tgt := 4) d_M_clear_29 (by decide) ?_
      exact r_at ih_o rfl (by first | (rw [ct_t (decide_eq_true c16)]; done) | (rw [ct_f (decide_eq_false (by omega))]; rfl)) rfl
    · skip
      refine r_iconst (v := nI 1) d_M_clear_19 (by decide) ?_
      refine r_goto (tgt := 24) d_M_clear_20 (by decide) ?_
      refine r_iaddN d_M_clear_24 ?_
      refine r_istore_n (lv' := [(0, _), (1, _), (2, _)]) d_M_clear_25 (by decide) rfl ?_
      refine r_iincN (lv' := [(0, _), (1, _), (2, _)]) d_M_clear_26 2 rfl (by decide) rfl ?_
      refine r_goto (tgt := 4) d_M_clear_29 (by decide) ?_
      exact r_at ih_o rfl (by first | (rw [ct_t (decide_eq_true c16)]; done) | (rw [ct_f (decide_eq_false (by omega))]; rfl)) rfl
