theorem k_M_feed_bad {l : Launch} {g : GX} {c : CS} {m : MS} {n d : Nat} (hd : 2 ≤ d) {w : Int64} {x : Int32} (h : x < nI 1 ∨ nI 8 < x) : CE l g M_M_feed d 0 0 [.ref (aM g), .long w, .int x] n (hp g c m) (some (.int ((-2)))) n (hp g c m) := by
  refine CE.of (by decide +kernel) (lv := [(0, .ref (aM g)), (1, .long w), (3, .int x)]) rfl (Nat.le_of_ble_eq_true rfl) ?_
  refine r_iload_n d_M_feed_0 2 rfl ?_
  refine r_iconst (v := nI 1) d_M_feed_1 (by decide) ?_
  refine r_bipush (v := nI 8) d_M_feed_2 (by decide) ?_
  refine rc_M_60 rfl d_M_feed_4 (k_M_inG (a := nI 1) (b := nI 8) (by omega)) (room_ok (d' := d - 1) (by omega) (by decide)) ⟨Nat.le_refl _, Nat.le_refl _⟩ (Nat.le_of_ble_eq_true rfl) ?_
  refine r_if_neB (tgt := 13) d_M_feed_7 (by decide) (fun c7 => ?_) (fun c7 => ?_)
  · exfalso; have q := of_decide_eq_true c7; rcases h with h | h; exact q.1 h; exact q.2 h
  refine r_bipush (v := (-2)) d_M_feed_10 (by decide) ?_
  refine r_ireturn d_M_feed_12 rfl rfl ⟨?_, rfl, ?_⟩
  · rfl
  · rfl
theorem k_M_cut_bad {l : Launch} {g : GX} {c : CS} {m : MS} {n d : Nat} (hd : 2 ≤ d) {x : Int32} (h : inR x 24 = false) : CE l g M_M_cut d 0 0 [.ref (aM g), .int x] n (hp g c m) (some (.int ((-2)))) n (hp g c m) := by
  refine CE.of (by decide +kernel) (lv := [(0, .ref (aM g)), (1, .int x)]) rfl (Nat.le_of_ble_eq_true rfl) ?_
  refine r_iload_n d_M_cut_0 1 rfl ?_
  refine r_iconst (v := nI 0) d_M_cut_1 (by decide) ?_
  refine r_bipush (v := nI 23) d_M_cut_2 (by decide) ?_
  refine rc_M_60 rfl d_M_cut_4 (k_M_in (K := 23) (by decide)) (room_ok (d' := d - 1) (by omega) (by decide)) ⟨Nat.le_refl _, Nat.le_refl _⟩ (Nat.le_of_ble_eq_true rfl) ?_
  refine r_if_neB (tgt := 13) d_M_cut_7 (by decide) (fun c7 => ?_) (fun c7 => ?_)
  · exact absurd (h.symm.trans c7) (by decide)
  refine r_bipush (v := (-2)) d_M_cut_10 (by decide) ?_
  refine r_ireturn d_M_cut_12 rfl rfl ⟨?_, rfl, ?_⟩
  · rfl
  · rfl
theorem k_M_refused_bad {l : Launch} {g : GX} {c : CS} {m : MS} {n d : Nat} (hd : 2 ≤ d) {x : Int32} (h : inR x 6 = false) : CE l g M_M_refused d 0 0 [.ref (aM g), .int x] n (hp g c m) (some (.int ((-2)))) n (hp g c m) := by
  refine CE.of (by decide +kernel) (lv := [(0, .ref (aM g)), (1, .int x)]) rfl (Nat.le_of_ble_eq_true rfl) ?_
  refine r_iload_n d_M_refused_0 1 rfl ?_
  refine rc_M_125 rfl d_M_refused_1 (k_M_isObject (by omega)) (room_ok (d' := d - 1) (by omega) (by decide)) ⟨Nat.le_refl _, Nat.le_refl _⟩ (Nat.le_of_ble_eq_true rfl) ?_
  refine r_if_neB (tgt := 12) d_M_refused_4 (by decide) (fun c4 => ?_) (fun c4 => ?_)
  · exact absurd (h.symm.trans c4) (by decide)
  refine r_bipush (v := (-2)) d_M_refused_7 (by decide) ?_
  refine r_goto (tgt := 41) d_M_refused_9 (by decide) ?_
  refine r_ireturn d_M_refused_41 rfl rfl ⟨?_, rfl, ?_⟩
  · rfl
  · rfl
theorem k_M_put_bad {l : Launch} {g : GX} {c : CS} {m : MS} {n d : Nat} (hd : 3 ≤ d) {x : Int32} (h : inR x 6 = false) : CE l g M_M_put d 0 0 [.ref (aM g), .int x] n (hp g c m) (some (.int ((-2)))) n (hp g c m) := by
  refine CE.of (by decide +kernel) (lv := [(0, .ref (aM g)), (1, .int x)]) rfl (Nat.le_of_ble_eq_true rfl) ?_
  refine r_aload_n d_M_put_0 0 rfl ?_
  refine r_iload_n d_M_put_1 1 rfl ?_
  refine rc_M_128 rfl d_M_put_2 (k_M_refused_bad (by omega) h) gM (room_ok (d' := d - 1) (by omega) (by decide)) ⟨Nat.le_refl _, Nat.le_refl _⟩ (Nat.le_of_ble_eq_true rfl) ?_
  refine r_istore_n (lv' := [(0, _), (1, _), (2, _)]) d_M_put_5 (by decide) rfl ?_
  refine r_iload_n d_M_put_6 2 rfl ?_
  refine r_if_eq (tgt := 12) d_M_put_7 (by decide) (fun c7 => ?_) (fun c7 => ?_)
  · exact absurd c7 (by decide)
  refine r_iload_n d_M_put_10 2 rfl ?_
  refine r_ireturn d_M_put_11 rfl rfl ⟨?_, rfl, ?_⟩
  · rfl
  · rfl
theorem k_M_remove_bad {l : Launch} {g : GX} {c : CS} {m : MS} {n d : Nat} (hd : 3 ≤ d) {x : Int32} (h : inR x 6 = false) : CE l g M_M_remove d 0 0 [.ref (aM g), .int x] n (hp g c m) (some (.int ((-2)))) n (hp g c m) := by
  refine CE.of (by decide +kernel) (lv := [(0, .ref (aM g)), (1, .int x)]) rfl (Nat.le_of_ble_eq_true rfl) ?_
  refine r_aload_n d_M_remove_0 0 rfl ?_
  refine r_iload_n d_M_remove_1 1 rfl ?_
  refine rc_M_128 rfl d_M_remove_2 (k_M_refused_bad (by omega) h) gM (room_ok (d' := d - 1) (by omega) (by decide)) ⟨Nat.le_refl _, Nat.le_refl _⟩ (Nat.le_of_ble_eq_true rfl) ?_
  refine r_istore_n (lv' := [(0, _), (1, _), (2, _)]) d_M_remove_5 (by decide) rfl ?_
  refine r_iload_n d_M_remove_6 2 rfl ?_
  refine r_if_eq (tgt := 12) d_M_remove_7 (by decide) (fun c7 => ?_) (fun c7 => ?_)
  · exact absurd c7 (by decide)
  refine r_iload_n d_M_remove_10 2 rfl ?_
  refine r_ireturn d_M_remove_11 rfl rfl ⟨?_, rfl, ?_⟩
  · rfl
  · rfl
theorem k_M_settle_bad {l : Launch} {g : GX} {c : CS} {m : MS} {n d : Nat} (hd : 2 ≤ d) {x : Int32} (h : inR x 6 = false) : CE l g M_M_settle d 0 0 [.ref (aM g), .int x] n (hp g c m) (some (.int ((-2)))) n (hp g c m) := by
  refine CE.of (by decide +kernel) (lv := [(0, .ref (aM g)), (1, .int x)]) rfl (Nat.le_of_ble_eq_true rfl) ?_
  refine r_iload_n d_M_settle_0 1 rfl ?_
  refine rc_M_125 rfl d_M_settle_1 (k_M_isObject (by omega)) (room_ok (d' := d - 1) (by omega) (by decide)) ⟨Nat.le_refl _, Nat.le_refl _⟩ (Nat.le_of_ble_eq_true rfl) ?_
  refine r_if_neB (tgt := 10) d_M_settle_4 (by decide) (fun c4 => ?_) (fun c4 => ?_)
  · exact absurd (h.symm.trans c4) (by decide)
  refine r_bipush (v := (-2)) d_M_settle_7 (by decide) ?_
  refine r_ireturn d_M_settle_9 rfl rfl ⟨?_, rfl, ?_⟩
  · rfl
  · rfl
theorem k_M_settle_no {l : Launch} {g : GX} {c : CS} {m : MS} {n d : Nat} (hd : 2 ≤ d) {o : Nat} (ho : o < 6) (h : m.opn o = false) : CE l g M_M_settle d 0 0 [.ref (aM g), .int (nI o)] n (hp g c m) (some (.int ((-3)))) n (hp g c m) := by
  refine CE.of (by decide +kernel) (lv := [(0, .ref (aM g)), (1, .int (nI o))]) rfl (Nat.le_of_ble_eq_true rfl) ?_
  refine r_iload_n d_M_settle_0 1 rfl ?_
  refine rc_M_125 rfl d_M_settle_1 (k_M_isObjectN (by omega) ho) (room_ok (d' := d - 1) (by omega) (by decide)) ⟨Nat.le_refl _, Nat.le_refl _⟩ (Nat.le_of_ble_eq_true rfl) ?_
  refine r_if_neB (tgt := 10) d_M_settle_4 (by decide) (fun c4 => ?_) (fun c4 => ?_)
  rotate_left 1
  · exfalso; first | omega | (revert c4; decide) | cases c4
  refine r_aload_n d_M_settle_10 0 rfl ?_
  refine rg_M_45 rfl d_M_settle_11 gM rfl ?_
  refine r_iload_n d_M_settle_14 1 rfl ?_
  refine r_zldB d_M_settle_15 gmOpn (by omega) (by decide) ?_
  refine r_if_neB (tgt := 22) d_M_settle_16 (by decide) (fun c16 => ?_) (fun c16 => ?_)
  · exact absurd (h.symm.trans c16) (by decide)
  refine r_bipush (v := (-3)) d_M_settle_19 (by decide) ?_
  refine r_ireturn d_M_settle_21 rfl rfl ⟨?_, rfl, ?_⟩
  · rfl
  · rfl
theorem k_M_got_no {l : Launch} {g : GX} {c : CS} {m : MS} {n d : Nat} (hd : 2 ≤ d) {x : Int32} (hg : m.gotN ≤ 240) (h : inR x m.gotN = false) : CE l g M_M_got d 0 0 [.ref (aM g), .int x] n (hp g c m) (some (.int ((-1)))) n (hp g c m) := by
  refine CE.of (by decide +kernel) (lv := [(0, .ref (aM g)), (1, .int x)]) rfl (Nat.le_of_ble_eq_true rfl) ?_
  refine r_iload_n d_M_got_0 1 rfl ?_
  refine r_iconst (v := nI 0) d_M_got_1 (by decide) ?_
  refine r_aload_n d_M_got_2 0 rfl ?_
  refine rg_M_152 rfl d_M_got_3 gM rfl ?_
  refine r_iconst (v := nI 1) d_M_got_6 (by decide) ?_
  refine r_isub d_M_got_7 ?_
  refine rc_M_60 rfl d_M_got_8 (k_M_inM (K := m.gotN) (by omega)) (room_ok (d' := d - 1) (by omega) (by decide)) ⟨Nat.le_refl _, Nat.le_refl _⟩ (Nat.le_of_ble_eq_true rfl) ?_
  refine r_if_eqB (tgt := 23) d_M_got_11 (by decide) (fun c11 => ?_) (fun c11 => ?_)
  rotate_left 1
  · exact absurd (h.symm.trans c11) (by decide)
  refine r_iconst (v := (-1)) d_M_got_23 (by decide) ?_
  refine r_ireturn d_M_got_24 rfl rfl ⟨?_, rfl, ?_⟩
  · rfl
  · rfl
theorem k_M_version_bad {l : Launch} {g : GX} {c : CS} {m : MS} {n d : Nat} (hd : 2 ≤ d) {x : Int32} (h : inR x 6 = false) : CE l g M_M_version d 0 0 [.ref (aM g), .int x] n (hp g c m) (some (.int ((-2)))) n (hp g c m) := by
  refine CE.of (by decide +kernel) (lv := [(0, .ref (aM g)), (1, .int x)]) rfl (Nat.le_of_ble_eq_true rfl) ?_
  refine r_iload_n d_M_version_0 1 rfl ?_
  refine rc_M_125 rfl d_M_version_1 (k_M_isObject (by omega)) (room_ok (d' := d - 1) (by omega) (by decide)) ⟨Nat.le_refl _, Nat.le_refl _⟩ (Nat.le_of_ble_eq_true rfl) ?_
  refine r_if_eqB (tgt := 15) d_M_version_4 (by decide) (fun c4 => ?_) (fun c4 => ?_)
  rotate_left 1
  · exact absurd (h.symm.trans c4) (by decide)
  refine r_bipush (v := (-2)) d_M_version_15 (by decide) ?_
  refine r_ireturn d_M_version_17 rfl rfl ⟨?_, rfl, ?_⟩
  · rfl
  · rfl
theorem k_M_open_bad {l : Launch} {g : GX} {c : CS} {m : MS} {n d : Nat} (hd : 2 ≤ d) {x : Int32} (h : inR x 6 = false) : CE l g M_M_open d 0 0 [.ref (aM g), .int x] n (hp g c m) (some (.int ((-2)))) n (hp g c m) := by
  refine CE.of (by decide +kernel) (lv := [(0, .ref (aM g)), (1, .int x)]) rfl (Nat.le_of_ble_eq_true rfl) ?_
  refine r_iload_n d_M_open_0 1 rfl ?_
  refine rc_M_125 rfl d_M_open_1 (k_M_isObject (by omega)) (room_ok (d' := d - 1) (by omega) (by decide)) ⟨Nat.le_refl _, Nat.le_refl _⟩ (Nat.le_of_ble_eq_true rfl) ?_
  refine r_if_neB (tgt := 12) d_M_open_4 (by decide) (fun c4 => ?_) (fun c4 => ?_)
  · exact absurd (h.symm.trans c4) (by decide)
  refine r_bipush (v := (-2)) d_M_open_7 (by decide) ?_
  refine r_goto (tgt := 26) d_M_open_9 (by decide) ?_
  refine r_ireturn d_M_open_26 rfl rfl ⟨?_, rfl, ?_⟩
  · rfl
  · rfl
theorem k_M_fail_bad {l : Launch} {g : GX} {c : CS} {m : MS} {n d : Nat} (hd : 2 ≤ d) {x : Int32} (h : inR x 12 = false) : CE l g M_M_fail d 0 0 [.ref (aM g), .int x] n (hp g c m) (some (.int ((-2)))) n (hp g c m) := by
  refine CE.of (by decide +kernel) (lv := [(0, .ref (aM g)), (1, .int x)]) rfl (Nat.le_of_ble_eq_true rfl) ?_
  refine r_iload_n d_M_fail_0 1 rfl ?_
  refine rc_M_72 rfl d_M_fail_1 (k_M_isNode (by omega)) (room_ok (d' := d - 1) (by omega) (by decide)) ⟨Nat.le_refl _, Nat.le_refl _⟩ (Nat.le_of_ble_eq_true rfl) ?_
  refine r_if_neB (tgt := 10) d_M_fail_4 (by decide) (fun c4 => ?_) (fun c4 => ?_)
  · exact absurd (h.symm.trans c4) (by decide)
  refine r_bipush (v := (-2)) d_M_fail_7 (by decide) ?_
  refine r_ireturn d_M_fail_9 rfl rfl ⟨?_, rfl, ?_⟩
  · rfl
  · rfl
theorem k_M_back_bad {l : Launch} {g : GX} {c : CS} {m : MS} {n d : Nat} (hd : 2 ≤ d) {x : Int32} (h : inR x 12 = false) : CE l g M_M_back d 0 0 [.ref (aM g), .int x] n (hp g c m) (some (.int ((-2)))) n (hp g c m) := by
  refine CE.of (by decide +kernel) (lv := [(0, .ref (aM g)), (1, .int x)]) rfl (Nat.le_of_ble_eq_true rfl) ?_
  refine r_iload_n d_M_back_0 1 rfl ?_
  refine rc_M_72 rfl d_M_back_1 (k_M_isNode (by omega)) (room_ok (d' := d - 1) (by omega) (by decide)) ⟨Nat.le_refl _, Nat.le_refl _⟩ (Nat.le_of_ble_eq_true rfl) ?_
  refine r_if_neB (tgt := 10) d_M_back_4 (by decide) (fun c4 => ?_) (fun c4 => ?_)
  · exact absurd (h.symm.trans c4) (by decide)
  refine r_bipush (v := (-2)) d_M_back_7 (by decide) ?_
  refine r_ireturn d_M_back_9 rfl rfl ⟨?_, rfl, ?_⟩
  · rfl
  · rfl
theorem k_M_wipe_bad {l : Launch} {g : GX} {c : CS} {m : MS} {n d : Nat} (hd : 2 ≤ d) {x : Int32} (h : inR x 12 = false) : CE l g M_M_wipe d 0 0 [.ref (aM g), .int x] n (hp g c m) (some (.int ((-2)))) n (hp g c m) := by
  refine CE.of (by decide +kernel) (lv := [(0, .ref (aM g)), (1, .int x)]) rfl (Nat.le_of_ble_eq_true rfl) ?_
  refine r_iload_n d_M_wipe_0 1 rfl ?_
  refine rc_M_72 rfl d_M_wipe_1 (k_M_isNode (by omega)) (room_ok (d' := d - 1) (by omega) (by decide)) ⟨Nat.le_refl _, Nat.le_refl _⟩ (Nat.le_of_ble_eq_true rfl) ?_
  refine r_if_neB (tgt := 10) d_M_wipe_4 (by decide) (fun c4 => ?_) (fun c4 => ?_)
  · exact absurd (h.symm.trans c4) (by decide)
  refine r_bipush (v := (-2)) d_M_wipe_7 (by decide) ?_
  refine r_ireturn d_M_wipe_9 rfl rfl ⟨?_, rfl, ?_⟩
  · rfl
  · rfl
theorem k_M_sent_bad {l : Launch} {g : GX} {c : CS} {m : MS} {n d : Nat} (hd : 2 ≤ d) {x : Int32} (h : inR x 12 = false) : CE l g M_M_sent d 0 0 [.ref (aM g), .int x] n (hp g c m) (some (.int ((-2)))) n (hp g c m) := by
  refine CE.of (by decide +kernel) (lv := [(0, .ref (aM g)), (1, .int x)]) rfl (Nat.le_of_ble_eq_true rfl) ?_
  refine r_iload_n d_M_sent_0 1 rfl ?_
  refine rc_M_72 rfl d_M_sent_1 (k_M_isNode (by omega)) (room_ok (d' := d - 1) (by omega) (by decide)) ⟨Nat.le_refl _, Nat.le_refl _⟩ (Nat.le_of_ble_eq_true rfl) ?_
  refine r_if_eqB (tgt := 16) d_M_sent_4 (by decide) (fun c4 => ?_) (fun c4 => ?_)
  rotate_left 1
  · exact absurd (h.symm.trans c4) (by decide)
  refine r_bipush (v := (-2)) d_M_sent_16 (by decide) ?_
  refine r_ireturn d_M_sent_18 rfl rfl ⟨?_, rfl, ?_⟩
  · rfl
  · rfl
theorem k_M_free_bad {l : Launch} {g : GX} {c : CS} {m : MS} {n d : Nat} (hd : 2 ≤ d) {x : Int32} (h : inR x 12 = false) : CE l g M_M_free d 0 0 [.ref (aM g), .int x] n (hp g c m) (some (.int ((-2)))) n (hp g c m) := by
  refine CE.of (by decide +kernel) (lv := [(0, .ref (aM g)), (1, .int x)]) rfl (Nat.le_of_ble_eq_true rfl) ?_
  refine r_iload_n d_M_free_0 1 rfl ?_
  refine rc_M_72 rfl d_M_free_1 (k_M_isNode (by omega)) (room_ok (d' := d - 1) (by omega) (by decide)) ⟨Nat.le_refl _, Nat.le_refl _⟩ (Nat.le_of_ble_eq_true rfl) ?_
  refine r_if_eqB (tgt := 18) d_M_free_4 (by decide) (fun c4 => ?_) (fun c4 => ?_)
  rotate_left 1
  · exact absurd (h.symm.trans c4) (by decide)
  refine r_bipush (v := (-2)) d_M_free_18 (by decide) ?_
  refine r_ireturn d_M_free_20 rfl rfl ⟨?_, rfl, ?_⟩
  · rfl
  · rfl
theorem k_M_fail_no {l : Launch} {g : GX} {c : CS} {m : MS} {n d : Nat} (hd : 2 ≤ d) {i : Nat} (hi : i < 12) (h : m.fail i = true) : CE l g M_M_fail d 0 0 [.ref (aM g), .int (nI i)] n (hp g c m) (some (.int ((-3)))) n (hp g c m) := by
  refine CE.of (by decide +kernel) (lv := [(0, .ref (aM g)), (1, .int (nI i))]) rfl (Nat.le_of_ble_eq_true rfl) ?_
  refine r_iload_n d_M_fail_0 1 rfl ?_
  refine rc_M_72 rfl d_M_fail_1 (k_M_isNodeN (by omega) hi) (room_ok (d' := d - 1) (by omega) (by decide)) ⟨Nat.le_refl _, Nat.le_refl _⟩ (Nat.le_of_ble_eq_true rfl) ?_
  refine r_if_neB (tgt := 10) d_M_fail_4 (by decide) (fun c4 => ?_) (fun c4 => ?_)
  rotate_left 1
  · exfalso; first | omega | (revert c4; decide) | cases c4
  refine r_aload_n d_M_fail_10 0 rfl ?_
  refine rg_M_17 rfl d_M_fail_11 gM rfl ?_
  refine r_iload_n d_M_fail_14 1 rfl ?_
  refine r_zldB d_M_fail_15 gmFail (by omega) (by decide) ?_
  refine r_if_eqB (tgt := 22) d_M_fail_16 (by decide) (fun c16 => ?_) (fun c16 => ?_)
  · exact absurd (h.symm.trans c16) (by decide)
  refine r_bipush (v := (-3)) d_M_fail_19 (by decide) ?_
  refine r_ireturn d_M_fail_21 rfl rfl ⟨?_, rfl, ?_⟩
  · rfl
  · rfl
theorem k_M_back_no {l : Launch} {g : GX} {c : CS} {m : MS} {n d : Nat} (hd : 2 ≤ d) {i : Nat} (hi : i < 12) (h : m.fail i = false) : CE l g M_M_back d 0 0 [.ref (aM g), .int (nI i)] n (hp g c m) (some (.int ((-3)))) n (hp g c m) := by
  refine CE.of (by decide +kernel) (lv := [(0, .ref (aM g)), (1, .int (nI i))]) rfl (Nat.le_of_ble_eq_true rfl) ?_
  refine r_iload_n d_M_back_0 1 rfl ?_
  refine rc_M_72 rfl d_M_back_1 (k_M_isNodeN (by omega) hi) (room_ok (d' := d - 1) (by omega) (by decide)) ⟨Nat.le_refl _, Nat.le_refl _⟩ (Nat.le_of_ble_eq_true rfl) ?_
  refine r_if_neB (tgt := 10) d_M_back_4 (by decide) (fun c4 => ?_) (fun c4 => ?_)
  rotate_left 1
  · exfalso; first | omega | (revert c4; decide) | cases c4
  refine r_aload_n d_M_back_10 0 rfl ?_
  refine rg_M_17 rfl d_M_back_11 gM rfl ?_
  refine r_iload_n d_M_back_14 1 rfl ?_
  refine r_zldB d_M_back_15 gmFail (by omega) (by decide) ?_
  refine r_if_neB (tgt := 22) d_M_back_16 (by decide) (fun c16 => ?_) (fun c16 => ?_)
  · exact absurd (h.symm.trans c16) (by decide)
  refine r_bipush (v := (-3)) d_M_back_19 (by decide) ?_
  refine r_ireturn d_M_back_21 rfl rfl ⟨?_, rfl, ?_⟩
  · rfl
  · rfl
theorem k_M_fresh_bad {l : Launch} {g : GX} {c : CS} {m : MS} {n d : Nat} (hd : 2 ≤ d) {x y : Int32} (h : inR x 12 = false ∨ inR y 6 = false) : CE l g M_M_fresh d 0 0 [.ref (aM g), .int x, .int y] n (hp g c m) (some (.int ((-2)))) n (hp g c m) := by
  refine CE.of (by decide +kernel) (lv := [(0, .ref (aM g)), (1, .int x), (2, .int y)]) rfl (Nat.le_of_ble_eq_true rfl) ?_
  refine r_iload_n d_M_fresh_0 1 rfl ?_
  refine rc_M_72 rfl d_M_fresh_1 (k_M_isNode (by omega)) (room_ok (d' := d - 1) (by omega) (by decide)) ⟨Nat.le_refl _, Nat.le_refl _⟩ (Nat.le_of_ble_eq_true rfl) ?_
  refine r_if_eqB (tgt := 14) d_M_fresh_4 (by decide) (fun c4 => ?_) (fun c4 => ?_)
  · skip
    refine r_bipush (v := (-2)) d_M_fresh_14 (by decide) ?_
    refine r_goto (tgt := 38) d_M_fresh_16 (by decide) ?_
    refine r_ireturn d_M_fresh_38 rfl rfl ⟨?_, rfl, ?_⟩
    · rfl
    · rfl
  · skip
    refine r_iload_n d_M_fresh_7 2 rfl ?_
    refine rc_M_125 rfl d_M_fresh_8 (k_M_isObject (by omega)) (room_ok (d' := d - 1) (by omega) (by decide)) ⟨Nat.le_refl _, Nat.le_refl _⟩ (Nat.le_of_ble_eq_true rfl) ?_
    refine r_if_neB (tgt := 19) d_M_fresh_11 (by decide) (fun c11 => ?_) (fun c11 => ?_)
    · exfalso; simp [c4, c11] at h
    refine r_bipush (v := (-2)) d_M_fresh_14 (by decide) ?_
    refine r_goto (tgt := 38) d_M_fresh_16 (by decide) ?_
    refine r_ireturn d_M_fresh_38 rfl rfl ⟨?_, rfl, ?_⟩
    · rfl
    · rfl
theorem k_M_record_bad {l : Launch} {g : GX} {c : CS} {m : MS} {n d : Nat} (hd : 2 ≤ d) {x y z : Int32} (h : inR x 12 = false ∨ inR y 6 = false ∨ inR z 6 = false) : CE l g M_M_record d 0 0 [.ref (aM g), .int x, .int y, .int z] n (hp g c m) (some (.int ((-2)))) n (hp g c m) := by
  refine CE.of (by decide +kernel) (lv := [(0, .ref (aM g)), (1, .int x), (2, .int y), (3, .int z)]) rfl (Nat.le_of_ble_eq_true rfl) ?_
  refine r_iload_n d_M_record_0 1 rfl ?_
  refine rc_M_72 rfl d_M_record_1 (k_M_isNode (by omega)) (room_ok (d' := d - 1) (by omega) (by decide)) ⟨Nat.le_refl _, Nat.le_refl _⟩ (Nat.le_of_ble_eq_true rfl) ?_
  refine r_if_eqB (tgt := 23) d_M_record_4 (by decide) (fun c4 => ?_) (fun c4 => ?_)
  · skip
    refine r_bipush (v := (-2)) d_M_record_23 (by decide) ?_
    refine r_ireturn d_M_record_25 rfl rfl ⟨?_, rfl, ?_⟩
    · rfl
    · rfl
  · skip
    refine r_iload_n d_M_record_7 2 rfl ?_
    refine rc_M_125 rfl d_M_record_8 (k_M_isObject (by omega)) (room_ok (d' := d - 1) (by omega) (by decide)) ⟨Nat.le_refl _, Nat.le_refl _⟩ (Nat.le_of_ble_eq_true rfl) ?_
    refine r_if_eqB (tgt := 23) d_M_record_11 (by decide) (fun c11 => ?_) (fun c11 => ?_)
    · skip
      refine r_bipush (v := (-2)) d_M_record_23 (by decide) ?_
      refine r_ireturn d_M_record_25 rfl rfl ⟨?_, rfl, ?_⟩
      · rfl
      · rfl
    · skip
      refine r_iload_n d_M_record_14 3 rfl ?_
      refine r_iconst (v := nI 0) d_M_record_15 (by decide) ?_
      refine r_iconst (v := nI 5) d_M_record_16 (by decide) ?_
      refine rc_M_60 rfl d_M_record_17 (k_M_in (K := 5) (by decide)) (room_ok (d' := d - 1) (by omega) (by decide)) ⟨Nat.le_refl _, Nat.le_refl _⟩ (Nat.le_of_ble_eq_true rfl) ?_
      refine r_if_neB (tgt := 26) d_M_record_20 (by decide) (fun c20 => ?_) (fun c20 => ?_)
      · exfalso; simp [c4, c11, c20] at h
      refine r_bipush (v := (-2)) d_M_record_23 (by decide) ?_
      refine r_ireturn d_M_record_25 rfl rfl ⟨?_, rfl, ?_⟩
      · rfl
      · rfl
theorem k_M_block_bad {l : Launch} {g : GX} {c : CS} {m : MS} {n d : Nat} (hd : 2 ≤ d) {x y s : Int32} {z : Bool} (h : inR x 12 = false ∨ inR y 6 = false) : CE l g M_M_block d 0 0 [.ref (aM g), .int x, .int y, .int s, .int (b2 z)] n (hp g c m) (some (.int ((-2)))) n (hp g c m) := by
  refine CE.of (by decide +kernel) (lv := [(0, .ref (aM g)), (1, .int x), (2, .int y), (3, .int s), (4, .int (b2 z))]) rfl (Nat.le_of_ble_eq_true rfl) ?_
  refine r_iload_n d_M_block_0 1 rfl ?_
  refine rc_M_72 rfl d_M_block_1 (k_M_isNode (by omega)) (room_ok (d' := d - 1) (by omega) (by decide)) ⟨Nat.le_refl _, Nat.le_refl _⟩ (Nat.le_of_ble_eq_true rfl) ?_
  refine r_if_eqB (tgt := 14) d_M_block_4 (by decide) (fun c4 => ?_) (fun c4 => ?_)
  · skip
    refine r_bipush (v := (-2)) d_M_block_14 (by decide) ?_
    refine r_ireturn d_M_block_16 rfl rfl ⟨?_, rfl, ?_⟩
    · rfl
    · rfl
  · skip
    refine r_iload_n d_M_block_7 2 rfl ?_
    refine rc_M_125 rfl d_M_block_8 (k_M_isObject (by omega)) (room_ok (d' := d - 1) (by omega) (by decide)) ⟨Nat.le_refl _, Nat.le_refl _⟩ (Nat.le_of_ble_eq_true rfl) ?_
    refine r_if_neB (tgt := 17) d_M_block_11 (by decide) (fun c11 => ?_) (fun c11 => ?_)
    · exfalso; simp [c4, c11] at h
    refine r_bipush (v := (-2)) d_M_block_14 (by decide) ?_
    refine r_ireturn d_M_block_16 rfl rfl ⟨?_, rfl, ?_⟩
    · rfl
    · rfl
theorem k_M_byteOf_bad {l : Launch} {g : GX} {c : CS} {m : MS} {n d : Nat} (hd : 2 ≤ d) {x y z : Int32} (h : inR x 12 = false ∨ inR y 40 = false ∨ inR z 8 = false) : CE l g M_M_byteOf d 0 0 [.ref (aM g), .int x, .int y, .int z] n (hp g c m) (some (.int ((-2)))) n (hp g c m) := by
  refine CE.of (by decide +kernel) (lv := [(0, .ref (aM g)), (1, .int x), (2, .int y), (3, .int z)]) rfl (Nat.le_of_ble_eq_true rfl) ?_
  refine r_iload_n d_M_byteOf_0 1 rfl ?_
  refine rc_M_72 rfl d_M_byteOf_1 (k_M_isNode (by omega)) (room_ok (d' := d - 1) (by omega) (by decide)) ⟨Nat.le_refl _, Nat.le_refl _⟩ (Nat.le_of_ble_eq_true rfl) ?_
  refine r_if_eqB (tgt := 27) d_M_byteOf_4 (by decide) (fun c4 => ?_) (fun c4 => ?_)
  · skip
    refine r_bipush (v := (-2)) d_M_byteOf_27 (by decide) ?_
    refine r_ireturn d_M_byteOf_29 rfl rfl ⟨?_, rfl, ?_⟩
    · rfl
    · rfl
  · skip
    refine r_iload_n d_M_byteOf_7 2 rfl ?_
    refine r_iconst (v := nI 0) d_M_byteOf_8 (by decide) ?_
    refine r_bipush (v := nI 39) d_M_byteOf_9 (by decide) ?_
    refine rc_M_60 rfl d_M_byteOf_11 (k_M_in (K := 39) (by decide)) (room_ok (d' := d - 1) (by omega) (by decide)) ⟨Nat.le_refl _, Nat.le_refl _⟩ (Nat.le_of_ble_eq_true rfl) ?_
    refine r_if_eqB (tgt := 27) d_M_byteOf_14 (by decide) (fun c14 => ?_) (fun c14 => ?_)
    · skip
      refine r_bipush (v := (-2)) d_M_byteOf_27 (by decide) ?_
      refine r_ireturn d_M_byteOf_29 rfl rfl ⟨?_, rfl, ?_⟩
      · rfl
      · rfl
    · skip
      refine r_iload_n d_M_byteOf_17 3 rfl ?_
      refine r_iconst (v := nI 0) d_M_byteOf_18 (by decide) ?_
      refine r_bipush (v := nI 7) d_M_byteOf_19 (by decide) ?_
      refine rc_M_60 rfl d_M_byteOf_21 (k_M_in (K := 7) (by decide)) (room_ok (d' := d - 1) (by omega) (by decide)) ⟨Nat.le_refl _, Nat.le_refl _⟩ (Nat.le_of_ble_eq_true rfl) ?_
      refine r_if_neB (tgt := 30) d_M_byteOf_24 (by decide) (fun c24 => ?_) (fun c24 => ?_)
      · exfalso; simp [c4, c14, c24] at h
      refine r_bipush (v := (-2)) d_M_byteOf_27 (by decide) ?_
      refine r_ireturn d_M_byteOf_29 rfl rfl ⟨?_, rfl, ?_⟩
      · rfl
      · rfl
theorem k_M_symbol_bad {l : Launch} {g : GX} {c : CS} {m : MS} {n d : Nat} (hd : 2 ≤ d) {x y z s : Int32} (h : inR x 12 = false ∨ inR y 12 = false ∨ inR z 6 = false) : CE l g M_M_symbol d 0 0 [.ref (aM g), .int x, .int y, .int z, .int s] n (hp g c m) (some (.int ((-2)))) n (hp g c m) := by
  refine CE.of (by decide +kernel) (lv := [(0, .ref (aM g)), (1, .int x), (2, .int y), (3, .int z), (4, .int s)]) rfl (Nat.le_of_ble_eq_true rfl) ?_
  refine r_iload_n d_M_symbol_0 1 rfl ?_
  refine rc_M_72 rfl d_M_symbol_1 (k_M_isNode (by omega)) (room_ok (d' := d - 1) (by omega) (by decide)) ⟨Nat.le_refl _, Nat.le_refl _⟩ (Nat.le_of_ble_eq_true rfl) ?_
  refine r_if_eqB (tgt := 21) d_M_symbol_4 (by decide) (fun c4 => ?_) (fun c4 => ?_)
  · skip
    refine r_bipush (v := (-2)) d_M_symbol_21 (by decide) ?_
    refine r_ireturn d_M_symbol_23 rfl rfl ⟨?_, rfl, ?_⟩
    · rfl
    · rfl
  · skip
    refine r_iload_n d_M_symbol_7 2 rfl ?_
    refine rc_M_72 rfl d_M_symbol_8 (k_M_isNode (by omega)) (room_ok (d' := d - 1) (by omega) (by decide)) ⟨Nat.le_refl _, Nat.le_refl _⟩ (Nat.le_of_ble_eq_true rfl) ?_
    refine r_if_eqB (tgt := 21) d_M_symbol_11 (by decide) (fun c11 => ?_) (fun c11 => ?_)
    · skip
      refine r_bipush (v := (-2)) d_M_symbol_21 (by decide) ?_
      refine r_ireturn d_M_symbol_23 rfl rfl ⟨?_, rfl, ?_⟩
      · rfl
      · rfl
    · skip
      refine r_iload_n d_M_symbol_14 3 rfl ?_
      refine rc_M_125 rfl d_M_symbol_15 (k_M_isObject (by omega)) (room_ok (d' := d - 1) (by omega) (by decide)) ⟨Nat.le_refl _, Nat.le_refl _⟩ (Nat.le_of_ble_eq_true rfl) ?_
      refine r_if_neB (tgt := 24) d_M_symbol_18 (by decide) (fun c18 => ?_) (fun c18 => ?_)
      · exfalso; simp [c4, c11, c18] at h
      refine r_bipush (v := (-2)) d_M_symbol_21 (by decide) ?_
      refine r_ireturn d_M_symbol_23 rfl rfl ⟨?_, rfl, ?_⟩
      · rfl
      · rfl
theorem k_M_get_bad {l : Launch} {g : GX} {c : CS} {m : MS} {n d : Nat} (hd : 2 ≤ d) {x y : Int32} (h : inR x 6 = false) : CE l g M_M_get d 0 0 [.ref (aM g), .int x, .int y] n (hp g c m) (some (.int ((-2)))) n (hp g c m) := by
  refine CE.of (by decide +kernel) (lv := [(0, .ref (aM g)), (1, .int x), (2, .int y)]) rfl (Nat.le_of_ble_eq_true rfl) ?_
  refine r_iload_n d_M_get_0 1 rfl ?_
  refine rc_M_125 rfl d_M_get_1 (k_M_isObject (by omega)) (room_ok (d' := d - 1) (by omega) (by decide)) ⟨Nat.le_refl _, Nat.le_refl _⟩ (Nat.le_of_ble_eq_true rfl) ?_
  refine r_if_neB (tgt := 10) d_M_get_4 (by decide) (fun c4 => ?_) (fun c4 => ?_)
  · exact absurd (h.symm.trans c4) (by decide)
  refine r_bipush (v := (-2)) d_M_get_7 (by decide) ?_
  refine r_ireturn d_M_get_9 rfl rfl ⟨?_, rfl, ?_⟩
  · rfl
  · rfl
theorem k_M_get_no {l : Launch} {g : GX} {c : CS} {m : MS} {n d : Nat} (hd : 2 ≤ d) {o : Nat} {y : Int32} (ho : o < 6) (h : m.opn o = true) : CE l g M_M_get d 0 0 [.ref (aM g), .int (nI o), .int y] n (hp g c m) (some (.int ((-3)))) n (hp g c m) := by
  refine CE.of (by decide +kernel) (lv := [(0, .ref (aM g)), (1, .int (nI o)), (2, .int y)]) rfl (Nat.le_of_ble_eq_true rfl) ?_
  refine r_iload_n d_M_get_0 1 rfl ?_
  refine rc_M_125 rfl d_M_get_1 (k_M_isObjectN (by omega) ho) (room_ok (d' := d - 1) (by omega) (by decide)) ⟨Nat.le_refl _, Nat.le_refl _⟩ (Nat.le_of_ble_eq_true rfl) ?_
  refine r_if_neB (tgt := 10) d_M_get_4 (by decide) (fun c4 => ?_) (fun c4 => ?_)
  rotate_left 1
  · exfalso; first | omega | (revert c4; decide) | cases c4
  refine r_aload_n d_M_get_10 0 rfl ?_
  refine rg_M_45 rfl d_M_get_11 gM rfl ?_
  refine r_iload_n d_M_get_14 1 rfl ?_
  refine r_zldB d_M_get_15 gmOpn (by omega) (by decide) ?_
  refine r_if_eqB (tgt := 22) d_M_get_16 (by decide) (fun c16 => ?_) (fun c16 => ?_)
  · exact absurd (h.symm.trans c16) (by decide)
  refine r_bipush (v := (-3)) d_M_get_19 (by decide) ?_
  refine r_ireturn d_M_get_21 rfl rfl ⟨?_, rfl, ?_⟩
  · rfl
  · rfl
theorem k_M_rebuild_bad {l : Launch} {g : GX} {c : CS} {m : MS} {n d : Nat} (hd : 2 ≤ d) {x y : Int32} (h : inR x 12 = false) : CE l g M_M_rebuild d 0 0 [.ref (aM g), .int x, .int y] n (hp g c m) (some (.int ((-2)))) n (hp g c m) := by
  refine CE.of (by decide +kernel) (lv := [(0, .ref (aM g)), (1, .int x), (2, .int y)]) rfl (Nat.le_of_ble_eq_true rfl) ?_
  refine r_iload_n d_M_rebuild_0 1 rfl ?_
  refine rc_M_72 rfl d_M_rebuild_1 (k_M_isNode (by omega)) (room_ok (d' := d - 1) (by omega) (by decide)) ⟨Nat.le_refl _, Nat.le_refl _⟩ (Nat.le_of_ble_eq_true rfl) ?_
  refine r_if_neB (tgt := 10) d_M_rebuild_4 (by decide) (fun c4 => ?_) (fun c4 => ?_)
  · exact absurd (h.symm.trans c4) (by decide)
  refine r_bipush (v := (-2)) d_M_rebuild_7 (by decide) ?_
  refine r_ireturn d_M_rebuild_9 rfl rfl ⟨?_, rfl, ?_⟩
  · rfl
  · rfl
theorem k_M_rebuild_no {l : Launch} {g : GX} {c : CS} {m : MS} {n d : Nat} (hd : 2 ≤ d) {i : Nat} {y : Int32} (hi : i < 12) (h : m.fail i = true) : CE l g M_M_rebuild d 0 0 [.ref (aM g), .int (nI i), .int y] n (hp g c m) (some (.int ((-3)))) n (hp g c m) := by
  refine CE.of (by decide +kernel) (lv := [(0, .ref (aM g)), (1, .int (nI i)), (2, .int y)]) rfl (Nat.le_of_ble_eq_true rfl) ?_
  refine r_iload_n d_M_rebuild_0 1 rfl ?_
  refine rc_M_72 rfl d_M_rebuild_1 (k_M_isNodeN (by omega) hi) (room_ok (d' := d - 1) (by omega) (by decide)) ⟨Nat.le_refl _, Nat.le_refl _⟩ (Nat.le_of_ble_eq_true rfl) ?_
  refine r_if_neB (tgt := 10) d_M_rebuild_4 (by decide) (fun c4 => ?_) (fun c4 => ?_)
  rotate_left 1
  · exfalso; first | omega | (revert c4; decide) | cases c4
  refine r_aload_n d_M_rebuild_10 0 rfl ?_
  refine rg_M_17 rfl d_M_rebuild_11 gM rfl ?_
  refine r_iload_n d_M_rebuild_14 1 rfl ?_
  refine r_zldB d_M_rebuild_15 gmFail (by omega) (by decide) ?_
  refine r_if_eqB (tgt := 22) d_M_rebuild_16 (by decide) (fun c16 => ?_) (fun c16 => ?_)
  · exact absurd (h.symm.trans c16) (by decide)
  refine r_bipush (v := (-3)) d_M_rebuild_19 (by decide) ?_
  refine r_ireturn d_M_rebuild_21 rfl rfl ⟨?_, rfl, ?_⟩
  · rfl
  · rfl
