theorem inR_t {x : Int32} {K : Nat} (h1 : ¬ x < 0) (h2 : x < nI K) : inR x K = true := decide_eq_true ⟨h1, h2⟩
theorem inR_out {x : Int32} {K : Nat} (hK : K < 2 ^ 31) (h : inR x K = false) : x.toInt < 0 ∨ (K : Int) - 1 < x.toInt := by
  have q := of_decide_eq_false h
  by_cases h0 : x < 0
  · exact Or.inl (by have := Int32.lt_iff_toInt_lt.mp h0; simpa using this)
  · right
    have h2 : ¬ x < nI K := fun z => q ⟨h0, z⟩
    have h3 : ¬ x.toInt < (nI K).toInt := fun z => h2 (Int32.lt_iff_toInt_lt.mpr z)
    rw [nI_toInt hK] at h3
    omega
theorem k_S_isElementN {l : Launch} {g : GX} {c : CS} {m : MS} {n d i : Nat} (hi : i < 256) : CE l g M_S_isElement d 0 0 [.int (nI i)] n (hp g c m) (some (.int (b2 true))) n (hp g c m) := by
  have h := k_S_isElement (l := l) (g := g) (c := c) (m := m) (n := n) (d := d) (x := nI i) (Nat.zero_le _)
  rw [inR_n (by omega) (by decide), decide_eq_true hi] at h
  exact h
theorem and255x (x : Int32) : x &&& nI 255 = nI (x.toBitVec.toNat % 256) := by
  apply Int32.toBitVec_inj.mp
  apply BitVec.eq_of_toNat_eq
  have q : x.toBitVec.toNat &&& 255 = x.toBitVec.toNat % 256 := Nat.and_two_pow_sub_one_eq_mod (n := 8) _
  have e : (nI (x.toBitVec.toNat % 256)).toBitVec.toNat = x.toBitVec.toNat % 256 := by
    show (BitVec.ofNat 32 _).toNat = _
    rw [BitVec.toNat_ofNat]
    omega
  rw [e, ← q]
  show (x.toBitVec &&& (nI 255).toBitVec).toNat = _
  rw [BitVec.toNat_and]
  rfl
theorem k_S_times_bad {l : Launch} {g : GX} {c : CS} {m : MS} {n d : Nat} (hd : 1 ≤ d) {x y : Int32} (h : inR x 256 = false ∨ inR y 256 = false) : CE l g M_S_times d 0 0 [.ref (aS g), .int x, .int y] n (hp g c m) (some (.int ((-2)))) n (hp g c m) := by
  refine CE.of (by decide +kernel) (lv := [(0, .ref (aS g)), (1, .int x), (2, .int y)]) rfl (Nat.le_of_ble_eq_true rfl) ?_
  refine r_iload_n d_S_times_0 1 rfl ?_
  refine rc_S_59 rfl d_S_times_1 (k_S_isElement (by omega)) (room_ok (d' := d - 1) (by omega) (by decide)) ⟨Nat.le_refl _, Nat.le_refl _⟩ (Nat.le_of_ble_eq_true rfl) ?_
  refine r_if_eqB (tgt := 29) d_S_times_4 (by decide) (fun c4 => ?_) (fun c4 => ?_)
  · skip
    refine r_bipush (v := (-2)) d_S_times_29 (by decide) ?_
    refine r_ireturn d_S_times_31 rfl rfl ⟨?_, rfl, ?_⟩
    · rfl
    · rfl
  · skip
    refine r_iload_n d_S_times_7 2 rfl ?_
    refine rc_S_59 rfl d_S_times_8 (k_S_isElement (by omega)) (room_ok (d' := d - 1) (by omega) (by decide)) ⟨Nat.le_refl _, Nat.le_refl _⟩ (Nat.le_of_ble_eq_true rfl) ?_
    refine r_if_eqB (tgt := 29) d_S_times_11 (by decide) (fun c11 => ?_) (fun c11 => ?_)
    rotate_left 1
    · exfalso; simp [c4, c11] at h
    refine r_bipush (v := (-2)) d_S_times_29 (by decide) ?_
    refine r_ireturn d_S_times_31 rfl rfl ⟨?_, rfl, ?_⟩
    · rfl
    · rfl
theorem k_S_times {l : Launch} {g : GX} {c : CS} {m : MS} {n d : Nat} (hd : 1 ≤ d) {a b : Nat} (ha : a < 256) (hb : b < 256) : CE l g M_S_times d 0 0 [.ref (aS g), .int (nI a), .int (nI b)] n (hp g c m) (some (.int (nI (mulT a b)))) n (hp g c m) := by
  refine CE.of (by decide +kernel) (lv := [(0, .ref (aS g)), (1, .int (nI a)), (2, .int (nI b))]) rfl (Nat.le_of_ble_eq_true rfl) ?_
  refine r_iload_n d_S_times_0 1 rfl ?_
  refine rc_S_59 rfl d_S_times_1 (k_S_isElementN ha) (room_ok (d' := d - 1) (by omega) (by decide)) ⟨Nat.le_refl _, Nat.le_refl _⟩ (Nat.le_of_ble_eq_true rfl) ?_
  refine r_if_eqB (tgt := 29) d_S_times_4 (by decide) (fun c4 => ?_) (fun c4 => ?_)
  · exfalso; first | omega | (revert c4; decide) | cases c4
  refine r_iload_n d_S_times_7 2 rfl ?_
  refine rc_S_59 rfl d_S_times_8 (k_S_isElementN hb) (room_ok (d' := d - 1) (by omega) (by decide)) ⟨Nat.le_refl _, Nat.le_refl _⟩ (Nat.le_of_ble_eq_true rfl) ?_
  refine r_if_eqB (tgt := 29) d_S_times_11 (by decide) (fun c11 => ?_) (fun c11 => ?_)
  · exfalso; first | omega | (revert c11; decide) | cases c11
  refine r_aload_n d_S_times_14 0 rfl ?_
  refine rg_S_10 rfl d_S_times_15 gS rfl ?_
  refine rg_S_63 rfl d_S_times_18 gC rfl ?_
  refine r_iload_n d_S_times_21 1 rfl ?_
  refine r_iload_n d_S_times_22 2 rfl ?_
  refine rc_S_67 rfl d_S_times_23 (k_F_product (by omega) ha hb) gF (room_ok (d' := d - 1) (by omega) (by decide)) ⟨Nat.le_refl _, Nat.le_refl _⟩ (Nat.le_of_ble_eq_true rfl) ?_
  refine r_goto (tgt := 31) d_S_times_26 (by decide) ?_
  refine r_ireturn d_S_times_31 rfl rfl ⟨?_, rfl, ?_⟩
  · rfl
  · rfl
theorem k_S_over_bad {l : Launch} {g : GX} {c : CS} {m : MS} {n d : Nat} (hd : 1 ≤ d) {x y : Int32} (h : inR x 256 = false ∨ inR y 256 = false) : CE l g M_S_over d 0 0 [.ref (aS g), .int x, .int y] n (hp g c m) (some (.int ((-2)))) n (hp g c m) := by
  refine CE.of (by decide +kernel) (lv := [(0, .ref (aS g)), (1, .int x), (2, .int y)]) rfl (Nat.le_of_ble_eq_true rfl) ?_
  refine r_iload_n d_S_over_0 1 rfl ?_
  refine rc_S_59 rfl d_S_over_1 (k_S_isElement (by omega)) (room_ok (d' := d - 1) (by omega) (by decide)) ⟨Nat.le_refl _, Nat.le_refl _⟩ (Nat.le_of_ble_eq_true rfl) ?_
  refine r_if_eqB (tgt := 14) d_S_over_4 (by decide) (fun c4 => ?_) (fun c4 => ?_)
  · skip
    refine r_bipush (v := (-2)) d_S_over_14 (by decide) ?_
    refine r_ireturn d_S_over_16 rfl rfl ⟨?_, rfl, ?_⟩
    · rfl
    · rfl
  · skip
    refine r_iload_n d_S_over_7 2 rfl ?_
    refine rc_S_59 rfl d_S_over_8 (k_S_isElement (by omega)) (room_ok (d' := d - 1) (by omega) (by decide)) ⟨Nat.le_refl _, Nat.le_refl _⟩ (Nat.le_of_ble_eq_true rfl) ?_
    refine r_if_neB (tgt := 17) d_S_over_11 (by decide) (fun c11 => ?_) (fun c11 => ?_)
    · exfalso; simp [c4, c11] at h
    refine r_bipush (v := (-2)) d_S_over_14 (by decide) ?_
    refine r_ireturn d_S_over_16 rfl rfl ⟨?_, rfl, ?_⟩
    · rfl
    · rfl
theorem k_S_over {l : Launch} {g : GX} {c : CS} {m : MS} {n d : Nat} (hd : 1 ≤ d) {a b : Nat} (ha : a < 256) (hb : b < 256) : CE l g M_S_over d 0 0 [.ref (aS g), .int (nI a), .int (nI b)] n (hp g c m) (some (.int (if b = 0 then (-7) else nI (quoT a b)))) n (hp g c m) := by
  refine CE.of (by decide +kernel) (lv := [(0, .ref (aS g)), (1, .int (nI a)), (2, .int (nI b))]) rfl (Nat.le_of_ble_eq_true rfl) ?_
  refine r_iload_n d_S_over_0 1 rfl ?_
  refine rc_S_59 rfl d_S_over_1 (k_S_isElementN ha) (room_ok (d' := d - 1) (by omega) (by decide)) ⟨Nat.le_refl _, Nat.le_refl _⟩ (Nat.le_of_ble_eq_true rfl) ?_
  refine r_if_eqB (tgt := 14) d_S_over_4 (by decide) (fun c4 => ?_) (fun c4 => ?_)
  · exfalso; first | omega | (revert c4; decide) | cases c4
  refine r_iload_n d_S_over_7 2 rfl ?_
  refine rc_S_59 rfl d_S_over_8 (k_S_isElementN hb) (room_ok (d' := d - 1) (by omega) (by decide)) ⟨Nat.le_refl _, Nat.le_refl _⟩ (Nat.le_of_ble_eq_true rfl) ?_
  refine r_if_neB (tgt := 17) d_S_over_11 (by decide) (fun c11 => ?_) (fun c11 => ?_)
  rotate_left 1
  · exfalso; first | omega | (revert c11; decide) | cases c11
  refine r_iload_n d_S_over_17 2 rfl ?_
  refine r_if_neN (tgt := 26) d_S_over_18 (by decide) (by omega) (fun c18 => ?_) (fun c18 => ?_)
  · skip
    refine r_aload_n d_S_over_26 0 rfl ?_
    refine rg_S_10 rfl d_S_over_27 gS rfl ?_
    refine rg_S_63 rfl d_S_over_30 gC rfl ?_
    refine r_iload_n d_S_over_33 1 rfl ?_
    refine r_iload_n d_S_over_34 2 rfl ?_
    refine rc_S_73 rfl d_S_over_35 (k_F_quotient (by omega) ha hb) gF (room_ok (d' := d - 1) (by omega) (by decide)) ⟨Nat.le_refl _, Nat.le_refl _⟩ (Nat.le_of_ble_eq_true rfl) ?_
    refine r_ireturn d_S_over_38 rfl rfl ⟨?_, rfl, ?_⟩
    · first | (rw [if_neg c18]; done) | (rw [if_pos c18])
    · rfl
  · skip
    refine r_bipush (v := (-7)) d_S_over_21 (by decide) ?_
    refine r_goto (tgt := 38) d_S_over_23 (by decide) ?_
    refine r_ireturn d_S_over_38 rfl rfl ⟨?_, rfl, ?_⟩
    · first | (rw [if_neg c18]; done) | (rw [if_pos c18])
    · rfl
theorem k_S_rowAt_bad {l : Launch} {g : GX} {c : CS} {m : MS} {n d : Nat} (hd : 1 ≤ d) {x y : Int32} (h : inR x 12 = false ∨ inR y 8 = false) : CE l g M_S_rowAt d 0 0 [.ref (aS g), .int x, .int y] n (hp g c m) (some (.int ((-2)))) n (hp g c m) := by
  refine CE.of (by decide +kernel) (lv := [(0, .ref (aS g)), (1, .int x), (2, .int y)]) rfl (Nat.le_of_ble_eq_true rfl) ?_
  refine r_iload_n d_S_rowAt_0 1 rfl ?_
  refine rc_S_76 rfl d_S_rowAt_1 (k_S_isNode (by omega)) (room_ok (d' := d - 1) (by omega) (by decide)) ⟨Nat.le_refl _, Nat.le_refl _⟩ (Nat.le_of_ble_eq_true rfl) ?_
  refine r_if_eqB (tgt := 29) d_S_rowAt_4 (by decide) (fun c4 => ?_) (fun c4 => ?_)
  · skip
    refine r_bipush (v := (-2)) d_S_rowAt_29 (by decide) ?_
    refine r_ireturn d_S_rowAt_31 rfl rfl ⟨?_, rfl, ?_⟩
    · rfl
    · rfl
  · skip
    refine r_iload_n d_S_rowAt_7 2 rfl ?_
    refine r_if_lt (tgt := 29) d_S_rowAt_8 (by decide) (fun c8 => ?_) (fun c8 => ?_)
    · skip
      refine r_bipush (v := (-2)) d_S_rowAt_29 (by decide) ?_
      refine r_ireturn d_S_rowAt_31 rfl rfl ⟨?_, rfl, ?_⟩
      · rfl
      · rfl
    · skip
      refine r_iload_n d_S_rowAt_11 2 rfl ?_
      refine r_bipush (v := nI 8) d_S_rowAt_12 (by decide) ?_
      refine r_icmp_ge (tgt := 29) d_S_rowAt_14 (by decide) (fun c14 => ?_) (fun c14 => ?_)
      rotate_left 1
      · exfalso; simp [c4, inR_t c8 (Int32.not_le.mp c14)] at h
      refine r_bipush (v := (-2)) d_S_rowAt_29 (by decide) ?_
      refine r_ireturn d_S_rowAt_31 rfl rfl ⟨?_, rfl, ?_⟩
      · rfl
      · rfl
theorem k_S_rowAt {l : Launch} {g : GX} {c : CS} {m : MS} {n d : Nat} (hd : 2 ≤ d) {i k : Nat} (hi : i < 12) (hk : k < 8) : CE l g M_S_rowAt d 0 0 [.ref (aS g), .int (nI i), .int (nI k)] n (hp g c m) (some (.int (nI (rowT i k)))) n (hp g c m) := by
  refine CE.of (by decide +kernel) (lv := [(0, .ref (aS g)), (1, .int (nI i)), (2, .int (nI k))]) rfl (Nat.le_of_ble_eq_true rfl) ?_
  refine r_iload_n d_S_rowAt_0 1 rfl ?_
  refine rc_S_76 rfl d_S_rowAt_1 (k_S_isNodeN hi) (room_ok (d' := d - 1) (by omega) (by decide)) ⟨Nat.le_refl _, Nat.le_refl _⟩ (Nat.le_of_ble_eq_true rfl) ?_
  refine r_if_eqB (tgt := 29) d_S_rowAt_4 (by decide) (fun c4 => ?_) (fun c4 => ?_)
  · exfalso; first | omega | (revert c4; decide) | cases c4
  refine r_iload_n d_S_rowAt_7 2 rfl ?_
  refine r_if_ltN (tgt := 29) d_S_rowAt_8 (by decide) (by omega) (fun c8 => ?_) (fun c8 => ?_)
  · exfalso; first | omega | (revert c8; decide) | cases c8
  refine r_iload_n d_S_rowAt_11 2 rfl ?_
  refine r_bipush (v := nI 8) d_S_rowAt_12 (by decide) ?_
  refine r_icmp_geN (tgt := 29) d_S_rowAt_14 (by decide) (by omega) (by omega) (fun c14 => ?_) (fun c14 => ?_)
  · exfalso; first | omega | (revert c14; decide) | cases c14
  refine r_aload_n d_S_rowAt_17 0 rfl ?_
  refine rg_S_10 rfl d_S_rowAt_18 gS rfl ?_
  refine r_iload_n d_S_rowAt_21 1 rfl ?_
  refine r_iload_n d_S_rowAt_22 2 rfl ?_
  refine rc_S_79 rfl d_S_rowAt_23 (k_C_rowByte (by omega) hi hk) gC (room_ok (d' := d - 1) (by omega) (by decide)) ⟨Nat.le_refl _, Nat.le_refl _⟩ (Nat.le_of_ble_eq_true rfl) ?_
  refine r_goto (tgt := 31) d_S_rowAt_26 (by decide) ?_
  refine r_ireturn d_S_rowAt_31 rfl rfl ⟨?_, rfl, ?_⟩
  · rfl
  · rfl
theorem k_S_feed_bad {l : Launch} {g : GX} {c : CS} {m : MS} {n d : Nat} (hd : 1 ≤ d) {w : Int64} {x : Int32} (h : x < nI 1 ∨ nI 8 < x) : CE l g M_S_feed d 0 0 [.ref (aS g), .long w, .int x] n (hp g c m) (some (.int ((-2)))) n (hp g c m) := by
  refine CE.of (by decide +kernel) (lv := [(0, .ref (aS g)), (1, .long w), (3, .int x)]) rfl (Nat.le_of_ble_eq_true rfl) ?_
  refine r_iload_n d_S_feed_0 2 rfl ?_
  refine r_iconst (v := nI 1) d_S_feed_1 (by decide) ?_
  refine r_icmp_lt (tgt := 11) d_S_feed_2 (by decide) (fun c2 => ?_) (fun c2 => ?_)
  · skip
    refine r_bipush (v := (-2)) d_S_feed_11 (by decide) ?_
    refine r_ireturn d_S_feed_13 rfl rfl ⟨?_, rfl, ?_⟩
    · rfl
    · rfl
  · skip
    refine r_iload_n d_S_feed_5 2 rfl ?_
    refine r_bipush (v := nI 8) d_S_feed_6 (by decide) ?_
    refine r_icmp_le (tgt := 14) d_S_feed_8 (by decide) (fun c8 => ?_) (fun c8 => ?_)
    · exfalso; rcases h with h | h; exact c2 h; exact absurd c8 (Int32.not_le.mpr h)
    refine r_bipush (v := (-2)) d_S_feed_11 (by decide) ?_
    refine r_ireturn d_S_feed_13 rfl rfl ⟨?_, rfl, ?_⟩
    · rfl
    · rfl
theorem k_S_feedFull {l : Launch} {g : GX} {c : CS} {m : MS} {n d : Nat} (hd : 1 ≤ d) {w : Int64} {k : Nat} (h1 : 0 < k) (h2 : k ≤ 8) (ht : c.tapeN ≤ 240) (hf : 240 < c.tapeN + k) : CE l g M_S_feed d 0 0 [.ref (aS g), .long w, .int (nI k)] n (hp g c m) (some (.int (-5))) n (hp g c m) := by
  refine CE.of (by decide +kernel) (lv := [(0, .ref (aS g)), (1, .long w), (3, .int (nI k))]) rfl (Nat.le_of_ble_eq_true rfl) ?_
  refine r_iload_n d_S_feed_0 2 rfl ?_
  refine r_iconst (v := nI 1) d_S_feed_1 (by decide) ?_
  refine r_icmp_ltN (tgt := 11) d_S_feed_2 (by decide) (by omega) (by omega) (fun c2 => ?_) (fun c2 => ?_)
  · exfalso; first | omega | (revert c2; decide) | cases c2
  refine r_iload_n d_S_feed_5 2 rfl ?_
  refine r_bipush (v := nI 8) d_S_feed_6 (by decide) ?_
  refine r_icmp_leN (tgt := 14) d_S_feed_8 (by decide) (by omega) (by omega) (fun c8 => ?_) (fun c8 => ?_)
  rotate_left 1
  · exfalso; first | omega | (revert c8; decide) | cases c8
  refine r_aload_n d_S_feed_14 0 rfl ?_
  refine rg_S_33 rfl d_S_feed_15 gS rfl ?_
  refine r_iload_n d_S_feed_18 2 rfl ?_
  refine r_iaddN d_S_feed_19 ?_
  refine r_sipush (v := nI 240) d_S_feed_20 (by decide) ?_
  refine r_icmp_leN (tgt := 29) d_S_feed_23 (by decide) (by omega) (by omega) (fun c23 => ?_) (fun c23 => ?_)
  · exfalso; first | omega | (revert c23; decide) | cases c23
  refine r_bipush (v := (-5)) d_S_feed_26 (by decide) ?_
  refine r_ireturn d_S_feed_28 rfl rfl ⟨?_, rfl, ?_⟩
  · rfl
  · rfl
def fdB (w : Int64) (j : Nat) : Nat := ((w >>> ((nI (8 * j)).toInt64 &&& 63)).toInt32).toBitVec.toNat % 256
def fdT (t : Nat → Nat) (a : Nat) (w : Int64) (k : Nat) : Nat → Nat → Nat
  | 0 => t
  | s + 1 => upN (fdT t a w k s) (a + s) (fdB w (k - s - 1))
def fdC (c : CS) (w : Int64) (k s : Nat) : CS := (c.s_tape (fdT c.tape c.tapeN w k s)).s_tapeN (c.tapeN + s)
theorem k_S_feed {l : Launch} {g : GX} {c : CS} {m : MS} {n d : Nat} (hd : 1 ≤ d) {w : Int64} {k : Nat} (h1 : 0 < k) (h2 : k ≤ 8) (hf : c.tapeN + k ≤ 240) : CE l g M_S_feed d 0 0 [.ref (aS g), .long w, .int (nI k)] n (hp g c m) (some (.int (nI (c.tapeN + k)))) n (hp g (fdC c w k k) m) := by
  refine CE.of (by decide +kernel) (lv := [(0, .ref (aS g)), (1, .long w), (3, .int (nI k))]) rfl (Nat.le_of_ble_eq_true rfl) ?_
  refine r_iload_n d_S_feed_0 2 rfl ?_
  refine r_iconst (v := nI 1) d_S_feed_1 (by decide) ?_
  refine r_icmp_ltN (tgt := 11) d_S_feed_2 (by decide) (by omega) (by omega) (fun c2 => ?_) (fun c2 => ?_)
  · exfalso; first | omega | (revert c2; decide) | cases c2
  refine r_iload_n d_S_feed_5 2 rfl ?_
  refine r_bipush (v := nI 8) d_S_feed_6 (by decide) ?_
  refine r_icmp_leN (tgt := 14) d_S_feed_8 (by decide) (by omega) (by omega) (fun c8 => ?_) (fun c8 => ?_)
  rotate_left 1
  · exfalso; first | omega | (revert c8; decide) | cases c8
  refine r_aload_n d_S_feed_14 0 rfl ?_
  refine rg_S_33 rfl d_S_feed_15 gS rfl ?_
  refine r_iload_n d_S_feed_18 2 rfl ?_
  refine r_iaddN d_S_feed_19 ?_
  refine r_sipush (v := nI 240) d_S_feed_20 (by decide) ?_
  refine r_icmp_leN (tgt := 29) d_S_feed_23 (by decide) (by omega) (by omega) (fun c23 => ?_) (fun c23 => ?_)
  rotate_left 1
  · exfalso; first | omega | (revert c23; decide) | cases c23
  refine r_iload_n d_S_feed_29 2 rfl ?_
  refine r_iconst (v := nI 1) d_S_feed_30 (by decide) ?_
  refine r_isub d_S_feed_31 ?_
  refine r_istore (lv' := [(0, _), (1, _), (3, _), (4, _)]) d_S_feed_32 (by decide) rfl ?_
  refine r_heap (h' := hp g (fdC c w k 0) m) rfl ?_
  refine back_ind (n := k) (G := fun s => RJ l g M_S_feed (RMX d 0 0) (TQ g 0 0 (QE (some (.int (nI (c.tapeN + k)))) n (hp g (fdC c w k k) m))) XT n (hp g (fdC c w k s) m) 0 0 34 [(0, .ref (aS g)), (1, .long w), (3, .int (nI k)), (4, .int (nI (k - s) - nI 1))] []) ?_ ?_ 0 (Nat.zero_le _)
  · skip
    refine r_iload d_S_feed_34 3 rfl ?_
    refine r_if_lt (tgt := 76) d_S_feed_36 (by decide) (fun c36 => ?_) (fun c36 => ?_)
    rotate_left 1
    · first | exact absurd (show nI (k - k) - nI 1 < 0 by rw [Nat.sub_self]; decide) c36 | exact absurd c36 (by rw [hes]; exact nI_pos (by omega)) | exact absurd (show nI (k - k) - nI 1 < 0 by rw [Nat.sub_self]; decide) (Int32.not_lt.mpr c36)
    refine r_aload_n d_S_feed_76 0 rfl ?_
    refine rg_S_33 rfl d_S_feed_77 gS rfl ?_
    refine r_ireturn d_S_feed_80 rfl rfl ⟨?_, rfl, ?_⟩
    · rfl
    · rfl
  · intro s hb_s ih_s
    have hes : nI (k - s) - nI 1 = nI (k - s - 1) := pk_sub (by omega)
    refine r_iload d_S_feed_34 3 rfl ?_
    refine r_if_lt (tgt := 76) d_S_feed_36 (by decide) (fun c36 => ?_) (fun c36 => ?_)
    · first | exact absurd (show nI (k - k) - nI 1 < 0 by rw [Nat.sub_self]; decide) c36 | exact absurd c36 (by rw [hes]; exact nI_pos (by omega)) | exact absurd (show nI (k - k) - nI 1 < 0 by rw [Nat.sub_self]; decide) (Int32.not_lt.mpr c36)
    refine r_at (lv' := [(0, .ref (aS g)), (1, .long w), (3, .int (nI k)), (4, .int (nI (k - s - 1)))]) ?_ rfl (by rw [hes]) rfl
    refine r_aload_n d_S_feed_39 0 rfl ?_
    refine rg_S_30 rfl d_S_feed_40 gS rfl ?_
    refine r_aload_n d_S_feed_43 0 rfl ?_
    refine rg_S_33 rfl d_S_feed_44 gS rfl ?_
    refine r_top (y := nI (c.tapeN + s)) rfl ?_
    refine r_lload_n d_S_feed_47 1 rfl ?_
    refine r_bipush (v := nI 8) d_S_feed_48 (by decide) ?_
    refine r_iload d_S_feed_50 3 rfl ?_
    refine r_imulN d_S_feed_52 ?_
    refine r_lshr d_S_feed_53 ?_
    refine r_l2i d_S_feed_54 ?_
    refine r_sipush (v := nI 255) d_S_feed_55 (by decide) ?_
    refine r_iand d_S_feed_58 ?_
    refine r_top (y := (nI (fdB w (k - s - 1)))) (and255x _) ?_
    refine r_astN d_S_feed_59 gTap (by omega) (by decide) (wtape) ?_
    refine r_aload_n d_S_feed_60 0 rfl ?_
    refine r_dup d_S_feed_61 rfl ?_
    refine rg_S_33 rfl d_S_feed_62 gS rfl ?_
    refine r_top (y := nI (c.tapeN + s)) rfl ?_
    refine r_iconst (v := nI 1) d_S_feed_65 (by decide) ?_
    refine r_iaddN d_S_feed_66 ?_
    refine rp_S_33 rfl d_S_feed_67 gS (Nat.le_of_ble_eq_true rfl) rfl (wS_tapeN (v := (c.tapeN + s) + 1)) ?_
    refine r_iinc (lv' := [(0, _), (1, _), (3, _), (4, _)]) d_S_feed_70 3 rfl rfl (by decide) rfl ?_
    refine r_goto (tgt := 34) d_S_feed_73 (by decide) ?_
    exact r_at ih_s rfl (by rw [show nI (k - (s + 1)) - nI 1 = nI (k - s - 1) + Int32.ofInt (-1) by rw [show k - (s + 1) = k - s - 1 by omega, Int32.sub_eq_add_neg]; rfl]) rfl
theorem k_S_cut_bad {l : Launch} {g : GX} {c : CS} {m : MS} {n d : Nat} (hd : 1 ≤ d) {x : Int32} (h : inR x 24 = false) : CE l g M_S_cut d 0 0 [.ref (aS g), .int x] n (hp g c m) (some (.int ((-2)))) n (hp g c m) := by
  refine CE.of (by decide +kernel) (lv := [(0, .ref (aS g)), (1, .int x)]) rfl (Nat.le_of_ble_eq_true rfl) ?_
  refine r_iload_n d_S_cut_0 1 rfl ?_
  refine r_if_lt (tgt := 10) d_S_cut_1 (by decide) (fun c1 => ?_) (fun c1 => ?_)
  · skip
    refine r_bipush (v := (-2)) d_S_cut_10 (by decide) ?_
    refine r_ireturn d_S_cut_12 rfl rfl ⟨?_, rfl, ?_⟩
    · rfl
    · rfl
  · skip
    refine r_iload_n d_S_cut_4 1 rfl ?_
    refine r_bipush (v := nI 24) d_S_cut_5 (by decide) ?_
    refine r_icmp_lt (tgt := 13) d_S_cut_7 (by decide) (fun c7 => ?_) (fun c7 => ?_)
    · exfalso; simp [inR_t c1 c7] at h
    refine r_bipush (v := (-2)) d_S_cut_10 (by decide) ?_
    refine r_ireturn d_S_cut_12 rfl rfl ⟨?_, rfl, ?_⟩
    · rfl
    · rfl
theorem k_S_cut {l : Launch} {g : GX} {c : CS} {m : MS} {n d : Nat} (hd : 1 ≤ d) {k : Nat} (hk : k < 24) : CE l g M_S_cut d 0 0 [.ref (aS g), .int (nI k)] n (hp g c m) (some (.int (nI 1))) n (hp g (c.s_cut (nI k)) m) := by
  refine CE.of (by decide +kernel) (lv := [(0, .ref (aS g)), (1, .int (nI k))]) rfl (Nat.le_of_ble_eq_true rfl) ?_
  refine r_iload_n d_S_cut_0 1 rfl ?_
  refine r_if_ltN (tgt := 10) d_S_cut_1 (by decide) (by omega) (fun c1 => ?_) (fun c1 => ?_)
  · exfalso; first | omega | (revert c1; decide) | cases c1
  refine r_iload_n d_S_cut_4 1 rfl ?_
  refine r_bipush (v := nI 24) d_S_cut_5 (by decide) ?_
  refine r_icmp_ltN (tgt := 13) d_S_cut_7 (by decide) (by omega) (by omega) (fun c7 => ?_) (fun c7 => ?_)
  rotate_left 1
  · exfalso; first | omega | (revert c7; decide) | cases c7
  refine r_aload_n d_S_cut_13 0 rfl ?_
  refine r_iload_n d_S_cut_14 1 rfl ?_
  refine rp_S_43 rfl d_S_cut_15 gS (Nat.le_of_ble_eq_true rfl) rfl (wS_cut (v := nI k)) ?_
  refine r_iconst (v := nI 1) d_S_cut_18 (by decide) ?_
  refine r_ireturn d_S_cut_19 rfl rfl ⟨?_, rfl, ?_⟩
  · rfl
  · rfl
theorem k_S_put_bad {l : Launch} {g : GX} {c : CS} {m : MS} {n d : Nat} (hd : 1 ≤ d) {x : Int32} (h : inR x 6 = false) : CE l g M_S_put d 0 0 [.ref (aS g), .int x] n (hp g c m) (some (.int ((-2)))) n (hp g c m) := by
  refine CE.of (by decide +kernel) (lv := [(0, .ref (aS g)), (1, .int x)]) rfl (Nat.le_of_ble_eq_true rfl) ?_
  refine r_iload_n d_S_put_0 1 rfl ?_
  refine rc_S_82 rfl d_S_put_1 (k_S_isObject (by omega)) (room_ok (d' := d - 1) (by omega) (by decide)) ⟨Nat.le_refl _, Nat.le_refl _⟩ (Nat.le_of_ble_eq_true rfl) ?_
  refine r_if_neB (tgt := 10) d_S_put_4 (by decide) (fun c4 => ?_) (fun c4 => ?_)
  · exact absurd (h.symm.trans c4) (by decide)
  refine r_bipush (v := (-2)) d_S_put_7 (by decide) ?_
  refine r_ireturn d_S_put_9 rfl rfl ⟨?_, rfl, ?_⟩
  · rfl
  · rfl
theorem k_S_remove_bad {l : Launch} {g : GX} {c : CS} {m : MS} {n d : Nat} (hd : 1 ≤ d) {x : Int32} (h : inR x 6 = false) : CE l g M_S_remove d 0 0 [.ref (aS g), .int x] n (hp g c m) (some (.int ((-2)))) n (hp g c m) := by
  refine CE.of (by decide +kernel) (lv := [(0, .ref (aS g)), (1, .int x)]) rfl (Nat.le_of_ble_eq_true rfl) ?_
  refine r_iload_n d_S_remove_0 1 rfl ?_
  refine rc_S_82 rfl d_S_remove_1 (k_S_isObject (by omega)) (room_ok (d' := d - 1) (by omega) (by decide)) ⟨Nat.le_refl _, Nat.le_refl _⟩ (Nat.le_of_ble_eq_true rfl) ?_
  refine r_if_neB (tgt := 10) d_S_remove_4 (by decide) (fun c4 => ?_) (fun c4 => ?_)
  · exact absurd (h.symm.trans c4) (by decide)
  refine r_bipush (v := (-2)) d_S_remove_7 (by decide) ?_
  refine r_ireturn d_S_remove_9 rfl rfl ⟨?_, rfl, ?_⟩
  · rfl
  · rfl
theorem k_S_settle_bad {l : Launch} {g : GX} {c : CS} {m : MS} {n d : Nat} (hd : 1 ≤ d) {x : Int32} (h : inR x 6 = false) : CE l g M_S_settle d 0 0 [.ref (aS g), .int x] n (hp g c m) (some (.int ((-2)))) n (hp g c m) := by
  refine CE.of (by decide +kernel) (lv := [(0, .ref (aS g)), (1, .int x)]) rfl (Nat.le_of_ble_eq_true rfl) ?_
  refine r_iload_n d_S_settle_0 1 rfl ?_
  refine rc_S_82 rfl d_S_settle_1 (k_S_isObject (by omega)) (room_ok (d' := d - 1) (by omega) (by decide)) ⟨Nat.le_refl _, Nat.le_refl _⟩ (Nat.le_of_ble_eq_true rfl) ?_
  refine r_if_neB (tgt := 10) d_S_settle_4 (by decide) (fun c4 => ?_) (fun c4 => ?_)
  · exact absurd (h.symm.trans c4) (by decide)
  refine r_bipush (v := (-2)) d_S_settle_7 (by decide) ?_
  refine r_ireturn d_S_settle_9 rfl rfl ⟨?_, rfl, ?_⟩
  · rfl
  · rfl
theorem k_S_version_bad {l : Launch} {g : GX} {c : CS} {m : MS} {n d : Nat} (hd : 1 ≤ d) {x : Int32} (h : inR x 6 = false) : CE l g M_S_version d 0 0 [.ref (aS g), .int x] n (hp g c m) (some (.int ((-2)))) n (hp g c m) := by
  refine CE.of (by decide +kernel) (lv := [(0, .ref (aS g)), (1, .int x)]) rfl (Nat.le_of_ble_eq_true rfl) ?_
  refine r_iload_n d_S_version_0 1 rfl ?_
  refine rc_S_82 rfl d_S_version_1 (k_S_isObject (by omega)) (room_ok (d' := d - 1) (by omega) (by decide)) ⟨Nat.le_refl _, Nat.le_refl _⟩ (Nat.le_of_ble_eq_true rfl) ?_
  refine r_if_eqB (tgt := 15) d_S_version_4 (by decide) (fun c4 => ?_) (fun c4 => ?_)
  rotate_left 1
  · exact absurd (h.symm.trans c4) (by decide)
  refine r_bipush (v := (-2)) d_S_version_15 (by decide) ?_
  refine r_ireturn d_S_version_17 rfl rfl ⟨?_, rfl, ?_⟩
  · rfl
  · rfl
theorem k_S_open_bad {l : Launch} {g : GX} {c : CS} {m : MS} {n d : Nat} (hd : 1 ≤ d) {x : Int32} (h : inR x 6 = false) : CE l g M_S_open d 0 0 [.ref (aS g), .int x] n (hp g c m) (some (.int ((-2)))) n (hp g c m) := by
  refine CE.of (by decide +kernel) (lv := [(0, .ref (aS g)), (1, .int x)]) rfl (Nat.le_of_ble_eq_true rfl) ?_
  refine r_iload_n d_S_open_0 1 rfl ?_
  refine rc_S_82 rfl d_S_open_1 (k_S_isObject (by omega)) (room_ok (d' := d - 1) (by omega) (by decide)) ⟨Nat.le_refl _, Nat.le_refl _⟩ (Nat.le_of_ble_eq_true rfl) ?_
  refine r_if_neB (tgt := 10) d_S_open_4 (by decide) (fun c4 => ?_) (fun c4 => ?_)
  · exact absurd (h.symm.trans c4) (by decide)
  refine r_bipush (v := (-2)) d_S_open_7 (by decide) ?_
  refine r_ireturn d_S_open_9 rfl rfl ⟨?_, rfl, ?_⟩
  · rfl
  · rfl
theorem k_S_get_bad {l : Launch} {g : GX} {c : CS} {m : MS} {n d : Nat} (hd : 1 ≤ d) {x y : Int32} (h : inR x 6 = false) : CE l g M_S_get d 0 0 [.ref (aS g), .int x, .int y] n (hp g c m) (some (.int ((-2)))) n (hp g c m) := by
  refine CE.of (by decide +kernel) (lv := [(0, .ref (aS g)), (1, .int x), (2, .int y)]) rfl (Nat.le_of_ble_eq_true rfl) ?_
  refine r_iload_n d_S_get_0 1 rfl ?_
  refine rc_S_82 rfl d_S_get_1 (k_S_isObject (by omega)) (room_ok (d' := d - 1) (by omega) (by decide)) ⟨Nat.le_refl _, Nat.le_refl _⟩ (Nat.le_of_ble_eq_true rfl) ?_
  refine r_if_neB (tgt := 10) d_S_get_4 (by decide) (fun c4 => ?_) (fun c4 => ?_)
  · exact absurd (h.symm.trans c4) (by decide)
  refine r_bipush (v := (-2)) d_S_get_7 (by decide) ?_
  refine r_ireturn d_S_get_9 rfl rfl ⟨?_, rfl, ?_⟩
  · rfl
  · rfl
def putR (c : CS) (o : Nat) : Int32 := if c.unst o = true then (-3) else if ct c.live 12 < 9 then (-4) else if lfl c 12 < stp c.tapeN then (-5) else if c.tapeN = 0 then (-6) else bgR c o
def putC (c : CS) (o : Nat) : CS := if c.unst o = true ∨ ct c.live 12 < 9 ∨ lfl c 12 < stp c.tapeN ∨ c.tapeN = 0 then c else (bgC c o c.tapeN).s_tapeN 0
def remR (c : CS) (o : Nat) : Int32 := if c.unst o = true then (-3) else if ct c.live 12 < 9 then (-4) else bgR c o
def remC (c : CS) (o : Nat) : CS := if c.unst o = true ∨ ct c.live 12 < 9 then c else bgC c o 0
theorem k_S_put {l : Launch} {g : GX} {c : CS} {m : MS} {n d : Nat} (hd : 7 ≤ d) {o : Nat} (ho : o < 6) (htn : c.tapeN ≤ 240) (hbg : c.begun o < 65535) (hc : CI c) (hM : BM c.mat) (hT : B1 c.tape) (hf : stp c.tapeN ≤ lfl c 12 → ∀ i, i < 12 → c.live i = true → ∀ k, k < stp c.tapeN → lf (TK (c.takn i) k) < 40) (hz : c.unst o = false → ∀ i, i < 12 → c.live i = true → c.hstr i (sp c i o) = 0) (hcut : c.cut = -1 ∨ ∃ k, k < 24 ∧ c.cut = nI k) : CE l g M_S_put d 0 0 [.ref (aS g), .int (nI o)] n (hp g c m) (some (.int (putR c o))) n (hp g (putC c o) m) := by
  have hlv := ct_le c.live 12
  have hlf := lfl_le c 12
  have h8 := stp_le htn
  refine CE.of (by decide +kernel) (lv := [(0, .ref (aS g)), (1, .int (nI o))]) rfl (Nat.le_of_ble_eq_true rfl) ?_
  refine r_iload_n d_S_put_0 1 rfl ?_
  refine rc_S_82 rfl d_S_put_1 (k_S_isObjectN ho) (room_ok (d' := d - 1) (by omega) (by decide)) ⟨Nat.le_refl _, Nat.le_refl _⟩ (Nat.le_of_ble_eq_true rfl) ?_
  refine r_if_neB (tgt := 10) d_S_put_4 (by decide) (fun c4 => ?_) (fun c4 => ?_)
  rotate_left 1
  · exfalso; first | omega | (revert c4; decide) | cases c4
  refine r_aload_n d_S_put_10 0 rfl ?_
  refine rg_S_26 rfl d_S_put_11 gS rfl ?_
  refine r_iload_n d_S_put_14 1 rfl ?_
  refine r_zldB d_S_put_15 gUns (by omega) (by decide) ?_
  refine r_if_eqB (tgt := 22) d_S_put_16 (by decide) (fun c16 => ?_) (fun c16 => ?_)
  · skip
    refine r_aload_n d_S_put_22 0 rfl ?_
    refine rc_S_85 rfl d_S_put_23 (k_S_liveNodes (by omega)) gS (room_ok (d' := d - 1) (by omega) (by decide)) ⟨Nat.le_refl _, Nat.le_refl _⟩ (Nat.le_of_ble_eq_true rfl) ?_
    refine r_bipush (v := nI 9) d_S_put_26 (by decide) ?_
    refine r_icmp_geN (tgt := 34) d_S_put_28 (by decide) (by omega) (by omega) (fun c28 => ?_) (fun c28 => ?_)
    · skip
      refine r_aload_n d_S_put_34 0 rfl ?_
      refine rc_S_89 rfl d_S_put_35 (k_S_leastFreeOfLive (by omega)) gS (room_ok (d' := d - 1) (by omega) (by decide)) ⟨Nat.le_refl _, Nat.le_refl _⟩ (Nat.le_of_ble_eq_true rfl) ?_
      refine r_aload_n d_S_put_38 0 rfl ?_
      refine rg_S_33 rfl d_S_put_39 gS rfl ?_
      refine rc_S_92 rfl d_S_put_42 (k_S_stripesOf (by omega) (by omega)) (room_ok (d' := d - 1) (by omega) (by decide)) ⟨Nat.le_refl _, Nat.le_refl _⟩ (Nat.le_of_ble_eq_true rfl) ?_
      refine r_icmp_geN (tgt := 51) d_S_put_45 (by decide) (by omega) (by omega) (fun c45 => ?_) (fun c45 => ?_)
      · skip
        refine r_aload_n d_S_put_51 0 rfl ?_
        refine rg_S_33 rfl d_S_put_52 gS rfl ?_
        refine r_if_neN (tgt := 61) d_S_put_55 (by decide) (by omega) (fun c55 => ?_) (fun c55 => ?_)
        · skip
          refine r_aload_n d_S_put_61 0 rfl ?_
          refine r_iload_n d_S_put_62 1 rfl ?_
          refine r_aload_n d_S_put_63 0 rfl ?_
          refine rg_S_33 rfl d_S_put_64 gS rfl ?_
          refine rc_S_96 rfl d_S_put_67 (k_S_begin (by omega) ho htn hbg hc hM hT (hf c45) (hz c16) hcut) gS (room_ok (d' := d - 1) (by omega) (by decide)) ⟨Nat.le_refl _, Nat.le_refl _⟩ (Nat.le_of_ble_eq_true rfl) ?_
          refine r_istore_n (lv' := [(0, _), (1, _), (2, _)]) d_S_put_70 (by decide) rfl ?_
          refine r_aload_n d_S_put_71 0 rfl ?_
          refine r_iconst (v := nI 0) d_S_put_72 (by decide) ?_
          refine rp_S_33 rfl d_S_put_73 gS (Nat.le_of_ble_eq_true rfl) rfl (wS_tapeN (v := 0)) ?_
          refine r_iload_n d_S_put_76 2 rfl ?_
          refine r_ireturn d_S_put_77 rfl rfl ⟨?_, rfl, ?_⟩
          · unfold putR; rw [if_neg (by rw [c16]; decide), if_neg (by omega), if_neg (by omega), if_neg c55]
          · exact congrArg (fun z => hp g z m) (if_neg (by rw [c16]; simp; omega)).symm
        · skip
          refine r_bipush (v := (-6)) d_S_put_58 (by decide) ?_
          refine r_ireturn d_S_put_60 rfl rfl ⟨?_, rfl, ?_⟩
          · unfold putR; rw [if_neg (by rw [c16]; decide), if_neg (by omega), if_neg (by omega), if_pos c55]
          · exact congrArg (fun z => hp g z m) (if_pos (Or.inr (Or.inr (Or.inr c55)))).symm
      · skip
        refine r_bipush (v := (-5)) d_S_put_48 (by decide) ?_
        refine r_ireturn d_S_put_50 rfl rfl ⟨?_, rfl, ?_⟩
        · unfold putR; rw [if_neg (by rw [c16]; decide), if_neg (by omega), if_pos c45]
        · exact congrArg (fun z => hp g z m) (if_pos (Or.inr (Or.inr (Or.inl c45)))).symm
    · skip
      refine r_bipush (v := (-4)) d_S_put_31 (by decide) ?_
      refine r_ireturn d_S_put_33 rfl rfl ⟨?_, rfl, ?_⟩
      · unfold putR; rw [if_neg (by rw [c16]; decide), if_pos c28]
      · exact congrArg (fun z => hp g z m) (if_pos (Or.inr (Or.inl c28))).symm
  · skip
    refine r_bipush (v := (-3)) d_S_put_19 (by decide) ?_
    refine r_ireturn d_S_put_21 rfl rfl ⟨?_, rfl, ?_⟩
    · unfold putR; rw [if_pos c16]
    · exact congrArg (fun z => hp g z m) (if_pos (Or.inl c16)).symm
theorem k_S_remove {l : Launch} {g : GX} {c : CS} {m : MS} {n d : Nat} (hd : 7 ≤ d) {o : Nat} (ho : o < 6) (hbg : c.begun o < 65535) (hc : CI c) (hM : BM c.mat) (hT : B1 c.tape) (hz : c.unst o = false → ∀ i, i < 12 → c.live i = true → c.hstr i (sp c i o) = 0) (hcut : c.cut = -1 ∨ ∃ k, k < 24 ∧ c.cut = nI k) : CE l g M_S_remove d 0 0 [.ref (aS g), .int (nI o)] n (hp g c m) (some (.int (remR c o))) n (hp g (remC c o) m) := by
  have hlv := ct_le c.live 12
  refine CE.of (by decide +kernel) (lv := [(0, .ref (aS g)), (1, .int (nI o))]) rfl (Nat.le_of_ble_eq_true rfl) ?_
  refine r_iload_n d_S_remove_0 1 rfl ?_
  refine rc_S_82 rfl d_S_remove_1 (k_S_isObjectN ho) (room_ok (d' := d - 1) (by omega) (by decide)) ⟨Nat.le_refl _, Nat.le_refl _⟩ (Nat.le_of_ble_eq_true rfl) ?_
  refine r_if_neB (tgt := 10) d_S_remove_4 (by decide) (fun c4 => ?_) (fun c4 => ?_)
  rotate_left 1
  · exfalso; first | omega | (revert c4; decide) | cases c4
  refine r_aload_n d_S_remove_10 0 rfl ?_
  refine rg_S_26 rfl d_S_remove_11 gS rfl ?_
  refine r_iload_n d_S_remove_14 1 rfl ?_
  refine r_zldB d_S_remove_15 gUns (by omega) (by decide) ?_
  refine r_if_eqB (tgt := 22) d_S_remove_16 (by decide) (fun c16 => ?_) (fun c16 => ?_)
  · skip
    refine r_aload_n d_S_remove_22 0 rfl ?_
    refine rc_S_85 rfl d_S_remove_23 (k_S_liveNodes (by omega)) gS (room_ok (d' := d - 1) (by omega) (by decide)) ⟨Nat.le_refl _, Nat.le_refl _⟩ (Nat.le_of_ble_eq_true rfl) ?_
    refine r_bipush (v := nI 9) d_S_remove_26 (by decide) ?_
    refine r_icmp_geN (tgt := 36) d_S_remove_28 (by decide) (by omega) (by omega) (fun c28 => ?_) (fun c28 => ?_)
    · skip
      refine r_aload_n d_S_remove_36 0 rfl ?_
      refine r_iload_n d_S_remove_37 1 rfl ?_
      refine r_iconst (v := nI 0) d_S_remove_38 (by decide) ?_
      refine rc_S_96 rfl d_S_remove_39 (k_S_begin (by omega) ho (by decide) hbg hc hM hT (fun i _ _ k hk => absurd hk (by unfold stp; omega)) (hz c16) hcut) gS (room_ok (d' := d - 1) (by omega) (by decide)) ⟨Nat.le_refl _, Nat.le_refl _⟩ (Nat.le_of_ble_eq_true rfl) ?_
      refine r_ireturn d_S_remove_42 rfl rfl ⟨?_, rfl, ?_⟩
      · first | (unfold remR; rw [if_neg (by rw [c16]; decide), if_pos c28]; done) | (unfold remR; rw [if_neg (by rw [c16]; decide), if_neg (by omega)])
      · first | exact congrArg (fun z => hp g z m) (if_pos (Or.inr c28)).symm | exact congrArg (fun z => hp g z m) (if_neg (by rw [c16]; simp; omega)).symm
    · skip
      refine r_bipush (v := (-4)) d_S_remove_31 (by decide) ?_
      refine r_goto (tgt := 42) d_S_remove_33 (by decide) ?_
      refine r_ireturn d_S_remove_42 rfl rfl ⟨?_, rfl, ?_⟩
      · first | (unfold remR; rw [if_neg (by rw [c16]; decide), if_pos c28]; done) | (unfold remR; rw [if_neg (by rw [c16]; decide), if_neg (by omega)])
      · first | exact congrArg (fun z => hp g z m) (if_pos (Or.inr c28)).symm | exact congrArg (fun z => hp g z m) (if_neg (by rw [c16]; simp; omega)).symm
  · skip
    refine r_bipush (v := (-3)) d_S_remove_19 (by decide) ?_
    refine r_ireturn d_S_remove_21 rfl rfl ⟨?_, rfl, ?_⟩
    · unfold remR; rw [if_pos c16]
    · exact congrArg (fun z => hp g z m) (if_pos (Or.inl c16)).symm
def stO (X : CS) (o : Nat) (t : Bool) (i : Nat) : CS := if X.live i = true ∧ X.hver i (sp X i o) = X.begun o then (if t = true then flC X i o else guC X i (sp X i o)) else X
def stL (c : CS) (o : Nat) (t : Bool) : Nat → CS
  | 0 => c
  | i + 1 => stO (stL c o t i) o t i
theorem stO_CI {X : CS} {o i : Nat} {t : Bool} (h : CI X) : CI (stO X o t i) := by
  unfold stO
  split
  · split
    · exact CI_fl h
    · exact CI_gu h
  · exact h
theorem stL_CI {c : CS} {o : Nat} {t : Bool} (h : CI c) : ∀ i, CI (stL c o t i)
  | 0 => h
  | i + 1 => stO_CI (stL_CI h i)
theorem stO_begun (X : CS) (o : Nat) (t : Bool) (i : Nat) : (stO X o t i).begun = X.begun := by
  unfold stO
  split
  · split <;> rfl
  · rfl
theorem stL_begun (c : CS) (o : Nat) (t : Bool) : ∀ i, (stL c o t i).begun = c.begun
  | 0 => rfl
  | i + 1 => (stO_begun _ o t i).trans (stL_begun c o t i)
def seC (c : CS) (o : Nat) : CS := (stL c o (snr c o (c.begun o)) 12).s_unst (upN (stL c o (snr c o (c.begun o)) 12).unst o false)
theorem k_S_settle_no {l : Launch} {g : GX} {c : CS} {m : MS} {n d : Nat} (hd : 1 ≤ d) {o : Nat} (ho : o < 6) (h : c.unst o = false) : CE l g M_S_settle d 0 0 [.ref (aS g), .int (nI o)] n (hp g c m) (some (.int ((-3)))) n (hp g c m) := by
  refine CE.of (by decide +kernel) (lv := [(0, .ref (aS g)), (1, .int (nI o))]) rfl (Nat.le_of_ble_eq_true rfl) ?_
  refine r_iload_n d_S_settle_0 1 rfl ?_
  refine rc_S_82 rfl d_S_settle_1 (k_S_isObjectN ho) (room_ok (d' := d - 1) (by omega) (by decide)) ⟨Nat.le_refl _, Nat.le_refl _⟩ (Nat.le_of_ble_eq_true rfl) ?_
  refine r_if_neB (tgt := 10) d_S_settle_4 (by decide) (fun c4 => ?_) (fun c4 => ?_)
  rotate_left 1
  · exfalso; first | omega | (revert c4; decide) | cases c4
  refine r_aload_n d_S_settle_10 0 rfl ?_
  refine rg_S_26 rfl d_S_settle_11 gS rfl ?_
  refine r_iload_n d_S_settle_14 1 rfl ?_
  refine r_zldB d_S_settle_15 gUns (by omega) (by decide) ?_
  refine r_if_neB (tgt := 22) d_S_settle_16 (by decide) (fun c16 => ?_) (fun c16 => ?_)
  · exact absurd (h.symm.trans c16) (by decide)
  refine r_bipush (v := (-3)) d_S_settle_19 (by decide) ?_
  refine r_ireturn d_S_settle_21 rfl rfl ⟨?_, rfl, ?_⟩
  · rfl
  · rfl
theorem k_S_settle {l : Launch} {g : GX} {c : CS} {m : MS} {n d : Nat} (hd : 5 ≤ d) {o : Nat} (ho : o < 6) (hbg : c.begun o < 65536) (hc : CI c) (h : c.unst o = true) : CE l g M_S_settle d 0 0 [.ref (aS g), .int (nI o)] n (hp g c m) (some (.int (b2 (snr c o (c.begun o))))) n (hp g (seC c o) m) := by
  refine CE.of (by decide +kernel) (lv := [(0, .ref (aS g)), (1, .int (nI o))]) rfl (Nat.le_of_ble_eq_true rfl) ?_
  refine r_iload_n d_S_settle_0 1 rfl ?_
  refine rc_S_82 rfl d_S_settle_1 (k_S_isObjectN ho) (room_ok (d' := d - 1) (by omega) (by decide)) ⟨Nat.le_refl _, Nat.le_refl _⟩ (Nat.le_of_ble_eq_true rfl) ?_
  refine r_if_neB (tgt := 10) d_S_settle_4 (by decide) (fun c4 => ?_) (fun c4 => ?_)
  rotate_left 1
  · exfalso; first | omega | (revert c4; decide) | cases c4
  refine r_aload_n d_S_settle_10 0 rfl ?_
  refine rg_S_26 rfl d_S_settle_11 gS rfl ?_
  refine r_iload_n d_S_settle_14 1 rfl ?_
  refine r_zldB d_S_settle_15 gUns (by omega) (by decide) ?_
  refine r_if_neB (tgt := 22) d_S_settle_16 (by decide) (fun c16 => ?_) (fun c16 => ?_)
  rotate_left 1
  · exact absurd (h.symm.trans c16) (by decide)
  refine r_aload_n d_S_settle_22 0 rfl ?_
  refine r_iload_n d_S_settle_23 1 rfl ?_
  refine r_aload_n d_S_settle_24 0 rfl ?_
  refine rg_S_22 rfl d_S_settle_25 gS rfl ?_
  refine r_iload_n d_S_settle_28 1 rfl ?_
  refine r_aldN d_S_settle_29 gBeg (by omega) (by decide) ?_
  refine rc_S_99 rfl d_S_settle_30 (k_S_someNodeRecords (by omega) ho hbg hc) gS (room_ok (d' := d - 1) (by omega) (by decide)) ⟨Nat.le_refl _, Nat.le_refl _⟩ (Nat.le_of_ble_eq_true rfl) ?_
  refine r_istore_n (lv' := [(0, _), (1, _), (2, _)]) d_S_settle_33 (by decide) rfl ?_
  refine r_heap (h' := hp g (stL c o (snr c o (c.begun o)) 0) m) rfl ?_
  refine r_iconst (v := nI 0) d_S_settle_34 (by decide) ?_
  refine r_istore_n (lv' := [(0, _), (1, _), (2, _), (3, _)]) d_S_settle_35 (by decide) rfl ?_
  refine r_less (lv' := [(0, .ref (aS g)), (1, .int (nI o)), (2, .int (b2 (snr c o (c.begun o)))), (3, .int (nI 0))]) (by simp) ?_
  refine back_ind (n := 12) (G := fun i => RJ l g M_S_settle (RMX d 0 0) (TQ g 0 0 (QE (some (.int (b2 (snr c o (c.begun o))))) n (hp g (seC c o) m))) XT n (hp g (stL c o (snr c o (c.begun o)) i) m) 0 0 36 [(0, .ref (aS g)), (1, .int (nI o)), (2, .int (b2 (snr c o (c.begun o)))), (3, .int (nI i))] []) ?_ ?_ 0 (Nat.zero_le _)
  · skip
    refine r_iload_n d_S_settle_36 3 rfl ?_
    refine r_bipush (v := nI 12) d_S_settle_37 (by decide) ?_
    refine r_icmp_geN (tgt := 108) d_S_settle_39 (by decide) (by omega) (by omega) (fun c39 => ?_) (fun c39 => ?_)
    rotate_left 1
    · exfalso; first | omega | (revert c39; decide) | cases c39
    refine r_aload_n d_S_settle_108 0 rfl ?_
    refine rg_S_26 rfl d_S_settle_109 gS rfl ?_
    refine r_iload_n d_S_settle_112 1 rfl ?_
    refine r_iconst (v := nI 0) d_S_settle_113 (by decide) ?_
    refine r_zast (b := false) d_S_settle_114 rfl gUns (by omega) (by decide) (wunst) ?_
    refine r_iload_n d_S_settle_115 2 rfl ?_
    refine r_if_eqB (tgt := 123) d_S_settle_116 (by decide) (fun c116 => ?_) (fun c116 => ?_)
    · skip
      refine r_iconst (v := nI 0) d_S_settle_123 (by decide) ?_
      refine r_ireturn d_S_settle_124 rfl rfl ⟨?_, rfl, ?_⟩
      · first | exact vb1 c116 | exact vb0 c116
      · rfl
    · skip
      refine r_iconst (v := nI 1) d_S_settle_119 (by decide) ?_
      refine r_goto (tgt := 124) d_S_settle_120 (by decide) ?_
      refine r_ireturn d_S_settle_124 rfl rfl ⟨?_, rfl, ?_⟩
      · first | exact vb1 c116 | exact vb0 c116
      · rfl
  · intro i hb_i ih_i
    have hci : CI (stL c o (snr c o (c.begun o)) i) := stL_CI hc i
    have hbi := stL_begun c o (snr c o (c.begun o)) i
    have hq2 := sp_lt (c := stL c o (snr c o (c.begun o)) i) (i := i) ho
    have hh1 := (hci i (sp (stL c o (snr c o (c.begun o)) i) i o)).2.1
    have hh2 : (stL c o (snr c o (c.begun o)) i).begun o < 65536 := by rw [hbi]; exact hbg
    refine r_iload_n d_S_settle_36 3 rfl ?_
    refine r_bipush (v := nI 12) d_S_settle_37 (by decide) ?_
    refine r_icmp_geN (tgt := 108) d_S_settle_39 (by decide) (by omega) (by omega) (fun c39 => ?_) (fun c39 => ?_)
    · exfalso; first | omega | (revert c39; decide) | cases c39
    refine r_aload_n d_S_settle_42 0 rfl ?_
    refine rg_S_18 rfl d_S_settle_43 gS rfl ?_
    refine r_iload_n d_S_settle_46 3 rfl ?_
    refine r_qld (t := 2) rfl d_S_settle_47 gNodes (by omega) (by decide) rfl ?_
    refine r_astore (lv' := [(0, _), (1, _), (2, _), (3, _), (4, _)]) d_S_settle_48 (by decide) rfl ?_
    refine r_aload d_S_settle_50 4 rfl ?_
    refine rg_S_103 rfl d_S_settle_52 (gN (i := i) (by omega)) rfl ?_
    refine r_if_eqB (tgt := 102) d_S_settle_55 (by decide) (fun c55 => ?_) (fun c55 => ?_)
    · skip
      have hst : stL c o (snr c o (c.begun o)) (i + 1) = stL c o (snr c o (c.begun o)) i := if_neg (fun q => absurd (q.1.symm.trans c55) (by decide))
      refine r_iincN (lv' := [(0, _), (1, _), (2, _), (3, _), (4, _)]) d_S_settle_102 3 rfl (by decide) rfl ?_
      refine r_goto (tgt := 36) d_S_settle_105 (by decide) ?_
      refine r_less (lv' := [(0, .ref (aS g)), (1, .int (nI o)), (2, .int (b2 (snr c o (c.begun o)))), (3, .int (nI (i + 1)))]) (by simp) ?_
      exact r_at ih_i (congrArg (fun z => hp g z m) hst.symm) rfl rfl
    · skip
      refine r_aload d_S_settle_58 4 rfl ?_
      refine rg_S_107 rfl d_S_settle_60 (gN (i := i) (by omega)) rfl ?_
      refine r_iload_n d_S_settle_63 1 rfl ?_
      refine r_qld (t := 3) rfl d_S_settle_64 (gSh (i := i) (by omega)) (by omega) (by decide) rfl ?_
      refine rg_S_111 rfl d_S_settle_65 (gH (i := i) (p := sp (stL c o (snr c o (c.begun o)) i) i o) (by omega) (by omega)) rfl ?_
      refine r_aload_n d_S_settle_68 0 rfl ?_
      refine rg_S_22 rfl d_S_settle_69 gS rfl ?_
      refine r_iload_n d_S_settle_72 1 rfl ?_
      refine r_aldN d_S_settle_73 gBeg (by omega) (by decide) ?_
      refine r_icmp_neN (tgt := 102) d_S_settle_74 (by decide) (by omega) (by omega) (fun c74 => ?_) (fun c74 => ?_)
      · skip
        have hst : stL c o (snr c o (c.begun o)) (i + 1) = stL c o (snr c o (c.begun o)) i := if_neg (fun q => c74 q.2)
        refine r_iincN (lv' := [(0, _), (1, _), (2, _), (3, _), (4, _)]) d_S_settle_102 3 rfl (by decide) rfl ?_
        refine r_goto (tgt := 36) d_S_settle_105 (by decide) ?_
        refine r_less (lv' := [(0, .ref (aS g)), (1, .int (nI o)), (2, .int (b2 (snr c o (c.begun o)))), (3, .int (nI (i + 1)))]) (by simp) ?_
        exact r_at ih_i (congrArg (fun z => hp g z m) hst.symm) rfl rfl
      · skip
        refine r_iload_n d_S_settle_77 2 rfl ?_
        refine r_if_eqB (tgt := 90) d_S_settle_78 (by decide) (fun c78 => ?_) (fun c78 => ?_)
        · skip
          have hst : stL c o (snr c o (c.begun o)) (i + 1) = guC (stL c o (snr c o (c.begun o)) i) i (sp (stL c o (snr c o (c.begun o)) i) i o) := (if_pos ⟨c55, c74⟩).trans (if_neg (by rw [c78]; decide))
          refine r_aload d_S_settle_90 4 rfl ?_
          refine r_aload d_S_settle_92 4 rfl ?_
          refine rg_S_107 rfl d_S_settle_94 (gN (i := i) (by omega)) rfl ?_
          refine r_iload_n d_S_settle_97 1 rfl ?_
          refine r_qld (t := 3) rfl d_S_settle_98 (gSh (i := i) (by omega)) (by omega) (by decide) rfl ?_
          refine rc_S_120 rfl d_S_settle_99 (k_N_giveUp (c := stL c o (snr c o (c.begun o)) i) (by omega) hb_i hq2 hci) (gN (i := i) (by omega)) (room_ok (d' := d - 1) (by omega) (by decide)) ⟨Nat.le_refl _, Nat.le_refl _⟩ (Nat.le_of_ble_eq_true rfl) ?_
          refine r_iincN (lv' := [(0, _), (1, _), (2, _), (3, _), (4, _)]) d_S_settle_102 3 rfl (by decide) rfl ?_
          refine r_goto (tgt := 36) d_S_settle_105 (by decide) ?_
          refine r_less (lv' := [(0, .ref (aS g)), (1, .int (nI o)), (2, .int (b2 (snr c o (c.begun o)))), (3, .int (nI (i + 1)))]) (by simp) ?_
          exact r_at ih_i (congrArg (fun z => hp g z m) hst.symm) rfl rfl
        · skip
          have hst : stL c o (snr c o (c.begun o)) (i + 1) = flC (stL c o (snr c o (c.begun o)) i) i o := (if_pos ⟨c55, c74⟩).trans (if_pos c78)
          refine r_aload d_S_settle_81 4 rfl ?_
          refine r_iload_n d_S_settle_83 1 rfl ?_
          refine rc_S_116 rfl d_S_settle_84 (k_N_flip (c := stL c o (snr c o (c.begun o)) i) (by omega) hb_i ho hci) (gN (i := i) (by omega)) (room_ok (d' := d - 1) (by omega) (by decide)) ⟨Nat.le_refl _, Nat.le_refl _⟩ (Nat.le_of_ble_eq_true rfl) ?_
          refine r_goto (tgt := 102) d_S_settle_87 (by decide) ?_
          refine r_iincN (lv' := [(0, _), (1, _), (2, _), (3, _), (4, _)]) d_S_settle_102 3 rfl (by decide) rfl ?_
          refine r_goto (tgt := 36) d_S_settle_105 (by decide) ?_
          refine r_less (lv' := [(0, .ref (aS g)), (1, .int (nI o)), (2, .int (b2 (snr c o (c.begun o)))), (3, .int (nI (i + 1)))]) (by simp) ?_
          exact r_at ih_i (congrArg (fun z => hp g z m) hst.symm) rfl rfl
theorem k_S_get_no {l : Launch} {g : GX} {c : CS} {m : MS} {n d : Nat} (hd : 1 ≤ d) {o : Nat} {y : Int32} (ho : o < 6) (h : c.unst o = true) : CE l g M_S_get d 0 0 [.ref (aS g), .int (nI o), .int y] n (hp g c m) (some (.int ((-3)))) n (hp g c m) := by
  refine CE.of (by decide +kernel) (lv := [(0, .ref (aS g)), (1, .int (nI o)), (2, .int y)]) rfl (Nat.le_of_ble_eq_true rfl) ?_
  refine r_iload_n d_S_get_0 1 rfl ?_
  refine rc_S_82 rfl d_S_get_1 (k_S_isObjectN ho) (room_ok (d' := d - 1) (by omega) (by decide)) ⟨Nat.le_refl _, Nat.le_refl _⟩ (Nat.le_of_ble_eq_true rfl) ?_
  refine r_if_neB (tgt := 10) d_S_get_4 (by decide) (fun c4 => ?_) (fun c4 => ?_)
  rotate_left 1
  · exfalso; first | omega | (revert c4; decide) | cases c4
  refine r_aload_n d_S_get_10 0 rfl ?_
  refine rg_S_26 rfl d_S_get_11 gS rfl ?_
  refine r_iload_n d_S_get_14 1 rfl ?_
  refine r_zldB d_S_get_15 gUns (by omega) (by decide) ?_
  refine r_if_eqB (tgt := 22) d_S_get_16 (by decide) (fun c16 => ?_) (fun c16 => ?_)
  · exact absurd (h.symm.trans c16) (by decide)
  refine r_bipush (v := (-3)) d_S_get_19 (by decide) ?_
  refine r_ireturn d_S_get_21 rfl rfl ⟨?_, rfl, ?_⟩
  · rfl
  · rfl
def gc1 (c : CS) (o : Nat) (x : Int32) : CS := c.s_chos (chF (selN c o x) c.chos 5 12)
theorem k_S_getFew {l : Launch} {g : GX} {c : CS} {m : MS} {n d : Nat} (hd : 5 ≤ d) {o : Nat} {x : Int32} (ho : o < 6) (hc : CI c) (h : c.unst o = false) (hs : ct (selN c o x) 12 < 5) : CE l g M_S_get d 0 0 [.ref (aS g), .int (nI o), .int x] n (hp g c m) (some (.int (-4))) n (hp g (gc1 c o x) m) := by
  refine CE.of (by decide +kernel) (lv := [(0, .ref (aS g)), (1, .int (nI o)), (2, .int x)]) rfl (Nat.le_of_ble_eq_true rfl) ?_
  refine r_iload_n d_S_get_0 1 rfl ?_
  refine rc_S_82 rfl d_S_get_1 (k_S_isObjectN ho) (room_ok (d' := d - 1) (by omega) (by decide)) ⟨Nat.le_refl _, Nat.le_refl _⟩ (Nat.le_of_ble_eq_true rfl) ?_
  refine r_if_neB (tgt := 10) d_S_get_4 (by decide) (fun c4 => ?_) (fun c4 => ?_)
  rotate_left 1
  · exfalso; first | omega | (revert c4; decide) | cases c4
  refine r_aload_n d_S_get_10 0 rfl ?_
  refine rg_S_26 rfl d_S_get_11 gS rfl ?_
  refine r_iload_n d_S_get_14 1 rfl ?_
  refine r_zldB d_S_get_15 gUns (by omega) (by decide) ?_
  refine r_if_eqB (tgt := 22) d_S_get_16 (by decide) (fun c16 => ?_) (fun c16 => ?_)
  rotate_left 1
  · exact absurd (h.symm.trans c16) (by decide)
  refine r_aload_n d_S_get_22 0 rfl ?_
  refine r_iload_n d_S_get_23 1 rfl ?_
  refine r_iload_n d_S_get_24 2 rfl ?_
  refine rc_S_124 rfl d_S_get_25 (k_S_chooseLeastNumbers (by omega) ho hc) gS (room_ok (d' := d - 1) (by omega) (by decide)) ⟨Nat.le_refl _, Nat.le_refl _⟩ (Nat.le_of_ble_eq_true rfl) ?_
  refine r_iconst (v := nI 5) d_S_get_28 (by decide) ?_
  refine r_icmp_geN (tgt := 35) d_S_get_29 (by decide) (by omega) (by omega) (fun c29 => ?_) (fun c29 => ?_)
  · exfalso; first | omega | (revert c29; decide) | cases c29
  refine r_bipush (v := (-4)) d_S_get_32 (by decide) ?_
  refine r_ireturn d_S_get_34 rfl rfl ⟨?_, rfl, ?_⟩
  · rfl
  · rfl
theorem k_S_getEmpty {l : Launch} {g : GX} {c : CS} {m : MS} {n d : Nat} (hd : 5 ≤ d) {o : Nat} {x : Int32} (ho : o < 6) (hc : CI c) (h : c.unst o = false) (hs : 5 ≤ ct (selN c o x) 12) (h0 : nbS c o = 0) : CE l g M_S_get d 0 0 [.ref (aS g), .int (nI o), .int x] n (hp g c m) (some (.int (-6))) n (hp g (gc1 c o x) m) := by
  refine CE.of (by decide +kernel) (lv := [(0, .ref (aS g)), (1, .int (nI o)), (2, .int x)]) rfl (Nat.le_of_ble_eq_true rfl) ?_
  refine r_iload_n d_S_get_0 1 rfl ?_
  refine rc_S_82 rfl d_S_get_1 (k_S_isObjectN ho) (room_ok (d' := d - 1) (by omega) (by decide)) ⟨Nat.le_refl _, Nat.le_refl _⟩ (Nat.le_of_ble_eq_true rfl) ?_
  refine r_if_neB (tgt := 10) d_S_get_4 (by decide) (fun c4 => ?_) (fun c4 => ?_)
  rotate_left 1
  · exfalso; first | omega | (revert c4; decide) | cases c4
  refine r_aload_n d_S_get_10 0 rfl ?_
  refine rg_S_26 rfl d_S_get_11 gS rfl ?_
  refine r_iload_n d_S_get_14 1 rfl ?_
  refine r_zldB d_S_get_15 gUns (by omega) (by decide) ?_
  refine r_if_eqB (tgt := 22) d_S_get_16 (by decide) (fun c16 => ?_) (fun c16 => ?_)
  rotate_left 1
  · exact absurd (h.symm.trans c16) (by decide)
  refine r_aload_n d_S_get_22 0 rfl ?_
  refine r_iload_n d_S_get_23 1 rfl ?_
  refine r_iload_n d_S_get_24 2 rfl ?_
  refine rc_S_124 rfl d_S_get_25 (k_S_chooseLeastNumbers (by omega) ho hc) gS (room_ok (d' := d - 1) (by omega) (by decide)) ⟨Nat.le_refl _, Nat.le_refl _⟩ (Nat.le_of_ble_eq_true rfl) ?_
  refine r_iconst (v := nI 5) d_S_get_28 (by decide) ?_
  refine r_icmp_geN (tgt := 35) d_S_get_29 (by decide) (by omega) (by omega) (fun c29 => ?_) (fun c29 => ?_)
  rotate_left 1
  · exfalso; first | omega | (revert c29; decide) | cases c29
  refine r_aload_n d_S_get_35 0 rfl ?_
  refine r_iload_n d_S_get_36 1 rfl ?_
  refine rc_S_127 rfl d_S_get_37 (k_S_newestBytes (c := gc1 c o x) (by omega) ho hc) gS (room_ok (d' := d - 1) (by omega) (by decide)) ⟨Nat.le_refl _, Nat.le_refl _⟩ (Nat.le_of_ble_eq_true rfl) ?_
  refine r_top (y := nI (nbS c o)) (congrArg nI (nbS_eq (c := c) (c' := gc1 c o x) rfl rfl rfl rfl)) ?_
  refine r_istore_n (lv' := [(0, _), (1, _), (2, _), (3, _)]) d_S_get_40 (by decide) rfl ?_
  refine r_iload_n d_S_get_41 3 rfl ?_
  refine r_if_neN (tgt := 48) d_S_get_42 (by decide) (by omega) (fun c42 => ?_) (fun c42 => ?_)
  · exfalso; first | omega | (revert c42; decide) | cases c42
  refine r_bipush (v := (-6)) d_S_get_45 (by decide) ?_
  refine r_ireturn d_S_get_47 rfl rfl ⟨?_, rfl, ?_⟩
  · rfl
  · rfl
theorem k_S_get {l : Launch} {g : GX} {c : CS} {m : MS} {n d : Nat} (hd : 5 ≤ d) {o : Nat} {x : Int32} (ho : o < 6) (hc : CI c) (h : c.unst o = false) (hs : 5 ≤ ct (selN c o x) 12) (h0 : 0 < nbS c o) (ha : nbS c o ≤ 240) (hch : ∀ k, k < 5 → (gc1 c o x).chos k < 12) (hst : ∀ k, k < 5 → rstr (gc1 c o x) ((gc1 c o x).chos k) o = stp (nbS c o) ∧ TKok (gc1 c o x) ((gc1 c o x).chos k) (rp (gc1 c o x) ((gc1 c o x).chos k) o)) (h1 : BM c.squ) (hB : BC c) : CE l g M_S_get d 0 0 [.ref (aS g), .int (nI o), .int x] n (hp g c m) (some (.int (nI (nbS c o)))) n (hp g ((dcC (gc1 c o x) o (nbS c o)).s_gotN (nbS c o)) m) := by
  refine CE.of (by decide +kernel) (lv := [(0, .ref (aS g)), (1, .int (nI o)), (2, .int x)]) rfl (Nat.le_of_ble_eq_true rfl) ?_
  refine r_iload_n d_S_get_0 1 rfl ?_
  refine rc_S_82 rfl d_S_get_1 (k_S_isObjectN ho) (room_ok (d' := d - 1) (by omega) (by decide)) ⟨Nat.le_refl _, Nat.le_refl _⟩ (Nat.le_of_ble_eq_true rfl) ?_
  refine r_if_neB (tgt := 10) d_S_get_4 (by decide) (fun c4 => ?_) (fun c4 => ?_)
  rotate_left 1
  · exfalso; first | omega | (revert c4; decide) | cases c4
  refine r_aload_n d_S_get_10 0 rfl ?_
  refine rg_S_26 rfl d_S_get_11 gS rfl ?_
  refine r_iload_n d_S_get_14 1 rfl ?_
  refine r_zldB d_S_get_15 gUns (by omega) (by decide) ?_
  refine r_if_eqB (tgt := 22) d_S_get_16 (by decide) (fun c16 => ?_) (fun c16 => ?_)
  rotate_left 1
  · exact absurd (h.symm.trans c16) (by decide)
  refine r_aload_n d_S_get_22 0 rfl ?_
  refine r_iload_n d_S_get_23 1 rfl ?_
  refine r_iload_n d_S_get_24 2 rfl ?_
  refine rc_S_124 rfl d_S_get_25 (k_S_chooseLeastNumbers (by omega) ho hc) gS (room_ok (d' := d - 1) (by omega) (by decide)) ⟨Nat.le_refl _, Nat.le_refl _⟩ (Nat.le_of_ble_eq_true rfl) ?_
  refine r_iconst (v := nI 5) d_S_get_28 (by decide) ?_
  refine r_icmp_geN (tgt := 35) d_S_get_29 (by decide) (by omega) (by omega) (fun c29 => ?_) (fun c29 => ?_)
  rotate_left 1
  · exfalso; first | omega | (revert c29; decide) | cases c29
  refine r_aload_n d_S_get_35 0 rfl ?_
  refine r_iload_n d_S_get_36 1 rfl ?_
  refine rc_S_127 rfl d_S_get_37 (k_S_newestBytes (c := gc1 c o x) (by omega) ho hc) gS (room_ok (d' := d - 1) (by omega) (by decide)) ⟨Nat.le_refl _, Nat.le_refl _⟩ (Nat.le_of_ble_eq_true rfl) ?_
  refine r_top (y := nI (nbS c o)) (congrArg nI (nbS_eq (c := c) (c' := gc1 c o x) rfl rfl rfl rfl)) ?_
  refine r_istore_n (lv' := [(0, _), (1, _), (2, _), (3, _)]) d_S_get_40 (by decide) rfl ?_
  refine r_iload_n d_S_get_41 3 rfl ?_
  refine r_if_neN (tgt := 48) d_S_get_42 (by decide) (by omega) (fun c42 => ?_) (fun c42 => ?_)
  rotate_left 1
  · exfalso; first | omega | (revert c42; decide) | cases c42
  refine r_aload_n d_S_get_48 0 rfl ?_
  refine r_iload_n d_S_get_49 1 rfl ?_
  refine r_iload_n d_S_get_50 3 rfl ?_
  refine rc_S_130 rfl d_S_get_51 (k_S_decode (c := gc1 c o x) (by omega) ho ha hc hch hst h1 hB) gS (room_ok (d' := d - 1) (by omega) (by decide)) ⟨Nat.le_refl _, Nat.le_refl _⟩ (Nat.le_of_ble_eq_true rfl) ?_
  refine r_aload_n d_S_get_54 0 rfl ?_
  refine r_iload_n d_S_get_55 3 rfl ?_
  refine rp_S_40 rfl d_S_get_56 gS (Nat.le_of_ble_eq_true rfl) rfl (wS_gotN (v := nbS c o)) ?_
  refine r_iload_n d_S_get_59 3 rfl ?_
  refine r_ireturn d_S_get_60 rfl rfl ⟨?_, rfl, ?_⟩
  · rfl
  · rfl
theorem k_S_got_no {l : Launch} {g : GX} {c : CS} {m : MS} {n d : Nat} (hd : 1 ≤ d) {x : Int32} (h : inR x c.gotN = false) : CE l g M_S_got d 0 0 [.ref (aS g), .int x] n (hp g c m) (some (.int ((-1)))) n (hp g c m) := by
  refine CE.of (by decide +kernel) (lv := [(0, .ref (aS g)), (1, .int x)]) rfl (Nat.le_of_ble_eq_true rfl) ?_
  refine r_iload_n d_S_got_0 1 rfl ?_
  refine r_if_lt (tgt := 21) d_S_got_1 (by decide) (fun c1 => ?_) (fun c1 => ?_)
  · skip
    refine r_iconst (v := (-1)) d_S_got_21 (by decide) ?_
    refine r_ireturn d_S_got_22 rfl rfl ⟨?_, rfl, ?_⟩
    · rfl
    · rfl
  · skip
    refine r_iload_n d_S_got_4 1 rfl ?_
    refine r_aload_n d_S_got_5 0 rfl ?_
    refine rg_S_40 rfl d_S_got_6 gS rfl ?_
    refine r_icmp_ge (tgt := 21) d_S_got_9 (by decide) (fun c9 => ?_) (fun c9 => ?_)
    rotate_left 1
    · exfalso; simp [inR_t c1 (Int32.not_le.mp c9)] at h
    refine r_iconst (v := (-1)) d_S_got_21 (by decide) ?_
    refine r_ireturn d_S_got_22 rfl rfl ⟨?_, rfl, ?_⟩
    · rfl
    · rfl
theorem k_S_got {l : Launch} {g : GX} {c : CS} {m : MS} {n d : Nat} (hd : 1 ≤ d) {i : Nat} (hi : i < c.gotN) (hg : c.gotN ≤ 240) : CE l g M_S_got d 0 0 [.ref (aS g), .int (nI i)] n (hp g c m) (some (.int (nI (c.gott i)))) n (hp g c m) := by
  refine CE.of (by decide +kernel) (lv := [(0, .ref (aS g)), (1, .int (nI i))]) rfl (Nat.le_of_ble_eq_true rfl) ?_
  refine r_iload_n d_S_got_0 1 rfl ?_
  refine r_if_ltN (tgt := 21) d_S_got_1 (by decide) (by omega) (fun c1 => ?_) (fun c1 => ?_)
  · exfalso; first | omega | (revert c1; decide) | cases c1
  refine r_iload_n d_S_got_4 1 rfl ?_
  refine r_aload_n d_S_got_5 0 rfl ?_
  refine rg_S_40 rfl d_S_got_6 gS rfl ?_
  refine r_icmp_geN (tgt := 21) d_S_got_9 (by decide) (by omega) (by omega) (fun c9 => ?_) (fun c9 => ?_)
  · exfalso; first | omega | (revert c9; decide) | cases c9
  refine r_aload_n d_S_got_12 0 rfl ?_
  refine rg_S_37 rfl d_S_got_13 gS rfl ?_
  refine r_iload_n d_S_got_16 1 rfl ?_
  refine r_aldN d_S_got_17 gGot (by omega) (by decide) ?_
  refine r_goto (tgt := 22) d_S_got_18 (by decide) ?_
  refine r_ireturn d_S_got_22 rfl rfl ⟨?_, rfl, ?_⟩
  · rfl
  · rfl
theorem k_S_version {l : Launch} {g : GX} {c : CS} {m : MS} {n d : Nat} (hd : 3 ≤ d) {o : Nat} (ho : o < 6) (hc : CI c) : CE l g M_S_version d 0 0 [.ref (aS g), .int (nI o)] n (hp g c m) (some (.int (nI (nw c o)))) n (hp g c m) := by
  refine CE.of (by decide +kernel) (lv := [(0, .ref (aS g)), (1, .int (nI o))]) rfl (Nat.le_of_ble_eq_true rfl) ?_
  refine r_iload_n d_S_version_0 1 rfl ?_
  refine rc_S_82 rfl d_S_version_1 (k_S_isObjectN ho) (room_ok (d' := d - 1) (by omega) (by decide)) ⟨Nat.le_refl _, Nat.le_refl _⟩ (Nat.le_of_ble_eq_true rfl) ?_
  refine r_if_eqB (tgt := 15) d_S_version_4 (by decide) (fun c4 => ?_) (fun c4 => ?_)
  · exfalso; first | omega | (revert c4; decide) | cases c4
  refine r_aload_n d_S_version_7 0 rfl ?_
  refine r_iload_n d_S_version_8 1 rfl ?_
  refine rc_S_134 rfl d_S_version_9 (k_S_newestOf (by omega) ho hc) gS (room_ok (d' := d - 1) (by omega) (by decide)) ⟨Nat.le_refl _, Nat.le_refl _⟩ (Nat.le_of_ble_eq_true rfl) ?_
  refine r_goto (tgt := 17) d_S_version_12 (by decide) ?_
  refine r_ireturn d_S_version_17 rfl rfl ⟨?_, rfl, ?_⟩
  · rfl
  · rfl
theorem k_S_open {l : Launch} {g : GX} {c : CS} {m : MS} {n d : Nat} (hd : 1 ≤ d) {o : Nat} (ho : o < 6) : CE l g M_S_open d 0 0 [.ref (aS g), .int (nI o)] n (hp g c m) (some (.int (b2 (c.unst o)))) n (hp g c m) := by
  refine CE.of (by decide +kernel) (lv := [(0, .ref (aS g)), (1, .int (nI o))]) rfl (Nat.le_of_ble_eq_true rfl) ?_
  refine r_iload_n d_S_open_0 1 rfl ?_
  refine rc_S_82 rfl d_S_open_1 (k_S_isObjectN ho) (room_ok (d' := d - 1) (by omega) (by decide)) ⟨Nat.le_refl _, Nat.le_refl _⟩ (Nat.le_of_ble_eq_true rfl) ?_
  refine r_if_neB (tgt := 10) d_S_open_4 (by decide) (fun c4 => ?_) (fun c4 => ?_)
  rotate_left 1
  · exfalso; first | omega | (revert c4; decide) | cases c4
  refine r_aload_n d_S_open_10 0 rfl ?_
  refine rg_S_26 rfl d_S_open_11 gS rfl ?_
  refine r_iload_n d_S_open_14 1 rfl ?_
  refine r_zldB d_S_open_15 gUns (by omega) (by decide) ?_
  refine r_if_eqB (tgt := 23) d_S_open_16 (by decide) (fun c16 => ?_) (fun c16 => ?_)
  · skip
    refine r_iconst (v := nI 0) d_S_open_23 (by decide) ?_
    refine r_ireturn d_S_open_24 rfl rfl ⟨?_, rfl, ?_⟩
    · first | exact vb1 c16 | exact vb0 c16
    · rfl
  · skip
    refine r_iconst (v := nI 1) d_S_open_19 (by decide) ?_
    refine r_goto (tgt := 24) d_S_open_20 (by decide) ?_
    refine r_ireturn d_S_open_24 rfl rfl ⟨?_, rfl, ?_⟩
    · first | exact vb1 c16 | exact vb0 c16
    · rfl
theorem k_S_fail_bad {l : Launch} {g : GX} {c : CS} {m : MS} {n d : Nat} (hd : 1 ≤ d) {x : Int32} (h : inR x 12 = false) : CE l g M_S_fail d 0 0 [.ref (aS g), .int x] n (hp g c m) (some (.int ((-2)))) n (hp g c m) := by
  refine CE.of (by decide +kernel) (lv := [(0, .ref (aS g)), (1, .int x)]) rfl (Nat.le_of_ble_eq_true rfl) ?_
  refine r_iload_n d_S_fail_0 1 rfl ?_
  refine rc_S_76 rfl d_S_fail_1 (k_S_isNode (by omega)) (room_ok (d' := d - 1) (by omega) (by decide)) ⟨Nat.le_refl _, Nat.le_refl _⟩ (Nat.le_of_ble_eq_true rfl) ?_
  refine r_if_neB (tgt := 10) d_S_fail_4 (by decide) (fun c4 => ?_) (fun c4 => ?_)
  · exact absurd (h.symm.trans c4) (by decide)
  refine r_bipush (v := (-2)) d_S_fail_7 (by decide) ?_
  refine r_ireturn d_S_fail_9 rfl rfl ⟨?_, rfl, ?_⟩
  · rfl
  · rfl
theorem k_S_back_bad {l : Launch} {g : GX} {c : CS} {m : MS} {n d : Nat} (hd : 1 ≤ d) {x : Int32} (h : inR x 12 = false) : CE l g M_S_back d 0 0 [.ref (aS g), .int x] n (hp g c m) (some (.int ((-2)))) n (hp g c m) := by
  refine CE.of (by decide +kernel) (lv := [(0, .ref (aS g)), (1, .int x)]) rfl (Nat.le_of_ble_eq_true rfl) ?_
  refine r_iload_n d_S_back_0 1 rfl ?_
  refine rc_S_76 rfl d_S_back_1 (k_S_isNode (by omega)) (room_ok (d' := d - 1) (by omega) (by decide)) ⟨Nat.le_refl _, Nat.le_refl _⟩ (Nat.le_of_ble_eq_true rfl) ?_
  refine r_if_neB (tgt := 10) d_S_back_4 (by decide) (fun c4 => ?_) (fun c4 => ?_)
  · exact absurd (h.symm.trans c4) (by decide)
  refine r_bipush (v := (-2)) d_S_back_7 (by decide) ?_
  refine r_ireturn d_S_back_9 rfl rfl ⟨?_, rfl, ?_⟩
  · rfl
  · rfl
theorem k_S_wipe_bad {l : Launch} {g : GX} {c : CS} {m : MS} {n d : Nat} (hd : 1 ≤ d) {x : Int32} (h : inR x 12 = false) : CE l g M_S_wipe d 0 0 [.ref (aS g), .int x] n (hp g c m) (some (.int ((-2)))) n (hp g c m) := by
  refine CE.of (by decide +kernel) (lv := [(0, .ref (aS g)), (1, .int x)]) rfl (Nat.le_of_ble_eq_true rfl) ?_
  refine r_iload_n d_S_wipe_0 1 rfl ?_
  refine rc_S_76 rfl d_S_wipe_1 (k_S_isNode (by omega)) (room_ok (d' := d - 1) (by omega) (by decide)) ⟨Nat.le_refl _, Nat.le_refl _⟩ (Nat.le_of_ble_eq_true rfl) ?_
  refine r_if_neB (tgt := 10) d_S_wipe_4 (by decide) (fun c4 => ?_) (fun c4 => ?_)
  · exact absurd (h.symm.trans c4) (by decide)
  refine r_bipush (v := (-2)) d_S_wipe_7 (by decide) ?_
  refine r_ireturn d_S_wipe_9 rfl rfl ⟨?_, rfl, ?_⟩
  · rfl
  · rfl
theorem k_S_sent_bad {l : Launch} {g : GX} {c : CS} {m : MS} {n d : Nat} (hd : 1 ≤ d) {x : Int32} (h : inR x 12 = false) : CE l g M_S_sent d 0 0 [.ref (aS g), .int x] n (hp g c m) (some (.int ((-2)))) n (hp g c m) := by
  refine CE.of (by decide +kernel) (lv := [(0, .ref (aS g)), (1, .int x)]) rfl (Nat.le_of_ble_eq_true rfl) ?_
  refine r_iload_n d_S_sent_0 1 rfl ?_
  refine rc_S_76 rfl d_S_sent_1 (k_S_isNode (by omega)) (room_ok (d' := d - 1) (by omega) (by decide)) ⟨Nat.le_refl _, Nat.le_refl _⟩ (Nat.le_of_ble_eq_true rfl) ?_
  refine r_if_eqB (tgt := 19) d_S_sent_4 (by decide) (fun c4 => ?_) (fun c4 => ?_)
  rotate_left 1
  · exact absurd (h.symm.trans c4) (by decide)
  refine r_bipush (v := (-2)) d_S_sent_19 (by decide) ?_
  refine r_ireturn d_S_sent_21 rfl rfl ⟨?_, rfl, ?_⟩
  · rfl
  · rfl
theorem k_S_free_bad {l : Launch} {g : GX} {c : CS} {m : MS} {n d : Nat} (hd : 1 ≤ d) {x : Int32} (h : inR x 12 = false) : CE l g M_S_free d 0 0 [.ref (aS g), .int x] n (hp g c m) (some (.int ((-2)))) n (hp g c m) := by
  refine CE.of (by decide +kernel) (lv := [(0, .ref (aS g)), (1, .int x)]) rfl (Nat.le_of_ble_eq_true rfl) ?_
  refine r_iload_n d_S_free_0 1 rfl ?_
  refine rc_S_76 rfl d_S_free_1 (k_S_isNode (by omega)) (room_ok (d' := d - 1) (by omega) (by decide)) ⟨Nat.le_refl _, Nat.le_refl _⟩ (Nat.le_of_ble_eq_true rfl) ?_
  refine r_if_eqB (tgt := 19) d_S_free_4 (by decide) (fun c4 => ?_) (fun c4 => ?_)
  rotate_left 1
  · exact absurd (h.symm.trans c4) (by decide)
  refine r_bipush (v := (-2)) d_S_free_19 (by decide) ?_
  refine r_ireturn d_S_free_21 rfl rfl ⟨?_, rfl, ?_⟩
  · rfl
  · rfl
theorem k_S_rebuild_bad {l : Launch} {g : GX} {c : CS} {m : MS} {n d : Nat} (hd : 1 ≤ d) {x y : Int32} (h : inR x 12 = false) : CE l g M_S_rebuild d 0 0 [.ref (aS g), .int x, .int y] n (hp g c m) (some (.int ((-2)))) n (hp g c m) := by
  refine CE.of (by decide +kernel) (lv := [(0, .ref (aS g)), (1, .int x), (2, .int y)]) rfl (Nat.le_of_ble_eq_true rfl) ?_
  refine r_iload_n d_S_rebuild_0 1 rfl ?_
  refine rc_S_76 rfl d_S_rebuild_1 (k_S_isNode (by omega)) (room_ok (d' := d - 1) (by omega) (by decide)) ⟨Nat.le_refl _, Nat.le_refl _⟩ (Nat.le_of_ble_eq_true rfl) ?_
  refine r_if_neB (tgt := 10) d_S_rebuild_4 (by decide) (fun c4 => ?_) (fun c4 => ?_)
  · exact absurd (h.symm.trans c4) (by decide)
  refine r_bipush (v := (-2)) d_S_rebuild_7 (by decide) ?_
  refine r_ireturn d_S_rebuild_9 rfl rfl ⟨?_, rfl, ?_⟩
  · rfl
  · rfl
theorem k_S_fail_no {l : Launch} {g : GX} {c : CS} {m : MS} {n d : Nat} (hd : 1 ≤ d) {i : Nat} (hi : i < 12) (h : c.live i = false) : CE l g M_S_fail d 0 0 [.ref (aS g), .int (nI i)] n (hp g c m) (some (.int ((-3)))) n (hp g c m) := by
  refine CE.of (by decide +kernel) (lv := [(0, .ref (aS g)), (1, .int (nI i))]) rfl (Nat.le_of_ble_eq_true rfl) ?_
  refine r_iload_n d_S_fail_0 1 rfl ?_
  refine rc_S_76 rfl d_S_fail_1 (k_S_isNodeN hi) (room_ok (d' := d - 1) (by omega) (by decide)) ⟨Nat.le_refl _, Nat.le_refl _⟩ (Nat.le_of_ble_eq_true rfl) ?_
  refine r_if_neB (tgt := 10) d_S_fail_4 (by decide) (fun c4 => ?_) (fun c4 => ?_)
  rotate_left 1
  · exfalso; first | omega | (revert c4; decide) | cases c4
  refine r_aload_n d_S_fail_10 0 rfl ?_
  refine rg_S_18 rfl d_S_fail_11 gS rfl ?_
  refine r_iload_n d_S_fail_14 1 rfl ?_
  refine r_qld (t := 2) rfl d_S_fail_15 gNodes (by omega) (by decide) rfl ?_
  refine rg_S_103 rfl d_S_fail_16 (gN (i := i) (by omega)) rfl ?_
  refine r_if_neB (tgt := 25) d_S_fail_19 (by decide) (fun c19 => ?_) (fun c19 => ?_)
  · exact absurd (h.symm.trans c19) (by decide)
  refine r_bipush (v := (-3)) d_S_fail_22 (by decide) ?_
  refine r_ireturn d_S_fail_24 rfl rfl ⟨?_, rfl, ?_⟩
  · rfl
  · rfl
theorem k_S_back_no {l : Launch} {g : GX} {c : CS} {m : MS} {n d : Nat} (hd : 1 ≤ d) {i : Nat} (hi : i < 12) (h : c.live i = true) : CE l g M_S_back d 0 0 [.ref (aS g), .int (nI i)] n (hp g c m) (some (.int ((-3)))) n (hp g c m) := by
  refine CE.of (by decide +kernel) (lv := [(0, .ref (aS g)), (1, .int (nI i))]) rfl (Nat.le_of_ble_eq_true rfl) ?_
  refine r_iload_n d_S_back_0 1 rfl ?_
  refine rc_S_76 rfl d_S_back_1 (k_S_isNodeN hi) (room_ok (d' := d - 1) (by omega) (by decide)) ⟨Nat.le_refl _, Nat.le_refl _⟩ (Nat.le_of_ble_eq_true rfl) ?_
  refine r_if_neB (tgt := 10) d_S_back_4 (by decide) (fun c4 => ?_) (fun c4 => ?_)
  rotate_left 1
  · exfalso; first | omega | (revert c4; decide) | cases c4
  refine r_aload_n d_S_back_10 0 rfl ?_
  refine rg_S_18 rfl d_S_back_11 gS rfl ?_
  refine r_iload_n d_S_back_14 1 rfl ?_
  refine r_qld (t := 2) rfl d_S_back_15 gNodes (by omega) (by decide) rfl ?_
  refine rg_S_103 rfl d_S_back_16 (gN (i := i) (by omega)) rfl ?_
  refine r_if_eqB (tgt := 25) d_S_back_19 (by decide) (fun c19 => ?_) (fun c19 => ?_)
  · exact absurd (h.symm.trans c19) (by decide)
  refine r_bipush (v := (-3)) d_S_back_22 (by decide) ?_
  refine r_ireturn d_S_back_24 rfl rfl ⟨?_, rfl, ?_⟩
  · rfl
  · rfl
theorem k_S_rebuild_no {l : Launch} {g : GX} {c : CS} {m : MS} {n d : Nat} (hd : 1 ≤ d) {i : Nat} {y : Int32} (hi : i < 12) (h : c.live i = false) : CE l g M_S_rebuild d 0 0 [.ref (aS g), .int (nI i), .int y] n (hp g c m) (some (.int ((-3)))) n (hp g c m) := by
  refine CE.of (by decide +kernel) (lv := [(0, .ref (aS g)), (1, .int (nI i)), (2, .int y)]) rfl (Nat.le_of_ble_eq_true rfl) ?_
  refine r_iload_n d_S_rebuild_0 1 rfl ?_
  refine rc_S_76 rfl d_S_rebuild_1 (k_S_isNodeN hi) (room_ok (d' := d - 1) (by omega) (by decide)) ⟨Nat.le_refl _, Nat.le_refl _⟩ (Nat.le_of_ble_eq_true rfl) ?_
  refine r_if_neB (tgt := 10) d_S_rebuild_4 (by decide) (fun c4 => ?_) (fun c4 => ?_)
  rotate_left 1
  · exfalso; first | omega | (revert c4; decide) | cases c4
  refine r_aload_n d_S_rebuild_10 0 rfl ?_
  refine rg_S_18 rfl d_S_rebuild_11 gS rfl ?_
  refine r_iload_n d_S_rebuild_14 1 rfl ?_
  refine r_qld (t := 2) rfl d_S_rebuild_15 gNodes (by omega) (by decide) rfl ?_
  refine rg_S_103 rfl d_S_rebuild_16 (gN (i := i) (by omega)) rfl ?_
  refine r_if_neB (tgt := 25) d_S_rebuild_19 (by decide) (fun c19 => ?_) (fun c19 => ?_)
  · exact absurd (h.symm.trans c19) (by decide)
  refine r_bipush (v := (-3)) d_S_rebuild_22 (by decide) ?_
  refine r_ireturn d_S_rebuild_24 rfl rfl ⟨?_, rfl, ?_⟩
  · rfl
  · rfl
theorem k_S_fail {l : Launch} {g : GX} {c : CS} {m : MS} {n d : Nat} (hd : 1 ≤ d) {i : Nat} (hi : i < 12) (h : c.live i = true) : CE l g M_S_fail d 0 0 [.ref (aS g), .int (nI i)] n (hp g c m) (some (.int (nI 1))) n (hp g (c.s_live (upN c.live i false)) m) := by
  refine CE.of (by decide +kernel) (lv := [(0, .ref (aS g)), (1, .int (nI i))]) rfl (Nat.le_of_ble_eq_true rfl) ?_
  refine r_iload_n d_S_fail_0 1 rfl ?_
  refine rc_S_76 rfl d_S_fail_1 (k_S_isNodeN hi) (room_ok (d' := d - 1) (by omega) (by decide)) ⟨Nat.le_refl _, Nat.le_refl _⟩ (Nat.le_of_ble_eq_true rfl) ?_
  refine r_if_neB (tgt := 10) d_S_fail_4 (by decide) (fun c4 => ?_) (fun c4 => ?_)
  rotate_left 1
  · exfalso; first | omega | (revert c4; decide) | cases c4
  refine r_aload_n d_S_fail_10 0 rfl ?_
  refine rg_S_18 rfl d_S_fail_11 gS rfl ?_
  refine r_iload_n d_S_fail_14 1 rfl ?_
  refine r_qld (t := 2) rfl d_S_fail_15 gNodes (by omega) (by decide) rfl ?_
  refine rg_S_103 rfl d_S_fail_16 (gN (i := i) (by omega)) rfl ?_
  refine r_if_neB (tgt := 25) d_S_fail_19 (by decide) (fun c19 => ?_) (fun c19 => ?_)
  rotate_left 1
  · exact absurd (h.symm.trans c19) (by decide)
  refine r_aload_n d_S_fail_25 0 rfl ?_
  refine rg_S_18 rfl d_S_fail_26 gS rfl ?_
  refine r_iload_n d_S_fail_29 1 rfl ?_
  refine r_qld (t := 2) rfl d_S_fail_30 gNodes (by omega) (by decide) rfl ?_
  refine r_iconst (v := nI 0) d_S_fail_31 (by decide) ?_
  refine r_at (st' := .int (b2 false) :: _) ?_ rfl rfl rfl
  refine rp_S_103 rfl d_S_fail_32 (gN (i := i) (by omega)) (Nat.le_of_ble_eq_true rfl) rfl (wN_live (i := i) (by omega) (v := false)) ?_
  refine r_iconst (v := nI 1) d_S_fail_35 (by decide) ?_
  refine r_ireturn d_S_fail_36 rfl rfl ⟨?_, rfl, ?_⟩
  · rfl
  · rfl
def lvC (c : CS) (i : Nat) : CS := c.s_live (upN c.live i true)
theorem k_S_back {l : Launch} {g : GX} {c : CS} {m : MS} {n d : Nat} (hd : 5 ≤ d) {i : Nat} (hi : i < 12) (hc : CI c) (h : c.live i = false) : CE l g M_S_back d 0 0 [.ref (aS g), .int (nI i)] n (hp g c m) (some (.int (nI (gsN (lvC c i) i 6)))) n (hp g (gsC (lvC c i) i 6) m) := by
  refine CE.of (by decide +kernel) (lv := [(0, .ref (aS g)), (1, .int (nI i))]) rfl (Nat.le_of_ble_eq_true rfl) ?_
  refine r_iload_n d_S_back_0 1 rfl ?_
  refine rc_S_76 rfl d_S_back_1 (k_S_isNodeN hi) (room_ok (d' := d - 1) (by omega) (by decide)) ⟨Nat.le_refl _, Nat.le_refl _⟩ (Nat.le_of_ble_eq_true rfl) ?_
  refine r_if_neB (tgt := 10) d_S_back_4 (by decide) (fun c4 => ?_) (fun c4 => ?_)
  rotate_left 1
  · exfalso; first | omega | (revert c4; decide) | cases c4
  refine r_aload_n d_S_back_10 0 rfl ?_
  refine rg_S_18 rfl d_S_back_11 gS rfl ?_
  refine r_iload_n d_S_back_14 1 rfl ?_
  refine r_qld (t := 2) rfl d_S_back_15 gNodes (by omega) (by decide) rfl ?_
  refine rg_S_103 rfl d_S_back_16 (gN (i := i) (by omega)) rfl ?_
  refine r_if_eqB (tgt := 25) d_S_back_19 (by decide) (fun c19 => ?_) (fun c19 => ?_)
  rotate_left 1
  · exact absurd (h.symm.trans c19) (by decide)
  refine r_aload_n d_S_back_25 0 rfl ?_
  refine rg_S_18 rfl d_S_back_26 gS rfl ?_
  refine r_iload_n d_S_back_29 1 rfl ?_
  refine r_qld (t := 2) rfl d_S_back_30 gNodes (by omega) (by decide) rfl ?_
  refine r_iconst (v := nI 1) d_S_back_31 (by decide) ?_
  refine r_at (st' := .int (b2 true) :: _) ?_ rfl rfl rfl
  refine rp_S_103 rfl d_S_back_32 (gN (i := i) (by omega)) (Nat.le_of_ble_eq_true rfl) rfl (wN_live (i := i) (by omega) (v := true)) ?_
  refine r_heap (h' := hp g (lvC c i) m) rfl ?_
  refine r_aload_n d_S_back_35 0 rfl ?_
  refine rg_S_18 rfl d_S_back_36 gS rfl ?_
  refine r_iload_n d_S_back_39 1 rfl ?_
  refine r_qld (t := 2) rfl d_S_back_40 gNodes (by omega) (by decide) rfl ?_
  refine rc_S_137 rfl d_S_back_41 (k_N_giveUpShadows (c := lvC c i) (by omega) hi hc) (gN (i := i) (by omega)) (room_ok (d' := d - 1) (by omega) (by decide)) ⟨Nat.le_refl _, Nat.le_refl _⟩ (Nat.le_of_ble_eq_true rfl) ?_
  refine r_ireturn d_S_back_44 rfl rfl ⟨?_, rfl, ?_⟩
  · rfl
  · rfl
theorem k_S_wipe {l : Launch} {g : GX} {c : CS} {m : MS} {n d : Nat} (hd : 5 ≤ d) {i : Nat} (hi : i < 12) (hc : CI c) : CE l g M_S_wipe d 0 0 [.ref (aS g), .int (nI i)] n (hp g c m) (some (.int (nI (40 - frN c i)))) n (hp g (lvC (gaC c i 6) i) m) := by
  refine CE.of (by decide +kernel) (lv := [(0, .ref (aS g)), (1, .int (nI i))]) rfl (Nat.le_of_ble_eq_true rfl) ?_
  refine r_iload_n d_S_wipe_0 1 rfl ?_
  refine rc_S_76 rfl d_S_wipe_1 (k_S_isNodeN hi) (room_ok (d' := d - 1) (by omega) (by decide)) ⟨Nat.le_refl _, Nat.le_refl _⟩ (Nat.le_of_ble_eq_true rfl) ?_
  refine r_if_neB (tgt := 10) d_S_wipe_4 (by decide) (fun c4 => ?_) (fun c4 => ?_)
  rotate_left 1
  · exfalso; first | omega | (revert c4; decide) | cases c4
  refine r_bipush (v := nI 40) d_S_wipe_10 (by decide) ?_
  refine r_aload_n d_S_wipe_12 0 rfl ?_
  refine rg_S_18 rfl d_S_wipe_13 gS rfl ?_
  refine r_iload_n d_S_wipe_16 1 rfl ?_
  refine r_qld (t := 2) rfl d_S_wipe_17 gNodes (by omega) (by decide) rfl ?_
  refine rc_S_140 rfl d_S_wipe_18 (k_N_freeBlocks (by omega) hi) (gN (i := i) (by omega)) (room_ok (d' := d - 1) (by omega) (by decide)) ⟨Nat.le_refl _, Nat.le_refl _⟩ (Nat.le_of_ble_eq_true rfl) ?_
  have hfr : frN c i ≤ 40 := ct_le _ 40
  refine r_isubN d_S_wipe_21 (by omega) ?_
  refine r_istore_n (lv' := [(0, _), (1, _), (2, _)]) d_S_wipe_22 (by decide) rfl ?_
  refine r_aload_n d_S_wipe_23 0 rfl ?_
  refine rg_S_18 rfl d_S_wipe_24 gS rfl ?_
  refine r_iload_n d_S_wipe_27 1 rfl ?_
  refine r_qld (t := 2) rfl d_S_wipe_28 gNodes (by omega) (by decide) rfl ?_
  refine rc_S_143 rfl d_S_wipe_29 (k_N_giveUpAll (by omega) hi hc) (gN (i := i) (by omega)) (room_ok (d' := d - 1) (by omega) (by decide)) ⟨Nat.le_refl _, Nat.le_refl _⟩ (Nat.le_of_ble_eq_true rfl) ?_
  refine r_aload_n d_S_wipe_32 0 rfl ?_
  refine rg_S_18 rfl d_S_wipe_33 gS rfl ?_
  refine r_iload_n d_S_wipe_36 1 rfl ?_
  refine r_qld (t := 2) rfl d_S_wipe_37 gNodes (by omega) (by decide) rfl ?_
  refine r_iconst (v := nI 1) d_S_wipe_38 (by decide) ?_
  refine r_at (st' := .int (b2 true) :: _) ?_ rfl rfl rfl
  refine rp_S_103 rfl d_S_wipe_39 (gN (i := i) (by omega)) (Nat.le_of_ble_eq_true rfl) rfl (wN_live (i := i) (by omega) (v := true)) ?_
  refine r_iload_n d_S_wipe_42 2 rfl ?_
  refine r_ireturn d_S_wipe_43 rfl rfl ⟨?_, rfl, ?_⟩
  · rfl
  · rfl
def rbL (c : CS) (i : Nat) (x : Int32) : Nat → CS
  | 0 => lhC c i x
  | o + 1 => if stl (rbL c i x o) i o = true then rnC (rbL c i x o) i o x else rbL c i x o
theorem k_S_rebuildFew {l : Launch} {g : GX} {c : CS} {m : MS} {n d : Nat} (hd : 6 ≤ d) {i : Nat} {x : Int32} (hi : i < 12) (hc : CI c) (h : c.live i = true) (h1 : lhN c i x < 6) : CE l g M_S_rebuild d 0 0 [.ref (aS g), .int (nI i), .int x] n (hp g c m) (some (.int (-4))) n (hp g (lhC c i x) m) := by
  refine CE.of (by decide +kernel) (lv := [(0, .ref (aS g)), (1, .int (nI i)), (2, .int x)]) rfl (Nat.le_of_ble_eq_true rfl) ?_
  refine r_iload_n d_S_rebuild_0 1 rfl ?_
  refine rc_S_76 rfl d_S_rebuild_1 (k_S_isNodeN hi) (room_ok (d' := d - 1) (by omega) (by decide)) ⟨Nat.le_refl _, Nat.le_refl _⟩ (Nat.le_of_ble_eq_true rfl) ?_
  refine r_if_neB (tgt := 10) d_S_rebuild_4 (by decide) (fun c4 => ?_) (fun c4 => ?_)
  rotate_left 1
  · exfalso; first | omega | (revert c4; decide) | cases c4
  refine r_aload_n d_S_rebuild_10 0 rfl ?_
  refine rg_S_18 rfl d_S_rebuild_11 gS rfl ?_
  refine r_iload_n d_S_rebuild_14 1 rfl ?_
  refine r_qld (t := 2) rfl d_S_rebuild_15 gNodes (by omega) (by decide) rfl ?_
  refine rg_S_103 rfl d_S_rebuild_16 (gN (i := i) (by omega)) rfl ?_
  refine r_if_neB (tgt := 25) d_S_rebuild_19 (by decide) (fun c19 => ?_) (fun c19 => ?_)
  rotate_left 1
  · exact absurd (h.symm.trans c19) (by decide)
  refine r_aload_n d_S_rebuild_25 0 rfl ?_
  refine r_iload_n d_S_rebuild_26 1 rfl ?_
  refine r_iload_n d_S_rebuild_27 2 rfl ?_
  refine rc_S_146 rfl d_S_rebuild_28 (k_S_lacksHelpers (by omega) hi hc) gS (room_ok (d' := d - 1) (by omega) (by decide)) ⟨Nat.le_refl _, Nat.le_refl _⟩ (Nat.le_of_ble_eq_true rfl) ?_
  refine r_if_eqB (tgt := 37) d_S_rebuild_31 (by decide) (fun c31 => ?_) (fun c31 => ?_)
  · exact absurd h1 (of_decide_eq_false c31)
  refine r_bipush (v := (-4)) d_S_rebuild_34 (by decide) ?_
  refine r_ireturn d_S_rebuild_36 rfl rfl ⟨?_, rfl, ?_⟩
  · rfl
  · rfl
theorem k_S_rebuildFull {l : Launch} {g : GX} {c : CS} {m : MS} {n d : Nat} (hd : 6 ≤ d) {i : Nat} {x : Int32} (hi : i < 12) (hc : CI c) (h : c.live i = true) (h1 : ¬ lhN c i x < 6) (h2 : lrN (lhC c i x) i < 6) : CE l g M_S_rebuild d 0 0 [.ref (aS g), .int (nI i), .int x] n (hp g c m) (some (.int (-5))) n (hp g (lhC c i x) m) := by
  refine CE.of (by decide +kernel) (lv := [(0, .ref (aS g)), (1, .int (nI i)), (2, .int x)]) rfl (Nat.le_of_ble_eq_true rfl) ?_
  refine r_iload_n d_S_rebuild_0 1 rfl ?_
  refine rc_S_76 rfl d_S_rebuild_1 (k_S_isNodeN hi) (room_ok (d' := d - 1) (by omega) (by decide)) ⟨Nat.le_refl _, Nat.le_refl _⟩ (Nat.le_of_ble_eq_true rfl) ?_
  refine r_if_neB (tgt := 10) d_S_rebuild_4 (by decide) (fun c4 => ?_) (fun c4 => ?_)
  rotate_left 1
  · exfalso; first | omega | (revert c4; decide) | cases c4
  refine r_aload_n d_S_rebuild_10 0 rfl ?_
  refine rg_S_18 rfl d_S_rebuild_11 gS rfl ?_
  refine r_iload_n d_S_rebuild_14 1 rfl ?_
  refine r_qld (t := 2) rfl d_S_rebuild_15 gNodes (by omega) (by decide) rfl ?_
  refine rg_S_103 rfl d_S_rebuild_16 (gN (i := i) (by omega)) rfl ?_
  refine r_if_neB (tgt := 25) d_S_rebuild_19 (by decide) (fun c19 => ?_) (fun c19 => ?_)
  rotate_left 1
  · exact absurd (h.symm.trans c19) (by decide)
  refine r_aload_n d_S_rebuild_25 0 rfl ?_
  refine r_iload_n d_S_rebuild_26 1 rfl ?_
  refine r_iload_n d_S_rebuild_27 2 rfl ?_
  refine rc_S_146 rfl d_S_rebuild_28 (k_S_lacksHelpers (by omega) hi hc) gS (room_ok (d' := d - 1) (by omega) (by decide)) ⟨Nat.le_refl _, Nat.le_refl _⟩ (Nat.le_of_ble_eq_true rfl) ?_
  refine r_if_eqB (tgt := 37) d_S_rebuild_31 (by decide) (fun c31 => ?_) (fun c31 => ?_)
  rotate_left 1
  · exact absurd (of_decide_eq_true c31) h1
  refine r_aload_n d_S_rebuild_37 0 rfl ?_
  refine r_iload_n d_S_rebuild_38 1 rfl ?_
  refine rc_S_149 rfl d_S_rebuild_39 (k_S_lacksRoom (c := lhC c i x) (by omega) hi hc) gS (room_ok (d' := d - 1) (by omega) (by decide)) ⟨Nat.le_refl _, Nat.le_refl _⟩ (Nat.le_of_ble_eq_true rfl) ?_
  refine r_if_eqB (tgt := 48) d_S_rebuild_42 (by decide) (fun c42 => ?_) (fun c42 => ?_)
  · exact absurd h2 (of_decide_eq_false c42)
  refine r_bipush (v := (-5)) d_S_rebuild_45 (by decide) ?_
  refine r_ireturn d_S_rebuild_47 rfl rfl ⟨?_, rfl, ?_⟩
  · rfl
  · rfl
theorem k_S_rebuild {l : Launch} {g : GX} {c : CS} {m : MS} {n d : Nat} (hd : 7 ≤ d) {i : Nat} {x : Int32} (hi : i < 12) (hc : CI c) (h : c.live i = true) (h1 : ¬ lhN c i x < 6) (h2 : ¬ lrN (lhC c i x) i < 6) (H0 : ∀ o, o < 6 → CI (rbL c i x o)) (H : ∀ o, o < 6 → stl (rbL c i x o) i o = true → nbS (rbL c i x o) o ≤ 240 ∧ (∀ k, k < stp (nbS (rbL c i x o) o) → lf (TK ((rn1 (rbL c i x o) i o).takn i) k) < 40) ∧ BM (rbL c i x o).squ ∧ BC (rbL c i x o) ∧ (csN (rn2 (rbL c i x o) i o) i o x = 8 → ∀ k, k < 8 → (rn3 (rbL c i x o) i o x).chos k < 12 ∧ stp (nbS (rbL c i x o) o) ≤ rstr (rn3 (rbL c i x o) i o x) ((rn3 (rbL c i x o) i o x).chos k) o ∧ TKok (rn3 (rbL c i x o) i o x) ((rn3 (rbL c i x o) i o x).chos k) (rp (rn3 (rbL c i x o) i o x) ((rn3 (rbL c i x o) i o x).chos k) o))) : CE l g M_S_rebuild d 0 0 [.ref (aS g), .int (nI i), .int x] n (hp g c m) (some (.int ((rbL c i x 6).syms - (lhC c i x).syms))) n (hp g (rbL c i x 6) m) := by
  refine CE.of (by decide +kernel) (lv := [(0, .ref (aS g)), (1, .int (nI i)), (2, .int x)]) rfl (Nat.le_of_ble_eq_true rfl) ?_
  refine r_iload_n d_S_rebuild_0 1 rfl ?_
  refine rc_S_76 rfl d_S_rebuild_1 (k_S_isNodeN hi) (room_ok (d' := d - 1) (by omega) (by decide)) ⟨Nat.le_refl _, Nat.le_refl _⟩ (Nat.le_of_ble_eq_true rfl) ?_
  refine r_if_neB (tgt := 10) d_S_rebuild_4 (by decide) (fun c4 => ?_) (fun c4 => ?_)
  rotate_left 1
  · exfalso; first | omega | (revert c4; decide) | cases c4
  refine r_aload_n d_S_rebuild_10 0 rfl ?_
  refine rg_S_18 rfl d_S_rebuild_11 gS rfl ?_
  refine r_iload_n d_S_rebuild_14 1 rfl ?_
  refine r_qld (t := 2) rfl d_S_rebuild_15 gNodes (by omega) (by decide) rfl ?_
  refine rg_S_103 rfl d_S_rebuild_16 (gN (i := i) (by omega)) rfl ?_
  refine r_if_neB (tgt := 25) d_S_rebuild_19 (by decide) (fun c19 => ?_) (fun c19 => ?_)
  rotate_left 1
  · exact absurd (h.symm.trans c19) (by decide)
  refine r_aload_n d_S_rebuild_25 0 rfl ?_
  refine r_iload_n d_S_rebuild_26 1 rfl ?_
  refine r_iload_n d_S_rebuild_27 2 rfl ?_
  refine rc_S_146 rfl d_S_rebuild_28 (k_S_lacksHelpers (by omega) hi hc) gS (room_ok (d' := d - 1) (by omega) (by decide)) ⟨Nat.le_refl _, Nat.le_refl _⟩ (Nat.le_of_ble_eq_true rfl) ?_
  refine r_if_eqB (tgt := 37) d_S_rebuild_31 (by decide) (fun c31 => ?_) (fun c31 => ?_)
  rotate_left 1
  · exact absurd (of_decide_eq_true c31) h1
  refine r_aload_n d_S_rebuild_37 0 rfl ?_
  refine r_iload_n d_S_rebuild_38 1 rfl ?_
  refine rc_S_149 rfl d_S_rebuild_39 (k_S_lacksRoom (c := lhC c i x) (by omega) hi hc) gS (room_ok (d' := d - 1) (by omega) (by decide)) ⟨Nat.le_refl _, Nat.le_refl _⟩ (Nat.le_of_ble_eq_true rfl) ?_
  refine r_if_eqB (tgt := 48) d_S_rebuild_42 (by decide) (fun c42 => ?_) (fun c42 => ?_)
  rotate_left 1
  · exact absurd (of_decide_eq_true c42) h2
  refine r_aload_n d_S_rebuild_48 0 rfl ?_
  refine rg_S_49 rfl d_S_rebuild_49 gS rfl ?_
  refine r_istore_n (lv' := [(0, _), (1, _), (2, _), (3, _)]) d_S_rebuild_52 (by decide) rfl ?_
  refine r_heap (h' := hp g (rbL c i x 0) m) rfl ?_
  refine r_iconst (v := nI 0) d_S_rebuild_53 (by decide) ?_
  refine r_istore (lv' := [(0, _), (1, _), (2, _), (3, _), (4, _)]) d_S_rebuild_54 (by decide) rfl ?_
  refine back_ind (n := 6) (G := fun o => RJ l g M_S_rebuild (RMX d 0 0) (TQ g 0 0 (QE (some (.int ((rbL c i x 6).syms - (lhC c i x).syms))) n (hp g (rbL c i x 6) m))) XT n (hp g (rbL c i x o) m) 0 0 56 [(0, .ref (aS g)), (1, .int (nI i)), (2, .int x), (3, .int ((lhC c i x).syms)), (4, .int (nI o))] []) ?_ ?_ 0 (Nat.zero_le _)
  · skip
    refine r_iload d_S_rebuild_56 4 rfl ?_
    refine r_bipush (v := nI 6) d_S_rebuild_58 (by decide) ?_
    refine r_icmp_geN (tgt := 87) d_S_rebuild_60 (by decide) (by omega) (by omega) (fun c60 => ?_) (fun c60 => ?_)
    rotate_left 1
    · exfalso; first | omega | (revert c60; decide) | cases c60
    refine r_aload_n d_S_rebuild_87 0 rfl ?_
    refine rg_S_49 rfl d_S_rebuild_88 gS rfl ?_
    refine r_iload_n d_S_rebuild_91 3 rfl ?_
    refine r_isub d_S_rebuild_92 ?_
    refine r_ireturn d_S_rebuild_93 rfl rfl ⟨?_, rfl, ?_⟩
    · rfl
    · rfl
  · intro o hb_o ih_o
    have hci := H0 o hb_o
    refine r_iload d_S_rebuild_56 4 rfl ?_
    refine r_bipush (v := nI 6) d_S_rebuild_58 (by decide) ?_
    refine r_icmp_geN (tgt := 87) d_S_rebuild_60 (by decide) (by omega) (by omega) (fun c60 => ?_) (fun c60 => ?_)
    · exfalso; first | omega | (revert c60; decide) | cases c60
    refine r_aload_n d_S_rebuild_63 0 rfl ?_
    refine r_iload_n d_S_rebuild_64 1 rfl ?_
    refine r_iload d_S_rebuild_65 4 rfl ?_
    refine rc_S_152 rfl d_S_rebuild_67 (k_S_isStale (c := rbL c i x o) (by omega) hi hb_o hci) gS (room_ok (d' := d - 1) (by omega) (by decide)) ⟨Nat.le_refl _, Nat.le_refl _⟩ (Nat.le_of_ble_eq_true rfl) ?_
    refine r_if_eqB (tgt := 81) d_S_rebuild_70 (by decide) (fun c70 => ?_) (fun c70 => ?_)
    · skip
      have hst : rbL c i x (o + 1) = rbL c i x o := if_neg (by rw [c70]; decide)
      refine r_iincN (lv' := [(0, _), (1, _), (2, _), (3, _), (4, _)]) d_S_rebuild_81 4 rfl (by decide) rfl ?_
      refine r_goto (tgt := 56) d_S_rebuild_84 (by decide) ?_
      exact r_at ih_o (congrArg (fun z => hp g z m) hst.symm) rfl rfl
    · skip
      have hst : rbL c i x (o + 1) = rnC (rbL c i x o) i o x := if_pos c70
      obtain ⟨g1, g2, g3, g4, g5⟩ := H o hb_o c70
      refine r_aload_n d_S_rebuild_73 0 rfl ?_
      refine r_iload_n d_S_rebuild_74 1 rfl ?_
      refine r_iload d_S_rebuild_75 4 rfl ?_
      refine r_iload_n d_S_rebuild_77 2 rfl ?_
      refine rc_S_155 rfl d_S_rebuild_78 (k_S_renew (c := rbL c i x o) (by omega) hi hb_o hci g1 g2 g3 g4 g5) gS (room_ok (d' := d - 1) (by omega) (by decide)) ⟨Nat.le_refl _, Nat.le_refl _⟩ (Nat.le_of_ble_eq_true rfl) ?_
      refine r_iincN (lv' := [(0, _), (1, _), (2, _), (3, _), (4, _)]) d_S_rebuild_81 4 rfl (by decide) rfl ?_
      refine r_goto (tgt := 56) d_S_rebuild_84 (by decide) ?_
      exact r_at ih_o (congrArg (fun z => hp g z m) hst.symm) rfl rfl
theorem k_S_fresh_bad {l : Launch} {g : GX} {c : CS} {m : MS} {n d : Nat} (hd : 1 ≤ d) {x y : Int32} (h : inR x 12 = false ∨ inR y 6 = false) : CE l g M_S_fresh d 0 0 [.ref (aS g), .int x, .int y] n (hp g c m) (some (.int ((-2)))) n (hp g c m) := by
  refine CE.of (by decide +kernel) (lv := [(0, .ref (aS g)), (1, .int x), (2, .int y)]) rfl (Nat.le_of_ble_eq_true rfl) ?_
  refine r_iload_n d_S_fresh_0 1 rfl ?_
  refine rc_S_76 rfl d_S_fresh_1 (k_S_isNode (by omega)) (room_ok (d' := d - 1) (by omega) (by decide)) ⟨Nat.le_refl _, Nat.le_refl _⟩ (Nat.le_of_ble_eq_true rfl) ?_
  refine r_if_eqB (tgt := 14) d_S_fresh_4 (by decide) (fun c4 => ?_) (fun c4 => ?_)
  · skip
    refine r_bipush (v := (-2)) d_S_fresh_14 (by decide) ?_
    refine r_ireturn d_S_fresh_16 rfl rfl ⟨?_, rfl, ?_⟩
    · rfl
    · rfl
  · skip
    refine r_iload_n d_S_fresh_7 2 rfl ?_
    refine rc_S_82 rfl d_S_fresh_8 (k_S_isObject (by omega)) (room_ok (d' := d - 1) (by omega) (by decide)) ⟨Nat.le_refl _, Nat.le_refl _⟩ (Nat.le_of_ble_eq_true rfl) ?_
    refine r_if_neB (tgt := 17) d_S_fresh_11 (by decide) (fun c11 => ?_) (fun c11 => ?_)
    · exfalso; simp [c4, c11] at h
    refine r_bipush (v := (-2)) d_S_fresh_14 (by decide) ?_
    refine r_ireturn d_S_fresh_16 rfl rfl ⟨?_, rfl, ?_⟩
    · rfl
    · rfl
theorem k_S_fresh {l : Launch} {g : GX} {c : CS} {m : MS} {n d : Nat} (hd : 3 ≤ d) {i o : Nat} (hi : i < 12) (ho : o < 6) (hc : CI c) : CE l g M_S_fresh d 0 0 [.ref (aS g), .int (nI i), .int (nI o)] n (hp g c m) (some (.int (b2 (frs c o (nw c o) i)))) n (hp g c m) := by
  have hw := nw_lt (o := o) hc
  refine CE.of (by decide +kernel) (lv := [(0, .ref (aS g)), (1, .int (nI i)), (2, .int (nI o))]) rfl (Nat.le_of_ble_eq_true rfl) ?_
  refine r_iload_n d_S_fresh_0 1 rfl ?_
  refine rc_S_76 rfl d_S_fresh_1 (k_S_isNodeN hi) (room_ok (d' := d - 1) (by omega) (by decide)) ⟨Nat.le_refl _, Nat.le_refl _⟩ (Nat.le_of_ble_eq_true rfl) ?_
  refine r_if_eqB (tgt := 14) d_S_fresh_4 (by decide) (fun c4 => ?_) (fun c4 => ?_)
  · exfalso; first | omega | (revert c4; decide) | cases c4
  refine r_iload_n d_S_fresh_7 2 rfl ?_
  refine rc_S_82 rfl d_S_fresh_8 (k_S_isObjectN ho) (room_ok (d' := d - 1) (by omega) (by decide)) ⟨Nat.le_refl _, Nat.le_refl _⟩ (Nat.le_of_ble_eq_true rfl) ?_
  refine r_if_neB (tgt := 17) d_S_fresh_11 (by decide) (fun c11 => ?_) (fun c11 => ?_)
  rotate_left 1
  · exfalso; first | omega | (revert c11; decide) | cases c11
  refine r_aload_n d_S_fresh_17 0 rfl ?_
  refine r_iload_n d_S_fresh_18 1 rfl ?_
  refine r_iload_n d_S_fresh_19 2 rfl ?_
  refine r_aload_n d_S_fresh_20 0 rfl ?_
  refine r_iload_n d_S_fresh_21 2 rfl ?_
  refine rc_S_134 rfl d_S_fresh_22 (k_S_newestOf (by omega) ho hc) gS (room_ok (d' := d - 1) (by omega) (by decide)) ⟨Nat.le_refl _, Nat.le_refl _⟩ (Nat.le_of_ble_eq_true rfl) ?_
  refine rc_S_159 rfl d_S_fresh_25 (k_S_isFresh (by omega) hi ho hw hc) gS (room_ok (d' := d - 1) (by omega) (by decide)) ⟨Nat.le_refl _, Nat.le_refl _⟩ (Nat.le_of_ble_eq_true rfl) ?_
  refine r_if_eqB (tgt := 35) d_S_fresh_28 (by decide) (fun c28 => ?_) (fun c28 => ?_)
  · skip
    refine r_iconst (v := nI 0) d_S_fresh_35 (by decide) ?_
    refine r_ireturn d_S_fresh_36 rfl rfl ⟨?_, rfl, ?_⟩
    · first | exact vb1 c28 | exact vb0 c28
    · rfl
  · skip
    refine r_iconst (v := nI 1) d_S_fresh_31 (by decide) ?_
    refine r_goto (tgt := 36) d_S_fresh_32 (by decide) ?_
    refine r_ireturn d_S_fresh_36 rfl rfl ⟨?_, rfl, ?_⟩
    · first | exact vb1 c28 | exact vb0 c28
    · rfl
theorem k_S_sent {l : Launch} {g : GX} {c : CS} {m : MS} {n d : Nat} (hd : 1 ≤ d) {i : Nat} (hi : i < 12) : CE l g M_S_sent d 0 0 [.ref (aS g), .int (nI i)] n (hp g c m) (some (.int (c.sent i))) n (hp g c m) := by
  refine CE.of (by decide +kernel) (lv := [(0, .ref (aS g)), (1, .int (nI i))]) rfl (Nat.le_of_ble_eq_true rfl) ?_
  refine r_iload_n d_S_sent_0 1 rfl ?_
  refine rc_S_76 rfl d_S_sent_1 (k_S_isNodeN hi) (room_ok (d' := d - 1) (by omega) (by decide)) ⟨Nat.le_refl _, Nat.le_refl _⟩ (Nat.le_of_ble_eq_true rfl) ?_
  refine r_if_eqB (tgt := 19) d_S_sent_4 (by decide) (fun c4 => ?_) (fun c4 => ?_)
  · exfalso; first | omega | (revert c4; decide) | cases c4
  refine r_aload_n d_S_sent_7 0 rfl ?_
  refine rg_S_18 rfl d_S_sent_8 gS rfl ?_
  refine r_iload_n d_S_sent_11 1 rfl ?_
  refine r_qld (t := 2) rfl d_S_sent_12 gNodes (by omega) (by decide) rfl ?_
  refine rg_S_163 rfl d_S_sent_13 (gN (i := i) (by omega)) rfl ?_
  refine r_goto (tgt := 21) d_S_sent_16 (by decide) ?_
  refine r_ireturn d_S_sent_21 rfl rfl ⟨?_, rfl, ?_⟩
  · rfl
  · rfl
theorem k_S_free {l : Launch} {g : GX} {c : CS} {m : MS} {n d : Nat} (hd : 2 ≤ d) {i : Nat} (hi : i < 12) : CE l g M_S_free d 0 0 [.ref (aS g), .int (nI i)] n (hp g c m) (some (.int (nI (frN c i)))) n (hp g c m) := by
  refine CE.of (by decide +kernel) (lv := [(0, .ref (aS g)), (1, .int (nI i))]) rfl (Nat.le_of_ble_eq_true rfl) ?_
  refine r_iload_n d_S_free_0 1 rfl ?_
  refine rc_S_76 rfl d_S_free_1 (k_S_isNodeN hi) (room_ok (d' := d - 1) (by omega) (by decide)) ⟨Nat.le_refl _, Nat.le_refl _⟩ (Nat.le_of_ble_eq_true rfl) ?_
  refine r_if_eqB (tgt := 19) d_S_free_4 (by decide) (fun c4 => ?_) (fun c4 => ?_)
  · exfalso; first | omega | (revert c4; decide) | cases c4
  refine r_aload_n d_S_free_7 0 rfl ?_
  refine rg_S_18 rfl d_S_free_8 gS rfl ?_
  refine r_iload_n d_S_free_11 1 rfl ?_
  refine r_qld (t := 2) rfl d_S_free_12 gNodes (by omega) (by decide) rfl ?_
  refine rc_S_140 rfl d_S_free_13 (k_N_freeBlocks (by omega) hi) (gN (i := i) (by omega)) (room_ok (d' := d - 1) (by omega) (by decide)) ⟨Nat.le_refl _, Nat.le_refl _⟩ (Nat.le_of_ble_eq_true rfl) ?_
  refine r_goto (tgt := 21) d_S_free_16 (by decide) ?_
  refine r_ireturn d_S_free_21 rfl rfl ⟨?_, rfl, ?_⟩
  · rfl
  · rfl
theorem k_S_record_bad {l : Launch} {g : GX} {c : CS} {m : MS} {n d : Nat} (hd : 1 ≤ d) {x y z : Int32} (h : inR x 12 = false ∨ inR y 6 = false ∨ inR z 6 = false) : CE l g M_S_record d 0 0 [.ref (aS g), .int x, .int y, .int z] n (hp g c m) (some (.int ((-2)))) n (hp g c m) := by
  refine CE.of (by decide +kernel) (lv := [(0, .ref (aS g)), (1, .int x), (2, .int y), (3, .int z)]) rfl (Nat.le_of_ble_eq_true rfl) ?_
  refine r_iload_n d_S_record_0 1 rfl ?_
  refine rc_S_76 rfl d_S_record_1 (k_S_isNode (by omega)) (room_ok (d' := d - 1) (by omega) (by decide)) ⟨Nat.le_refl _, Nat.le_refl _⟩ (Nat.le_of_ble_eq_true rfl) ?_
  refine r_if_eqB (tgt := 24) d_S_record_4 (by decide) (fun c4 => ?_) (fun c4 => ?_)
  · skip
    refine r_bipush (v := (-2)) d_S_record_24 (by decide) ?_
    refine r_ireturn d_S_record_26 rfl rfl ⟨?_, rfl, ?_⟩
    · rfl
    · rfl
  · skip
    refine r_iload_n d_S_record_7 2 rfl ?_
    refine rc_S_82 rfl d_S_record_8 (k_S_isObject (by omega)) (room_ok (d' := d - 1) (by omega) (by decide)) ⟨Nat.le_refl _, Nat.le_refl _⟩ (Nat.le_of_ble_eq_true rfl) ?_
    refine r_if_eqB (tgt := 24) d_S_record_11 (by decide) (fun c11 => ?_) (fun c11 => ?_)
    · skip
      refine r_bipush (v := (-2)) d_S_record_24 (by decide) ?_
      refine r_ireturn d_S_record_26 rfl rfl ⟨?_, rfl, ?_⟩
      · rfl
      · rfl
    · skip
      refine r_iload_n d_S_record_14 3 rfl ?_
      refine r_if_lt (tgt := 24) d_S_record_15 (by decide) (fun c15 => ?_) (fun c15 => ?_)
      · skip
        refine r_bipush (v := (-2)) d_S_record_24 (by decide) ?_
        refine r_ireturn d_S_record_26 rfl rfl ⟨?_, rfl, ?_⟩
        · rfl
        · rfl
      · skip
        refine r_iload_n d_S_record_18 3 rfl ?_
        refine r_bipush (v := nI 6) d_S_record_19 (by decide) ?_
        refine r_icmp_lt (tgt := 27) d_S_record_21 (by decide) (fun c21 => ?_) (fun c21 => ?_)
        · exfalso; simp [c4, c11, inR_t c15 c21] at h
        refine r_bipush (v := (-2)) d_S_record_24 (by decide) ?_
        refine r_ireturn d_S_record_26 rfl rfl ⟨?_, rfl, ?_⟩
        · rfl
        · rfl
theorem k_S_record {l : Launch} {g : GX} {c : CS} {m : MS} {n d : Nat} (hd : 1 ≤ d) {i o w : Nat} (hi : i < 12) (ho : o < 6) (hw : w < 6) (hc : CI c) : CE l g M_S_record d 0 0 [.ref (aS g), .int (nI i), .int (nI o), .int (nI w)] n (hp g c m) (some (.int (recN c i o w))) n (hp g c m) := by
  refine CE.of (by decide +kernel) (lv := [(0, .ref (aS g)), (1, .int (nI i)), (2, .int (nI o)), (3, .int (nI w))]) rfl (Nat.le_of_ble_eq_true rfl) ?_
  refine r_iload_n d_S_record_0 1 rfl ?_
  refine rc_S_76 rfl d_S_record_1 (k_S_isNodeN hi) (room_ok (d' := d - 1) (by omega) (by decide)) ⟨Nat.le_refl _, Nat.le_refl _⟩ (Nat.le_of_ble_eq_true rfl) ?_
  refine r_if_eqB (tgt := 24) d_S_record_4 (by decide) (fun c4 => ?_) (fun c4 => ?_)
  · exfalso; first | omega | (revert c4; decide) | cases c4
  refine r_iload_n d_S_record_7 2 rfl ?_
  refine rc_S_82 rfl d_S_record_8 (k_S_isObjectN ho) (room_ok (d' := d - 1) (by omega) (by decide)) ⟨Nat.le_refl _, Nat.le_refl _⟩ (Nat.le_of_ble_eq_true rfl) ?_
  refine r_if_eqB (tgt := 24) d_S_record_11 (by decide) (fun c11 => ?_) (fun c11 => ?_)
  · exfalso; first | omega | (revert c11; decide) | cases c11
  refine r_iload_n d_S_record_14 3 rfl ?_
  refine r_if_ltN (tgt := 24) d_S_record_15 (by decide) (by omega) (fun c15 => ?_) (fun c15 => ?_)
  · exfalso; first | omega | (revert c15; decide) | cases c15
  refine r_iload_n d_S_record_18 3 rfl ?_
  refine r_bipush (v := nI 6) d_S_record_19 (by decide) ?_
  refine r_icmp_ltN (tgt := 27) d_S_record_21 (by decide) (by omega) (by omega) (fun c21 => ?_) (fun c21 => ?_)
  rotate_left 1
  · exfalso; first | omega | (revert c21; decide) | cases c21
  refine r_aload_n d_S_record_27 0 rfl ?_
  refine rg_S_18 rfl d_S_record_28 gS rfl ?_
  refine r_iload_n d_S_record_31 1 rfl ?_
  refine r_qld (t := 2) rfl d_S_record_32 gNodes (by omega) (by decide) rfl ?_
  refine r_iload_n d_S_record_33 2 rfl ?_
  refine r_iload_n d_S_record_34 3 rfl ?_
  refine rc_S_166 rfl d_S_record_35 (k_S_recordNumber (by omega) hi ho hw hc) (room_ok (d' := d - 1) (by omega) (by decide)) ⟨Nat.le_refl _, Nat.le_refl _⟩ (Nat.le_of_ble_eq_true rfl) ?_
  refine r_ireturn d_S_record_38 rfl rfl ⟨?_, rfl, ?_⟩
  · rfl
  · rfl
theorem k_S_block_bad {l : Launch} {g : GX} {c : CS} {m : MS} {n d : Nat} (hd : 1 ≤ d) {x y s : Int32} {z : Bool} (h : inR x 12 = false ∨ inR y 6 = false) : CE l g M_S_block d 0 0 [.ref (aS g), .int x, .int y, .int s, .int (b2 z)] n (hp g c m) (some (.int ((-2)))) n (hp g c m) := by
  refine CE.of (by decide +kernel) (lv := [(0, .ref (aS g)), (1, .int x), (2, .int y), (3, .int s), (4, .int (b2 z))]) rfl (Nat.le_of_ble_eq_true rfl) ?_
  refine r_iload_n d_S_block_0 1 rfl ?_
  refine rc_S_76 rfl d_S_block_1 (k_S_isNode (by omega)) (room_ok (d' := d - 1) (by omega) (by decide)) ⟨Nat.le_refl _, Nat.le_refl _⟩ (Nat.le_of_ble_eq_true rfl) ?_
  refine r_if_eqB (tgt := 14) d_S_block_4 (by decide) (fun c4 => ?_) (fun c4 => ?_)
  · skip
    refine r_bipush (v := (-2)) d_S_block_14 (by decide) ?_
    refine r_ireturn d_S_block_16 rfl rfl ⟨?_, rfl, ?_⟩
    · rfl
    · rfl
  · skip
    refine r_iload_n d_S_block_7 2 rfl ?_
    refine rc_S_82 rfl d_S_block_8 (k_S_isObject (by omega)) (room_ok (d' := d - 1) (by omega) (by decide)) ⟨Nat.le_refl _, Nat.le_refl _⟩ (Nat.le_of_ble_eq_true rfl) ?_
    refine r_if_neB (tgt := 17) d_S_block_11 (by decide) (fun c11 => ?_) (fun c11 => ?_)
    · exfalso; simp [c4, c11] at h
    refine r_bipush (v := (-2)) d_S_block_14 (by decide) ?_
    refine r_ireturn d_S_block_16 rfl rfl ⟨?_, rfl, ?_⟩
    · rfl
    · rfl
def hq (c : CS) (i o : Nat) (z : Bool) : Nat := if z = true then sp c i o else rp c i o
theorem k_S_block {l : Launch} {g : GX} {c : CS} {m : MS} {n d : Nat} (hd : 1 ≤ d) {i o : Nat} {z : Bool} (hi : i < 12) (ho : o < 6) (hc : CI c) {s : Nat} (hs : s < c.hstr i (hq c i o z)) : CE l g M_S_block d 0 0 [.ref (aS g), .int (nI i), .int (nI o), .int (nI s), .int (b2 z)] n (hp g c m) (some (.int (nI (c.hpl i (hq c i o z) s)))) n (hp g c m) := by
  have hq1 := rp_lt (c := c) (i := i) ho
  have hq2 := sp_lt (c := c) (i := i) ho
  have h3 := (hc i (rp c i o)).1
  have h4 := (hc i (sp c i o)).1
  refine CE.of (by decide +kernel) (lv := [(0, .ref (aS g)), (1, .int (nI i)), (2, .int (nI o)), (3, .int (nI s)), (4, .int (b2 z))]) rfl (Nat.le_of_ble_eq_true rfl) ?_
  refine r_iload_n d_S_block_0 1 rfl ?_
  refine rc_S_76 rfl d_S_block_1 (k_S_isNodeN hi) (room_ok (d' := d - 1) (by omega) (by decide)) ⟨Nat.le_refl _, Nat.le_refl _⟩ (Nat.le_of_ble_eq_true rfl) ?_
  refine r_if_eqB (tgt := 14) d_S_block_4 (by decide) (fun c4 => ?_) (fun c4 => ?_)
  · exfalso; first | omega | (revert c4; decide) | cases c4
  refine r_iload_n d_S_block_7 2 rfl ?_
  refine rc_S_82 rfl d_S_block_8 (k_S_isObjectN ho) (room_ok (d' := d - 1) (by omega) (by decide)) ⟨Nat.le_refl _, Nat.le_refl _⟩ (Nat.le_of_ble_eq_true rfl) ?_
  refine r_if_neB (tgt := 17) d_S_block_11 (by decide) (fun c11 => ?_) (fun c11 => ?_)
  rotate_left 1
  · exfalso; first | omega | (revert c11; decide) | cases c11
  refine r_iload d_S_block_17 4 rfl ?_
  refine r_if_eqB (tgt := 40) d_S_block_19 (by decide) (fun c19 => ?_) (fun c19 => ?_)
  · skip
    have ez : hq c i o z = rp c i o := if_neg (by rw [c19]; decide)
    have h5 := hs
    rw [ez] at h5
    refine r_aload_n d_S_block_40 0 rfl ?_
    refine rg_S_18 rfl d_S_block_41 gS rfl ?_
    refine r_iload_n d_S_block_44 1 rfl ?_
    refine r_qld (t := 2) rfl d_S_block_45 gNodes (by omega) (by decide) rfl ?_
    refine rg_S_173 rfl d_S_block_46 (gN (i := i) (by omega)) rfl ?_
    refine r_iload_n d_S_block_49 2 rfl ?_
    refine r_qld (t := 3) rfl d_S_block_50 (gR (i := i) (by omega)) (by omega) (by decide) rfl ?_
    refine r_iload_n d_S_block_51 3 rfl ?_
    refine rc_S_170 rfl d_S_block_52 (k_H_placeOf (by omega) hi hq1 h5 (by omega) (by omega)) (gH (i := i) (p := rp c i o) (by omega) (by omega)) (room_ok (d' := d - 1) (by omega) (by decide)) ⟨Nat.le_refl _, Nat.le_refl _⟩ (Nat.le_of_ble_eq_true rfl) ?_
    refine r_ireturn d_S_block_55 rfl rfl ⟨?_, rfl, ?_⟩
    · rw [ez]
    · rfl
  · skip
    have ez : hq c i o z = sp c i o := if_pos c19
    have h5 := hs
    rw [ez] at h5
    refine r_aload_n d_S_block_22 0 rfl ?_
    refine rg_S_18 rfl d_S_block_23 gS rfl ?_
    refine r_iload_n d_S_block_26 1 rfl ?_
    refine r_qld (t := 2) rfl d_S_block_27 gNodes (by omega) (by decide) rfl ?_
    refine rg_S_107 rfl d_S_block_28 (gN (i := i) (by omega)) rfl ?_
    refine r_iload_n d_S_block_31 2 rfl ?_
    refine r_qld (t := 3) rfl d_S_block_32 (gSh (i := i) (by omega)) (by omega) (by decide) rfl ?_
    refine r_iload_n d_S_block_33 3 rfl ?_
    refine rc_S_170 rfl d_S_block_34 (k_H_placeOf (by omega) hi hq2 h5 (by omega) (by omega)) (gH (i := i) (p := sp c i o) (by omega) (by omega)) (room_ok (d' := d - 1) (by omega) (by decide)) ⟨Nat.le_refl _, Nat.le_refl _⟩ (Nat.le_of_ble_eq_true rfl) ?_
    refine r_goto (tgt := 55) d_S_block_37 (by decide) ?_
    refine r_ireturn d_S_block_55 rfl rfl ⟨?_, rfl, ?_⟩
    · rw [ez]
    · rfl
theorem k_S_block_no {l : Launch} {g : GX} {c : CS} {m : MS} {n d : Nat} (hd : 1 ≤ d) {i o : Nat} {z : Bool} (hi : i < 12) (ho : o < 6) (hc : CI c) {s : Int32} (hs : inR s (c.hstr i (hq c i o z)) = false) : CE l g M_S_block d 0 0 [.ref (aS g), .int (nI i), .int (nI o), .int s, .int (b2 z)] n (hp g c m) (some (.int (-1))) n (hp g c m) := by
  have hq1 := rp_lt (c := c) (i := i) ho
  have hq2 := sp_lt (c := c) (i := i) ho
  have h3 := (hc i (rp c i o)).1
  have h4 := (hc i (sp c i o)).1
  refine CE.of (by decide +kernel) (lv := [(0, .ref (aS g)), (1, .int (nI i)), (2, .int (nI o)), (3, .int s), (4, .int (b2 z))]) rfl (Nat.le_of_ble_eq_true rfl) ?_
  refine r_iload_n d_S_block_0 1 rfl ?_
  refine rc_S_76 rfl d_S_block_1 (k_S_isNodeN hi) (room_ok (d' := d - 1) (by omega) (by decide)) ⟨Nat.le_refl _, Nat.le_refl _⟩ (Nat.le_of_ble_eq_true rfl) ?_
  refine r_if_eqB (tgt := 14) d_S_block_4 (by decide) (fun c4 => ?_) (fun c4 => ?_)
  · exfalso; first | omega | (revert c4; decide) | cases c4
  refine r_iload_n d_S_block_7 2 rfl ?_
  refine rc_S_82 rfl d_S_block_8 (k_S_isObjectN ho) (room_ok (d' := d - 1) (by omega) (by decide)) ⟨Nat.le_refl _, Nat.le_refl _⟩ (Nat.le_of_ble_eq_true rfl) ?_
  refine r_if_neB (tgt := 17) d_S_block_11 (by decide) (fun c11 => ?_) (fun c11 => ?_)
  rotate_left 1
  · exfalso; first | omega | (revert c11; decide) | cases c11
  refine r_iload d_S_block_17 4 rfl ?_
  refine r_if_eqB (tgt := 40) d_S_block_19 (by decide) (fun c19 => ?_) (fun c19 => ?_)
  · skip
    have ez : hq c i o z = rp c i o := if_neg (by rw [c19]; decide)
    have h5 := hs
    rw [ez] at h5
    refine r_aload_n d_S_block_40 0 rfl ?_
    refine rg_S_18 rfl d_S_block_41 gS rfl ?_
    refine r_iload_n d_S_block_44 1 rfl ?_
    refine r_qld (t := 2) rfl d_S_block_45 gNodes (by omega) (by decide) rfl ?_
    refine rg_S_173 rfl d_S_block_46 (gN (i := i) (by omega)) rfl ?_
    refine r_iload_n d_S_block_49 2 rfl ?_
    refine r_qld (t := 3) rfl d_S_block_50 (gR (i := i) (by omega)) (by omega) (by decide) rfl ?_
    refine r_iload_n d_S_block_51 3 rfl ?_
    refine rc_S_170 rfl d_S_block_52 (k_H_placeOfNo (by omega) hi hq1 h5) (gH (i := i) (p := rp c i o) (by omega) (by omega)) (room_ok (d' := d - 1) (by omega) (by decide)) ⟨Nat.le_refl _, Nat.le_refl _⟩ (Nat.le_of_ble_eq_true rfl) ?_
    refine r_ireturn d_S_block_55 rfl rfl ⟨?_, rfl, ?_⟩
    · rfl
    · rfl
  · skip
    have ez : hq c i o z = sp c i o := if_pos c19
    have h5 := hs
    rw [ez] at h5
    refine r_aload_n d_S_block_22 0 rfl ?_
    refine rg_S_18 rfl d_S_block_23 gS rfl ?_
    refine r_iload_n d_S_block_26 1 rfl ?_
    refine r_qld (t := 2) rfl d_S_block_27 gNodes (by omega) (by decide) rfl ?_
    refine rg_S_107 rfl d_S_block_28 (gN (i := i) (by omega)) rfl ?_
    refine r_iload_n d_S_block_31 2 rfl ?_
    refine r_qld (t := 3) rfl d_S_block_32 (gSh (i := i) (by omega)) (by omega) (by decide) rfl ?_
    refine r_iload_n d_S_block_33 3 rfl ?_
    refine rc_S_170 rfl d_S_block_34 (k_H_placeOfNo (by omega) hi hq2 h5) (gH (i := i) (p := sp c i o) (by omega) (by omega)) (room_ok (d' := d - 1) (by omega) (by decide)) ⟨Nat.le_refl _, Nat.le_refl _⟩ (Nat.le_of_ble_eq_true rfl) ?_
    refine r_goto (tgt := 55) d_S_block_37 (by decide) ?_
    refine r_ireturn d_S_block_55 rfl rfl ⟨?_, rfl, ?_⟩
    · rfl
    · rfl
theorem k_S_byteOf_bad {l : Launch} {g : GX} {c : CS} {m : MS} {n d : Nat} (hd : 1 ≤ d) {x y z : Int32} (h : inR x 12 = false ∨ inR y 40 = false ∨ inR z 8 = false) : CE l g M_S_byteOf d 0 0 [.ref (aS g), .int x, .int y, .int z] n (hp g c m) (some (.int ((-2)))) n (hp g c m) := by
  refine CE.of (by decide +kernel) (lv := [(0, .ref (aS g)), (1, .int x), (2, .int y), (3, .int z)]) rfl (Nat.le_of_ble_eq_true rfl) ?_
  refine r_iload_n d_S_byteOf_0 1 rfl ?_
  refine rc_S_76 rfl d_S_byteOf_1 (k_S_isNode (by omega)) (room_ok (d' := d - 1) (by omega) (by decide)) ⟨Nat.le_refl _, Nat.le_refl _⟩ (Nat.le_of_ble_eq_true rfl) ?_
  refine r_if_eqB (tgt := 27) d_S_byteOf_4 (by decide) (fun c4 => ?_) (fun c4 => ?_)
  · skip
    refine r_bipush (v := (-2)) d_S_byteOf_27 (by decide) ?_
    refine r_ireturn d_S_byteOf_29 rfl rfl ⟨?_, rfl, ?_⟩
    · rfl
    · rfl
  · skip
    refine r_iload_n d_S_byteOf_7 2 rfl ?_
    refine r_if_lt (tgt := 27) d_S_byteOf_8 (by decide) (fun c8 => ?_) (fun c8 => ?_)
    · skip
      refine r_bipush (v := (-2)) d_S_byteOf_27 (by decide) ?_
      refine r_ireturn d_S_byteOf_29 rfl rfl ⟨?_, rfl, ?_⟩
      · rfl
      · rfl
    · skip
      refine r_iload_n d_S_byteOf_11 2 rfl ?_
      refine r_bipush (v := nI 40) d_S_byteOf_12 (by decide) ?_
      refine r_icmp_ge (tgt := 27) d_S_byteOf_14 (by decide) (fun c14 => ?_) (fun c14 => ?_)
      · skip
        refine r_bipush (v := (-2)) d_S_byteOf_27 (by decide) ?_
        refine r_ireturn d_S_byteOf_29 rfl rfl ⟨?_, rfl, ?_⟩
        · rfl
        · rfl
      · skip
        refine r_iload_n d_S_byteOf_17 3 rfl ?_
        refine r_if_lt (tgt := 27) d_S_byteOf_18 (by decide) (fun c18 => ?_) (fun c18 => ?_)
        · skip
          refine r_bipush (v := (-2)) d_S_byteOf_27 (by decide) ?_
          refine r_ireturn d_S_byteOf_29 rfl rfl ⟨?_, rfl, ?_⟩
          · rfl
          · rfl
        · skip
          refine r_iload_n d_S_byteOf_21 3 rfl ?_
          refine r_bipush (v := nI 8) d_S_byteOf_22 (by decide) ?_
          refine r_icmp_lt (tgt := 30) d_S_byteOf_24 (by decide) (fun c24 => ?_) (fun c24 => ?_)
          · exfalso; simp [c4, inR_t c8 (Int32.not_le.mp c14), inR_t c18 c24] at h
          refine r_bipush (v := (-2)) d_S_byteOf_27 (by decide) ?_
          refine r_ireturn d_S_byteOf_29 rfl rfl ⟨?_, rfl, ?_⟩
          · rfl
          · rfl
theorem k_S_byteOf {l : Launch} {g : GX} {c : CS} {m : MS} {n d : Nat} (hd : 1 ≤ d) {i b k : Nat} (hi : i < 12) (hb : b < 40) (hk : k < 8) (ht : c.takn i b = true) : CE l g M_S_byteOf d 0 0 [.ref (aS g), .int (nI i), .int (nI b), .int (nI k)] n (hp g c m) (some (.int (nI (c.data i (b * 8 + k))))) n (hp g c m) := by
  refine CE.of (by decide +kernel) (lv := [(0, .ref (aS g)), (1, .int (nI i)), (2, .int (nI b)), (3, .int (nI k))]) rfl (Nat.le_of_ble_eq_true rfl) ?_
  refine r_iload_n d_S_byteOf_0 1 rfl ?_
  refine rc_S_76 rfl d_S_byteOf_1 (k_S_isNodeN hi) (room_ok (d' := d - 1) (by omega) (by decide)) ⟨Nat.le_refl _, Nat.le_refl _⟩ (Nat.le_of_ble_eq_true rfl) ?_
  refine r_if_eqB (tgt := 27) d_S_byteOf_4 (by decide) (fun c4 => ?_) (fun c4 => ?_)
  · exfalso; first | omega | (revert c4; decide) | cases c4
  refine r_iload_n d_S_byteOf_7 2 rfl ?_
  refine r_if_ltN (tgt := 27) d_S_byteOf_8 (by decide) (by omega) (fun c8 => ?_) (fun c8 => ?_)
  · exfalso; first | omega | (revert c8; decide) | cases c8
  refine r_iload_n d_S_byteOf_11 2 rfl ?_
  refine r_bipush (v := nI 40) d_S_byteOf_12 (by decide) ?_
  refine r_icmp_geN (tgt := 27) d_S_byteOf_14 (by decide) (by omega) (by omega) (fun c14 => ?_) (fun c14 => ?_)
  · exfalso; first | omega | (revert c14; decide) | cases c14
  refine r_iload_n d_S_byteOf_17 3 rfl ?_
  refine r_if_ltN (tgt := 27) d_S_byteOf_18 (by decide) (by omega) (fun c18 => ?_) (fun c18 => ?_)
  · exfalso; first | omega | (revert c18; decide) | cases c18
  refine r_iload_n d_S_byteOf_21 3 rfl ?_
  refine r_bipush (v := nI 8) d_S_byteOf_22 (by decide) ?_
  refine r_icmp_ltN (tgt := 30) d_S_byteOf_24 (by decide) (by omega) (by omega) (fun c24 => ?_) (fun c24 => ?_)
  rotate_left 1
  · exfalso; first | omega | (revert c24; decide) | cases c24
  refine r_aload_n d_S_byteOf_30 0 rfl ?_
  refine rg_S_18 rfl d_S_byteOf_31 gS rfl ?_
  refine r_iload_n d_S_byteOf_34 1 rfl ?_
  refine r_qld (t := 2) rfl d_S_byteOf_35 gNodes (by omega) (by decide) rfl ?_
  refine r_iload_n d_S_byteOf_36 2 rfl ?_
  refine r_iload_n d_S_byteOf_37 3 rfl ?_
  refine rc_S_176 rfl d_S_byteOf_38 (k_N_byteAt (by omega) hi hb hk ht) (gN (i := i) (by omega)) (room_ok (d' := d - 1) (by omega) (by decide)) ⟨Nat.le_refl _, Nat.le_refl _⟩ (Nat.le_of_ble_eq_true rfl) ?_
  refine r_ireturn d_S_byteOf_41 rfl rfl ⟨?_, rfl, ?_⟩
  · rfl
  · rfl
theorem k_S_byteOf_no {l : Launch} {g : GX} {c : CS} {m : MS} {n d : Nat} (hd : 1 ≤ d) {i b k : Nat} (hi : i < 12) (hb : b < 40) (hk : k < 8) (ht : c.takn i b = false) : CE l g M_S_byteOf d 0 0 [.ref (aS g), .int (nI i), .int (nI b), .int (nI k)] n (hp g c m) (some (.int (-1))) n (hp g c m) := by
  refine CE.of (by decide +kernel) (lv := [(0, .ref (aS g)), (1, .int (nI i)), (2, .int (nI b)), (3, .int (nI k))]) rfl (Nat.le_of_ble_eq_true rfl) ?_
  refine r_iload_n d_S_byteOf_0 1 rfl ?_
  refine rc_S_76 rfl d_S_byteOf_1 (k_S_isNodeN hi) (room_ok (d' := d - 1) (by omega) (by decide)) ⟨Nat.le_refl _, Nat.le_refl _⟩ (Nat.le_of_ble_eq_true rfl) ?_
  refine r_if_eqB (tgt := 27) d_S_byteOf_4 (by decide) (fun c4 => ?_) (fun c4 => ?_)
  · exfalso; first | omega | (revert c4; decide) | cases c4
  refine r_iload_n d_S_byteOf_7 2 rfl ?_
  refine r_if_ltN (tgt := 27) d_S_byteOf_8 (by decide) (by omega) (fun c8 => ?_) (fun c8 => ?_)
  · exfalso; first | omega | (revert c8; decide) | cases c8
  refine r_iload_n d_S_byteOf_11 2 rfl ?_
  refine r_bipush (v := nI 40) d_S_byteOf_12 (by decide) ?_
  refine r_icmp_geN (tgt := 27) d_S_byteOf_14 (by decide) (by omega) (by omega) (fun c14 => ?_) (fun c14 => ?_)
  · exfalso; first | omega | (revert c14; decide) | cases c14
  refine r_iload_n d_S_byteOf_17 3 rfl ?_
  refine r_if_ltN (tgt := 27) d_S_byteOf_18 (by decide) (by omega) (fun c18 => ?_) (fun c18 => ?_)
  · exfalso; first | omega | (revert c18; decide) | cases c18
  refine r_iload_n d_S_byteOf_21 3 rfl ?_
  refine r_bipush (v := nI 8) d_S_byteOf_22 (by decide) ?_
  refine r_icmp_ltN (tgt := 30) d_S_byteOf_24 (by decide) (by omega) (by omega) (fun c24 => ?_) (fun c24 => ?_)
  rotate_left 1
  · exfalso; first | omega | (revert c24; decide) | cases c24
  refine r_aload_n d_S_byteOf_30 0 rfl ?_
  refine rg_S_18 rfl d_S_byteOf_31 gS rfl ?_
  refine r_iload_n d_S_byteOf_34 1 rfl ?_
  refine r_qld (t := 2) rfl d_S_byteOf_35 gNodes (by omega) (by decide) rfl ?_
  refine r_iload_n d_S_byteOf_36 2 rfl ?_
  refine r_iload_n d_S_byteOf_37 3 rfl ?_
  refine rc_S_176 rfl d_S_byteOf_38 (k_N_byteAtNo (by omega) hi hb hk ht) (gN (i := i) (by omega)) (room_ok (d' := d - 1) (by omega) (by decide)) ⟨Nat.le_refl _, Nat.le_refl _⟩ (Nat.le_of_ble_eq_true rfl) ?_
  refine r_ireturn d_S_byteOf_41 rfl rfl ⟨?_, rfl, ?_⟩
  · rfl
  · rfl
theorem k_S_symbol_bad {l : Launch} {g : GX} {c : CS} {m : MS} {n d : Nat} (hd : 1 ≤ d) {x y z s : Int32} (h : inR x 12 = false ∨ inR y 12 = false ∨ inR z 6 = false) : CE l g M_S_symbol d 0 0 [.ref (aS g), .int x, .int y, .int z, .int s] n (hp g c m) (some (.int ((-2)))) n (hp g c m) := by
  refine CE.of (by decide +kernel) (lv := [(0, .ref (aS g)), (1, .int x), (2, .int y), (3, .int z), (4, .int s)]) rfl (Nat.le_of_ble_eq_true rfl) ?_
  refine r_iload_n d_S_symbol_0 1 rfl ?_
  refine rc_S_76 rfl d_S_symbol_1 (k_S_isNode (by omega)) (room_ok (d' := d - 1) (by omega) (by decide)) ⟨Nat.le_refl _, Nat.le_refl _⟩ (Nat.le_of_ble_eq_true rfl) ?_
  refine r_if_eqB (tgt := 21) d_S_symbol_4 (by decide) (fun c4 => ?_) (fun c4 => ?_)
  · skip
    refine r_bipush (v := (-2)) d_S_symbol_21 (by decide) ?_
    refine r_ireturn d_S_symbol_23 rfl rfl ⟨?_, rfl, ?_⟩
    · rfl
    · rfl
  · skip
    refine r_iload_n d_S_symbol_7 2 rfl ?_
    refine rc_S_76 rfl d_S_symbol_8 (k_S_isNode (by omega)) (room_ok (d' := d - 1) (by omega) (by decide)) ⟨Nat.le_refl _, Nat.le_refl _⟩ (Nat.le_of_ble_eq_true rfl) ?_
    refine r_if_eqB (tgt := 21) d_S_symbol_11 (by decide) (fun c11 => ?_) (fun c11 => ?_)
    · skip
      refine r_bipush (v := (-2)) d_S_symbol_21 (by decide) ?_
      refine r_ireturn d_S_symbol_23 rfl rfl ⟨?_, rfl, ?_⟩
      · rfl
      · rfl
    · skip
      refine r_iload_n d_S_symbol_14 3 rfl ?_
      refine rc_S_82 rfl d_S_symbol_15 (k_S_isObject (by omega)) (room_ok (d' := d - 1) (by omega) (by decide)) ⟨Nat.le_refl _, Nat.le_refl _⟩ (Nat.le_of_ble_eq_true rfl) ?_
      refine r_if_neB (tgt := 24) d_S_symbol_18 (by decide) (fun c18 => ?_) (fun c18 => ?_)
      · exfalso; simp [c4, c11, c18] at h
      refine r_bipush (v := (-2)) d_S_symbol_21 (by decide) ?_
      refine r_ireturn d_S_symbol_23 rfl rfl ⟨?_, rfl, ?_⟩
      · rfl
      · rfl
theorem k_S_symbol_no {l : Launch} {g : GX} {c : CS} {m : MS} {n d : Nat} (hd : 1 ≤ d) {i j o : Nat} {s : Int32} (hi : i < 12) (hj : j < 12) (ho : o < 6) (hs : inR s (rstr c i o) = false) : CE l g M_S_symbol d 0 0 [.ref (aS g), .int (nI i), .int (nI j), .int (nI o), .int s] n (hp g c m) (some (.int (-1))) n (hp g c m) := by
  have hq1 := rp_lt (c := c) (i := i) ho
  refine CE.of (by decide +kernel) (lv := [(0, .ref (aS g)), (1, .int (nI i)), (2, .int (nI j)), (3, .int (nI o)), (4, .int s)]) rfl (Nat.le_of_ble_eq_true rfl) ?_
  refine r_iload_n d_S_symbol_0 1 rfl ?_
  refine rc_S_76 rfl d_S_symbol_1 (k_S_isNodeN hi) (room_ok (d' := d - 1) (by omega) (by decide)) ⟨Nat.le_refl _, Nat.le_refl _⟩ (Nat.le_of_ble_eq_true rfl) ?_
  refine r_if_eqB (tgt := 21) d_S_symbol_4 (by decide) (fun c4 => ?_) (fun c4 => ?_)
  · exfalso; first | omega | (revert c4; decide) | cases c4
  refine r_iload_n d_S_symbol_7 2 rfl ?_
  refine rc_S_76 rfl d_S_symbol_8 (k_S_isNodeN hj) (room_ok (d' := d - 1) (by omega) (by decide)) ⟨Nat.le_refl _, Nat.le_refl _⟩ (Nat.le_of_ble_eq_true rfl) ?_
  refine r_if_eqB (tgt := 21) d_S_symbol_11 (by decide) (fun c11 => ?_) (fun c11 => ?_)
  · exfalso; first | omega | (revert c11; decide) | cases c11
  refine r_iload_n d_S_symbol_14 3 rfl ?_
  refine rc_S_82 rfl d_S_symbol_15 (k_S_isObjectN ho) (room_ok (d' := d - 1) (by omega) (by decide)) ⟨Nat.le_refl _, Nat.le_refl _⟩ (Nat.le_of_ble_eq_true rfl) ?_
  refine r_if_neB (tgt := 24) d_S_symbol_18 (by decide) (fun c18 => ?_) (fun c18 => ?_)
  rotate_left 1
  · exfalso; first | omega | (revert c18; decide) | cases c18
  refine r_aload_n d_S_symbol_24 0 rfl ?_
  refine rg_S_18 rfl d_S_symbol_25 gS rfl ?_
  refine r_iload_n d_S_symbol_28 1 rfl ?_
  refine r_qld (t := 2) rfl d_S_symbol_29 gNodes (by omega) (by decide) rfl ?_
  refine rg_S_173 rfl d_S_symbol_30 (gN (i := i) (by omega)) rfl ?_
  refine r_iload_n d_S_symbol_33 3 rfl ?_
  refine r_qld (t := 3) rfl d_S_symbol_34 (gR (i := i) (by omega)) (by omega) (by decide) rfl ?_
  refine r_iload d_S_symbol_35 4 rfl ?_
  refine rc_S_170 rfl d_S_symbol_37 (k_H_placeOfNo (by omega) hi hq1 hs) (gH (i := i) (p := rp c i o) (by omega) (by omega)) (room_ok (d' := d - 1) (by omega) (by decide)) ⟨Nat.le_refl _, Nat.le_refl _⟩ (Nat.le_of_ble_eq_true rfl) ?_
  refine r_istore (lv' := [(0, _), (1, _), (2, _), (3, _), (4, _), (5, _)]) d_S_symbol_40 (by decide) rfl ?_
  refine r_iload d_S_symbol_42 5 rfl ?_
  refine r_iconst (v := (-1)) d_S_symbol_44 (by decide) ?_
  refine r_icmp_ne (tgt := 52) d_S_symbol_45 (by decide) (fun c45 => ?_) (fun c45 => ?_)
  · exact absurd rfl c45
  refine r_iconst (v := (-1)) d_S_symbol_48 (by decide) ?_
  refine r_goto (tgt := 65) d_S_symbol_49 (by decide) ?_
  refine r_ireturn d_S_symbol_65 rfl rfl ⟨?_, rfl, ?_⟩
  · rfl
  · rfl
theorem k_S_symbol {l : Launch} {g : GX} {c : CS} {m : MS} {n d : Nat} (hd : 3 ≤ d) {i j o s : Nat} (hi : i < 12) (hj : j < 12) (ho : o < 6) (hs : s < rstr c i o) (hc : CI c) (ht : c.takn i (c.hpl i (rp c i o) s) = true) (hD : BM c.data) : CE l g M_S_symbol d 0 0 [.ref (aS g), .int (nI i), .int (nI j), .int (nI o), .int (nI s)] n (hp g c m) (some (.int (nI (syF c i (c.hpl i (rp c i o) s) j)))) n (hp g c m) := by
  have hq1 := rp_lt (c := c) (i := i) ho
  have h3 : rstr c i o ≤ 8 := (hc i (rp c i o)).1
  have h4 : c.hstr i (rp c i o) ≤ 8 := (hc i (rp c i o)).1
  have h5 := (hc i (rp c i o)).2.2.2 s
  refine CE.of (by decide +kernel) (lv := [(0, .ref (aS g)), (1, .int (nI i)), (2, .int (nI j)), (3, .int (nI o)), (4, .int (nI s))]) rfl (Nat.le_of_ble_eq_true rfl) ?_
  refine r_iload_n d_S_symbol_0 1 rfl ?_
  refine rc_S_76 rfl d_S_symbol_1 (k_S_isNodeN hi) (room_ok (d' := d - 1) (by omega) (by decide)) ⟨Nat.le_refl _, Nat.le_refl _⟩ (Nat.le_of_ble_eq_true rfl) ?_
  refine r_if_eqB (tgt := 21) d_S_symbol_4 (by decide) (fun c4 => ?_) (fun c4 => ?_)
  · exfalso; first | omega | (revert c4; decide) | cases c4
  refine r_iload_n d_S_symbol_7 2 rfl ?_
  refine rc_S_76 rfl d_S_symbol_8 (k_S_isNodeN hj) (room_ok (d' := d - 1) (by omega) (by decide)) ⟨Nat.le_refl _, Nat.le_refl _⟩ (Nat.le_of_ble_eq_true rfl) ?_
  refine r_if_eqB (tgt := 21) d_S_symbol_11 (by decide) (fun c11 => ?_) (fun c11 => ?_)
  · exfalso; first | omega | (revert c11; decide) | cases c11
  refine r_iload_n d_S_symbol_14 3 rfl ?_
  refine rc_S_82 rfl d_S_symbol_15 (k_S_isObjectN ho) (room_ok (d' := d - 1) (by omega) (by decide)) ⟨Nat.le_refl _, Nat.le_refl _⟩ (Nat.le_of_ble_eq_true rfl) ?_
  refine r_if_neB (tgt := 24) d_S_symbol_18 (by decide) (fun c18 => ?_) (fun c18 => ?_)
  rotate_left 1
  · exfalso; first | omega | (revert c18; decide) | cases c18
  refine r_aload_n d_S_symbol_24 0 rfl ?_
  refine rg_S_18 rfl d_S_symbol_25 gS rfl ?_
  refine r_iload_n d_S_symbol_28 1 rfl ?_
  refine r_qld (t := 2) rfl d_S_symbol_29 gNodes (by omega) (by decide) rfl ?_
  refine rg_S_173 rfl d_S_symbol_30 (gN (i := i) (by omega)) rfl ?_
  refine r_iload_n d_S_symbol_33 3 rfl ?_
  refine r_qld (t := 3) rfl d_S_symbol_34 (gR (i := i) (by omega)) (by omega) (by decide) rfl ?_
  refine r_iload d_S_symbol_35 4 rfl ?_
  refine rc_S_170 rfl d_S_symbol_37 (k_H_placeOf (by omega) hi hq1 hs (by omega) (by omega)) (gH (i := i) (p := rp c i o) (by omega) (by omega)) (room_ok (d' := d - 1) (by omega) (by decide)) ⟨Nat.le_refl _, Nat.le_refl _⟩ (Nat.le_of_ble_eq_true rfl) ?_
  refine r_istore (lv' := [(0, _), (1, _), (2, _), (3, _), (4, _), (5, _)]) d_S_symbol_40 (by decide) rfl ?_
  refine r_iload d_S_symbol_42 5 rfl ?_
  refine r_iconst (v := (-1)) d_S_symbol_44 (by decide) ?_
  refine r_icmp_ne (tgt := 52) d_S_symbol_45 (by decide) (fun c45 => ?_) (fun c45 => ?_)
  rotate_left 1
  · exact absurd c45 (nI_m1 (by omega))
  refine r_aload_n d_S_symbol_52 0 rfl ?_
  refine r_aload_n d_S_symbol_53 0 rfl ?_
  refine rg_S_18 rfl d_S_symbol_54 gS rfl ?_
  refine r_iload_n d_S_symbol_57 1 rfl ?_
  refine r_qld (t := 2) rfl d_S_symbol_58 gNodes (by omega) (by decide) rfl ?_
  refine r_iload d_S_symbol_59 5 rfl ?_
  refine r_iload_n d_S_symbol_61 2 rfl ?_
  refine rc_S_179 rfl d_S_symbol_62 (k_S_symbolFrom (by omega) hi h5 hj ht hD) gS (room_ok (d' := d - 1) (by omega) (by decide)) ⟨Nat.le_refl _, Nat.le_refl _⟩ (Nat.le_of_ble_eq_true rfl) ?_
  refine r_ireturn d_S_symbol_65 rfl rfl ⟨?_, rfl, ?_⟩
  · rfl
  · rfl
theorem k_S_count_bad {l : Launch} {g : GX} {c : CS} {m : MS} {n d : Nat} (hd : 1 ≤ d) {x : Int32} (h : inR x 6 = false) : CE l g M_S_count d 0 0 [.ref (aS g), .int x] n (hp g c m) (some (.int (-2))) n (hp g c m) := by
  refine CE.of (by decide +kernel) (lv := [(0, .ref (aS g)), (1, .int x)]) rfl (Nat.le_of_ble_eq_true rfl) ?_
  refine r_iload_n d_S_count_0 1 rfl ?_
  refine r_tswO (tgt := 70) d_S_count_1 (inR_out (by decide) h) (by decide) ?_
  refine r_bipush (v := (-2)) d_S_count_70 (by decide) ?_
  refine r_ireturn d_S_count_72 rfl rfl ⟨?_, rfl, ?_⟩
  · rfl
  · rfl
theorem k_S_count0 {l : Launch} {g : GX} {c : CS} {m : MS} {n d : Nat} (hd : 1 ≤ d)  : CE l g M_S_count d 0 0 [.ref (aS g), .int (nI 0)] n (hp g c m) (some (.int (nI (ct c.live 12)))) n (hp g c m) := by
  refine CE.of (by decide +kernel) (lv := [(0, .ref (aS g)), (1, .int (nI 0))]) rfl (Nat.le_of_ble_eq_true rfl) ?_
  refine r_iload_n d_S_count_0 1 rfl ?_
  refine r_tsw (off := 39) (tgt := 40) d_S_count_1 (by decide) (by decide) (by decide) (by decide) ?_
  refine r_aload_n d_S_count_40 0 rfl ?_
  refine rc_S_85 rfl d_S_count_41 (k_S_liveNodes (by omega)) gS (room_ok (d' := d - 1) (by omega) (by decide)) ⟨Nat.le_refl _, Nat.le_refl _⟩ (Nat.le_of_ble_eq_true rfl) ?_
  refine r_ireturn d_S_count_44 rfl rfl ⟨?_, rfl, ?_⟩
  · rfl
  · rfl
theorem k_S_count1 {l : Launch} {g : GX} {c : CS} {m : MS} {n d : Nat} (hd : 1 ≤ d)  : CE l g M_S_count d 0 0 [.ref (aS g), .int (nI 1)] n (hp g c m) (some (.int (nI c.tapeN))) n (hp g c m) := by
  refine CE.of (by decide +kernel) (lv := [(0, .ref (aS g)), (1, .int (nI 1))]) rfl (Nat.le_of_ble_eq_true rfl) ?_
  refine r_iload_n d_S_count_0 1 rfl ?_
  refine r_tsw (off := 44) (tgt := 45) d_S_count_1 (by decide) (by decide) (by decide) (by decide) ?_
  refine r_aload_n d_S_count_45 0 rfl ?_
  refine rg_S_33 rfl d_S_count_46 gS rfl ?_
  refine r_ireturn d_S_count_49 rfl rfl ⟨?_, rfl, ?_⟩
  · rfl
  · rfl
theorem k_S_count2 {l : Launch} {g : GX} {c : CS} {m : MS} {n d : Nat} (hd : 1 ≤ d)  : CE l g M_S_count d 0 0 [.ref (aS g), .int (nI 2)] n (hp g c m) (some (.int (c.msgs))) n (hp g c m) := by
  refine CE.of (by decide +kernel) (lv := [(0, .ref (aS g)), (1, .int (nI 2))]) rfl (Nat.le_of_ble_eq_true rfl) ?_
  refine r_iload_n d_S_count_0 1 rfl ?_
  refine r_tsw (off := 49) (tgt := 50) d_S_count_1 (by decide) (by decide) (by decide) (by decide) ?_
  refine r_aload_n d_S_count_50 0 rfl ?_
  refine rg_S_46 rfl d_S_count_51 gS rfl ?_
  refine r_ireturn d_S_count_54 rfl rfl ⟨?_, rfl, ?_⟩
  · rfl
  · rfl
theorem k_S_count3 {l : Launch} {g : GX} {c : CS} {m : MS} {n d : Nat} (hd : 1 ≤ d)  : CE l g M_S_count d 0 0 [.ref (aS g), .int (nI 3)] n (hp g c m) (some (.int (c.syms))) n (hp g c m) := by
  refine CE.of (by decide +kernel) (lv := [(0, .ref (aS g)), (1, .int (nI 3))]) rfl (Nat.le_of_ble_eq_true rfl) ?_
  refine r_iload_n d_S_count_0 1 rfl ?_
  refine r_tsw (off := 54) (tgt := 55) d_S_count_1 (by decide) (by decide) (by decide) (by decide) ?_
  refine r_aload_n d_S_count_55 0 rfl ?_
  refine rg_S_49 rfl d_S_count_56 gS rfl ?_
  refine r_ireturn d_S_count_59 rfl rfl ⟨?_, rfl, ?_⟩
  · rfl
  · rfl
theorem k_S_count4 {l : Launch} {g : GX} {c : CS} {m : MS} {n d : Nat} (hd : 1 ≤ d)  : CE l g M_S_count d 0 0 [.ref (aS g), .int (nI 4)] n (hp g c m) (some (.int (nI (ct c.unst 6)))) n (hp g c m) := by
  refine CE.of (by decide +kernel) (lv := [(0, .ref (aS g)), (1, .int (nI 4))]) rfl (Nat.le_of_ble_eq_true rfl) ?_
  refine r_iload_n d_S_count_0 1 rfl ?_
  refine r_tsw (off := 59) (tgt := 60) d_S_count_1 (by decide) (by decide) (by decide) (by decide) ?_
  refine r_aload_n d_S_count_60 0 rfl ?_
  refine rc_S_182 rfl d_S_count_61 (k_S_openObjects (by omega)) gS (room_ok (d' := d - 1) (by omega) (by decide)) ⟨Nat.le_refl _, Nat.le_refl _⟩ (Nat.le_of_ble_eq_true rfl) ?_
  refine r_ireturn d_S_count_64 rfl rfl ⟨?_, rfl, ?_⟩
  · rfl
  · rfl
theorem k_S_count5 {l : Launch} {g : GX} {c : CS} {m : MS} {n d : Nat} (hd : 1 ≤ d)  : CE l g M_S_count d 0 0 [.ref (aS g), .int (nI 5)] n (hp g c m) (some (.int (c.cut))) n (hp g c m) := by
  refine CE.of (by decide +kernel) (lv := [(0, .ref (aS g)), (1, .int (nI 5))]) rfl (Nat.le_of_ble_eq_true rfl) ?_
  refine r_iload_n d_S_count_0 1 rfl ?_
  refine r_tsw (off := 64) (tgt := 65) d_S_count_1 (by decide) (by decide) (by decide) (by decide) ?_
  refine r_aload_n d_S_count_65 0 rfl ?_
  refine rg_S_43 rfl d_S_count_66 gS rfl ?_
  refine r_ireturn d_S_count_69 rfl rfl ⟨?_, rfl, ?_⟩
  · rfl
  · rfl
def dgN (c : CS) (i : Nat) (h : Int64) : Int64 := 31 * (31 * (31 * h + (b2 (c.live i)).toInt64) + (c.sent i).toInt64) + (nI (frN c i)).toInt64
def dgO (c : CS) (i : Nat) (h : Int64) : Nat → Int64
  | 0 => h
  | o + 1 => dgR c i o (dgO c i h o)
def dgA (c : CS) : Nat → Int64
  | 0 => 11
  | i + 1 => dgO c i (dgN c i (dgA c i)) 6
theorem k_S_digest {l : Launch} {g : GX} {c : CS} {m : MS} {n d : Nat} (hd : 2 ≤ d) (hc : CI c) (ht : ∀ i, i < 12 → ∀ o, o < 6 → TKok c i (rp c i o)) : CE l g M_S_digest d 0 0 [.ref (aS g)] n (hp g c m) (some (.long (dgA c 12))) n (hp g c m) := by
  refine CE.of (by decide +kernel) (lv := [(0, .ref (aS g))]) rfl (Nat.le_of_ble_eq_true rfl) ?_
  refine r_ldc2 (v := 11) d_S_digest_0 (by decide +kernel) ?_
  refine r_lstore_n (lv' := [(0, _), (1, _)]) d_S_digest_3 (by decide) rfl ?_
  refine r_iconst (v := nI 0) d_S_digest_4 (by decide) ?_
  refine r_istore_n (lv' := [(0, _), (1, _), (3, _)]) d_S_digest_5 (by decide) rfl ?_
  refine r_less (lv' := [(0, .ref (aS g)), (1, .long (11 : Int64)), (3, .int (nI 0))]) (by simp) ?_
  refine back_ind (n := 12) (G := fun i => RJ l g M_S_digest (RMX d 0 0) (TQ g 0 0 (QE (some (.long (dgA c 12))) n (hp g c m))) XT n (hp g c m) 0 0 6 [(0, .ref (aS g)), (1, .long (dgA c i)), (3, .int (nI i))] []) ?_ ?_ 0 (Nat.zero_le _)
  · skip
    refine r_iload_n d_S_digest_6 2 rfl ?_
    refine r_bipush (v := nI 12) d_S_digest_7 (by decide) ?_
    refine r_icmp_geN (tgt := 98) d_S_digest_9 (by decide) (by omega) (by omega) (fun c9 => ?_) (fun c9 => ?_)
    rotate_left 1
    · exfalso; first | omega | (revert c9; decide) | cases c9
    refine r_lload_n d_S_digest_98 1 rfl ?_
    refine r_lreturn d_S_digest_99 rfl ⟨?_, rfl, ?_⟩
    · rfl
    · rfl
  · intro i hb_i ih_i
    refine r_iload_n d_S_digest_6 2 rfl ?_
    refine r_bipush (v := nI 12) d_S_digest_7 (by decide) ?_
    refine r_icmp_geN (tgt := 98) d_S_digest_9 (by decide) (by omega) (by omega) (fun c9 => ?_) (fun c9 => ?_)
    · exfalso; first | omega | (revert c9; decide) | cases c9
    refine r_aload_n d_S_digest_12 0 rfl ?_
    refine rg_S_18 rfl d_S_digest_13 gS rfl ?_
    refine r_iload_n d_S_digest_16 2 rfl ?_
    refine r_qld (t := 2) rfl d_S_digest_17 gNodes (by omega) (by decide) rfl ?_
    refine r_astore (lv' := [(0, _), (1, _), (3, _), (4, _)]) d_S_digest_18 (by decide) rfl ?_
    refine r_ldc2 (v := 31) d_S_digest_20 (by decide +kernel) ?_
    refine r_lload_n d_S_digest_23 1 rfl ?_
    refine r_lmul d_S_digest_24 ?_
    refine r_aload d_S_digest_25 3 rfl ?_
    refine rg_S_103 rfl d_S_digest_27 (gN (i := i) (by omega)) rfl ?_
    have J30 : RJ l g M_S_digest (RMX d 0 0) (TQ g 0 0 (QE (some (.long (dgA c 12))) n (hp g c m))) XT n (hp g c m) 0 0 38 [(0, .ref (aS g)), (1, .long (dgA c i)), (3, .int (nI i)), (4, .ref (aN g i))] [.int (b2 (c.live i)), .long ((31 : Int64) * (dgA c i))] := by
      refine r_i2l d_S_digest_38 ?_
      refine r_ladd d_S_digest_39 ?_
      refine r_lstore_n (lv' := [(0, _), (1, _), (3, _), (4, _)]) d_S_digest_40 (by decide) rfl ?_
      refine r_ldc2 (v := 31) d_S_digest_41 (by decide +kernel) ?_
      refine r_lload_n d_S_digest_44 1 rfl ?_
      refine r_lmul d_S_digest_45 ?_
      refine r_aload d_S_digest_46 3 rfl ?_
      refine rg_S_163 rfl d_S_digest_48 (gN (i := i) (by omega)) rfl ?_
      refine r_i2l d_S_digest_51 ?_
      refine r_ladd d_S_digest_52 ?_
      refine r_lstore_n (lv' := [(0, _), (1, _), (3, _), (4, _)]) d_S_digest_53 (by decide) rfl ?_
      refine r_ldc2 (v := 31) d_S_digest_54 (by decide +kernel) ?_
      refine r_lload_n d_S_digest_57 1 rfl ?_
      refine r_lmul d_S_digest_58 ?_
      refine r_aload d_S_digest_59 3 rfl ?_
      refine rc_S_140 rfl d_S_digest_61 (k_N_freeBlocks (by omega) hb_i) (gN (i := i) (by omega)) (room_ok (d' := d - 1) (by omega) (by decide)) ⟨Nat.le_refl _, Nat.le_refl _⟩ (Nat.le_of_ble_eq_true rfl) ?_
      refine r_i2l d_S_digest_64 ?_
      refine r_ladd d_S_digest_65 ?_
      refine r_lstore_n (lv' := [(0, _), (1, _), (3, _), (4, _)]) d_S_digest_66 (by decide) rfl ?_
      refine r_iconst (v := nI 0) d_S_digest_67 (by decide) ?_
      refine r_istore (lv' := [(0, _), (1, _), (3, _), (4, _), (5, _)]) d_S_digest_68 (by decide) rfl ?_
      refine back_ind (n := 6) (G := fun o => RJ l g M_S_digest (RMX d 0 0) (TQ g 0 0 (QE (some (.long (dgA c 12))) n (hp g c m))) XT n (hp g c m) 0 0 70 [(0, .ref (aS g)), (1, .long (dgO c i (dgN c i (dgA c i)) o)), (3, .int (nI i)), (4, .ref (aN g i)), (5, .int (nI o))] []) ?_ ?_ 0 (Nat.zero_le _)
      · skip
        refine r_iload d_S_digest_70 4 rfl ?_
        refine r_bipush (v := nI 6) d_S_digest_72 (by decide) ?_
        refine r_icmp_geN (tgt := 92) d_S_digest_74 (by decide) (by omega) (by omega) (fun c74 => ?_) (fun c74 => ?_)
        rotate_left 1
        · exfalso; first | omega | (revert c74; decide) | cases c74
        refine r_iincN (lv' := [(0, _), (1, _), (3, _), (4, _), (5, _)]) d_S_digest_92 2 rfl (by decide) rfl ?_
        refine r_goto (tgt := 6) d_S_digest_95 (by decide) ?_
        refine r_less (lv' := [(0, .ref (aS g)), (1, .long (dgO c i (dgN c i (dgA c i)) 6)), (3, .int (nI (i + 1)))]) (by simp) ?_
        exact ih_i
      · intro o hb_o ih_o
        refine r_iload d_S_digest_70 4 rfl ?_
        refine r_bipush (v := nI 6) d_S_digest_72 (by decide) ?_
        refine r_icmp_geN (tgt := 92) d_S_digest_74 (by decide) (by omega) (by omega) (fun c74 => ?_) (fun c74 => ?_)
        · exfalso; first | omega | (revert c74; decide) | cases c74
        refine r_lload_n d_S_digest_77 1 rfl ?_
        refine r_aload d_S_digest_78 3 rfl ?_
        refine r_iload d_S_digest_80 4 rfl ?_
        refine rc_S_189 rfl d_S_digest_82 (k_S_digestOfRecord (by omega) hb_i hb_o hc (ht i hb_i o hb_o)) (room_ok (d' := d - 1) (by omega) (by decide)) ⟨Nat.le_refl _, Nat.le_refl _⟩ (Nat.le_of_ble_eq_true rfl) ?_
        refine r_lstore_n (lv' := [(0, _), (1, _), (3, _), (4, _), (5, _)]) d_S_digest_85 (by decide) rfl ?_
        refine r_iincN (lv' := [(0, _), (1, _), (3, _), (4, _), (5, _)]) d_S_digest_86 4 rfl (by decide) rfl ?_
        refine r_goto (tgt := 70) d_S_digest_89 (by decide) ?_
        exact ih_o
    refine r_if_eqB (tgt := 37) d_S_digest_30 (by decide) (fun c30 => ?_) (fun c30 => ?_)
    · skip
      refine r_iconst (v := nI 0) d_S_digest_37 (by decide) ?_
      refine r_top (y := b2 (c.live i)) (by rw [c30]; rfl) ?_
      exact r_at J30 (rfl) rfl rfl
    · skip
      refine r_iconst (v := nI 1) d_S_digest_33 (by decide) ?_
      refine r_top (y := b2 (c.live i)) (by rw [c30]; rfl) ?_
      refine r_goto (tgt := 38) d_S_digest_34 (by decide) ?_
      exact r_at J30 (rfl) rfl rfl
def clO (X : CS) (i : Nat) : CS := (lvC (gaC X i 6) i).s_sent (upN (lvC (gaC X i 6) i).sent i (nI 0))
def clL (c : CS) : Nat → CS
  | 0 => c
  | i + 1 => clO (clL c i) i
def clB (X : CS) : Nat → CS
  | 0 => X
  | o + 1 => ((clB X o).s_begun (upN (clB X o).begun o 0)).s_unst (upN (clB X o).unst o false)
def clrC (c : CS) : CS := ((clB (clL c 12) 6).s_tapeN 0).s_cut (-1)
theorem clL_CI {c : CS} (h : CI c) : ∀ i, CI (clL c i)
  | 0 => h
  | i + 1 => CI_ga (i := i) (clL_CI h i) 6
theorem k_S_clear {l : Launch} {g : GX} {c : CS} {m : MS} {n d : Nat} (hd : 5 ≤ d) (hc : CI c) : CE l g M_S_clear d 0 0 [.ref (aS g)] n (hp g c m) (some (.int (nI (ct (fun o => decide (0 < nw c o)) 6)))) n (hp g (clrC c) m) := by
  refine CE.of (by decide +kernel) (lv := [(0, .ref (aS g))]) rfl (Nat.le_of_ble_eq_true rfl) ?_
  refine r_iconst (v := nI 0) d_S_clear_0 (by decide) ?_
  refine r_istore_n (lv' := [(0, _), (1, _)]) d_S_clear_1 (by decide) rfl ?_
  refine r_iconst (v := nI 0) d_S_clear_2 (by decide) ?_
  refine r_istore_n (lv' := [(0, _), (1, _), (2, _)]) d_S_clear_3 (by decide) rfl ?_
  refine back_ind (n := 6) (G := fun o => RJ l g M_S_clear (RMX d 0 0) (TQ g 0 0 (QE (some (.int (nI (ct (fun o => decide (0 < nw c o)) 6)))) n (hp g (clrC c) m))) XT n (hp g c m) 0 0 4 [(0, .ref (aS g)), (1, .int (nI (ct (fun o => decide (0 < nw c o)) o))), (2, .int (nI o))] []) ?_ ?_ 0 (Nat.zero_le _)
  · skip
    refine r_iload_n d_S_clear_4 2 rfl ?_
    refine r_bipush (v := nI 6) d_S_clear_5 (by decide) ?_
    refine r_icmp_geN (tgt := 27) d_S_clear_7 (by decide) (by omega) (by omega) (fun c7 => ?_) (fun c7 => ?_)
    rotate_left 1
    · exfalso; first | omega | (revert c7; decide) | cases c7
    refine r_heap (h' := hp g (clL c 0) m) rfl ?_
    refine r_iconst (v := nI 0) d_S_clear_27 (by decide) ?_
    refine r_istore_n (lv' := [(0, _), (1, _), (2, _)]) d_S_clear_28 (by decide) rfl ?_
    refine back_ind (n := 12) (G := fun i => RJ l g M_S_clear (RMX d 0 0) (TQ g 0 0 (QE (some (.int (nI (ct (fun o => decide (0 < nw c o)) 6)))) n (hp g (clrC c) m))) XT n (hp g (clL c i) m) 0 0 29 [(0, .ref (aS g)), (1, .int (nI (ct (fun o => decide (0 < nw c o)) 6))), (2, .int (nI i))] []) ?_ ?_ 0 (Nat.zero_le _)
    · skip
      refine r_iload_n d_S_clear_29 2 rfl ?_
      refine r_bipush (v := nI 12) d_S_clear_30 (by decide) ?_
      refine r_icmp_geN (tgt := 70) d_S_clear_32 (by decide) (by omega) (by omega) (fun c32 => ?_) (fun c32 => ?_)
      rotate_left 1
      · exfalso; first | omega | (revert c32; decide) | cases c32
      refine r_heap (h' := hp g (clB (clL c 12) 0) m) rfl ?_
      refine r_iconst (v := nI 0) d_S_clear_70 (by decide) ?_
      refine r_istore_n (lv' := [(0, _), (1, _), (2, _)]) d_S_clear_71 (by decide) rfl ?_
      refine back_ind (n := 6) (G := fun q => RJ l g M_S_clear (RMX d 0 0) (TQ g 0 0 (QE (some (.int (nI (ct (fun o => decide (0 < nw c o)) 6)))) n (hp g (clrC c) m))) XT n (hp g (clB (clL c 12) q) m) 0 0 72 [(0, .ref (aS g)), (1, .int (nI (ct (fun o => decide (0 < nw c o)) 6))), (2, .int (nI q))] []) ?_ ?_ 0 (Nat.zero_le _)
      · skip
        refine r_iload_n d_S_clear_72 2 rfl ?_
        refine r_bipush (v := nI 6) d_S_clear_73 (by decide) ?_
        refine r_icmp_geN (tgt := 98) d_S_clear_75 (by decide) (by omega) (by omega) (fun c75 => ?_) (fun c75 => ?_)
        rotate_left 1
        · exfalso; first | omega | (revert c75; decide) | cases c75
        refine r_aload_n d_S_clear_98 0 rfl ?_
        refine r_iconst (v := nI 0) d_S_clear_99 (by decide) ?_
        refine rp_S_33 rfl d_S_clear_100 gS (Nat.le_of_ble_eq_true rfl) rfl (wS_tapeN (v := 0)) ?_
        refine r_aload_n d_S_clear_103 0 rfl ?_
        refine r_iconst (v := (-1)) d_S_clear_104 (by decide) ?_
        refine rp_S_43 rfl d_S_clear_105 gS (Nat.le_of_ble_eq_true rfl) rfl (wS_cut (v := (-1))) ?_
        refine r_iload_n d_S_clear_108 1 rfl ?_
        refine r_ireturn d_S_clear_109 rfl rfl ⟨?_, rfl, ?_⟩
        · rfl
        · rfl
      · intro q hb_q ih_q
        refine r_iload_n d_S_clear_72 2 rfl ?_
        refine r_bipush (v := nI 6) d_S_clear_73 (by decide) ?_
        refine r_icmp_geN (tgt := 98) d_S_clear_75 (by decide) (by omega) (by omega) (fun c75 => ?_) (fun c75 => ?_)
        · exfalso; first | omega | (revert c75; decide) | cases c75
        refine r_aload_n d_S_clear_78 0 rfl ?_
        refine rg_S_22 rfl d_S_clear_79 gS rfl ?_
        refine r_iload_n d_S_clear_82 2 rfl ?_
        refine r_iconst (v := nI 0) d_S_clear_83 (by decide) ?_
        refine r_astN d_S_clear_84 gBeg (by omega) (by decide) (wbegun) ?_
        refine r_aload_n d_S_clear_85 0 rfl ?_
        refine rg_S_26 rfl d_S_clear_86 gS rfl ?_
        refine r_iload_n d_S_clear_89 2 rfl ?_
        refine r_iconst (v := nI 0) d_S_clear_90 (by decide) ?_
        refine r_zast (b := false) d_S_clear_91 rfl gUns (by omega) (by decide) (wunst) ?_
        refine r_iincN (lv' := [(0, _), (1, _), (2, _)]) d_S_clear_92 2 rfl (by decide) rfl ?_
        refine r_goto (tgt := 72) d_S_clear_95 (by decide) ?_
        exact ih_q
    · intro i hb_i ih_i
      have hci := clL_CI hc i
      refine r_iload_n d_S_clear_29 2 rfl ?_
      refine r_bipush (v := nI 12) d_S_clear_30 (by decide) ?_
      refine r_icmp_geN (tgt := 70) d_S_clear_32 (by decide) (by omega) (by omega) (fun c32 => ?_) (fun c32 => ?_)
      · exfalso; first | omega | (revert c32; decide) | cases c32
      refine r_aload_n d_S_clear_35 0 rfl ?_
      refine rg_S_18 rfl d_S_clear_36 gS rfl ?_
      refine r_iload_n d_S_clear_39 2 rfl ?_
      refine r_qld (t := 2) rfl d_S_clear_40 gNodes (by omega) (by decide) rfl ?_
      refine rc_S_143 rfl d_S_clear_41 (k_N_giveUpAll (c := clL c i) (by omega) hb_i hci) (gN (i := i) (by omega)) (room_ok (d' := d - 1) (by omega) (by decide)) ⟨Nat.le_refl _, Nat.le_refl _⟩ (Nat.le_of_ble_eq_true rfl) ?_
      refine r_aload_n d_S_clear_44 0 rfl ?_
      refine rg_S_18 rfl d_S_clear_45 gS rfl ?_
      refine r_iload_n d_S_clear_48 2 rfl ?_
      refine r_qld (t := 2) rfl d_S_clear_49 gNodes (by omega) (by decide) rfl ?_
      refine r_iconst (v := nI 1) d_S_clear_50 (by decide) ?_
      refine r_at (st' := .int (b2 true) :: _) ?_ rfl rfl rfl
      refine rp_S_103 rfl d_S_clear_51 (gN (i := i) (by omega)) (Nat.le_of_ble_eq_true rfl) rfl (wN_live (i := i) (by omega) (v := true)) ?_
      refine r_aload_n d_S_clear_54 0 rfl ?_
      refine rg_S_18 rfl d_S_clear_55 gS rfl ?_
      refine r_iload_n d_S_clear_58 2 rfl ?_
      refine r_qld (t := 2) rfl d_S_clear_59 gNodes (by omega) (by decide) rfl ?_
      refine r_iconst (v := nI 0) d_S_clear_60 (by decide) ?_
      refine rp_S_163 rfl d_S_clear_61 (gN (i := i) (by omega)) (Nat.le_of_ble_eq_true rfl) rfl (wN_sent (i := i) (by omega) (v := nI 0)) ?_
      refine r_iincN (lv' := [(0, _), (1, _), (2, _)]) d_S_clear_64 2 rfl (by decide) rfl ?_
      refine r_goto (tgt := 29) d_S_clear_67 (by decide) ?_
      exact ih_i
  · intro o hb_o ih_o
    have hw := nw_lt (o := o) hc
    refine r_iload_n d_S_clear_4 2 rfl ?_
    refine r_bipush (v := nI 6) d_S_clear_5 (by decide) ?_
    refine r_icmp_geN (tgt := 27) d_S_clear_7 (by decide) (by omega) (by omega) (fun c7 => ?_) (fun c7 => ?_)
    · exfalso; first | omega | (revert c7; decide) | cases c7
    refine r_aload_n d_S_clear_10 0 rfl ?_
    refine r_iload_n d_S_clear_11 2 rfl ?_
    refine rc_S_134 rfl d_S_clear_12 (k_S_newestOf (by omega) hb_o hc) gS (room_ok (d' := d - 1) (by omega) (by decide)) ⟨Nat.le_refl _, Nat.le_refl _⟩ (Nat.le_of_ble_eq_true rfl) ?_
    refine r_if_leN (tgt := 21) d_S_clear_15 (by decide) (by omega) (fun c15 => ?_) (fun c15 => ?_)
    · skip
      refine r_iincN (lv' := [(0, _), (1, _), (2, _)]) d_S_clear_21 2 rfl (by decide) rfl ?_
      refine r_goto (tgt := 4) d_S_clear_24 (by decide) ?_
      exact r_at ih_o rfl (by first | (rw [ct_t (decide_eq_true c15)]; done) | (rw [ct_f (decide_eq_false (by omega))]; done)) rfl
    · skip
      refine r_iincN (lv' := [(0, _), (1, _), (2, _)]) d_S_clear_18 1 rfl (by decide) rfl ?_
      refine r_iincN (lv' := [(0, _), (1, _), (2, _)]) d_S_clear_21 2 rfl (by decide) rfl ?_
      refine r_goto (tgt := 4) d_S_clear_24 (by decide) ?_
      exact r_at ih_o rfl (by first | (rw [ct_t (decide_eq_true c15)]; done) | (rw [ct_f (decide_eq_false (by omega))]; done)) rfl
