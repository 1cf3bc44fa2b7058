def TKok (c : CS) (i p : Nat) : Prop := ∀ s, s < c.hstr i p → c.takn i (c.hpl i p s) = true
def syF (c : CS) (i b j : Nat) : Nat := xs (fun k => mulT (c.data i (b * 8 + k)) (rowT j k)) 8
theorem syF_lt (c : CS) (i b j : Nat) : syF c i b j < 256 := xs_lt (fun k => mulT_lt _ _) 8
theorem k_S_symbolFrom {l : Launch} {g : GX} {c : CS} {m : MS} {n d : Nat} (hd : 2 ≤ d) {i b j : Nat} (hi : i < 12) (hb : b < 40) (hj : j < 12) (ht : c.takn i b = true) (hD : BM c.data) : CE l g M_S_symbolFrom d 0 0 [.ref (aS g), .ref (aN g i), .int (nI b), .int (nI j)] n (hp g c m) (some (.int (nI (syF c i b j)))) n (hp g c m) := by
  refine CE.of (by decide +kernel) (lv := [(0, .ref (aS g)), (1, .ref (aN g i)), (2, .int (nI b)), (3, .int (nI j))]) rfl (Nat.le_of_ble_eq_true rfl) ?_
  refine r_iconst (v := nI 0) d_S_symbolFrom_0 (by decide) ?_
  refine r_istore (lv' := [(0, _), (1, _), (2, _), (3, _), (4, _)]) d_S_symbolFrom_1 (by decide) rfl ?_
  refine r_iconst (v := nI 0) d_S_symbolFrom_3 (by decide) ?_
  refine r_istore (lv' := [(0, _), (1, _), (2, _), (3, _), (4, _), (5, _)]) d_S_symbolFrom_4 (by decide) rfl ?_
  refine back_ind (n := 8) (G := fun k => RJ l g M_S_symbolFrom (RMX d 0 0) (TQ g 0 0 (QE (some (.int (nI (syF c i b j)))) n (hp g c m))) XT n (hp g c m) 0 0 6 [(0, .ref (aS g)), (1, .ref (aN g i)), (2, .int (nI b)), (3, .int (nI j)), (4, .int (nI (xs (fun k => mulT (c.data i (b * 8 + k)) (rowT j k)) k))), (5, .int (nI k))] []) ?_ ?_ 0 (Nat.zero_le _)
  · skip
    refine r_iload d_S_symbolFrom_6 5 rfl ?_
    refine r_bipush (v := nI 8) d_S_symbolFrom_8 (by decide) ?_
    refine r_icmp_geN (tgt := 51) d_S_symbolFrom_10 (by decide) (by omega) (by omega) (fun c10 => ?_) (fun c10 => ?_)
    rotate_left 1
    · exfalso; first | omega | (revert c10; decide) | cases c10
    refine r_iload d_S_symbolFrom_51 4 rfl ?_
    refine r_ireturn d_S_symbolFrom_53 rfl rfl ⟨?_, rfl, ?_⟩
    · rfl
    · rfl
  · intro k hb_k ih_k
    refine r_iload d_S_symbolFrom_6 5 rfl ?_
    refine r_bipush (v := nI 8) d_S_symbolFrom_8 (by decide) ?_
    refine r_icmp_geN (tgt := 51) d_S_symbolFrom_10 (by decide) (by omega) (by omega) (fun c10 => ?_) (fun c10 => ?_)
    · exfalso; first | omega | (revert c10; decide) | cases c10
    refine r_iload d_S_symbolFrom_13 4 rfl ?_
    refine r_aload_n d_S_symbolFrom_15 0 rfl ?_
    refine rg_S_10 rfl d_S_symbolFrom_16 gS rfl ?_
    refine rg_S_63 rfl d_S_symbolFrom_19 gC rfl ?_
    refine r_aload_n d_S_symbolFrom_22 1 rfl ?_
    refine r_iload_n d_S_symbolFrom_23 2 rfl ?_
    refine r_iload d_S_symbolFrom_24 5 rfl ?_
    refine rc_S_176 rfl d_S_symbolFrom_26 (k_N_byteAt (by omega) hi hb hb_k ht) (gN (i := i) (by omega)) (room_ok (d' := d - 1) (by omega) (by decide)) ⟨Nat.le_refl _, Nat.le_refl _⟩ (Nat.le_of_ble_eq_true rfl) ?_
    refine r_aload_n d_S_symbolFrom_29 0 rfl ?_
    refine rg_S_10 rfl d_S_symbolFrom_30 gS rfl ?_
    refine r_iload_n d_S_symbolFrom_33 3 rfl ?_
    refine r_iload d_S_symbolFrom_34 5 rfl ?_
    refine rc_S_79 rfl d_S_symbolFrom_36 (k_C_rowByte (by omega) hj hb_k) gC (room_ok (d' := d - 1) (by omega) (by decide)) ⟨Nat.le_refl _, Nat.le_refl _⟩ (Nat.le_of_ble_eq_true rfl) ?_
    refine rc_S_67 rfl d_S_symbolFrom_39 (k_F_product (by omega) (hD i _) (rowT_lt j k)) gF (room_ok (d' := d - 1) (by omega) (by decide)) ⟨Nat.le_refl _, Nat.le_refl _⟩ (Nat.le_of_ble_eq_true rfl) ?_
    refine r_ixorN d_S_symbolFrom_42 ?_
    refine r_istore (lv' := [(0, _), (1, _), (2, _), (3, _), (4, _), (5, _)]) d_S_symbolFrom_43 (by decide) rfl ?_
    refine r_iincN (lv' := [(0, _), (1, _), (2, _), (3, _), (4, _), (5, _)]) d_S_symbolFrom_45 5 rfl (by decide) rfl ?_
    refine r_goto (tgt := 6) d_S_symbolFrom_48 (by decide) ?_
    exact ih_k
def dgL (c : CS) (i o : Nat) (h : Int64) : Nat → Int64
  | 0 => h
  | w + 1 => 31 * dgL c i o h w + (recN c i o w).toInt64
def dgK (D : Nat → Nat) (b : Nat) (h : Int64) : Nat → Int64
  | 0 => h
  | k + 1 => 31 * dgK D b h k + (nI (D (b * 8 + k))).toInt64
def dgS (c : CS) (i p : Nat) (h : Int64) : Nat → Int64
  | 0 => h
  | s + 1 => dgK (c.data i) (c.hpl i p s) (dgS c i p h s) 8
def dgR (c : CS) (i o : Nat) (h : Int64) : Int64 := dgS c i (rp c i o) (dgL c i o h 6) (rstr c i o)
theorem k_S_digestOfRecord {l : Launch} {g : GX} {c : CS} {m : MS} {n d : Nat} (hd : 1 ≤ d) {h : Int64} {i o : Nat} (hi : i < 12) (ho : o < 6) (hc : CI c) (ht : TKok c i (rp c i o)) : CE l g M_S_digestOfRecord d 0 0 [.long h, .ref (aN g i), .int (nI o)] n (hp g c m) (some (.long (dgR c i o h))) n (hp g c m) := by
  have hq := rp_lt (c := c) (i := i) ho
  have h8 : c.hstr i (rp c i o) ≤ 8 := (hc i _).1
  refine CE.of (by decide +kernel) (lv := [(0, .long h), (2, .ref (aN g i)), (3, .int (nI o))]) rfl (Nat.le_of_ble_eq_true rfl) ?_
  refine r_lload_n d_S_digestOfRecord_0 0 rfl ?_
  refine r_lstore (lv' := [(0, _), (2, _), (3, _), (4, _)]) d_S_digestOfRecord_1 (by decide) rfl ?_
  refine r_iconst (v := nI 0) d_S_digestOfRecord_3 (by decide) ?_
  refine r_istore (lv' := [(0, _), (2, _), (3, _), (4, _), (6, _)]) d_S_digestOfRecord_4 (by decide) rfl ?_
  refine back_ind (n := 6) (G := fun w => RJ l g M_S_digestOfRecord (RMX d 0 0) (TQ g 0 0 (QE (some (.long (dgR c i o h))) n (hp g c m))) XT n (hp g c m) 0 0 6 [(0, .long h), (2, .ref (aN g i)), (3, .int (nI o)), (4, .long (dgL c i o h w)), (6, .int (nI w))] []) ?_ ?_ 0 (Nat.zero_le _)
  · skip
    refine r_iload d_S_digestOfRecord_6 4 rfl ?_
    refine r_bipush (v := nI 6) d_S_digestOfRecord_8 (by decide) ?_
    refine r_icmp_geN (tgt := 36) d_S_digestOfRecord_10 (by decide) (by omega) (by omega) (fun c10 => ?_) (fun c10 => ?_)
    rotate_left 1
    · exfalso; first | omega | (revert c10; decide) | cases c10
    refine r_aload_n d_S_digestOfRecord_36 1 rfl ?_
    refine rg_S_173 rfl d_S_digestOfRecord_37 (gN (i := i) (by omega)) rfl ?_
    refine r_iload_n d_S_digestOfRecord_40 2 rfl ?_
    refine r_qld (t := 3) rfl d_S_digestOfRecord_41 (gR (i := i) (by omega)) (by omega) (by decide) rfl ?_
    refine r_astore (lv' := [(0, _), (2, _), (3, _), (4, _), (6, _)]) d_S_digestOfRecord_42 (by decide) rfl ?_
    refine r_iconst (v := nI 0) d_S_digestOfRecord_44 (by decide) ?_
    refine r_istore (lv' := [(0, _), (2, _), (3, _), (4, _), (6, _), (7, _)]) d_S_digestOfRecord_45 (by decide) rfl ?_
    refine r_less (lv' := [(0, .long h), (2, .ref (aN g i)), (3, .int (nI o)), (4, .long (dgL c i o h 6)), (6, .ref (aH g i (rp c i o))), (7, .int (nI 0))]) (by simp) ?_
    refine back_ind (n := rstr c i o) (G := fun s => RJ l g M_S_digestOfRecord (RMX d 0 0) (TQ g 0 0 (QE (some (.long (dgR c i o h))) n (hp g c m))) XT n (hp g c m) 0 0 47 [(0, .long h), (2, .ref (aN g i)), (3, .int (nI o)), (4, .long (dgS c i (rp c i o) (dgL c i o h 6) s)), (6, .ref (aH g i (rp c i o))), (7, .int (nI s))] []) ?_ ?_ 0 (Nat.zero_le _)
    · skip
      have e9 : rstr c i o = c.hstr i (rp c i o) := rfl
      refine r_iload d_S_digestOfRecord_47 5 rfl ?_
      refine r_aload d_S_digestOfRecord_49 4 rfl ?_
      refine rg_S_204 rfl d_S_digestOfRecord_51 (gH (i := i) (p := rp c i o) (by omega) (by omega)) rfl ?_
      refine r_icmp_geN (tgt := 106) d_S_digestOfRecord_54 (by decide) (by omega) (by omega) (fun c54 => ?_) (fun c54 => ?_)
      rotate_left 1
      · exfalso; first | omega | (revert c54; decide) | cases c54
      refine r_lload d_S_digestOfRecord_106 3 rfl ?_
      refine r_lreturn d_S_digestOfRecord_108 rfl ⟨?_, rfl, ?_⟩
      · rfl
      · rfl
    · intro s hb_s ih_s
      have e9 : rstr c i o = c.hstr i (rp c i o) := rfl
      have h40 := (hc i (rp c i o)).2.2.2 s
      refine r_iload d_S_digestOfRecord_47 5 rfl ?_
      refine r_aload d_S_digestOfRecord_49 4 rfl ?_
      refine rg_S_204 rfl d_S_digestOfRecord_51 (gH (i := i) (p := rp c i o) (by omega) (by omega)) rfl ?_
      refine r_icmp_geN (tgt := 106) d_S_digestOfRecord_54 (by decide) (by omega) (by omega) (fun c54 => ?_) (fun c54 => ?_)
      · exfalso; first | omega | (revert c54; decide) | cases c54
      refine r_aload d_S_digestOfRecord_57 4 rfl ?_
      refine r_iload d_S_digestOfRecord_59 5 rfl ?_
      refine rc_S_170 rfl d_S_digestOfRecord_61 (k_H_placeOf (by omega) hi hq (by omega) (by omega) (by omega)) (gH (i := i) (p := rp c i o) (by omega) (by omega)) (room_ok (d' := d - 1) (by omega) (by decide)) ⟨Nat.le_refl _, Nat.le_refl _⟩ (Nat.le_of_ble_eq_true rfl) ?_
      refine r_istore (lv' := [(0, _), (2, _), (3, _), (4, _), (6, _), (7, _), (8, _)]) d_S_digestOfRecord_64 (by decide) rfl ?_
      refine r_iconst (v := nI 0) d_S_digestOfRecord_66 (by decide) ?_
      refine r_istore (lv' := [(0, _), (2, _), (3, _), (4, _), (6, _), (7, _), (8, _), (9, _)]) d_S_digestOfRecord_67 (by decide) rfl ?_
      refine back_ind (n := 8) (G := fun k => RJ l g M_S_digestOfRecord (RMX d 0 0) (TQ g 0 0 (QE (some (.long (dgR c i o h))) n (hp g c m))) XT n (hp g c m) 0 0 69 [(0, .long h), (2, .ref (aN g i)), (3, .int (nI o)), (4, .long (dgK (c.data i) (c.hpl i (rp c i o) s) (dgS c i (rp c i o) (dgL c i o h 6) s) k)), (6, .ref (aH g i (rp c i o))), (7, .int (nI s)), (8, .int (nI (c.hpl i (rp c i o) s))), (9, .int (nI k))] []) ?_ ?_ 0 (Nat.zero_le _)
      · skip
        refine r_iload d_S_digestOfRecord_69 7 rfl ?_
        refine r_bipush (v := nI 8) d_S_digestOfRecord_71 (by decide) ?_
        refine r_icmp_geN (tgt := 100) d_S_digestOfRecord_73 (by decide) (by omega) (by omega) (fun c73 => ?_) (fun c73 => ?_)
        rotate_left 1
        · exfalso; first | omega | (revert c73; decide) | cases c73
        refine r_iincN (lv' := [(0, _), (2, _), (3, _), (4, _), (6, _), (7, _), (8, _), (9, _)]) d_S_digestOfRecord_100 5 rfl (by decide) rfl ?_
        refine r_goto (tgt := 47) d_S_digestOfRecord_103 (by decide) ?_
        refine r_less (lv' := [(0, .long h), (2, .ref (aN g i)), (3, .int (nI o)), (4, .long (dgK (c.data i) (c.hpl i (rp c i o) s) (dgS c i (rp c i o) (dgL c i o h 6) s) 8)), (6, .ref (aH g i (rp c i o))), (7, .int (nI (s + 1)))]) (by simp) ?_
        exact ih_s
      · intro k hb_k ih_k
        refine r_iload d_S_digestOfRecord_69 7 rfl ?_
        refine r_bipush (v := nI 8) d_S_digestOfRecord_71 (by decide) ?_
        refine r_icmp_geN (tgt := 100) d_S_digestOfRecord_73 (by decide) (by omega) (by omega) (fun c73 => ?_) (fun c73 => ?_)
        · exfalso; first | omega | (revert c73; decide) | cases c73
        refine r_ldc2 (v := 31) d_S_digestOfRecord_76 (by decide +kernel) ?_
        refine r_lload d_S_digestOfRecord_79 3 rfl ?_
        refine r_lmul d_S_digestOfRecord_81 ?_
        refine r_aload_n d_S_digestOfRecord_82 1 rfl ?_
        refine r_iload d_S_digestOfRecord_83 6 rfl ?_
        refine r_iload d_S_digestOfRecord_85 7 rfl ?_
        refine rc_S_176 rfl d_S_digestOfRecord_87 (k_N_byteAt (by omega) hi h40 hb_k (ht s hb_s)) (gN (i := i) (by omega)) (room_ok (d' := d - 1) (by omega) (by decide)) ⟨Nat.le_refl _, Nat.le_refl _⟩ (Nat.le_of_ble_eq_true rfl) ?_
        refine r_i2l d_S_digestOfRecord_90 ?_
        refine r_ladd d_S_digestOfRecord_91 ?_
        refine r_lstore (lv' := [(0, _), (2, _), (3, _), (4, _), (6, _), (7, _), (8, _), (9, _)]) d_S_digestOfRecord_92 (by decide) rfl ?_
        refine r_iincN (lv' := [(0, _), (2, _), (3, _), (4, _), (6, _), (7, _), (8, _), (9, _)]) d_S_digestOfRecord_94 7 rfl (by decide) rfl ?_
        refine r_goto (tgt := 69) d_S_digestOfRecord_97 (by decide) ?_
        exact ih_k
  · intro w hb_w ih_w
    refine r_iload d_S_digestOfRecord_6 4 rfl ?_
    refine r_bipush (v := nI 6) d_S_digestOfRecord_8 (by decide) ?_
    refine r_icmp_geN (tgt := 36) d_S_digestOfRecord_10 (by decide) (by omega) (by omega) (fun c10 => ?_) (fun c10 => ?_)
    · exfalso; first | omega | (revert c10; decide) | cases c10
    refine r_ldc2 (v := 31) d_S_digestOfRecord_13 (by decide +kernel) ?_
    refine r_lload d_S_digestOfRecord_16 3 rfl ?_
    refine r_lmul d_S_digestOfRecord_18 ?_
    refine r_aload_n d_S_digestOfRecord_19 1 rfl ?_
    refine r_iload_n d_S_digestOfRecord_20 2 rfl ?_
    refine r_iload d_S_digestOfRecord_21 4 rfl ?_
    refine rc_S_166 rfl d_S_digestOfRecord_23 (k_S_recordNumber (by omega) hi ho hb_w hc) (room_ok (d' := d - 1) (by omega) (by decide)) ⟨Nat.le_refl _, Nat.le_refl _⟩ (Nat.le_of_ble_eq_true rfl) ?_
    refine r_i2l d_S_digestOfRecord_26 ?_
    refine r_ladd d_S_digestOfRecord_27 ?_
    refine r_lstore (lv' := [(0, _), (2, _), (3, _), (4, _), (6, _)]) d_S_digestOfRecord_28 (by decide) rfl ?_
    refine r_iincN (lv' := [(0, _), (2, _), (3, _), (4, _), (6, _)]) d_S_digestOfRecord_30 4 rfl (by decide) rfl ?_
    refine r_goto (tgt := 6) d_S_digestOfRecord_33 (by decide) ?_
    exact ih_w
theorem CI_fl {c : CS} {i o : Nat} (h : CI c) : CI (flC c i o) := CI_gu h
/-- the first of the live nodes, as many as told -/
def sl (c : CS) (most i : Nat) : Prop := c.live i = true ∧ ct c.live i < most
theorem ct_stop {p : Nat → Bool} {most i : Nat} (h : most ≤ ct p i) : ∀ k, most ≤ ct p (i + k) := fun k => Nat.le_trans h (ct_mono p i k)
theorem stop_eq {α : Type} {F : Nat → α} {Z : Nat → Prop} {i : Nat} (h : ∀ k, Z (i + k)) (hF : ∀ k, Z k → F (k + 1) = F k) : ∀ k, F (i + k) = F i
  | 0 => rfl
  | k + 1 => (hF (i + k) (h k)).trans (stop_eq h hF k)
def sfC (c : CS) (o most : Nat) : Nat → CS
  | 0 => c
  | i + 1 => if c.live i = true ∧ ct c.live i < most then flC (sfC c o most i) i o else sfC c o most i
theorem sfC_stop {c : CS} {o most i : Nat} (h : most ≤ ct c.live i) (hi : i ≤ 12) : sfC c o most 12 = sfC c o most i := by
  have q := stop_eq (F := sfC c o most) (Z := fun k => most ≤ ct c.live k) (ct_stop h) (fun k hk => by show (if _ then _ else _) = _; rw [if_neg (by omega)]) (12 - i)
  rwa [show i + (12 - i) = 12 by omega] at q
theorem sfC_live (c : CS) (o most : Nat) : ∀ i, (sfC c o most i).live = c.live
  | 0 => rfl
  | i + 1 => by
    have ih := sfC_live c o most i
    unfold sfC
    split
    · exact ih
    · exact ih
theorem CI_sf {c : CS} {o most : Nat} (h : CI c) : ∀ i, CI (sfC c o most i)
  | 0 => h
  | i + 1 => by
    unfold sfC
    split
    · exact CI_fl (CI_sf h i)
    · exact CI_sf h i
theorem k_S_sendFlips {l : Launch} {g : GX} {c : CS} {m : MS} {n d : Nat} (hd : 4 ≤ d) {o most : Nat} (ho : o < 6) (hm : most < 65536) (hc : CI c) : CE l g M_S_sendFlips d 0 0 [.ref (aS g), .int (nI o), .int (nI most)] n (hp g c m) (none) n (hp g (sfC c o most 12) m) := by
  refine CE.of (by decide +kernel) (lv := [(0, .ref (aS g)), (1, .int (nI o)), (2, .int (nI most))]) rfl (Nat.le_of_ble_eq_true rfl) ?_
  refine r_iload_n d_S_sendFlips_0 2 rfl ?_
  refine r_istore_n (lv' := [(0, _), (1, _), (2, _), (3, _)]) d_S_sendFlips_1 (by decide) rfl ?_
  refine r_heap (h' := hp g (sfC c o most 0) m) rfl ?_
  refine r_iconst (v := nI 0) d_S_sendFlips_2 (by decide) ?_
  refine r_istore (lv' := [(0, _), (1, _), (2, _), (3, _), (4, _)]) d_S_sendFlips_3 (by decide) rfl ?_
  refine back_ind (n := 12) (G := fun i => RJ l g M_S_sendFlips (RMX d 0 0) (TQ g 0 0 (QE (none) n (hp g (sfC c o most 12) m))) XT n (hp g (sfC c o most i) m) 0 0 5 [(0, .ref (aS g)), (1, .int (nI o)), (2, .int (nI most)), (3, .int (nI (most - ct c.live i))), (4, .int (nI i))] []) ?_ ?_ 0 (Nat.zero_le _)
  · skip
    refine r_iload d_S_sendFlips_5 4 rfl ?_
    refine r_bipush (v := nI 12) d_S_sendFlips_7 (by decide) ?_
    refine r_icmp_geN (tgt := 49) d_S_sendFlips_9 (by decide) (by omega) (by omega) (fun c9 => ?_) (fun c9 => ?_)
    rotate_left 1
    · exfalso; first | omega | (revert c9; decide) | cases c9
    refine r_return d_S_sendFlips_49 rfl ⟨rfl, rfl, ?_⟩
    · first | rfl | (rw [sfC_stop (i := i) (by omega) (by omega)])
  · intro i hb_i ih_i
    have hX := CI_sf (o := o) (most := most) hc i
    have hL := sfC_live c o most i
    refine r_iload d_S_sendFlips_5 4 rfl ?_
    refine r_bipush (v := nI 12) d_S_sendFlips_7 (by decide) ?_
    refine r_icmp_geN (tgt := 49) d_S_sendFlips_9 (by decide) (by omega) (by omega) (fun c9 => ?_) (fun c9 => ?_)
    · exfalso; first | omega | (revert c9; decide) | cases c9
    refine r_iload_n d_S_sendFlips_12 3 rfl ?_
    refine r_if_leN (tgt := 49) d_S_sendFlips_13 (by decide) (by omega) (fun c13 => ?_) (fun c13 => ?_)
    · skip
      refine r_return d_S_sendFlips_49 rfl ⟨rfl, rfl, ?_⟩
      · first | rfl | (rw [sfC_stop (i := i) (by omega) (by omega)])
    · skip
      refine r_aload_n d_S_sendFlips_16 0 rfl ?_
      refine rg_S_18 rfl d_S_sendFlips_17 gS rfl ?_
      refine r_iload d_S_sendFlips_20 4 rfl ?_
      refine r_qld (t := 2) rfl d_S_sendFlips_22 gNodes (by omega) (by decide) rfl ?_
      refine rg_S_103 rfl d_S_sendFlips_23 (gN (i := i) (by omega)) rfl ?_
      refine r_if_eqB (tgt := 43) d_S_sendFlips_26 (by decide) (fun c26 => ?_) (fun c26 => ?_)
      · skip
        have hlv : c.live i = false := (by rw [← hL]; exact c26)
        refine r_iincN (lv' := [(0, _), (1, _), (2, _), (3, _), (4, _)]) d_S_sendFlips_43 4 rfl (by decide) rfl ?_
        refine r_goto (tgt := 5) d_S_sendFlips_46 (by decide) ?_
        first | (exact r_at ih_i (by show _ = hp g (if _ then _ else _) m; rw [if_neg (fun q => by rw [hlv] at q; exact absurd q.1 (by decide))]) (by rw [ct_f hlv]) rfl) | (exact r_at ih_i (by show _ = hp g (if _ then _ else _) m; rw [if_pos ⟨hlv, by omega⟩]) rfl rfl)
      · skip
        have hlv : c.live i = true := (by rw [← hL]; exact c26)
        refine r_aload_n d_S_sendFlips_29 0 rfl ?_
        refine rg_S_18 rfl d_S_sendFlips_30 gS rfl ?_
        refine r_iload d_S_sendFlips_33 4 rfl ?_
        refine r_qld (t := 2) rfl d_S_sendFlips_35 gNodes (by omega) (by decide) rfl ?_
        refine r_iload_n d_S_sendFlips_36 1 rfl ?_
        refine rc_S_116 rfl d_S_sendFlips_37 (k_N_flip (c := sfC c o most i) (by omega) hb_i ho hX) (gN (i := i) (by omega)) (room_ok (d' := d - 1) (by omega) (by decide)) ⟨Nat.le_refl _, Nat.le_refl _⟩ (Nat.le_of_ble_eq_true rfl) ?_
        have el : most - ct c.live i = most - ct c.live (i + 1) + 1 := by rw [ct_t hlv]; omega
        refine r_at (lv' := [(0, .ref (aS g)), (1, .int (nI o)), (2, .int (nI most)), (3, .int (nI (most - ct c.live (i + 1) + 1))), (4, .int (nI i))]) ?_ rfl (by rw [el]) rfl
        refine r_iincD (lv' := [(0, _), (1, _), (2, _), (3, _), (4, _)]) d_S_sendFlips_40 3 rfl (by decide) rfl ?_
        refine r_iincN (lv' := [(0, _), (1, _), (2, _), (3, _), (4, _)]) d_S_sendFlips_43 4 rfl (by decide) rfl ?_
        refine r_goto (tgt := 5) d_S_sendFlips_46 (by decide) ?_
        first | (exact r_at ih_i (by show _ = hp g (if _ then _ else _) m; rw [if_neg (fun q => by rw [hlv] at q; exact absurd q.1 (by decide))]) (by rw [ct_f hlv]) rfl) | (exact r_at ih_i (by show _ = hp g (if _ then _ else _) m; rw [if_pos ⟨hlv, by omega⟩]) rfl rfl)
theorem k_S_sendFlips0 {l : Launch} {g : GX} {c : CS} {m : MS} {n d : Nat} (hd : 4 ≤ d) {o : Nat} {x : Int32} (hx : ¬ 0 < x) : CE l g M_S_sendFlips d 0 0 [.ref (aS g), .int (nI o), .int x] n (hp g c m) (none) n (hp g c m) := by
  refine CE.of (by decide +kernel) (lv := [(0, .ref (aS g)), (1, .int (nI o)), (2, .int x)]) rfl (Nat.le_of_ble_eq_true rfl) ?_
  refine r_iload_n d_S_sendFlips_0 2 rfl ?_
  refine r_istore_n (lv' := [(0, _), (1, _), (2, _), (3, _)]) d_S_sendFlips_1 (by decide) rfl ?_
  refine r_iconst (v := nI 0) d_S_sendFlips_2 (by decide) ?_
  refine r_istore (lv' := [(0, _), (1, _), (2, _), (3, _), (4, _)]) d_S_sendFlips_3 (by decide) rfl ?_
  refine r_iload d_S_sendFlips_5 4 rfl ?_
  refine r_bipush (v := nI 12) d_S_sendFlips_7 (by decide) ?_
  refine r_icmp_geN (tgt := 49) d_S_sendFlips_9 (by decide) (by omega) (by omega) (fun c9 => ?_) (fun c9 => ?_)
  · exfalso; first | omega | (revert c9; decide) | cases c9
  refine r_iload_n d_S_sendFlips_12 3 rfl ?_
  refine r_if_le (tgt := 49) d_S_sendFlips_13 (by decide) (fun c13 => ?_) (fun c13 => ?_)
  rotate_left 1
  · exact absurd (Int32.not_le.mp c13) hx
  refine r_return d_S_sendFlips_49 rfl ⟨rfl, rfl, ?_⟩
  · rfl
