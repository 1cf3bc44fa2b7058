theorem k_F_productH {l : Launch} {g : GX} {h : AH} (hcF : h (aF g) = some (.inr (1, fF g))) (hcP : h (aPw g) = some (iA 512 pwT)) (hcE : h (aEx g) = some (iA 256 exT)) {n d : Nat} (hd : 0 ≤ d) {a b : Nat} (ha : a < 256) (hb : b < 256) : CE l g M_F_product d 0 0 [.ref (aF g), .int (nI a), .int (nI b)] n h (some (.int (nI (mulT a b)))) n h := by
  have e1 := exT_lt a
  have e2 := exT_lt b
  refine CE.of (by decide +kernel) (lv := [(0, .ref (aF g)), (1, .int (nI a)), (2, .int (nI b))]) rfl (Nat.le_of_ble_eq_true rfl) ?_
  refine r_iload_n d_F_product_0 1 rfl ?_
  refine r_if_eqN (tgt := 8) d_F_product_1 (by decide) (by omega) (fun c1 => ?_) (fun c1 => ?_)
  · skip
    refine r_iconst (v := nI 0) d_F_product_8 (by decide) ?_
    refine r_ireturn d_F_product_9 rfl rfl ⟨?_, rfl, ?_⟩
    · simp [mulT, *]
    · rfl
  · skip
    refine r_iload_n d_F_product_4 2 rfl ?_
    refine r_if_neN (tgt := 10) d_F_product_5 (by decide) (by omega) (fun c5 => ?_) (fun c5 => ?_)
    · skip
      refine r_aload_n d_F_product_10 0 rfl ?_
      refine rg_F_9 rfl d_F_product_11 hcF rfl ?_
      refine r_aload_n d_F_product_14 0 rfl ?_
      refine rg_F_15 rfl d_F_product_15 hcF rfl ?_
      refine r_iload_n d_F_product_18 1 rfl ?_
      refine r_sipush (v := nI 255) d_F_product_19 (by decide) ?_
      refine r_iand d_F_product_22 ?_
      refine r_top (y := (nI a)) (and255 (by omega)) ?_
      refine r_aldN d_F_product_23 hcE (by omega) (by decide) ?_
      refine r_aload_n d_F_product_24 0 rfl ?_
      refine rg_F_15 rfl d_F_product_25 hcF rfl ?_
      refine r_iload_n d_F_product_28 2 rfl ?_
      refine r_sipush (v := nI 255) d_F_product_29 (by decide) ?_
      refine r_iand d_F_product_32 ?_
      refine r_top (y := (nI b)) (and255 (by omega)) ?_
      refine r_aldN d_F_product_33 hcE (by omega) (by decide) ?_
      refine r_iaddN d_F_product_34 ?_
      refine r_aldN d_F_product_35 hcP (by omega) (by decide) ?_
      refine r_ireturn d_F_product_36 rfl rfl ⟨?_, rfl, ?_⟩
      · simp [mulT, *]
      · rfl
    · skip
      refine r_iconst (v := nI 0) d_F_product_8 (by decide) ?_
      refine r_ireturn d_F_product_9 rfl rfl ⟨?_, rfl, ?_⟩
      · simp [mulT, *]
      · rfl
def pwL (i : Nat) : Nat → Nat := fun e => if e < i then pwN e else if 255 ≤ e ∧ e < 255 + i then pwN (e - 255) else 0
theorem pwL_0 : pwL 0 = fun _ => 0 := by
  funext e
  unfold pwL
  rw [if_neg (Nat.not_lt_zero _), if_neg (by omega)]
theorem pwL_e : pwL 255 = pwT := by
  funext e
  unfold pwL pwT
  by_cases h : e < 255
  · rw [if_pos h, if_pos h]
  · rw [if_neg h, if_neg h]
    by_cases h2 : e < 510
    · rw [if_pos h2, if_pos ⟨by omega, by omega⟩]
    · rw [if_neg h2, if_neg (by omega)]
theorem pwL_s {i : Nat} (hi : i < 255) : upN (upN (pwL i) i (pwN i)) (i + 255) (pwN i) = pwL (i + 1) := by
  funext e
  unfold upN pwL
  by_cases h1 : e = i + 255
  · subst h1
    rw [if_pos rfl, if_neg (by omega), if_pos ⟨by omega, by omega⟩, Nat.add_sub_cancel]
  · rw [if_neg h1]
    by_cases h2 : e = i
    · subst h2
      rw [if_pos rfl, if_pos (by omega)]
    · rw [if_neg h2]
      by_cases h3 : e < i
      · rw [if_pos h3, if_pos (by omega)]
      · rw [if_neg h3]
        by_cases h4 : 255 ≤ e ∧ e < 255 + i
        · rw [if_pos h4, if_neg (by omega), if_pos ⟨h4.1, by omega⟩]
        · rw [if_neg h4, if_neg (by omega), if_neg (by omega)]
theorem xt_p {x : Nat} (h : 2 * x < 256) : 2 * x = xt x := by unfold xt; rw [if_pos h]
theorem xt_q {x : Nat} (h : 256 ≤ 2 * x) : (2 * x) ^^^ 285 = xt x := by unfold xt; rw [if_neg (by omega)]
theorem k_F_init {l : Launch} {g : GX} {z : Nat} {F : Nat → AC} {d : Nat} (hd : 1 ≤ d) : CE l g M_F_init d 2 768 [.ref (g.1 + z)] (z + 1) (hF (z + 1) g (upN F z (.inr (1, [.null, .null])))) none (z + 3) (hF (z + 3) g (upN (upN (upN F z (.inr (1, [.ref (g.1 + (z + 1)), .ref (g.1 + (z + 2))]))) (z + 1) (iA 512 pwT)) (z + 2) (iA 256 exT))) := by
  refine CE.of (by decide +kernel) (lv := [(0, .ref (g.1 + z))]) rfl (Nat.le_of_ble_eq_true rfl) ?_
  refine r_aload_n d_F_init_0 0 rfl ?_
  refine r_objInit d_F_init_1 (by decide +kernel) (by decide +kernel) (by decide +kernel) ⟨by show 1 ≤ d; omega, by show _ ≤ 36 * d; simp [Value.category]; omega⟩ ?_
  refine r_aload_n d_F_init_4 0 rfl ?_
  refine r_sipush (v := nI 512) d_F_init_5 (by decide) ?_
  refine f_newi (N := 512) d_F_init_8 (by decide) ⟨by show _ ≤ 2; omega, by show _ ≤ 768; omega⟩ ?_
  refine r_cnt (n' := z + 2) (h' := hF (z + 2) g (upN (upN F z (.inr (1, [.null, .null]))) (z + 1) (iA 512 (fun _ => 0)))) (k' := 1) (sl' := 512) (by omega) rfl (by omega) (by omega) ?_
  refine rp_F_9 rfl rfl d_F_init_10 (hF_getE (r := z) (by omega) (upN_g (by omega) upN_s)) (Nat.le_of_ble_eq_true rfl) rfl (hF_setE (r := z) (by omega) (upN_in (by omega) upN_same)) ?_
  refine r_aload_n d_F_init_13 0 rfl ?_
  refine r_sipush (v := nI 256) d_F_init_14 (by decide) ?_
  refine f_newi (N := 256) d_F_init_17 (by decide) ⟨by show _ ≤ 2; omega, by show _ ≤ 768; omega⟩ ?_
  refine r_cnt (n' := z + 3) (h' := hF (z + 3) g (upN (upN (upN F z (.inr (1, [.ref (g.1 + (z + 1)), .null]))) (z + 1) (iA 512 (fun _ => 0))) (z + 2) (iA 256 (fun _ => 0)))) (k' := 2) (sl' := 768) (by omega) rfl (by omega) (by omega) ?_
  refine rp_F_15 rfl rfl d_F_init_19 (hF_getE (r := z) (by omega) (upN_g (by omega) (upN_g (by omega) upN_s))) (Nat.le_of_ble_eq_true rfl) rfl (hF_setE (r := z) (by omega) (upN_in (by omega) (upN_in (by omega) upN_same))) ?_
  refine r_iconst (v := nI 1) d_F_init_22 (by decide) ?_
  refine r_istore_n (lv' := [(0, _), (1, _)]) d_F_init_23 (by decide) rfl ?_
  refine r_iconst (v := nI 0) d_F_init_24 (by decide) ?_
  refine r_istore_n (lv' := [(0, _), (1, _), (2, _)]) d_F_init_25 (by decide) rfl ?_
  refine r_cnt (n' := z + 3) (h' := hF (z + 3) g (upN (upN (upN F z (.inr (1, [.ref (g.1 + (z + 1)), .ref (g.1 + (z + 2))]))) (z + 1) (iA 512 (pwL 0))) (z + 2) (iA 256 (lgN 0)))) (k' := 2) (sl' := 768) (by omega) (by rw [pwL_0]; rfl) (by omega) (by omega) ?_
  refine back_ind (n := 255) (G := fun v => RJ l g M_F_init (RMX d 2 768) (TQ g 2 768 (QE none (z + 3) (hF (z + 3) g (upN (upN (upN F z (.inr (1, [.ref (g.1 + (z + 1)), .ref (g.1 + (z + 2))]))) (z + 1) (iA 512 pwT)) (z + 2) (iA 256 exT))))) XT (z + 3) (hF (z + 3) g (upN (upN (upN F z (.inr (1, [.ref (g.1 + (z + 1)), .ref (g.1 + (z + 2))]))) (z + 1) (iA 512 (pwL v))) (z + 2) (iA 256 (lgN v)))) 2 768 26 [(0, .ref (g.1 + z)), (1, .int (nI (pwN v))), (2, .int (nI v))] []) ?_ ?_ 0 (Nat.zero_le _)
  · skip
    refine r_iload_n d_F_init_26 2 rfl ?_
    refine r_sipush (v := nI 255) d_F_init_27 (by decide) ?_
    refine r_icmp_geN (tgt := 85) d_F_init_30 (by decide) (by omega) (by omega) (fun c30 => ?_) (fun c30 => ?_)
    rotate_left 1
    · exfalso; omega
    refine r_cnt (n' := z + 3) (h' := hF (z + 3) g (upN (upN (upN F z (.inr (1, [.ref (g.1 + (z + 1)), .ref (g.1 + (z + 2))]))) (z + 1) (iA 512 pwT)) (z + 2) (iA 256 exT))) (k' := 2) (sl' := 768) (by omega) (by rw [pwL_e]; rfl) (by omega) (by omega) ?_
    refine r_return d_F_init_85 rfl ⟨rfl, rfl, rfl⟩
  · intro v hb_v ih_v
    refine r_iload_n d_F_init_26 2 rfl ?_
    refine r_sipush (v := nI 255) d_F_init_27 (by decide) ?_
    refine r_icmp_geN (tgt := 85) d_F_init_30 (by decide) (by omega) (by omega) (fun c30 => ?_) (fun c30 => ?_)
    · exfalso; omega
    have hpw := pwN_lt v
    refine r_aload_n d_F_init_33 0 rfl ?_
    refine rg_F_9 rfl d_F_init_34 (hF_getE (r := z) (by omega) (upN_g (by omega) (upN_g (by omega) upN_s))) rfl ?_
    refine r_iload_n d_F_init_37 2 rfl ?_
    refine r_iload_n d_F_init_38 1 rfl ?_
    refine r_astN d_F_init_39 (hF_getE (r := z + 1) (by omega) (upN_g (by omega) upN_s)) (by omega) (by decide) (hF_setE (r := z + 1) (by omega) (upN_in (by omega) upN_same)) ?_
    refine r_aload_n d_F_init_40 0 rfl ?_
    refine rg_F_9 rfl d_F_init_41 (hF_getE (r := z) (by omega) (upN_g (by omega) (upN_g (by omega) upN_s))) rfl ?_
    refine r_iload_n d_F_init_44 2 rfl ?_
    refine r_sipush (v := nI 255) d_F_init_45 (by decide) ?_
    refine r_iaddN d_F_init_48 ?_
    refine r_iload_n d_F_init_49 1 rfl ?_
    refine r_astN d_F_init_50 (hF_getE (r := z + 1) (by omega) (upN_g (by omega) upN_s)) (by omega) (by decide) (hF_setE (r := z + 1) (by omega) (upN_in (by omega) upN_same)) ?_
    refine r_aload_n d_F_init_51 0 rfl ?_
    refine rg_F_15 rfl d_F_init_52 (hF_getE (r := z) (by omega) (upN_g (by omega) (upN_g (by omega) upN_s))) rfl ?_
    refine r_iload_n d_F_init_55 1 rfl ?_
    refine r_sipush (v := nI 255) d_F_init_56 (by decide) ?_
    refine r_iand d_F_init_59 ?_
    refine r_top (y := (nI (pwN v % 256))) ((and255 (pwN_lt v)).trans (by rw [Nat.mod_eq_of_lt (pwN_lt v)])) ?_
    refine r_iload_n d_F_init_60 2 rfl ?_
    refine r_astN d_F_init_61 (hF_getE (r := z + 2) (by omega) upN_s) (by omega) (by decide) (hF_setE (r := z + 2) (by omega) (upN_same)) ?_
    refine r_iload_n d_F_init_62 1 rfl ?_
    refine r_iconst (v := nI 1) d_F_init_63 (by decide) ?_
    refine r_ishl d_F_init_64 ?_
    refine r_top (y := (nI (2 * pwN v))) (shl1 _ (pwN_lt v)) ?_
    refine r_istore_n (lv' := [(0, _), (1, _), (2, _)]) d_F_init_65 (by decide) rfl ?_
    refine r_iload_n d_F_init_66 1 rfl ?_
    refine r_sipush (v := nI 256) d_F_init_67 (by decide) ?_
    refine r_icmp_ltN (tgt := 79) d_F_init_70 (by decide) (by omega) (by omega) (fun c70 => ?_) (fun c70 => ?_)
    · skip
      refine r_iincN (lv' := [(0, _), (1, _), (2, _)]) d_F_init_79 2 rfl (by decide) rfl ?_
      refine r_goto (tgt := 26) d_F_init_82 (by decide) ?_
      have hxt : 2 * pwN v = pwN (v + 1) := xt_p c70
      rw [hxt]
      refine r_cnt (n' := z + 3) (h' := hF (z + 3) g (upN (upN (upN F z (.inr (1, [.ref (g.1 + (z + 1)), .ref (g.1 + (z + 2))]))) (z + 1) (iA 512 (pwL (v + 1)))) (z + 2) (iA 256 (lgN (v + 1))))) (k' := 2) (sl' := 768) (by omega) (by rw [← pwL_s hb_v]; rfl) (by omega) (by omega) ih_v
    · skip
      refine r_iload_n d_F_init_73 1 rfl ?_
      refine r_sipush (v := nI 285) d_F_init_74 (by decide) ?_
      refine r_ixorN d_F_init_77 ?_
      refine r_istore_n (lv' := [(0, _), (1, _), (2, _)]) d_F_init_78 (by decide) rfl ?_
      refine r_iincN (lv' := [(0, _), (1, _), (2, _)]) d_F_init_79 2 rfl (by decide) rfl ?_
      refine r_goto (tgt := 26) d_F_init_82 (by decide) ?_
      have hxt : (2 * pwN v) ^^^ 285 = pwN (v + 1) := xt_q c70
      rw [hxt]
      refine r_cnt (n' := z + 3) (h' := hF (z + 3) g (upN (upN (upN F z (.inr (1, [.ref (g.1 + (z + 1)), .ref (g.1 + (z + 2))]))) (z + 1) (iA 512 (pwL (v + 1)))) (z + 2) (iA 256 (lgN (v + 1))))) (k' := 2) (sl' := 768) (by omega) (by rw [← pwL_s hb_v]; rfl) (by omega) (by omega) ih_v
theorem k_M_init {l : Launch} {g : GX} {z : Nat} {F : Nat → AC} {d : Nat} (hd : 1 ≤ d) : CE l g M_M_init d 15 6571 [.ref (g.1 + z)] (z + 1) (hF (z + 1) g (upN F z (.inr (5, [.null, .int 0, .int 0, .null, .null, .null, .null, .null, .null, .null, .null, .null, .null, .null, .int 0, .int 0, .int 0, .null, .null, .null])))) none (z + 16) (hF (z + 16) g (upN (upN (upN (upN (upN (upN (upN (upN (upN (upN (upN (upN (upN (upN (upN (upN F z (.inr (5, [.ref (g.1 + (z + 1)), .int 0, .int (-1), .ref (g.1 + (z + 2)), .ref (g.1 + (z + 3)), .ref (g.1 + (z + 4)), .ref (g.1 + (z + 5)), .ref (g.1 + (z + 6)), .ref (g.1 + (z + 7)), .ref (g.1 + (z + 8)), .ref (g.1 + (z + 9)), .ref (g.1 + (z + 10)), .ref (g.1 + (z + 11)), .ref (g.1 + (z + 12)), .int 0, .int 0, .int 0, .ref (g.1 + (z + 13)), .ref (g.1 + (z + 14)), .ref (g.1 + (z + 15))]))) (z + 1) (iA 240 (fun _ => 0))) (z + 2) (zA 12 (fun _ => false))) (z + 3) (iA 12 (fun _ => 0))) (z + 4) (zA 480 (fun _ => false))) (z + 5) (iA 3840 (fun _ => 0))) (z + 6) (zA 144 (fun _ => false))) (z + 7) (iA 144 (fun _ => 0))) (z + 8) (iA 144 (fun _ => 0))) (z + 9) (iA 1152 (fun _ => 0))) (z + 10) (iA 6 (fun _ => 0))) (z + 11) (zA 6 (fun _ => false))) (z + 12) (iA 240 (fun _ => 0))) (z + 13) (iA 128 (fun _ => 0))) (z + 14) (iA 8 (fun _ => 0))) (z + 15) (iA 15 (fun _ => 0)))) := by
  refine CE.of (by decide +kernel) (lv := [(0, .ref (g.1 + z))]) rfl (Nat.le_of_ble_eq_true rfl) ?_
  refine r_aload_n d_M_init_0 0 rfl ?_
  refine r_objInit d_M_init_1 (by decide +kernel) (by decide +kernel) (by decide +kernel) ⟨by show 1 ≤ d; omega, by show _ ≤ 36 * d; simp [Value.category]; omega⟩ ?_
  refine r_aload_n d_M_init_4 0 rfl ?_
  refine r_sipush (v := nI 240) d_M_init_5 (by decide) ?_
  refine f_newi (N := 240) d_M_init_8 (by decide) ⟨by show _ ≤ 15; omega, by show _ ≤ 6571; omega⟩ ?_
  refine r_cnt (n' := z + 2) (h' := hF (z + 2) g (upN (upN F z (.inr (5, [.null, .int 0, .int 0, .null, .null, .null, .null, .null, .null, .null, .null, .null, .null, .null, .int 0, .int 0, .int 0, .null, .null, .null]))) (z + 1) (iA 240 (fun _ => 0)))) (k' := 1) (sl' := 240) (by omega) rfl (by omega) (by omega) ?_
  refine rp_M_7 rfl rfl d_M_init_10 (hF_getE (r := z) (by omega) (upN_g (by omega) upN_s)) (Nat.le_of_ble_eq_true rfl) rfl (hF_setE (r := z) (by omega) (upN_in (by omega) upN_same)) ?_
  refine r_aload_n d_M_init_13 0 rfl ?_
  refine r_iconst (v := (-1)) d_M_init_14 (by decide) ?_
  refine rp_M_13 rfl d_M_init_15 (hF_getE (r := z) (by omega) (upN_g (by omega) upN_s)) (Nat.le_of_ble_eq_true rfl) rfl (hF_setE (r := z) (by omega) (upN_in (by omega) upN_same)) ?_
  refine r_aload_n d_M_init_18 0 rfl ?_
  refine r_bipush (v := nI 12) d_M_init_19 (by decide) ?_
  refine f_newz (N := 12) d_M_init_21 (by decide) ⟨by show _ ≤ 15; omega, by show _ ≤ 6571; omega⟩ ?_
  refine r_cnt (n' := z + 3) (h' := hF (z + 3) g (upN (upN (upN F z (.inr (5, [.ref (g.1 + (z + 1)), .int 0, .int (-1), .null, .null, .null, .null, .null, .null, .null, .null, .null, .null, .null, .int 0, .int 0, .int 0, .null, .null, .null]))) (z + 1) (iA 240 (fun _ => 0))) (z + 2) (zA 12 (fun _ => false)))) (k' := 2) (sl' := 252) (by omega) rfl (by omega) (by omega) ?_
  refine rp_M_17 rfl rfl d_M_init_23 (hF_getE (r := z) (by omega) (upN_g (by omega) (upN_g (by omega) upN_s))) (Nat.le_of_ble_eq_true rfl) rfl (hF_setE (r := z) (by omega) (upN_in (by omega) (upN_in (by omega) upN_same))) ?_
  refine r_aload_n d_M_init_26 0 rfl ?_
  refine r_bipush (v := nI 12) d_M_init_27 (by decide) ?_
  refine f_newi (N := 12) d_M_init_29 (by decide) ⟨by show _ ≤ 15; omega, by show _ ≤ 6571; omega⟩ ?_
  refine r_cnt (n' := z + 4) (h' := hF (z + 4) g (upN (upN (upN (upN F z (.inr (5, [.ref (g.1 + (z + 1)), .int 0, .int (-1), .ref (g.1 + (z + 2)), .null, .null, .null, .null, .null, .null, .null, .null, .null, .null, .int 0, .int 0, .int 0, .null, .null, .null]))) (z + 1) (iA 240 (fun _ => 0))) (z + 2) (zA 12 (fun _ => false))) (z + 3) (iA 12 (fun _ => 0)))) (k' := 3) (sl' := 264) (by omega) rfl (by omega) (by omega) ?_
  refine rp_M_21 rfl rfl d_M_init_31 (hF_getE (r := z) (by omega) (upN_g (by omega) (upN_g (by omega) (upN_g (by omega) upN_s)))) (Nat.le_of_ble_eq_true rfl) rfl (hF_setE (r := z) (by omega) (upN_in (by omega) (upN_in (by omega) (upN_in (by omega) upN_same)))) ?_
  refine r_aload_n d_M_init_34 0 rfl ?_
  refine r_sipush (v := nI 480) d_M_init_35 (by decide) ?_
  refine f_newz (N := 480) d_M_init_38 (by decide) ⟨by show _ ≤ 15; omega, by show _ ≤ 6571; omega⟩ ?_
  refine r_cnt (n' := z + 5) (h' := hF (z + 5) g (upN (upN (upN (upN (upN F z (.inr (5, [.ref (g.1 + (z + 1)), .int 0, .int (-1), .ref (g.1 + (z + 2)), .ref (g.1 + (z + 3)), .null, .null, .null, .null, .null, .null, .null, .null, .null, .int 0, .int 0, .int 0, .null, .null, .null]))) (z + 1) (iA 240 (fun _ => 0))) (z + 2) (zA 12 (fun _ => false))) (z + 3) (iA 12 (fun _ => 0))) (z + 4) (zA 480 (fun _ => false)))) (k' := 4) (sl' := 744) (by omega) rfl (by omega) (by omega) ?_
  refine rp_M_24 rfl rfl d_M_init_40 (hF_getE (r := z) (by omega) (upN_g (by omega) (upN_g (by omega) (upN_g (by omega) (upN_g (by omega) upN_s))))) (Nat.le_of_ble_eq_true rfl) rfl (hF_setE (r := z) (by omega) (upN_in (by omega) (upN_in (by omega) (upN_in (by omega) (upN_in (by omega) upN_same))))) ?_
  refine r_aload_n d_M_init_43 0 rfl ?_
  refine r_sipush (v := nI 3840) d_M_init_44 (by decide) ?_
  refine f_newi (N := 3840) d_M_init_47 (by decide) ⟨by show _ ≤ 15; omega, by show _ ≤ 6571; omega⟩ ?_
  refine r_cnt (n' := z + 6) (h' := hF (z + 6) g (upN (upN (upN (upN (upN (upN F z (.inr (5, [.ref (g.1 + (z + 1)), .int 0, .int (-1), .ref (g.1 + (z + 2)), .ref (g.1 + (z + 3)), .ref (g.1 + (z + 4)), .null, .null, .null, .null, .null, .null, .null, .null, .int 0, .int 0, .int 0, .null, .null, .null]))) (z + 1) (iA 240 (fun _ => 0))) (z + 2) (zA 12 (fun _ => false))) (z + 3) (iA 12 (fun _ => 0))) (z + 4) (zA 480 (fun _ => false))) (z + 5) (iA 3840 (fun _ => 0)))) (k' := 5) (sl' := 4584) (by omega) rfl (by omega) (by omega) ?_
  refine rp_M_27 rfl rfl d_M_init_49 (hF_getE (r := z) (by omega) (upN_g (by omega) (upN_g (by omega) (upN_g (by omega) (upN_g (by omega) (upN_g (by omega) upN_s)))))) (Nat.le_of_ble_eq_true rfl) rfl (hF_setE (r := z) (by omega) (upN_in (by omega) (upN_in (by omega) (upN_in (by omega) (upN_in (by omega) (upN_in (by omega) upN_same)))))) ?_
  refine r_aload_n d_M_init_52 0 rfl ?_
  refine r_sipush (v := nI 144) d_M_init_53 (by decide) ?_
  refine f_newz (N := 144) d_M_init_56 (by decide) ⟨by show _ ≤ 15; omega, by show _ ≤ 6571; omega⟩ ?_
  refine r_cnt (n' := z + 7) (h' := hF (z + 7) g (upN (upN (upN (upN (upN (upN (upN F z (.inr (5, [.ref (g.1 + (z + 1)), .int 0, .int (-1), .ref (g.1 + (z + 2)), .ref (g.1 + (z + 3)), .ref (g.1 + (z + 4)), .ref (g.1 + (z + 5)), .null, .null, .null, .null, .null, .null, .null, .int 0, .int 0, .int 0, .null, .null, .null]))) (z + 1) (iA 240 (fun _ => 0))) (z + 2) (zA 12 (fun _ => false))) (z + 3) (iA 12 (fun _ => 0))) (z + 4) (zA 480 (fun _ => false))) (z + 5) (iA 3840 (fun _ => 0))) (z + 6) (zA 144 (fun _ => false)))) (k' := 6) (sl' := 4728) (by omega) rfl (by omega) (by omega) ?_
  refine rp_M_30 rfl rfl d_M_init_58 (hF_getE (r := z) (by omega) (upN_g (by omega) (upN_g (by omega) (upN_g (by omega) (upN_g (by omega) (upN_g (by omega) (upN_g (by omega) upN_s))))))) (Nat.le_of_ble_eq_true rfl) rfl (hF_setE (r := z) (by omega) (upN_in (by omega) (upN_in (by omega) (upN_in (by omega) (upN_in (by omega) (upN_in (by omega) (upN_in (by omega) upN_same))))))) ?_
  refine r_aload_n d_M_init_61 0 rfl ?_
  refine r_sipush (v := nI 144) d_M_init_62 (by decide) ?_
  refine f_newi (N := 144) d_M_init_65 (by decide) ⟨by show _ ≤ 15; omega, by show _ ≤ 6571; omega⟩ ?_
  refine r_cnt (n' := z + 8) (h' := hF (z + 8) g (upN (upN (upN (upN (upN (upN (upN (upN F z (.inr (5, [.ref (g.1 + (z + 1)), .int 0, .int (-1), .ref (g.1 + (z + 2)), .ref (g.1 + (z + 3)), .ref (g.1 + (z + 4)), .ref (g.1 + (z + 5)), .ref (g.1 + (z + 6)), .null, .null, .null, .null, .null, .null, .int 0, .int 0, .int 0, .null, .null, .null]))) (z + 1) (iA 240 (fun _ => 0))) (z + 2) (zA 12 (fun _ => false))) (z + 3) (iA 12 (fun _ => 0))) (z + 4) (zA 480 (fun _ => false))) (z + 5) (iA 3840 (fun _ => 0))) (z + 6) (zA 144 (fun _ => false))) (z + 7) (iA 144 (fun _ => 0)))) (k' := 7) (sl' := 4872) (by omega) rfl (by omega) (by omega) ?_
  refine rp_M_33 rfl rfl d_M_init_67 (hF_getE (r := z) (by omega) (upN_g (by omega) (upN_g (by omega) (upN_g (by omega) (upN_g (by omega) (upN_g (by omega) (upN_g (by omega) (upN_g (by omega) upN_s)))))))) (Nat.le_of_ble_eq_true rfl) rfl (hF_setE (r := z) (by omega) (upN_in (by omega) (upN_in (by omega) (upN_in (by omega) (upN_in (by omega) (upN_in (by omega) (upN_in (by omega) (upN_in (by omega) upN_same)))))))) ?_
  refine r_aload_n d_M_init_70 0 rfl ?_
  refine r_sipush (v := nI 144) d_M_init_71 (by decide) ?_
  refine f_newi (N := 144) d_M_init_74 (by decide) ⟨by show _ ≤ 15; omega, by show _ ≤ 6571; omega⟩ ?_
  refine r_cnt (n' := z + 9) (h' := hF (z + 9) g (upN (upN (upN (upN (upN (upN (upN (upN (upN F z (.inr (5, [.ref (g.1 + (z + 1)), .int 0, .int (-1), .ref (g.1 + (z + 2)), .ref (g.1 + (z + 3)), .ref (g.1 + (z + 4)), .ref (g.1 + (z + 5)), .ref (g.1 + (z + 6)), .ref (g.1 + (z + 7)), .null, .null, .null, .null, .null, .int 0, .int 0, .int 0, .null, .null, .null]))) (z + 1) (iA 240 (fun _ => 0))) (z + 2) (zA 12 (fun _ => false))) (z + 3) (iA 12 (fun _ => 0))) (z + 4) (zA 480 (fun _ => false))) (z + 5) (iA 3840 (fun _ => 0))) (z + 6) (zA 144 (fun _ => false))) (z + 7) (iA 144 (fun _ => 0))) (z + 8) (iA 144 (fun _ => 0)))) (k' := 8) (sl' := 5016) (by omega) rfl (by omega) (by omega) ?_
  refine rp_M_36 rfl rfl d_M_init_76 (hF_getE (r := z) (by omega) (upN_g (by omega) (upN_g (by omega) (upN_g (by omega) (upN_g (by omega) (upN_g (by omega) (upN_g (by omega) (upN_g (by omega) (upN_g (by omega) upN_s))))))))) (Nat.le_of_ble_eq_true rfl) rfl (hF_setE (r := z) (by omega) (upN_in (by omega) (upN_in (by omega) (upN_in (by omega) (upN_in (by omega) (upN_in (by omega) (upN_in (by omega) (upN_in (by omega) (upN_in (by omega) upN_same))))))))) ?_
  refine r_aload_n d_M_init_79 0 rfl ?_
  refine r_sipush (v := nI 1152) d_M_init_80 (by decide) ?_
  refine f_newi (N := 1152) d_M_init_83 (by decide) ⟨by show _ ≤ 15; omega, by show _ ≤ 6571; omega⟩ ?_
  refine r_cnt (n' := z + 10) (h' := hF (z + 10) g (upN (upN (upN (upN (upN (upN (upN (upN (upN (upN F z (.inr (5, [.ref (g.1 + (z + 1)), .int 0, .int (-1), .ref (g.1 + (z + 2)), .ref (g.1 + (z + 3)), .ref (g.1 + (z + 4)), .ref (g.1 + (z + 5)), .ref (g.1 + (z + 6)), .ref (g.1 + (z + 7)), .ref (g.1 + (z + 8)), .null, .null, .null, .null, .int 0, .int 0, .int 0, .null, .null, .null]))) (z + 1) (iA 240 (fun _ => 0))) (z + 2) (zA 12 (fun _ => false))) (z + 3) (iA 12 (fun _ => 0))) (z + 4) (zA 480 (fun _ => false))) (z + 5) (iA 3840 (fun _ => 0))) (z + 6) (zA 144 (fun _ => false))) (z + 7) (iA 144 (fun _ => 0))) (z + 8) (iA 144 (fun _ => 0))) (z + 9) (iA 1152 (fun _ => 0)))) (k' := 9) (sl' := 6168) (by omega) rfl (by omega) (by omega) ?_
  refine rp_M_39 rfl rfl d_M_init_85 (hF_getE (r := z) (by omega) (upN_g (by omega) (upN_g (by omega) (upN_g (by omega) (upN_g (by omega) (upN_g (by omega) (upN_g (by omega) (upN_g (by omega) (upN_g (by omega) (upN_g (by omega) upN_s)))))))))) (Nat.le_of_ble_eq_true rfl) rfl (hF_setE (r := z) (by omega) (upN_in (by omega) (upN_in (by omega) (upN_in (by omega) (upN_in (by omega) (upN_in (by omega) (upN_in (by omega) (upN_in (by omega) (upN_in (by omega) (upN_in (by omega) upN_same)))))))))) ?_
  refine r_aload_n d_M_init_88 0 rfl ?_
  refine r_bipush (v := nI 6) d_M_init_89 (by decide) ?_
  refine f_newi (N := 6) d_M_init_91 (by decide) ⟨by show _ ≤ 15; omega, by show _ ≤ 6571; omega⟩ ?_
  refine r_cnt (n' := z + 11) (h' := hF (z + 11) g (upN (upN (upN (upN (upN (upN (upN (upN (upN (upN (upN F z (.inr (5, [.ref (g.1 + (z + 1)), .int 0, .int (-1), .ref (g.1 + (z + 2)), .ref (g.1 + (z + 3)), .ref (g.1 + (z + 4)), .ref (g.1 + (z + 5)), .ref (g.1 + (z + 6)), .ref (g.1 + (z + 7)), .ref (g.1 + (z + 8)), .ref (g.1 + (z + 9)), .null, .null, .null, .int 0, .int 0, .int 0, .null, .null, .null]))) (z + 1) (iA 240 (fun _ => 0))) (z + 2) (zA 12 (fun _ => false))) (z + 3) (iA 12 (fun _ => 0))) (z + 4) (zA 480 (fun _ => false))) (z + 5) (iA 3840 (fun _ => 0))) (z + 6) (zA 144 (fun _ => false))) (z + 7) (iA 144 (fun _ => 0))) (z + 8) (iA 144 (fun _ => 0))) (z + 9) (iA 1152 (fun _ => 0))) (z + 10) (iA 6 (fun _ => 0)))) (k' := 10) (sl' := 6174) (by omega) rfl (by omega) (by omega) ?_
  refine rp_M_42 rfl rfl d_M_init_93 (hF_getE (r := z) (by omega) (upN_g (by omega) (upN_g (by omega) (upN_g (by omega) (upN_g (by omega) (upN_g (by omega) (upN_g (by omega) (upN_g (by omega) (upN_g (by omega) (upN_g (by omega) (upN_g (by omega) upN_s))))))))))) (Nat.le_of_ble_eq_true rfl) rfl (hF_setE (r := z) (by omega) (upN_in (by omega) (upN_in (by omega) (upN_in (by omega) (upN_in (by omega) (upN_in (by omega) (upN_in (by omega) (upN_in (by omega) (upN_in (by omega) (upN_in (by omega) (upN_in (by omega) upN_same))))))))))) ?_
  refine r_aload_n d_M_init_96 0 rfl ?_
  refine r_bipush (v := nI 6) d_M_init_97 (by decide) ?_
  refine f_newz (N := 6) d_M_init_99 (by decide) ⟨by show _ ≤ 15; omega, by show _ ≤ 6571; omega⟩ ?_
  refine r_cnt (n' := z + 12) (h' := hF (z + 12) g (upN (upN (upN (upN (upN (upN (upN (upN (upN (upN (upN (upN F z (.inr (5, [.ref (g.1 + (z + 1)), .int 0, .int (-1), .ref (g.1 + (z + 2)), .ref (g.1 + (z + 3)), .ref (g.1 + (z + 4)), .ref (g.1 + (z + 5)), .ref (g.1 + (z + 6)), .ref (g.1 + (z + 7)), .ref (g.1 + (z + 8)), .ref (g.1 + (z + 9)), .ref (g.1 + (z + 10)), .null, .null, .int 0, .int 0, .int 0, .null, .null, .null]))) (z + 1) (iA 240 (fun _ => 0))) (z + 2) (zA 12 (fun _ => false))) (z + 3) (iA 12 (fun _ => 0))) (z + 4) (zA 480 (fun _ => false))) (z + 5) (iA 3840 (fun _ => 0))) (z + 6) (zA 144 (fun _ => false))) (z + 7) (iA 144 (fun _ => 0))) (z + 8) (iA 144 (fun _ => 0))) (z + 9) (iA 1152 (fun _ => 0))) (z + 10) (iA 6 (fun _ => 0))) (z + 11) (zA 6 (fun _ => false)))) (k' := 11) (sl' := 6180) (by omega) rfl (by omega) (by omega) ?_
  refine rp_M_45 rfl rfl d_M_init_101 (hF_getE (r := z) (by omega) (upN_g (by omega) (upN_g (by omega) (upN_g (by omega) (upN_g (by omega) (upN_g (by omega) (upN_g (by omega) (upN_g (by omega) (upN_g (by omega) (upN_g (by omega) (upN_g (by omega) (upN_g (by omega) upN_s)))))))))))) (Nat.le_of_ble_eq_true rfl) rfl (hF_setE (r := z) (by omega) (upN_in (by omega) (upN_in (by omega) (upN_in (by omega) (upN_in (by omega) (upN_in (by omega) (upN_in (by omega) (upN_in (by omega) (upN_in (by omega) (upN_in (by omega) (upN_in (by omega) (upN_in (by omega) upN_same)))))))))))) ?_
  refine r_aload_n d_M_init_104 0 rfl ?_
  refine r_sipush (v := nI 240) d_M_init_105 (by decide) ?_
  refine f_newi (N := 240) d_M_init_108 (by decide) ⟨by show _ ≤ 15; omega, by show _ ≤ 6571; omega⟩ ?_
  refine r_cnt (n' := z + 13) (h' := hF (z + 13) g (upN (upN (upN (upN (upN (upN (upN (upN (upN (upN (upN (upN (upN F z (.inr (5, [.ref (g.1 + (z + 1)), .int 0, .int (-1), .ref (g.1 + (z + 2)), .ref (g.1 + (z + 3)), .ref (g.1 + (z + 4)), .ref (g.1 + (z + 5)), .ref (g.1 + (z + 6)), .ref (g.1 + (z + 7)), .ref (g.1 + (z + 8)), .ref (g.1 + (z + 9)), .ref (g.1 + (z + 10)), .ref (g.1 + (z + 11)), .null, .int 0, .int 0, .int 0, .null, .null, .null]))) (z + 1) (iA 240 (fun _ => 0))) (z + 2) (zA 12 (fun _ => false))) (z + 3) (iA 12 (fun _ => 0))) (z + 4) (zA 480 (fun _ => false))) (z + 5) (iA 3840 (fun _ => 0))) (z + 6) (zA 144 (fun _ => false))) (z + 7) (iA 144 (fun _ => 0))) (z + 8) (iA 144 (fun _ => 0))) (z + 9) (iA 1152 (fun _ => 0))) (z + 10) (iA 6 (fun _ => 0))) (z + 11) (zA 6 (fun _ => false))) (z + 12) (iA 240 (fun _ => 0)))) (k' := 12) (sl' := 6420) (by omega) rfl (by omega) (by omega) ?_
  refine rp_M_48 rfl rfl d_M_init_110 (hF_getE (r := z) (by omega) (upN_g (by omega) (upN_g (by omega) (upN_g (by omega) (upN_g (by omega) (upN_g (by omega) (upN_g (by omega) (upN_g (by omega) (upN_g (by omega) (upN_g (by omega) (upN_g (by omega) (upN_g (by omega) (upN_g (by omega) upN_s))))))))))))) (Nat.le_of_ble_eq_true rfl) rfl (hF_setE (r := z) (by omega) (upN_in (by omega) (upN_in (by omega) (upN_in (by omega) (upN_in (by omega) (upN_in (by omega) (upN_in (by omega) (upN_in (by omega) (upN_in (by omega) (upN_in (by omega) (upN_in (by omega) (upN_in (by omega) (upN_in (by omega) upN_same))))))))))))) ?_
  refine r_aload_n d_M_init_113 0 rfl ?_
  refine r_sipush (v := nI 128) d_M_init_114 (by decide) ?_
  refine f_newi (N := 128) d_M_init_117 (by decide) ⟨by show _ ≤ 15; omega, by show _ ≤ 6571; omega⟩ ?_
  refine r_cnt (n' := z + 14) (h' := hF (z + 14) g (upN (upN (upN (upN (upN (upN (upN (upN (upN (upN (upN (upN (upN (upN F z (.inr (5, [.ref (g.1 + (z + 1)), .int 0, .int (-1), .ref (g.1 + (z + 2)), .ref (g.1 + (z + 3)), .ref (g.1 + (z + 4)), .ref (g.1 + (z + 5)), .ref (g.1 + (z + 6)), .ref (g.1 + (z + 7)), .ref (g.1 + (z + 8)), .ref (g.1 + (z + 9)), .ref (g.1 + (z + 10)), .ref (g.1 + (z + 11)), .ref (g.1 + (z + 12)), .int 0, .int 0, .int 0, .null, .null, .null]))) (z + 1) (iA 240 (fun _ => 0))) (z + 2) (zA 12 (fun _ => false))) (z + 3) (iA 12 (fun _ => 0))) (z + 4) (zA 480 (fun _ => false))) (z + 5) (iA 3840 (fun _ => 0))) (z + 6) (zA 144 (fun _ => false))) (z + 7) (iA 144 (fun _ => 0))) (z + 8) (iA 144 (fun _ => 0))) (z + 9) (iA 1152 (fun _ => 0))) (z + 10) (iA 6 (fun _ => 0))) (z + 11) (zA 6 (fun _ => false))) (z + 12) (iA 240 (fun _ => 0))) (z + 13) (iA 128 (fun _ => 0)))) (k' := 13) (sl' := 6548) (by omega) rfl (by omega) (by omega) ?_
  refine rp_M_51 rfl rfl d_M_init_119 (hF_getE (r := z) (by omega) (upN_g (by omega) (upN_g (by omega) (upN_g (by omega) (upN_g (by omega) (upN_g (by omega) (upN_g (by omega) (upN_g (by omega) (upN_g (by omega) (upN_g (by omega) (upN_g (by omega) (upN_g (by omega) (upN_g (by omega) (upN_g (by omega) upN_s)))))))))))))) (Nat.le_of_ble_eq_true rfl) rfl (hF_setE (r := z) (by omega) (upN_in (by omega) (upN_in (by omega) (upN_in (by omega) (upN_in (by omega) (upN_in (by omega) (upN_in (by omega) (upN_in (by omega) (upN_in (by omega) (upN_in (by omega) (upN_in (by omega) (upN_in (by omega) (upN_in (by omega) (upN_in (by omega) upN_same)))))))))))))) ?_
  refine r_aload_n d_M_init_122 0 rfl ?_
  refine r_bipush (v := nI 8) d_M_init_123 (by decide) ?_
  refine f_newi (N := 8) d_M_init_125 (by decide) ⟨by show _ ≤ 15; omega, by show _ ≤ 6571; omega⟩ ?_
  refine r_cnt (n' := z + 15) (h' := hF (z + 15) g (upN (upN (upN (upN (upN (upN (upN (upN (upN (upN (upN (upN (upN (upN (upN F z (.inr (5, [.ref (g.1 + (z + 1)), .int 0, .int (-1), .ref (g.1 + (z + 2)), .ref (g.1 + (z + 3)), .ref (g.1 + (z + 4)), .ref (g.1 + (z + 5)), .ref (g.1 + (z + 6)), .ref (g.1 + (z + 7)), .ref (g.1 + (z + 8)), .ref (g.1 + (z + 9)), .ref (g.1 + (z + 10)), .ref (g.1 + (z + 11)), .ref (g.1 + (z + 12)), .int 0, .int 0, .int 0, .ref (g.1 + (z + 13)), .null, .null]))) (z + 1) (iA 240 (fun _ => 0))) (z + 2) (zA 12 (fun _ => false))) (z + 3) (iA 12 (fun _ => 0))) (z + 4) (zA 480 (fun _ => false))) (z + 5) (iA 3840 (fun _ => 0))) (z + 6) (zA 144 (fun _ => false))) (z + 7) (iA 144 (fun _ => 0))) (z + 8) (iA 144 (fun _ => 0))) (z + 9) (iA 1152 (fun _ => 0))) (z + 10) (iA 6 (fun _ => 0))) (z + 11) (zA 6 (fun _ => false))) (z + 12) (iA 240 (fun _ => 0))) (z + 13) (iA 128 (fun _ => 0))) (z + 14) (iA 8 (fun _ => 0)))) (k' := 14) (sl' := 6556) (by omega) rfl (by omega) (by omega) ?_
  refine rp_M_54 rfl rfl d_M_init_127 (hF_getE (r := z) (by omega) (upN_g (by omega) (upN_g (by omega) (upN_g (by omega) (upN_g (by omega) (upN_g (by omega) (upN_g (by omega) (upN_g (by omega) (upN_g (by omega) (upN_g (by omega) (upN_g (by omega) (upN_g (by omega) (upN_g (by omega) (upN_g (by omega) (upN_g (by omega) upN_s))))))))))))))) (Nat.le_of_ble_eq_true rfl) rfl (hF_setE (r := z) (by omega) (upN_in (by omega) (upN_in (by omega) (upN_in (by omega) (upN_in (by omega) (upN_in (by omega) (upN_in (by omega) (upN_in (by omega) (upN_in (by omega) (upN_in (by omega) (upN_in (by omega) (upN_in (by omega) (upN_in (by omega) (upN_in (by omega) (upN_in (by omega) upN_same))))))))))))))) ?_
  refine r_aload_n d_M_init_130 0 rfl ?_
  refine r_bipush (v := nI 15) d_M_init_131 (by decide) ?_
  refine f_newi (N := 15) d_M_init_133 (by decide) ⟨by show _ ≤ 15; omega, by show _ ≤ 6571; omega⟩ ?_
  refine r_cnt (n' := z + 16) (h' := hF (z + 16) g (upN (upN (upN (upN (upN (upN (upN (upN (upN (upN (upN (upN (upN (upN (upN (upN F z (.inr (5, [.ref (g.1 + (z + 1)), .int 0, .int (-1), .ref (g.1 + (z + 2)), .ref (g.1 + (z + 3)), .ref (g.1 + (z + 4)), .ref (g.1 + (z + 5)), .ref (g.1 + (z + 6)), .ref (g.1 + (z + 7)), .ref (g.1 + (z + 8)), .ref (g.1 + (z + 9)), .ref (g.1 + (z + 10)), .ref (g.1 + (z + 11)), .ref (g.1 + (z + 12)), .int 0, .int 0, .int 0, .ref (g.1 + (z + 13)), .ref (g.1 + (z + 14)), .null]))) (z + 1) (iA 240 (fun _ => 0))) (z + 2) (zA 12 (fun _ => false))) (z + 3) (iA 12 (fun _ => 0))) (z + 4) (zA 480 (fun _ => false))) (z + 5) (iA 3840 (fun _ => 0))) (z + 6) (zA 144 (fun _ => false))) (z + 7) (iA 144 (fun _ => 0))) (z + 8) (iA 144 (fun _ => 0))) (z + 9) (iA 1152 (fun _ => 0))) (z + 10) (iA 6 (fun _ => 0))) (z + 11) (zA 6 (fun _ => false))) (z + 12) (iA 240 (fun _ => 0))) (z + 13) (iA 128 (fun _ => 0))) (z + 14) (iA 8 (fun _ => 0))) (z + 15) (iA 15 (fun _ => 0)))) (k' := 15) (sl' := 6571) (by omega) rfl (by omega) (by omega) ?_
  refine rp_M_57 rfl rfl d_M_init_135 (hF_getE (r := z) (by omega) (upN_g (by omega) (upN_g (by omega) (upN_g (by omega) (upN_g (by omega) (upN_g (by omega) (upN_g (by omega) (upN_g (by omega) (upN_g (by omega) (upN_g (by omega) (upN_g (by omega) (upN_g (by omega) (upN_g (by omega) (upN_g (by omega) (upN_g (by omega) (upN_g (by omega) upN_s)))))))))))))))) (Nat.le_of_ble_eq_true rfl) rfl (hF_setE (r := z) (by omega) (upN_in (by omega) (upN_in (by omega) (upN_in (by omega) (upN_in (by omega) (upN_in (by omega) (upN_in (by omega) (upN_in (by omega) (upN_in (by omega) (upN_in (by omega) (upN_in (by omega) (upN_in (by omega) (upN_in (by omega) (upN_in (by omega) (upN_in (by omega) (upN_in (by omega) upN_same)))))))))))))))) ?_
  refine r_cnt (n' := z + 16) (h' := hF (z + 16) g (upN (upN (upN (upN (upN (upN (upN (upN (upN (upN (upN (upN (upN (upN (upN (upN F z (.inr (5, [.ref (g.1 + (z + 1)), .int 0, .int (-1), .ref (g.1 + (z + 2)), .ref (g.1 + (z + 3)), .ref (g.1 + (z + 4)), .ref (g.1 + (z + 5)), .ref (g.1 + (z + 6)), .ref (g.1 + (z + 7)), .ref (g.1 + (z + 8)), .ref (g.1 + (z + 9)), .ref (g.1 + (z + 10)), .ref (g.1 + (z + 11)), .ref (g.1 + (z + 12)), .int 0, .int 0, .int 0, .ref (g.1 + (z + 13)), .ref (g.1 + (z + 14)), .ref (g.1 + (z + 15))]))) (z + 1) (iA 240 (fun _ => 0))) (z + 2) (zA 12 (fun _ => false))) (z + 3) (iA 12 (fun _ => 0))) (z + 4) (zA 480 (fun _ => false))) (z + 5) (iA 3840 (fun _ => 0))) (z + 6) (zA 144 (fun _ => false))) (z + 7) (iA 144 (fun _ => 0))) (z + 8) (iA 144 (fun _ => 0))) (z + 9) (iA 1152 (fun _ => 0))) (z + 10) (iA 6 (fun _ => 0))) (z + 11) (zA 6 (fun _ => false))) (z + 12) (iA 240 (fun _ => 0))) (z + 13) (iA 128 (fun _ => 0))) (z + 14) (iA 8 (fun _ => 0))) (z + 15) (iA 15 (fun _ => 0)))) (k' := 15) (sl' := 6571) (by omega) (rfl) (by omega) (by omega) ?_
  refine r_return d_M_init_138 rfl ⟨rfl, rfl, rfl⟩
