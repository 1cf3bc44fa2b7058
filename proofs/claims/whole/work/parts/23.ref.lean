theorem nI_m {K : Nat} (h : K < 2 ^ 31) : (nI K - nI 1).toInt = (K : Int) - 1 := by
  rcases Nat.eq_zero_or_pos K with z | z
  · subst z; decide
  · rw [pk_sub z, nI_toInt (by omega)]
    omega
theorem inR_in {x : Int32} {K : Nat} (h : K < 2 ^ 31) : decide (¬ x < nI 0 ∧ ¬ nI K - nI 1 < x) = inR x K := by
  unfold inR
  have q : (¬ nI K - nI 1 < x) ↔ x < nI K := by
    rw [Int32.lt_iff_toInt_lt, Int32.lt_iff_toInt_lt, nI_m h, nI_toInt h]
    omega
  rw [decide_eq_decide]
  rw [q]
  exact Iff.rfl
theorem k_M_inG {l : Launch} {g : GX} {c : CS} {m : MS} {n d : Nat} (hd : 0 ≤ d) {x a b : Int32} : CE l g M_M_in d 0 0 [.int x, .int a, .int b] n (hp g c m) (some (.int (b2 (decide (¬ x < a ∧ ¬ b < x))))) n (hp g c m) := by
  refine CE.of (by decide +kernel) (lv := [(0, .int x), (1, .int a), (2, .int b)]) rfl (Nat.le_of_ble_eq_true rfl) ?_
  refine r_iload_n d_M_in_0 0 rfl ?_
  refine r_iload_n d_M_in_1 1 rfl ?_
  refine r_icmp_lt (tgt := 14) d_M_in_2 (by decide) (fun c2 => ?_) (fun c2 => ?_)
  · skip
    refine r_iconst (v := nI 0) d_M_in_14 (by decide) ?_
    refine r_ireturn d_M_in_15 rfl rfl ⟨?_, rfl, ?_⟩
    · first | exact vb1 (decide_eq_true ⟨c2, c7⟩) | exact vb0 (decide_eq_false (fun q => q.2 c7)) | exact vb0 (decide_eq_false (fun q => q.1 c2)) | exact vb1 (decide_eq_true ⟨c2, Int32.not_lt.mpr c7⟩) | exact vb1 (decide_eq_true ⟨Int32.not_lt.mpr c2, Int32.not_lt.mpr c7⟩)
    · rfl
  · skip
    refine r_iload_n d_M_in_5 0 rfl ?_
    refine r_iload_n d_M_in_6 2 rfl ?_
    refine r_icmp_gt (tgt := 14) d_M_in_7 (by decide) (fun c7 => ?_) (fun c7 => ?_)
    · skip
      refine r_iconst (v := nI 0) d_M_in_14 (by decide) ?_
      refine r_ireturn d_M_in_15 rfl rfl ⟨?_, rfl, ?_⟩
      · first | exact vb1 (decide_eq_true ⟨c2, c7⟩) | exact vb0 (decide_eq_false (fun q => q.2 c7)) | exact vb0 (decide_eq_false (fun q => q.1 c2)) | exact vb1 (decide_eq_true ⟨c2, Int32.not_lt.mpr c7⟩) | exact vb1 (decide_eq_true ⟨Int32.not_lt.mpr c2, Int32.not_lt.mpr c7⟩)
      · rfl
    · skip
      refine r_iconst (v := nI 1) d_M_in_10 (by decide) ?_
      refine r_goto (tgt := 15) d_M_in_11 (by decide) ?_
      refine r_ireturn d_M_in_15 rfl rfl ⟨?_, rfl, ?_⟩
      · first | exact vb1 (decide_eq_true ⟨c2, c7⟩) | exact vb0 (decide_eq_false (fun q => q.2 c7)) | exact vb0 (decide_eq_false (fun q => q.1 c2)) | exact vb1 (decide_eq_true ⟨c2, Int32.not_lt.mpr c7⟩) | exact vb1 (decide_eq_true ⟨Int32.not_lt.mpr c2, Int32.not_lt.mpr c7⟩)
      · rfl
theorem k_M_inM {l : Launch} {g : GX} {c : CS} {m : MS} {n d : Nat} {x : Int32} {K : Nat} (hK : K < 2 ^ 31) : CE l g M_M_in d 0 0 [.int x, .int (nI 0), .int (nI K - nI 1)] n (hp g c m) (some (.int (b2 (inR x K)))) n (hp g c m) := by
  have h := k_M_inG (l := l) (g := g) (c := c) (m := m) (n := n) (d := d) (x := x) (a := nI 0) (b := nI K - nI 1) (Nat.zero_le _)
  rw [inR_in hK] at h
  exact h
theorem k_M_in {l : Launch} {g : GX} {c : CS} {m : MS} {n d : Nat} {x : Int32} {K : Nat} (hK : K + 1 < 2 ^ 31) : CE l g M_M_in d 0 0 [.int x, .int (nI 0), .int (nI K)] n (hp g c m) (some (.int (b2 (inR x (K + 1))))) n (hp g c m) := by
  have h := k_M_inG (l := l) (g := g) (c := c) (m := m) (n := n) (d := d) (x := x) (a := nI 0) (b := nI K) (Nat.zero_le _)
  rw [show decide (¬ x < nI 0 ∧ ¬ nI K < x) = inR x (K + 1) from (by have q := inR_in (x := x) hK; rw [pk_sub (by omega)] at q; exact q)] at h
  exact h
theorem k_M_inT {l : Launch} {g : GX} {c : CS} {m : MS} {n d : Nat} {i K : Nat} (hK : K + 1 < 2 ^ 31) (hi : i ≤ K) : CE l g M_M_in d 0 0 [.int (nI i), .int (nI 0), .int (nI K)] n (hp g c m) (some (.int (b2 true))) n (hp g c m) := by
  have h := k_M_in (l := l) (g := g) (c := c) (m := m) (n := n) (d := d) (x := nI i) (K := K) hK
  rw [inR_n (by omega) hK, decide_eq_true (by omega)] at h
  exact h
theorem k_M_isNode {l : Launch} {g : GX} {c : CS} {m : MS} {n d : Nat} (hd : 1 ≤ d) {x : Int32} : CE l g M_M_isNode d 0 0 [.int x] n (hp g c m) (some (.int (b2 (inR x 12)))) n (hp g c m) := by
  refine CE.of (by decide +kernel) (lv := [(0, .int x)]) rfl (Nat.le_of_ble_eq_true rfl) ?_
  refine r_iload_n d_M_isNode_0 0 rfl ?_
  refine r_iconst (v := nI 0) d_M_isNode_1 (by decide) ?_
  refine r_bipush (v := nI 11) d_M_isNode_2 (by decide) ?_
  refine rc_M_60 rfl d_M_isNode_4 (k_M_in (K := 11) (by decide)) (room_ok (d' := d - 1) (by omega) (by decide)) ⟨Nat.le_refl _, Nat.le_refl _⟩ (Nat.le_of_ble_eq_true rfl) ?_
  refine r_ireturn d_M_isNode_7 rfl (nar_z _) ⟨?_, rfl, ?_⟩
  · rfl
  · rfl
theorem k_M_isNodeN {l : Launch} {g : GX} {c : CS} {m : MS} {n d : Nat} (hd : 1 ≤ d) {i : Nat} (hi : i < 12) : CE l g M_M_isNode d 0 0 [.int (nI i)] n (hp g c m) (some (.int (b2 true))) n (hp g c m) := by
  refine CE.of (by decide +kernel) (lv := [(0, .int (nI i))]) rfl (Nat.le_of_ble_eq_true rfl) ?_
  refine r_iload_n d_M_isNode_0 0 rfl ?_
  refine r_iconst (v := nI 0) d_M_isNode_1 (by decide) ?_
  refine r_bipush (v := nI 11) d_M_isNode_2 (by decide) ?_
  refine rc_M_60 rfl d_M_isNode_4 (k_M_inT (K := 11) (by decide) (by omega)) (room_ok (d' := d - 1) (by omega) (by decide)) ⟨Nat.le_refl _, Nat.le_refl _⟩ (Nat.le_of_ble_eq_true rfl) ?_
  refine r_ireturn d_M_isNode_7 rfl (nar_z _) ⟨?_, rfl, ?_⟩
  · rfl
  · rfl
theorem k_M_isObject {l : Launch} {g : GX} {c : CS} {m : MS} {n d : Nat} (hd : 1 ≤ d) {x : Int32} : CE l g M_M_isObject d 0 0 [.int x] n (hp g c m) (some (.int (b2 (inR x 6)))) n (hp g c m) := by
  refine CE.of (by decide +kernel) (lv := [(0, .int x)]) rfl (Nat.le_of_ble_eq_true rfl) ?_
  refine r_iload_n d_M_isObject_0 0 rfl ?_
  refine r_iconst (v := nI 0) d_M_isObject_1 (by decide) ?_
  refine r_iconst (v := nI 5) d_M_isObject_2 (by decide) ?_
  refine rc_M_60 rfl d_M_isObject_3 (k_M_in (K := 5) (by decide)) (room_ok (d' := d - 1) (by omega) (by decide)) ⟨Nat.le_refl _, Nat.le_refl _⟩ (Nat.le_of_ble_eq_true rfl) ?_
  refine r_ireturn d_M_isObject_6 rfl (nar_z _) ⟨?_, rfl, ?_⟩
  · rfl
  · rfl
theorem k_M_isObjectN {l : Launch} {g : GX} {c : CS} {m : MS} {n d : Nat} (hd : 1 ≤ d) {i : Nat} (hi : i < 6) : CE l g M_M_isObject d 0 0 [.int (nI i)] n (hp g c m) (some (.int (b2 true))) n (hp g c m) := by
  refine CE.of (by decide +kernel) (lv := [(0, .int (nI i))]) rfl (Nat.le_of_ble_eq_true rfl) ?_
  refine r_iload_n d_M_isObject_0 0 rfl ?_
  refine r_iconst (v := nI 0) d_M_isObject_1 (by decide) ?_
  refine r_iconst (v := nI 5) d_M_isObject_2 (by decide) ?_
  refine rc_M_60 rfl d_M_isObject_3 (k_M_inT (K := 5) (by decide) (by omega)) (room_ok (d' := d - 1) (by omega) (by decide)) ⟨Nat.le_refl _, Nat.le_refl _⟩ (Nat.le_of_ble_eq_true rfl) ?_
  refine r_ireturn d_M_isObject_6 rfl (nar_z _) ⟨?_, rfl, ?_⟩
  · rfl
  · rfl
theorem k_M_product {l : Launch} {g : GX} {c : CS} {m : MS} {n d : Nat} (hd : 0 ≤ d) {a b : Nat} (ha : a < 256) (hb : b < 256) : CE l g M_M_product d 0 0 [.int (nI a), .int (nI b)] n (hp g c m) (some (.int (nI (mulT a b)))) n (hp g c m) := by
  refine CE.of (by decide +kernel) (lv := [(0, .int (nI a)), (1, .int (nI b))]) rfl (Nat.le_of_ble_eq_true rfl) ?_
  refine r_iconst (v := nI 0) d_M_product_0 (by decide) ?_
  refine r_istore_n (lv' := [(0, _), (1, _), (2, _)]) d_M_product_1 (by decide) rfl ?_
  refine r_iload_n d_M_product_2 0 rfl ?_
  refine r_istore_n (lv' := [(0, _), (1, _), (2, _), (3, _)]) d_M_product_3 (by decide) rfl ?_
  refine r_iconst (v := nI 0) d_M_product_4 (by decide) ?_
  refine r_istore (lv' := [(0, _), (1, _), (2, _), (3, _), (4, _)]) d_M_product_5 (by decide) rfl ?_
  refine back_ind (n := 8) (G := fun k => RJ l g M_M_product (RMX d 0 0) (TQ g 0 0 (QE (some (.int (nI (mulT a b)))) n (hp g c m))) XT n (hp g c m) 0 0 7 [(0, .int (nI a)), (1, .int (nI b)), (2, .int (nI (msS a b k))), (3, .int (nI (msX a k))), (4, .int (nI k))] []) ?_ ?_ 0 (Nat.zero_le _)
  · skip
    refine r_iload d_M_product_7 4 rfl ?_
    refine r_bipush (v := nI 8) d_M_product_9 (by decide) ?_
    refine r_icmp_geN (tgt := 56) d_M_product_11 (by decide) (by omega) (by omega) (fun c11 => ?_) (fun c11 => ?_)
    rotate_left 1
    · exfalso; first | omega | (revert c11; decide) | cases c11
    refine r_iload_n d_M_product_56 2 rfl ?_
    refine r_ireturn d_M_product_57 rfl rfl ⟨?_, rfl, ?_⟩
    · rw [mul_eq ha hb]
    · rfl
  · intro k hb_k ih_k
    have hx := msX_lt ha k
    refine r_iload d_M_product_7 4 rfl ?_
    refine r_bipush (v := nI 8) d_M_product_9 (by decide) ?_
    refine r_icmp_geN (tgt := 56) d_M_product_11 (by decide) (by omega) (by omega) (fun c11 => ?_) (fun c11 => ?_)
    · exfalso; first | omega | (revert c11; decide) | cases c11
    refine r_iload_n d_M_product_14 2 rfl ?_
    refine r_iload_n d_M_product_15 1 rfl ?_
    refine r_iload d_M_product_16 4 rfl ?_
    refine r_ishr d_M_product_18 ?_
    refine r_iconst (v := nI 1) d_M_product_19 (by decide) ?_
    refine r_iand d_M_product_20 ?_
    refine r_iconst (v := nI 1) d_M_product_21 (by decide) ?_
    refine r_icmp_ne (tgt := 29) d_M_product_22 (by decide) (fun c22 => ?_) (fun c22 => ?_)
    · skip
      have ht : told (nI b) k = false := decide_eq_false c22
      refine r_iconst (v := nI 0) d_M_product_29 (by decide) ?_
      refine r_ixorN d_M_product_30 ?_
      refine r_istore_n (lv' := [(0, _), (1, _), (2, _), (3, _), (4, _)]) d_M_product_31 (by decide) rfl ?_
      refine r_iload_n d_M_product_32 3 rfl ?_
      refine r_iconst (v := nI 1) d_M_product_33 (by decide) ?_
      refine r_ishl d_M_product_34 ?_
      refine r_top (y := (nI (2 * msX a k))) (shl1 _ hx) ?_
      refine r_iload_n d_M_product_35 3 rfl ?_
      refine r_bipush (v := nI 127) d_M_product_36 (by decide) ?_
      refine r_icmp_leN (tgt := 47) d_M_product_38 (by decide) (by omega) (by omega) (fun c38 => ?_) (fun c38 => ?_)
      · skip
        refine r_iconst (v := nI 0) d_M_product_47 (by decide) ?_
        refine r_ixorN d_M_product_48 ?_
        refine r_istore_n (lv' := [(0, _), (1, _), (2, _), (3, _), (4, _)]) d_M_product_49 (by decide) rfl ?_
        refine r_iincN (lv' := [(0, _), (1, _), (2, _), (3, _), (4, _)]) d_M_product_50 4 rfl (by decide) rfl ?_
        refine r_goto (tgt := 7) d_M_product_53 (by decide) ?_
        exact r_at ih_k rfl (by first | (rw [xt_le c38]; simp [msS, ht]; rfl) | (rw [xt_gt (by omega)]; simp [msS, ht]; rfl)) rfl
      · skip
        refine r_sipush (v := nI 285) d_M_product_41 (by decide) ?_
        refine r_goto (tgt := 48) d_M_product_44 (by decide) ?_
        refine r_ixorN d_M_product_48 ?_
        refine r_istore_n (lv' := [(0, _), (1, _), (2, _), (3, _), (4, _)]) d_M_product_49 (by decide) rfl ?_
        refine r_iincN (lv' := [(0, _), (1, _), (2, _), (3, _), (4, _)]) d_M_product_50 4 rfl (by decide) rfl ?_
        refine r_goto (tgt := 7) d_M_product_53 (by decide) ?_
        exact r_at ih_k rfl (by first | (rw [xt_le c38]; simp [msS, ht]; rfl) | (rw [xt_gt (by omega)]; simp [msS, ht]; rfl)) rfl
    · skip
      have ht : told (nI b) k = true := decide_eq_true c22
      refine r_iload_n d_M_product_25 3 rfl ?_
      refine r_goto (tgt := 30) d_M_product_26 (by decide) ?_
      refine r_ixorN d_M_product_30 ?_
      refine r_istore_n (lv' := [(0, _), (1, _), (2, _), (3, _), (4, _)]) d_M_product_31 (by decide) rfl ?_
      refine r_iload_n d_M_product_32 3 rfl ?_
      refine r_iconst (v := nI 1) d_M_product_33 (by decide) ?_
      refine r_ishl d_M_product_34 ?_
      refine r_top (y := (nI (2 * msX a k))) (shl1 _ hx) ?_
      refine r_iload_n d_M_product_35 3 rfl ?_
      refine r_bipush (v := nI 127) d_M_product_36 (by decide) ?_
      refine r_icmp_leN (tgt := 47) d_M_product_38 (by decide) (by omega) (by omega) (fun c38 => ?_) (fun c38 => ?_)
      · skip
        refine r_iconst (v := nI 0) d_M_product_47 (by decide) ?_
        refine r_ixorN d_M_product_48 ?_
        refine r_istore_n (lv' := [(0, _), (1, _), (2, _), (3, _), (4, _)]) d_M_product_49 (by decide) rfl ?_
        refine r_iincN (lv' := [(0, _), (1, _), (2, _), (3, _), (4, _)]) d_M_product_50 4 rfl (by decide) rfl ?_
        refine r_goto (tgt := 7) d_M_product_53 (by decide) ?_
        exact r_at ih_k rfl (by first | (rw [xt_le c38]; simp [msS, ht]; rfl) | (rw [xt_gt (by omega)]; simp [msS, ht]; rfl)) rfl
      · skip
        refine r_sipush (v := nI 285) d_M_product_41 (by decide) ?_
        refine r_goto (tgt := 48) d_M_product_44 (by decide) ?_
        refine r_ixorN d_M_product_48 ?_
        refine r_istore_n (lv' := [(0, _), (1, _), (2, _), (3, _), (4, _)]) d_M_product_49 (by decide) rfl ?_
        refine r_iincN (lv' := [(0, _), (1, _), (2, _), (3, _), (4, _)]) d_M_product_50 4 rfl (by decide) rfl ?_
        refine r_goto (tgt := 7) d_M_product_53 (by decide) ?_
        exact r_at ih_k rfl (by first | (rw [xt_le c38]; simp [msS, ht]; rfl) | (rw [xt_gt (by omega)]; simp [msS, ht]; rfl)) rfl
theorem k_M_inverse {l : Launch} {g : GX} {c : CS} {m : MS} {n d : Nat} (hd : 1 ≤ d) {b : Nat} (hb : b < 256) : CE l g M_M_inverse d 0 0 [.int (nI b)] n (hp g c m) (some (.int (nI (ivT b)))) n (hp g c m) := by
  refine CE.of (by decide +kernel) (lv := [(0, .int (nI b))]) rfl (Nat.le_of_ble_eq_true rfl) ?_
  refine r_iconst (v := nI 1) d_M_inverse_0 (by decide) ?_
  refine r_istore_n (lv' := [(0, _), (1, _)]) d_M_inverse_1 (by decide) rfl ?_
  refine r_iconst (v := nI 0) d_M_inverse_2 (by decide) ?_
  refine r_istore_n (lv' := [(0, _), (1, _), (2, _)]) d_M_inverse_3 (by decide) rfl ?_
  refine back_ind (n := 254) (G := fun k => RJ l g M_M_inverse (RMX d 0 0) (TQ g 0 0 (QE (some (.int (nI (ivT b)))) n (hp g c m))) XT n (hp g c m) 0 0 4 [(0, .int (nI b)), (1, .int (nI (pwB b k))), (2, .int (nI k))] []) ?_ ?_ 0 (Nat.zero_le _)
  · skip
    refine r_iload_n d_M_inverse_4 2 rfl ?_
    refine r_sipush (v := nI 254) d_M_inverse_5 (by decide) ?_
    refine r_icmp_geN (tgt := 23) d_M_inverse_8 (by decide) (by omega) (by omega) (fun c8 => ?_) (fun c8 => ?_)
    rotate_left 1
    · exfalso; first | omega | (revert c8; decide) | cases c8
    refine r_iload_n d_M_inverse_23 1 rfl ?_
    refine r_ireturn d_M_inverse_24 rfl rfl ⟨?_, rfl, ?_⟩
    · rw [pwB_iv hb]
    · rfl
  · intro k hb_k ih_k
    refine r_iload_n d_M_inverse_4 2 rfl ?_
    refine r_sipush (v := nI 254) d_M_inverse_5 (by decide) ?_
    refine r_icmp_geN (tgt := 23) d_M_inverse_8 (by decide) (by omega) (by omega) (fun c8 => ?_) (fun c8 => ?_)
    · exfalso; first | omega | (revert c8; decide) | cases c8
    refine r_iload_n d_M_inverse_11 1 rfl ?_
    refine r_iload_n d_M_inverse_12 0 rfl ?_
    refine rc_M_64 rfl d_M_inverse_13 (k_M_product (by omega) (pwB_lt b k) hb) (room_ok (d' := d - 1) (by omega) (by decide)) ⟨Nat.le_refl _, Nat.le_refl _⟩ (Nat.le_of_ble_eq_true rfl) ?_
    refine r_istore_n (lv' := [(0, _), (1, _), (2, _)]) d_M_inverse_16 (by decide) rfl ?_
    refine r_iincN (lv' := [(0, _), (1, _), (2, _)]) d_M_inverse_17 2 rfl (by decide) rfl ?_
    refine r_goto (tgt := 4) d_M_inverse_20 (by decide) ?_
    exact ih_k
theorem k_M_times_bad {l : Launch} {g : GX} {c : CS} {m : MS} {n d : Nat} (hd : 2 ≤ d) {x y : Int32} (h : inR x 256 = false ∨ inR y 256 = false) : CE l g M_M_times d 0 0 [.ref (aM g), .int x, .int y] n (hp g c m) (some (.int ((-2)))) n (hp g c m) := by
  refine CE.of (by decide +kernel) (lv := [(0, .ref (aM g)), (1, .int x), (2, .int y)]) rfl (Nat.le_of_ble_eq_true rfl) ?_
  refine r_iload_n d_M_times_0 1 rfl ?_
  refine r_iconst (v := nI 0) d_M_times_1 (by decide) ?_
  refine r_sipush (v := nI 255) d_M_times_2 (by decide) ?_
  refine rc_M_60 rfl d_M_times_5 (k_M_in (K := 255) (by decide)) (room_ok (d' := d - 1) (by omega) (by decide)) ⟨Nat.le_refl _, Nat.le_refl _⟩ (Nat.le_of_ble_eq_true rfl) ?_
  refine r_if_eqB (tgt := 30) d_M_times_8 (by decide) (fun c8 => ?_) (fun c8 => ?_)
  · skip
    refine r_bipush (v := (-2)) d_M_times_30 (by decide) ?_
    refine r_ireturn d_M_times_32 rfl rfl ⟨?_, rfl, ?_⟩
    · rfl
    · rfl
  · skip
    refine r_iload_n d_M_times_11 2 rfl ?_
    refine r_iconst (v := nI 0) d_M_times_12 (by decide) ?_
    refine r_sipush (v := nI 255) d_M_times_13 (by decide) ?_
    refine rc_M_60 rfl d_M_times_16 (k_M_in (K := 255) (by decide)) (room_ok (d' := d - 1) (by omega) (by decide)) ⟨Nat.le_refl _, Nat.le_refl _⟩ (Nat.le_of_ble_eq_true rfl) ?_
    refine r_if_eqB (tgt := 30) d_M_times_19 (by decide) (fun c19 => ?_) (fun c19 => ?_)
    rotate_left 1
    · exfalso; simp [c8, c19] at h
    refine r_bipush (v := (-2)) d_M_times_30 (by decide) ?_
    refine r_ireturn d_M_times_32 rfl rfl ⟨?_, rfl, ?_⟩
    · rfl
    · rfl
theorem k_M_times {l : Launch} {g : GX} {c : CS} {m : MS} {n d : Nat} (hd : 2 ≤ d) {a b : Nat} (ha : a < 256) (hb : b < 256) : CE l g M_M_times d 0 0 [.ref (aM g), .int (nI a), .int (nI b)] n (hp g c m) (some (.int (nI (mulT a b)))) n (hp g c m) := by
  refine CE.of (by decide +kernel) (lv := [(0, .ref (aM g)), (1, .int (nI a)), (2, .int (nI b))]) rfl (Nat.le_of_ble_eq_true rfl) ?_
  refine r_iload_n d_M_times_0 1 rfl ?_
  refine r_iconst (v := nI 0) d_M_times_1 (by decide) ?_
  refine r_sipush (v := nI 255) d_M_times_2 (by decide) ?_
  refine rc_M_60 rfl d_M_times_5 (k_M_inT (K := 255) (by decide) (by omega)) (room_ok (d' := d - 1) (by omega) (by decide)) ⟨Nat.le_refl _, Nat.le_refl _⟩ (Nat.le_of_ble_eq_true rfl) ?_
  refine r_if_eqB (tgt := 30) d_M_times_8 (by decide) (fun c8 => ?_) (fun c8 => ?_)
  · exfalso; first | omega | (revert c8; decide) | cases c8
  refine r_iload_n d_M_times_11 2 rfl ?_
  refine r_iconst (v := nI 0) d_M_times_12 (by decide) ?_
  refine r_sipush (v := nI 255) d_M_times_13 (by decide) ?_
  refine rc_M_60 rfl d_M_times_16 (k_M_inT (K := 255) (by decide) (by omega)) (room_ok (d' := d - 1) (by omega) (by decide)) ⟨Nat.le_refl _, Nat.le_refl _⟩ (Nat.le_of_ble_eq_true rfl) ?_
  refine r_if_eqB (tgt := 30) d_M_times_19 (by decide) (fun c19 => ?_) (fun c19 => ?_)
  · exfalso; first | omega | (revert c19; decide) | cases c19
  refine r_iload_n d_M_times_22 1 rfl ?_
  refine r_iload_n d_M_times_23 2 rfl ?_
  refine rc_M_64 rfl d_M_times_24 (k_M_product (by omega) ha hb) (room_ok (d' := d - 1) (by omega) (by decide)) ⟨Nat.le_refl _, Nat.le_refl _⟩ (Nat.le_of_ble_eq_true rfl) ?_
  refine r_goto (tgt := 32) d_M_times_27 (by decide) ?_
  refine r_ireturn d_M_times_32 rfl rfl ⟨?_, rfl, ?_⟩
  · rfl
  · rfl
theorem k_M_over_bad {l : Launch} {g : GX} {c : CS} {m : MS} {n d : Nat} (hd : 2 ≤ d) {x y : Int32} (h : inR x 256 = false ∨ inR y 256 = false) : CE l g M_M_over d 0 0 [.ref (aM g), .int x, .int y] n (hp g c m) (some (.int ((-2)))) n (hp g c m) := by
  refine CE.of (by decide +kernel) (lv := [(0, .ref (aM g)), (1, .int x), (2, .int y)]) rfl (Nat.le_of_ble_eq_true rfl) ?_
  refine r_iload_n d_M_over_0 1 rfl ?_
  refine r_iconst (v := nI 0) d_M_over_1 (by decide) ?_
  refine r_sipush (v := nI 255) d_M_over_2 (by decide) ?_
  refine rc_M_60 rfl d_M_over_5 (k_M_in (K := 255) (by decide)) (room_ok (d' := d - 1) (by omega) (by decide)) ⟨Nat.le_refl _, Nat.le_refl _⟩ (Nat.le_of_ble_eq_true rfl) ?_
  refine r_if_eqB (tgt := 22) d_M_over_8 (by decide) (fun c8 => ?_) (fun c8 => ?_)
  · skip
    refine r_bipush (v := (-2)) d_M_over_22 (by decide) ?_
    refine r_goto (tgt := 44) d_M_over_24 (by decide) ?_
    refine r_ireturn d_M_over_44 rfl rfl ⟨?_, rfl, ?_⟩
    · rfl
    · rfl
  · skip
    refine r_iload_n d_M_over_11 2 rfl ?_
    refine r_iconst (v := nI 0) d_M_over_12 (by decide) ?_
    refine r_sipush (v := nI 255) d_M_over_13 (by decide) ?_
    refine rc_M_60 rfl d_M_over_16 (k_M_in (K := 255) (by decide)) (room_ok (d' := d - 1) (by omega) (by decide)) ⟨Nat.le_refl _, Nat.le_refl _⟩ (Nat.le_of_ble_eq_true rfl) ?_
    refine r_if_neB (tgt := 27) d_M_over_19 (by decide) (fun c19 => ?_) (fun c19 => ?_)
    · exfalso; simp [c8, c19] at h
    refine r_bipush (v := (-2)) d_M_over_22 (by decide) ?_
    refine r_goto (tgt := 44) d_M_over_24 (by decide) ?_
    refine r_ireturn d_M_over_44 rfl rfl ⟨?_, rfl, ?_⟩
    · rfl
    · rfl
theorem k_M_over {l : Launch} {g : GX} {c : CS} {m : MS} {n d : Nat} (hd : 3 ≤ d) {a b : Nat} (ha : a < 256) (hb : b < 256) : CE l g M_M_over d 0 0 [.ref (aM g), .int (nI a), .int (nI b)] n (hp g c m) (some (.int (if b = 0 then (-7) else nI (quoT a b)))) n (hp g c m) := by
  refine CE.of (by decide +kernel) (lv := [(0, .ref (aM g)), (1, .int (nI a)), (2, .int (nI b))]) rfl (Nat.le_of_ble_eq_true rfl) ?_
  refine r_iload_n d_M_over_0 1 rfl ?_
  refine r_iconst (v := nI 0) d_M_over_1 (by decide) ?_
  refine r_sipush (v := nI 255) d_M_over_2 (by decide) ?_
  refine rc_M_60 rfl d_M_over_5 (k_M_inT (K := 255) (by decide) (by omega)) (room_ok (d' := d - 1) (by omega) (by decide)) ⟨Nat.le_refl _, Nat.le_refl _⟩ (Nat.le_of_ble_eq_true rfl) ?_
  refine r_if_eqB (tgt := 22) d_M_over_8 (by decide) (fun c8 => ?_) (fun c8 => ?_)
  · exfalso; first | omega | (revert c8; decide) | cases c8
  refine r_iload_n d_M_over_11 2 rfl ?_
  refine r_iconst (v := nI 0) d_M_over_12 (by decide) ?_
  refine r_sipush (v := nI 255) d_M_over_13 (by decide) ?_
  refine rc_M_60 rfl d_M_over_16 (k_M_inT (K := 255) (by decide) (by omega)) (room_ok (d' := d - 1) (by omega) (by decide)) ⟨Nat.le_refl _, Nat.le_refl _⟩ (Nat.le_of_ble_eq_true rfl) ?_
  refine r_if_neB (tgt := 27) d_M_over_19 (by decide) (fun c19 => ?_) (fun c19 => ?_)
  rotate_left 1
  · exfalso; first | omega | (revert c19; decide) | cases c19
  refine r_iload_n d_M_over_27 2 rfl ?_
  refine r_if_neN (tgt := 36) d_M_over_28 (by decide) (by omega) (fun c28 => ?_) (fun c28 => ?_)
  · skip
    refine r_iload_n d_M_over_36 1 rfl ?_
    refine r_iload_n d_M_over_37 2 rfl ?_
    refine rc_M_68 rfl d_M_over_38 (k_M_inverse (by omega) hb) (room_ok (d' := d - 1) (by omega) (by decide)) ⟨Nat.le_refl _, Nat.le_refl _⟩ (Nat.le_of_ble_eq_true rfl) ?_
    refine rc_M_64 rfl d_M_over_41 (k_M_product (by omega) ha (ivT_lt b)) (room_ok (d' := d - 1) (by omega) (by decide)) ⟨Nat.le_refl _, Nat.le_refl _⟩ (Nat.le_of_ble_eq_true rfl) ?_
    refine r_ireturn d_M_over_44 rfl rfl ⟨?_, rfl, ?_⟩
    · first | (rw [if_neg c28, quo_mul ha hb]; done) | (rw [if_pos c28])
    · rfl
  · skip
    refine r_bipush (v := (-7)) d_M_over_31 (by decide) ?_
    refine r_goto (tgt := 44) d_M_over_33 (by decide) ?_
    refine r_ireturn d_M_over_44 rfl rfl ⟨?_, rfl, ?_⟩
    · first | (rw [if_neg c28, quo_mul ha hb]; done) | (rw [if_pos c28])
    · rfl
theorem k_M_row {l : Launch} {g : GX} {c : CS} {m : MS} {n d : Nat} (hd : 1 ≤ d) {i k : Nat} (hi : i < 12) (hk : k < 65536) : CE l g M_M_row d 0 0 [.int (nI i), .int (nI k)] n (hp g c m) (some (.int (nI (rowT i k)))) n (hp g c m) := by
  refine CE.of (by decide +kernel) (lv := [(0, .int (nI i)), (1, .int (nI k))]) rfl (Nat.le_of_ble_eq_true rfl) ?_
  refine r_iconst (v := nI 1) d_M_row_0 (by decide) ?_
  refine r_istore_n (lv' := [(0, _), (1, _), (2, _)]) d_M_row_1 (by decide) rfl ?_
  refine r_iconst (v := nI 0) d_M_row_2 (by decide) ?_
  refine r_istore_n (lv' := [(0, _), (1, _), (2, _), (3, _)]) d_M_row_3 (by decide) rfl ?_
  refine back_ind (n := k) (G := fun q => RJ l g M_M_row (RMX d 0 0) (TQ g 0 0 (QE (some (.int (nI (rowT i k)))) n (hp g c m))) XT n (hp g c m) 0 0 4 [(0, .int (nI i)), (1, .int (nI k)), (2, .int (nI (rowT i q))), (3, .int (nI q))] []) ?_ ?_ 0 (Nat.zero_le _)
  · skip
    refine r_iload_n d_M_row_4 3 rfl ?_
    refine r_iload_n d_M_row_5 1 rfl ?_
    refine r_icmp_geN (tgt := 23) d_M_row_6 (by decide) (by omega) (by omega) (fun c6 => ?_) (fun c6 => ?_)
    rotate_left 1
    · exfalso; first | omega | (revert c6; decide) | cases c6
    refine r_iload_n d_M_row_23 2 rfl ?_
    refine r_ireturn d_M_row_24 rfl rfl ⟨?_, rfl, ?_⟩
    · rfl
    · rfl
  · intro q hb_q ih_q
    refine r_iload_n d_M_row_4 3 rfl ?_
    refine r_iload_n d_M_row_5 1 rfl ?_
    refine r_icmp_geN (tgt := 23) d_M_row_6 (by decide) (by omega) (by omega) (fun c6 => ?_) (fun c6 => ?_)
    · exfalso; first | omega | (revert c6; decide) | cases c6
    refine r_iload_n d_M_row_9 2 rfl ?_
    refine r_iload_n d_M_row_10 0 rfl ?_
    refine r_iconst (v := nI 1) d_M_row_11 (by decide) ?_
    refine r_iaddN d_M_row_12 ?_
    refine rc_M_64 rfl d_M_row_13 (k_M_product (by omega) (rowT_lt i q) (by omega)) (room_ok (d' := d - 1) (by omega) (by decide)) ⟨Nat.le_refl _, Nat.le_refl _⟩ (Nat.le_of_ble_eq_true rfl) ?_
    refine r_istore_n (lv' := [(0, _), (1, _), (2, _), (3, _)]) d_M_row_16 (by decide) rfl ?_
    refine r_iincN (lv' := [(0, _), (1, _), (2, _), (3, _)]) d_M_row_17 3 rfl (by decide) rfl ?_
    refine r_goto (tgt := 4) d_M_row_20 (by decide) ?_
    exact ih_q
theorem k_M_rowAt_bad {l : Launch} {g : GX} {c : CS} {m : MS} {n d : Nat} (hd : 2 ≤ d) {x y : Int32} (h : inR x 12 = false ∨ inR y 8 = false) : CE l g M_M_rowAt d 0 0 [.ref (aM g), .int x, .int y] n (hp g c m) (some (.int ((-2)))) n (hp g c m) := by
  refine CE.of (by decide +kernel) (lv := [(0, .ref (aM g)), (1, .int x), (2, .int y)]) rfl (Nat.le_of_ble_eq_true rfl) ?_
  refine r_iload_n d_M_rowAt_0 1 rfl ?_
  refine rc_M_72 rfl d_M_rowAt_1 (k_M_isNode (by omega)) (room_ok (d' := d - 1) (by omega) (by decide)) ⟨Nat.le_refl _, Nat.le_refl _⟩ (Nat.le_of_ble_eq_true rfl) ?_
  refine r_if_eqB (tgt := 25) d_M_rowAt_4 (by decide) (fun c4 => ?_) (fun c4 => ?_)
  · skip
    refine r_bipush (v := (-2)) d_M_rowAt_25 (by decide) ?_
    refine r_ireturn d_M_rowAt_27 rfl rfl ⟨?_, rfl, ?_⟩
    · rfl
    · rfl
  · skip
    refine r_iload_n d_M_rowAt_7 2 rfl ?_
    refine r_iconst (v := nI 0) d_M_rowAt_8 (by decide) ?_
    refine r_bipush (v := nI 7) d_M_rowAt_9 (by decide) ?_
    refine rc_M_60 rfl d_M_rowAt_11 (k_M_in (K := 7) (by decide)) (room_ok (d' := d - 1) (by omega) (by decide)) ⟨Nat.le_refl _, Nat.le_refl _⟩ (Nat.le_of_ble_eq_true rfl) ?_
    refine r_if_eqB (tgt := 25) d_M_rowAt_14 (by decide) (fun c14 => ?_) (fun c14 => ?_)
    rotate_left 1
    · exfalso; simp [c4, c14] at h
    refine r_bipush (v := (-2)) d_M_rowAt_25 (by decide) ?_
    refine r_ireturn d_M_rowAt_27 rfl rfl ⟨?_, rfl, ?_⟩
    · rfl
    · rfl
theorem k_M_rowAt {l : Launch} {g : GX} {c : CS} {m : MS} {n d : Nat} (hd : 2 ≤ d) {i k : Nat} (hi : i < 12) (hk : k < 8) : CE l g M_M_rowAt d 0 0 [.ref (aM g), .int (nI i), .int (nI k)] n (hp g c m) (some (.int (nI (rowT i k)))) n (hp g c m) := by
  refine CE.of (by decide +kernel) (lv := [(0, .ref (aM g)), (1, .int (nI i)), (2, .int (nI k))]) rfl (Nat.le_of_ble_eq_true rfl) ?_
  refine r_iload_n d_M_rowAt_0 1 rfl ?_
  refine rc_M_72 rfl d_M_rowAt_1 (k_M_isNodeN (by omega) hi) (room_ok (d' := d - 1) (by omega) (by decide)) ⟨Nat.le_refl _, Nat.le_refl _⟩ (Nat.le_of_ble_eq_true rfl) ?_
  refine r_if_eqB (tgt := 25) d_M_rowAt_4 (by decide) (fun c4 => ?_) (fun c4 => ?_)
  · exfalso; first | omega | (revert c4; decide) | cases c4
  refine r_iload_n d_M_rowAt_7 2 rfl ?_
  refine r_iconst (v := nI 0) d_M_rowAt_8 (by decide) ?_
  refine r_bipush (v := nI 7) d_M_rowAt_9 (by decide) ?_
  refine rc_M_60 rfl d_M_rowAt_11 (k_M_inT (K := 7) (by decide) (by omega)) (room_ok (d' := d - 1) (by omega) (by decide)) ⟨Nat.le_refl _, Nat.le_refl _⟩ (Nat.le_of_ble_eq_true rfl) ?_
  refine r_if_eqB (tgt := 25) d_M_rowAt_14 (by decide) (fun c14 => ?_) (fun c14 => ?_)
  · exfalso; first | omega | (revert c14; decide) | cases c14
  refine r_iload_n d_M_rowAt_17 1 rfl ?_
  refine r_iload_n d_M_rowAt_18 2 rfl ?_
  refine rc_M_76 rfl d_M_rowAt_19 (k_M_row (by omega) hi (by omega)) (room_ok (d' := d - 1) (by omega) (by decide)) ⟨Nat.le_refl _, Nat.le_refl _⟩ (Nat.le_of_ble_eq_true rfl) ?_
  refine r_goto (tgt := 27) d_M_rowAt_22 (by decide) ?_
  refine r_ireturn d_M_rowAt_27 rfl rfl ⟨?_, rfl, ?_⟩
  · rfl
  · rfl
def rx (i o : Nat) (z : Bool) : Nat := 2 * (6 * i + o) + (if z = true then 1 else 0)
theorem rx_lt {i o : Nat} {z : Bool} (hi : i < 12) (ho : o < 6) : rx i o z < 144 := by
  unfold rx
  split <;> omega
def MI (m : MS) : Prop := (∀ r, m.size r ≤ 240) ∧ (∀ r, m.ver r < 65536) ∧ ∀ q, m.blk q < 40
theorem k_M_at {l : Launch} {g : GX} {c : CS} {m : MS} {n d : Nat} (hd : 0 ≤ d) {i o : Nat} {z : Bool} : CE l g M_M_at d 0 0 [.int (nI i), .int (nI o), .int (b2 z)] n (hp g c m) (some (.int (nI (rx i o z)))) n (hp g c m) := by
  refine CE.of (by decide +kernel) (lv := [(0, .int (nI i)), (1, .int (nI o)), (2, .int (b2 z))]) rfl (Nat.le_of_ble_eq_true rfl) ?_
  refine r_iconst (v := nI 2) d_M_at_0 (by decide) ?_
  refine r_bipush (v := nI 6) d_M_at_1 (by decide) ?_
  refine r_iload_n d_M_at_3 0 rfl ?_
  refine r_imulN d_M_at_4 ?_
  refine r_iload_n d_M_at_5 1 rfl ?_
  refine r_iaddN d_M_at_6 ?_
  refine r_imulN d_M_at_7 ?_
  refine r_iload_n d_M_at_8 2 rfl ?_
  refine r_if_eqB (tgt := 16) d_M_at_9 (by decide) (fun c9 => ?_) (fun c9 => ?_)
  · skip
    refine r_iconst (v := nI 0) d_M_at_16 (by decide) ?_
    refine r_iaddN d_M_at_17 ?_
    refine r_ireturn d_M_at_18 rfl rfl ⟨?_, rfl, ?_⟩
    · simp [rx, c9]
    · rfl
  · skip
    refine r_iconst (v := nI 1) d_M_at_12 (by decide) ?_
    refine r_goto (tgt := 17) d_M_at_13 (by decide) ?_
    refine r_iaddN d_M_at_17 ?_
    refine r_ireturn d_M_at_18 rfl rfl ⟨?_, rfl, ?_⟩
    · simp [rx, c9]
    · rfl
theorem k_M_stripes {l : Launch} {g : GX} {c : CS} {m : MS} {n d : Nat} (hd : 0 ≤ d) {a : Nat} (ha : a < 65536) : CE l g M_M_stripes d 0 0 [.int (nI a)] n (hp g c m) (some (.int (nI (stp a)))) n (hp g c m) := by
  refine CE.of (by decide +kernel) (lv := [(0, .int (nI a))]) rfl (Nat.le_of_ble_eq_true rfl) ?_
  refine r_iload_n d_M_stripes_0 0 rfl ?_
  refine r_bipush (v := nI 30) d_M_stripes_1 (by decide) ?_
  refine r_iaddN d_M_stripes_3 ?_
  refine r_iconst (v := nI 1) d_M_stripes_4 (by decide) ?_
  refine r_isubN d_M_stripes_5 (by omega) ?_
  refine r_bipush (v := nI 30) d_M_stripes_6 (by decide) ?_
  refine r_idivN d_M_stripes_8 (by omega) (by decide) (by decide) ?_
  refine r_ireturn d_M_stripes_9 rfl rfl ⟨?_, rfl, ?_⟩
  · rfl
  · rfl
def usN (m : MS) (i : Nat) : Nat := ct (fun b => m.used (40 * i + b)) 40
theorem k_M_usedBy {l : Launch} {g : GX} {c : CS} {m : MS} {n d : Nat} (hd : 0 ≤ d) {i : Nat} (hi : i < 12) : CE l g M_M_usedBy d 0 0 [.ref (aM g), .int (nI i)] n (hp g c m) (some (.int (nI (usN m i)))) n (hp g c m) := by
  refine CE.of (by decide +kernel) (lv := [(0, .ref (aM g)), (1, .int (nI i))]) rfl (Nat.le_of_ble_eq_true rfl) ?_
  refine r_iconst (v := nI 0) d_M_usedBy_0 (by decide) ?_
  refine r_istore_n (lv' := [(0, _), (1, _), (2, _)]) d_M_usedBy_1 (by decide) rfl ?_
  refine r_iconst (v := nI 0) d_M_usedBy_2 (by decide) ?_
  refine r_istore_n (lv' := [(0, _), (1, _), (2, _), (3, _)]) d_M_usedBy_3 (by decide) rfl ?_
  refine back_ind (n := 40) (G := fun b => RJ l g M_M_usedBy (RMX d 0 0) (TQ g 0 0 (QE (some (.int (nI (usN m i)))) n (hp g c m))) XT n (hp g c m) 0 0 4 [(0, .ref (aM g)), (1, .int (nI i)), (2, .int (nI (ct (fun b => m.used (40 * i + b)) b))), (3, .int (nI b))] []) ?_ ?_ 0 (Nat.zero_le _)
  · skip
    refine r_iload_n d_M_usedBy_4 3 rfl ?_
    refine r_bipush (v := nI 40) d_M_usedBy_5 (by decide) ?_
    refine r_icmp_geN (tgt := 38) d_M_usedBy_7 (by decide) (by omega) (by omega) (fun c7 => ?_) (fun c7 => ?_)
    rotate_left 1
    · exfalso; first | omega | (revert c7; decide) | cases c7
    refine r_iload_n d_M_usedBy_38 2 rfl ?_
    refine r_ireturn d_M_usedBy_39 rfl rfl ⟨?_, rfl, ?_⟩
    · rfl
    · rfl
  · intro b hb_b ih_b
    refine r_iload_n d_M_usedBy_4 3 rfl ?_
    refine r_bipush (v := nI 40) d_M_usedBy_5 (by decide) ?_
    refine r_icmp_geN (tgt := 38) d_M_usedBy_7 (by decide) (by omega) (by omega) (fun c7 => ?_) (fun c7 => ?_)
    · exfalso; first | omega | (revert c7; decide) | cases c7
    refine r_iload_n d_M_usedBy_10 2 rfl ?_
    refine r_aload_n d_M_usedBy_11 0 rfl ?_
    refine rg_M_24 rfl d_M_usedBy_12 gM rfl ?_
    refine r_bipush (v := nI 40) d_M_usedBy_15 (by decide) ?_
    refine r_iload_n d_M_usedBy_17 1 rfl ?_
    refine r_imulN d_M_usedBy_18 ?_
    refine r_iload_n d_M_usedBy_19 3 rfl ?_
    refine r_iaddN d_M_usedBy_20 ?_
    refine r_zldB d_M_usedBy_21 gmUsed (by omega) (by decide) ?_
    refine r_if_eqB (tgt := 29) d_M_usedBy_22 (by decide) (fun c22 => ?_) (fun c22 => ?_)
    · skip
      refine r_iconst (v := nI 0) d_M_usedBy_29 (by decide) ?_
      refine r_iaddN d_M_usedBy_30 ?_
      refine r_istore_n (lv' := [(0, _), (1, _), (2, _), (3, _)]) d_M_usedBy_31 (by decide) rfl ?_
      refine r_iincN (lv' := [(0, _), (1, _), (2, _), (3, _)]) d_M_usedBy_32 3 rfl (by decide) rfl ?_
      refine r_goto (tgt := 4) d_M_usedBy_35 (by decide) ?_
      exact r_at ih_b rfl (by simp [ct, c22]) rfl
    · skip
      refine r_iconst (v := nI 1) d_M_usedBy_25 (by decide) ?_
      refine r_goto (tgt := 30) d_M_usedBy_26 (by decide) ?_
      refine r_iaddN d_M_usedBy_30 ?_
      refine r_istore_n (lv' := [(0, _), (1, _), (2, _), (3, _)]) d_M_usedBy_31 (by decide) rfl ?_
      refine r_iincN (lv' := [(0, _), (1, _), (2, _), (3, _)]) d_M_usedBy_32 3 rfl (by decide) rfl ?_
      refine r_goto (tgt := 4) d_M_usedBy_35 (by decide) ?_
      exact r_at ih_b rfl (by simp [ct, c22]) rfl
def lfM (m : MS) (i : Nat) : Nat := lf (fun b => m.used (40 * i + b))
theorem k_M_leastFree {l : Launch} {g : GX} {c : CS} {m : MS} {n d : Nat} (hd : 0 ≤ d) {i : Nat} (hi : i < 12) (h : lfM m i < 40) : CE l g M_M_leastFree d 0 0 [.ref (aM g), .int (nI i)] n (hp g c m) (some (.int (nI (lfM m i)))) n (hp g c m) := by
  obtain ⟨hl1, hl2⟩ := lf_spec h
  refine CE.of (by decide +kernel) (lv := [(0, .ref (aM g)), (1, .int (nI i))]) rfl (Nat.le_of_ble_eq_true rfl) ?_
  refine r_iconst (v := nI 0) d_M_leastFree_0 (by decide) ?_
  refine r_istore_n (lv' := [(0, _), (1, _), (2, _)]) d_M_leastFree_1 (by decide) rfl ?_
  refine back_ind (n := lfM m i) (G := fun b => RJ l g M_M_leastFree (RMX d 0 0) (TQ g 0 0 (QE (some (.int (nI (lfM m i)))) n (hp g c m))) XT n (hp g c m) 0 0 2 [(0, .ref (aM g)), (1, .int (nI i)), (2, .int (nI b))] []) ?_ ?_ 0 (Nat.zero_le _)
  · skip
    refine r_aload_n d_M_leastFree_2 0 rfl ?_
    refine rg_M_24 rfl d_M_leastFree_3 gM rfl ?_
    refine r_bipush (v := nI 40) d_M_leastFree_6 (by decide) ?_
    refine r_iload_n d_M_leastFree_8 1 rfl ?_
    refine r_imulN d_M_leastFree_9 ?_
    refine r_iload_n d_M_leastFree_10 2 rfl ?_
    refine r_iaddN d_M_leastFree_11 ?_
    refine r_zldB d_M_leastFree_12 gmUsed (by omega) (by decide) ?_
    refine r_if_eqB (tgt := 22) d_M_leastFree_13 (by decide) (fun c13 => ?_) (fun c13 => ?_)
    rotate_left 1
    · exact absurd (hl1.symm.trans c13) (by decide)
    refine r_iload_n d_M_leastFree_22 2 rfl ?_
    refine r_ireturn d_M_leastFree_23 rfl rfl ⟨?_, rfl, ?_⟩
    · rfl
    · rfl
  · intro b hb_b ih_b
    refine r_aload_n d_M_leastFree_2 0 rfl ?_
    refine rg_M_24 rfl d_M_leastFree_3 gM rfl ?_
    refine r_bipush (v := nI 40) d_M_leastFree_6 (by decide) ?_
    refine r_iload_n d_M_leastFree_8 1 rfl ?_
    refine r_imulN d_M_leastFree_9 ?_
    refine r_iload_n d_M_leastFree_10 2 rfl ?_
    refine r_iaddN d_M_leastFree_11 ?_
    refine r_zldB d_M_leastFree_12 gmUsed (by omega) (by decide) ?_
    refine r_if_eqB (tgt := 22) d_M_leastFree_13 (by decide) (fun c13 => ?_) (fun c13 => ?_)
    · exact absurd ((hl2 b hb_b).symm.trans c13) (by decide)
    refine r_iincN (lv' := [(0, _), (1, _), (2, _)]) d_M_leastFree_16 2 rfl (by decide) rfl ?_
    refine r_goto (tgt := 2) d_M_leastFree_19 (by decide) ?_
    exact ih_b
def mguU (U : Nat → Bool) (B : Nat → Nat) (i : Nat) : Nat → Nat → Bool
  | 0 => U
  | k + 1 => upN (mguU U B i k) (40 * i + B k) false
def mguK (m : MS) (i r k : Nat) : MS := m.s_used (mguU m.used (fun s => m.blk (8 * r + s)) i k)
def mguC (m : MS) (i r : Nat) : MS := (mguK m i r (stp (m.size r))).s_has (upN m.has r false)
def mgu (m : MS) (i r : Nat) : MS := if m.has r = true then mguC m i r else m
theorem k_M_givesUp1 {l : Launch} {g : GX} {c : CS} {m : MS} {n d : Nat} (hd : 1 ≤ d) {i o : Nat} {z : Bool} (hi : i < 12) (ho : o < 6) (hm : MI m) (hh : m.has (rx i o z) = true) : CE l g M_M_givesUp d 0 0 [.ref (aM g), .int (nI i), .int (nI o), .int (b2 z)] n (hp g c m) (none) n (hp g c (mguC m i (rx i o z))) := by
  have hr := rx_lt (z := z) hi ho
  have h8 := stp_le (hm.1 (rx i o z))
  have h24 := hm.1 (rx i o z)
  refine CE.of (by decide +kernel) (lv := [(0, .ref (aM g)), (1, .int (nI i)), (2, .int (nI o)), (3, .int (b2 z))]) rfl (Nat.le_of_ble_eq_true rfl) ?_
  refine r_iload_n d_M_givesUp_0 1 rfl ?_
  refine r_iload_n d_M_givesUp_1 2 rfl ?_
  refine r_iload_n d_M_givesUp_2 3 rfl ?_
  refine rc_M_79 rfl d_M_givesUp_3 (k_M_at (i := i) (o := o) (z := z) (by omega)) (room_ok (d' := d - 1) (by omega) (by decide)) ⟨Nat.le_refl _, Nat.le_refl _⟩ (Nat.le_of_ble_eq_true rfl) ?_
  refine r_istore (lv' := [(0, _), (1, _), (2, _), (3, _), (4, _)]) d_M_givesUp_6 (by decide) rfl ?_
  refine r_heap (h' := hp g c (mguK m i (rx i o z) 0)) rfl ?_
  refine r_iconst (v := nI 0) d_M_givesUp_8 (by decide) ?_
  refine r_istore (lv' := [(0, _), (1, _), (2, _), (3, _), (4, _), (5, _)]) d_M_givesUp_9 (by decide) rfl ?_
  refine back_ind (n := stp (m.size (rx i o z))) (G := fun s => RJ l g M_M_givesUp (RMX d 0 0) (TQ g 0 0 (QE (none) n (hp g c (mguC m i (rx i o z))))) XT n (hp g c (mguK m i (rx i o z) s)) 0 0 11 [(0, .ref (aM g)), (1, .int (nI i)), (2, .int (nI o)), (3, .int (b2 z)), (4, .int (nI (rx i o z))), (5, .int (nI s))] []) ?_ ?_ 0 (Nat.zero_le _)
  · skip
    refine r_iload d_M_givesUp_11 5 rfl ?_
    refine r_aload_n d_M_givesUp_13 0 rfl ?_
    refine rg_M_36 rfl d_M_givesUp_14 gM rfl ?_
    refine r_iload d_M_givesUp_17 4 rfl ?_
    refine r_aldN d_M_givesUp_19 gmSize (by omega) (by decide) ?_
    refine r_top (y := nI (m.size (rx i o z))) rfl ?_
    refine rc_M_83 rfl d_M_givesUp_20 (k_M_stripes (by omega) (by omega)) (room_ok (d' := d - 1) (by omega) (by decide)) ⟨Nat.le_refl _, Nat.le_refl _⟩ (Nat.le_of_ble_eq_true rfl) ?_
    refine r_icmp_geN (tgt := 66) d_M_givesUp_23 (by decide) (by omega) (by omega) (fun c23 => ?_) (fun c23 => ?_)
    rotate_left 1
    · exfalso; first | omega | (revert c23; decide) | cases c23
    refine r_aload_n d_M_givesUp_66 0 rfl ?_
    refine rg_M_30 rfl d_M_givesUp_67 gM rfl ?_
    refine r_iload d_M_givesUp_70 4 rfl ?_
    refine r_iconst (v := nI 0) d_M_givesUp_72 (by decide) ?_
    refine r_zast (b := false) d_M_givesUp_73 rfl gmHas (by omega) (by decide) (wm_has) ?_
    refine r_return d_M_givesUp_74 rfl ⟨rfl, rfl, ?_⟩
    · rfl
  · intro s hb_s ih_s
    have hb40 := hm.2.2 (8 * rx i o z + s)
    refine r_iload d_M_givesUp_11 5 rfl ?_
    refine r_aload_n d_M_givesUp_13 0 rfl ?_
    refine rg_M_36 rfl d_M_givesUp_14 gM rfl ?_
    refine r_iload d_M_givesUp_17 4 rfl ?_
    refine r_aldN d_M_givesUp_19 gmSize (by omega) (by decide) ?_
    refine r_top (y := nI (m.size (rx i o z))) rfl ?_
    refine rc_M_83 rfl d_M_givesUp_20 (k_M_stripes (by omega) (by omega)) (room_ok (d' := d - 1) (by omega) (by decide)) ⟨Nat.le_refl _, Nat.le_refl _⟩ (Nat.le_of_ble_eq_true rfl) ?_
    refine r_icmp_geN (tgt := 66) d_M_givesUp_23 (by decide) (by omega) (by omega) (fun c23 => ?_) (fun c23 => ?_)
    · exfalso; first | omega | (revert c23; decide) | cases c23
    refine r_aload_n d_M_givesUp_26 0 rfl ?_
    refine rg_M_30 rfl d_M_givesUp_27 gM rfl ?_
    refine r_iload d_M_givesUp_30 4 rfl ?_
    refine r_zldB d_M_givesUp_32 gmHas (by omega) (by decide) ?_
    refine r_if_eqB (tgt := 66) d_M_givesUp_33 (by decide) (fun c33 => ?_) (fun c33 => ?_)
    · exact absurd (hh.symm.trans c33) (by decide)
    refine r_aload_n d_M_givesUp_36 0 rfl ?_
    refine rg_M_24 rfl d_M_givesUp_37 gM rfl ?_
    refine r_bipush (v := nI 40) d_M_givesUp_40 (by decide) ?_
    refine r_iload_n d_M_givesUp_42 1 rfl ?_
    refine r_imulN d_M_givesUp_43 ?_
    refine r_aload_n d_M_givesUp_44 0 rfl ?_
    refine rg_M_39 rfl d_M_givesUp_45 gM rfl ?_
    refine r_bipush (v := nI 8) d_M_givesUp_48 (by decide) ?_
    refine r_iload d_M_givesUp_50 4 rfl ?_
    refine r_imulN d_M_givesUp_52 ?_
    refine r_iload d_M_givesUp_53 5 rfl ?_
    refine r_iaddN d_M_givesUp_55 ?_
    refine r_aldN d_M_givesUp_56 gmBlk (by omega) (by decide) ?_
    refine r_top (y := nI (m.blk (8 * rx i o z + s))) rfl ?_
    refine r_iaddN d_M_givesUp_57 ?_
    refine r_iconst (v := nI 0) d_M_givesUp_58 (by decide) ?_
    refine r_zast (b := false) d_M_givesUp_59 rfl gmUsed (by omega) (by decide) (wm_used) ?_
    refine r_iincN (lv' := [(0, _), (1, _), (2, _), (3, _), (4, _), (5, _)]) d_M_givesUp_60 5 rfl (by decide) rfl ?_
    refine r_goto (tgt := 11) d_M_givesUp_63 (by decide) ?_
    exact r_at ih_s rfl rfl rfl
theorem has_f {m : MS} {r : Nat} (h : m.has r = false) : m.s_has (upN m.has r false) = m := MS.ext2 (has := (congrArg (upN m.has r) h.symm).trans (upN_self _ _))
theorem k_M_givesUp0 {l : Launch} {g : GX} {c : CS} {m : MS} {n d : Nat} (hd : 1 ≤ d) {i o : Nat} {z : Bool} (hi : i < 12) (ho : o < 6) (hm : MI m) (hh : m.has (rx i o z) = false) : CE l g M_M_givesUp d 0 0 [.ref (aM g), .int (nI i), .int (nI o), .int (b2 z)] n (hp g c m) (none) n (hp g c m) := by
  have hr := rx_lt (z := z) hi ho
  have h8 := stp_le (hm.1 (rx i o z))
  have h24 := hm.1 (rx i o z)
  refine CE.of (by decide +kernel) (lv := [(0, .ref (aM g)), (1, .int (nI i)), (2, .int (nI o)), (3, .int (b2 z))]) rfl (Nat.le_of_ble_eq_true rfl) ?_
  refine r_iload_n d_M_givesUp_0 1 rfl ?_
  refine r_iload_n d_M_givesUp_1 2 rfl ?_
  refine r_iload_n d_M_givesUp_2 3 rfl ?_
  refine rc_M_79 rfl d_M_givesUp_3 (k_M_at (i := i) (o := o) (z := z) (by omega)) (room_ok (d' := d - 1) (by omega) (by decide)) ⟨Nat.le_refl _, Nat.le_refl _⟩ (Nat.le_of_ble_eq_true rfl) ?_
  refine r_istore (lv' := [(0, _), (1, _), (2, _), (3, _), (4, _)]) d_M_givesUp_6 (by decide) rfl ?_
  refine r_iconst (v := nI 0) d_M_givesUp_8 (by decide) ?_
  refine r_istore (lv' := [(0, _), (1, _), (2, _), (3, _), (4, _), (5, _)]) d_M_givesUp_9 (by decide) rfl ?_
  refine r_iload d_M_givesUp_11 5 rfl ?_
  refine r_aload_n d_M_givesUp_13 0 rfl ?_
  refine rg_M_36 rfl d_M_givesUp_14 gM rfl ?_
  refine r_iload d_M_givesUp_17 4 rfl ?_
  refine r_aldN d_M_givesUp_19 gmSize (by omega) (by decide) ?_
  refine rc_M_83 rfl d_M_givesUp_20 (k_M_stripes (by omega) (by omega)) (room_ok (d' := d - 1) (by omega) (by decide)) ⟨Nat.le_refl _, Nat.le_refl _⟩ (Nat.le_of_ble_eq_true rfl) ?_
  refine r_icmp_geN (tgt := 66) d_M_givesUp_23 (by decide) (by omega) (by omega) (fun c23 => ?_) (fun c23 => ?_)
  · skip
    refine r_aload_n d_M_givesUp_66 0 rfl ?_
    refine rg_M_30 rfl d_M_givesUp_67 gM rfl ?_
    refine r_iload d_M_givesUp_70 4 rfl ?_
    refine r_iconst (v := nI 0) d_M_givesUp_72 (by decide) ?_
    refine r_zast (b := false) d_M_givesUp_73 rfl gmHas (by omega) (by decide) (wm_has) ?_
    refine r_return d_M_givesUp_74 rfl ⟨rfl, rfl, ?_⟩
    · rw [has_f hh]
  · skip
    refine r_aload_n d_M_givesUp_26 0 rfl ?_
    refine rg_M_30 rfl d_M_givesUp_27 gM rfl ?_
    refine r_iload d_M_givesUp_30 4 rfl ?_
    refine r_zldB d_M_givesUp_32 gmHas (by omega) (by decide) ?_
    refine r_if_eqB (tgt := 66) d_M_givesUp_33 (by decide) (fun c33 => ?_) (fun c33 => ?_)
    rotate_left 1
    · exact absurd (hh.symm.trans c33) (by decide)
    refine r_aload_n d_M_givesUp_66 0 rfl ?_
    refine rg_M_30 rfl d_M_givesUp_67 gM rfl ?_
    refine r_iload d_M_givesUp_70 4 rfl ?_
    refine r_iconst (v := nI 0) d_M_givesUp_72 (by decide) ?_
    refine r_zast (b := false) d_M_givesUp_73 rfl gmHas (by omega) (by decide) (wm_has) ?_
    refine r_return d_M_givesUp_74 rfl ⟨rfl, rfl, ?_⟩
    · rw [has_f hh]
theorem k_M_givesUp {l : Launch} {g : GX} {c : CS} {m : MS} {n d : Nat} (hd : 1 ≤ d) {i o : Nat} {z : Bool} (hi : i < 12) (ho : o < 6) (hm : MI m) : CE l g M_M_givesUp d 0 0 [.ref (aM g), .int (nI i), .int (nI o), .int (b2 z)] n (hp g c m) none n (hp g c (mgu m i (rx i o z))) := by
  by_cases hh : m.has (rx i o z) = true
  · rw [show mgu m i (rx i o z) = mguC m i (rx i o z) from if_pos hh]
    exact k_M_givesUp1 hd hi ho hm hh
  · rw [show mgu m i (rx i o z) = m from if_neg hh]
    exact k_M_givesUp0 hd hi ho hm (by simpa using hh)
theorem MI_gu {m : MS} {i r : Nat} (h : MI m) : MI (mgu m i r) := by
  unfold mgu
  split
  · exact h
  · exact h
def mtU (U : Nat → Bool) (i : Nat) : Nat → Nat → Bool
  | 0 => U
  | k + 1 => upN (mtU U i k) (40 * i + lf (fun b => mtU U i k (40 * i + b))) true
def mtP (U : Nat → Bool) (i r : Nat) (Q : Nat → Nat) : Nat → Nat → Nat
  | 0 => Q
  | k + 1 => upN (mtP U i r Q k) (8 * r + k) (lf (fun b => mtU U i k (40 * i + b)))
def mt0 (m : MS) (r v a : Nat) : MS := ((m.s_has (upN m.has r true)).s_ver (upN m.ver r v)).s_size (upN m.size r a)
def mtK (m : MS) (i r v a k : Nat) : MS := ((mt0 m r v a).s_used (mtU m.used i k)).s_blk (mtP m.used i r m.blk k)
def mtk (m : MS) (i r v a : Nat) : MS := mtK m i r v a (stp a)
theorem mtP_lt {U : Nat → Bool} {i r : Nat} {Q : Nat → Nat} (h : ∀ q, Q q < 40) : ∀ k, (∀ j, j < k → lf (fun b => mtU U i j (40 * i + b)) < 40) → ∀ q, mtP U i r Q k q < 40
  | 0, _, q => h q
  | k + 1, hk, q => upN_ind (Q := fun x => x < 40) (mtP_lt h k (fun j hj => hk j (by omega))) (hk k (by omega)) q
theorem MI_tk {m : MS} {i r v a : Nat} (h : MI m) (hv : v < 65536) (ha : a ≤ 240) (hf : ∀ k, k < stp a → lf (fun b => mtU m.used i k (40 * i + b)) < 40) : MI (mtk m i r v a) := ⟨fun q => upN_ind (Q := fun x => x ≤ 240) h.1 ha q, fun q => upN_ind (Q := fun x => x < 65536) h.2.1 hv q, fun q => mtP_lt h.2.2 (stp a) hf q⟩
theorem k_M_takes {l : Launch} {g : GX} {c : CS} {m : MS} {n d : Nat} (hd : 1 ≤ d) {i o v a : Nat} {z : Bool} (hi : i < 12) (ho : o < 6) (ha : a ≤ 240) (hf : ∀ k, k < stp a → lf (fun b => mtU m.used i k (40 * i + b)) < 40) : CE l g M_M_takes d 0 0 [.ref (aM g), .int (nI i), .int (nI o), .int (b2 z), .int (nI v), .int (nI a)] n (hp g c m) (none) n (hp g c (mtk m i (rx i o z) v a)) := by
  have hr := rx_lt (z := z) hi ho
  have h8 := stp_le ha
  refine CE.of (by decide +kernel) (lv := [(0, .ref (aM g)), (1, .int (nI i)), (2, .int (nI o)), (3, .int (b2 z)), (4, .int (nI v)), (5, .int (nI a))]) rfl (Nat.le_of_ble_eq_true rfl) ?_
  refine r_iload_n d_M_takes_0 1 rfl ?_
  refine r_iload_n d_M_takes_1 2 rfl ?_
  refine r_iload_n d_M_takes_2 3 rfl ?_
  refine rc_M_79 rfl d_M_takes_3 (k_M_at (i := i) (o := o) (z := z) (by omega)) (room_ok (d' := d - 1) (by omega) (by decide)) ⟨Nat.le_refl _, Nat.le_refl _⟩ (Nat.le_of_ble_eq_true rfl) ?_
  refine r_istore (lv' := [(0, _), (1, _), (2, _), (3, _), (4, _), (5, _), (6, _)]) d_M_takes_6 (by decide) rfl ?_
  refine r_aload_n d_M_takes_8 0 rfl ?_
  refine rg_M_30 rfl d_M_takes_9 gM rfl ?_
  refine r_iload d_M_takes_12 6 rfl ?_
  refine r_iconst (v := nI 1) d_M_takes_14 (by decide) ?_
  refine r_zast (b := true) d_M_takes_15 rfl gmHas (by omega) (by decide) (wm_has) ?_
  refine r_aload_n d_M_takes_16 0 rfl ?_
  refine rg_M_33 rfl d_M_takes_17 gM rfl ?_
  refine r_iload d_M_takes_20 6 rfl ?_
  refine r_iload d_M_takes_22 4 rfl ?_
  refine r_astN d_M_takes_24 gmVer (by omega) (by decide) (wm_ver) ?_
  refine r_aload_n d_M_takes_25 0 rfl ?_
  refine rg_M_36 rfl d_M_takes_26 gM rfl ?_
  refine r_iload d_M_takes_29 6 rfl ?_
  refine r_iload d_M_takes_31 5 rfl ?_
  refine r_astN d_M_takes_33 gmSize (by omega) (by decide) (wm_size) ?_
  refine r_iconst (v := nI 0) d_M_takes_34 (by decide) ?_
  refine r_istore (lv' := [(0, _), (1, _), (2, _), (3, _), (4, _), (5, _), (6, _), (7, _)]) d_M_takes_35 (by decide) rfl ?_
  refine r_heap (h' := hp g c (mtK m i (rx i o z) v a 0)) rfl ?_
  refine r_less (lv' := [(0, .ref (aM g)), (1, .int (nI i)), (2, .int (nI o)), (3, .int (b2 z)), (4, .int (nI v)), (5, .int (nI a)), (6, .int (nI (rx i o z))), (7, .int (nI 0))]) (by simp) ?_
  refine back_ind (n := stp a) (G := fun k => RJ l g M_M_takes (RMX d 0 0) (TQ g 0 0 (QE (none) n (hp g c (mtk m i (rx i o z) v a)))) XT n (hp g c (mtK m i (rx i o z) v a k)) 0 0 37 [(0, .ref (aM g)), (1, .int (nI i)), (2, .int (nI o)), (3, .int (b2 z)), (4, .int (nI v)), (5, .int (nI a)), (6, .int (nI (rx i o z))), (7, .int (nI k))] []) ?_ ?_ 0 (Nat.zero_le _)
  · skip
    refine r_iload d_M_takes_37 7 rfl ?_
    refine r_iload d_M_takes_39 5 rfl ?_
    refine rc_M_83 rfl d_M_takes_41 (k_M_stripes (by omega) (by omega)) (room_ok (d' := d - 1) (by omega) (by decide)) ⟨Nat.le_refl _, Nat.le_refl _⟩ (Nat.le_of_ble_eq_true rfl) ?_
    refine r_icmp_geN (tgt := 88) d_M_takes_44 (by decide) (by omega) (by omega) (fun c44 => ?_) (fun c44 => ?_)
    rotate_left 1
    · exfalso; first | omega | (revert c44; decide) | cases c44
    refine r_return d_M_takes_88 rfl ⟨rfl, rfl, ?_⟩
    · rfl
  · intro k hb_k ih_k
    have hfk := hf k hb_k
    refine r_iload d_M_takes_37 7 rfl ?_
    refine r_iload d_M_takes_39 5 rfl ?_
    refine rc_M_83 rfl d_M_takes_41 (k_M_stripes (by omega) (by omega)) (room_ok (d' := d - 1) (by omega) (by decide)) ⟨Nat.le_refl _, Nat.le_refl _⟩ (Nat.le_of_ble_eq_true rfl) ?_
    refine r_icmp_geN (tgt := 88) d_M_takes_44 (by decide) (by omega) (by omega) (fun c44 => ?_) (fun c44 => ?_)
    · exfalso; first | omega | (revert c44; decide) | cases c44
    refine r_aload_n d_M_takes_47 0 rfl ?_
    refine r_iload_n d_M_takes_48 1 rfl ?_
    refine rc_M_86 rfl d_M_takes_49 (k_M_leastFree (m := mtK m i (rx i o z) v a k) (by omega) hi hfk) gM (room_ok (d' := d - 1) (by omega) (by decide)) ⟨Nat.le_refl _, Nat.le_refl _⟩ (Nat.le_of_ble_eq_true rfl) ?_
    refine r_top (y := nI (lf (fun b => mtU m.used i k (40 * i + b)))) rfl ?_
    refine r_istore (lv' := [(0, _), (1, _), (2, _), (3, _), (4, _), (5, _), (6, _), (7, _), (8, _)]) d_M_takes_52 (by decide) rfl ?_
    refine r_aload_n d_M_takes_54 0 rfl ?_
    refine rg_M_24 rfl d_M_takes_55 gM rfl ?_
    refine r_bipush (v := nI 40) d_M_takes_58 (by decide) ?_
    refine r_iload_n d_M_takes_60 1 rfl ?_
    refine r_imulN d_M_takes_61 ?_
    refine r_iload d_M_takes_62 8 rfl ?_
    refine r_iaddN d_M_takes_64 ?_
    refine r_iconst (v := nI 1) d_M_takes_65 (by decide) ?_
    refine r_zast (b := true) d_M_takes_66 rfl gmUsed (by omega) (by decide) (wm_used) ?_
    refine r_aload_n d_M_takes_67 0 rfl ?_
    refine rg_M_39 rfl d_M_takes_68 gM rfl ?_
    refine r_bipush (v := nI 8) d_M_takes_71 (by decide) ?_
    refine r_iload d_M_takes_73 6 rfl ?_
    refine r_imulN d_M_takes_75 ?_
    refine r_iload d_M_takes_76 7 rfl ?_
    refine r_iaddN d_M_takes_78 ?_
    refine r_iload d_M_takes_79 8 rfl ?_
    refine r_astN d_M_takes_81 gmBlk (by omega) (by decide) (wm_blk) ?_
    refine r_iincN (lv' := [(0, _), (1, _), (2, _), (3, _), (4, _), (5, _), (6, _), (7, _), (8, _)]) d_M_takes_82 7 rfl (by decide) rfl ?_
    refine r_goto (tgt := 37) d_M_takes_85 (by decide) ?_
    refine r_less (lv' := [(0, .ref (aM g)), (1, .int (nI i)), (2, .int (nI o)), (3, .int (b2 z)), (4, .int (nI v)), (5, .int (nI a)), (6, .int (nI (rx i o z))), (7, .int (nI (k + 1)))]) (by simp) ?_
    exact r_at ih_k rfl rfl rfl
def cpB (Q : Nat → Nat) (r s : Nat) : Nat → Nat → Nat
  | 0 => Q
  | k + 1 => upN (cpB Q r s k) (8 * r + k) (cpB Q r s k (8 * s + k))
def mfK (X : MS) (r s k : Nat) : MS := (((X.s_has (upN X.has r true)).s_ver (upN X.ver r (X.ver s))).s_size (upN X.size r (X.size s))).s_blk (cpB X.blk r s k)
def mfC (X : MS) (r s : Nat) : MS := (mfK X r s 8).s_has (upN (mfK X r s 8).has s false)
def mfl (m : MS) (i o : Nat) : MS := mfC (mgu m i (rx i o false)) (rx i o false) (rx i o true)
theorem cpB_lt {Q : Nat → Nat} {r s : Nat} (h : ∀ q, Q q < 40) : ∀ k q, cpB Q r s k q < 40
  | 0, q => h q
  | k + 1, q => upN_ind (Q := fun x => x < 40) (cpB_lt h k) (cpB_lt h k _) q
theorem MI_fC {m : MS} {r s : Nat} (h : MI m) : MI (mfC m r s) := ⟨fun q => upN_ind (Q := fun x => x ≤ 240) h.1 (h.1 _) q, fun q => upN_ind (Q := fun x => x < 65536) h.2.1 (h.2.1 _) q, fun q => cpB_lt h.2.2 8 q⟩
theorem MI_fl {m : MS} {i o : Nat} (h : MI m) : MI (mfl m i o) := MI_fC (MI_gu h)
theorem k_M_flips {l : Launch} {g : GX} {c : CS} {m : MS} {n d : Nat} (hd : 2 ≤ d) {i o : Nat} (hi : i < 12) (ho : o < 6) (hm : MI m) : CE l g M_M_flips d 0 0 [.ref (aM g), .int (nI i), .int (nI o)] n (hp g c m) (none) n (hp g c (mfl m i o)) := by
  have hr := rx_lt (z := false) hi ho
  have hs := rx_lt (z := true) hi ho
  refine CE.of (by decide +kernel) (lv := [(0, .ref (aM g)), (1, .int (nI i)), (2, .int (nI o))]) rfl (Nat.le_of_ble_eq_true rfl) ?_
  refine r_aload_n d_M_flips_0 0 rfl ?_
  refine r_iload_n d_M_flips_1 1 rfl ?_
  refine r_iload_n d_M_flips_2 2 rfl ?_
  refine r_iconst (v := nI 0) d_M_flips_3 (by decide) ?_
  refine rc_M_89 rfl d_M_flips_4 (k_M_givesUp (z := false) (by omega) hi ho hm) gM (room_ok (d' := d - 1) (by omega) (by decide)) ⟨Nat.le_refl _, Nat.le_refl _⟩ (Nat.le_of_ble_eq_true rfl) ?_
  refine r_iload_n d_M_flips_7 1 rfl ?_
  refine r_iload_n d_M_flips_8 2 rfl ?_
  refine r_iconst (v := nI 0) d_M_flips_9 (by decide) ?_
  refine rc_M_79 rfl d_M_flips_10 (k_M_at (i := i) (o := o) (z := false) (by omega)) (room_ok (d' := d - 1) (by omega) (by decide)) ⟨Nat.le_refl _, Nat.le_refl _⟩ (Nat.le_of_ble_eq_true rfl) ?_
  refine r_istore_n (lv' := [(0, _), (1, _), (2, _), (3, _)]) d_M_flips_13 (by decide) rfl ?_
  refine r_iload_n d_M_flips_14 1 rfl ?_
  refine r_iload_n d_M_flips_15 2 rfl ?_
  refine r_iconst (v := nI 1) d_M_flips_16 (by decide) ?_
  refine rc_M_79 rfl d_M_flips_17 (k_M_at (i := i) (o := o) (z := true) (by omega)) (room_ok (d' := d - 1) (by omega) (by decide)) ⟨Nat.le_refl _, Nat.le_refl _⟩ (Nat.le_of_ble_eq_true rfl) ?_
  refine r_istore (lv' := [(0, _), (1, _), (2, _), (3, _), (4, _)]) d_M_flips_20 (by decide) rfl ?_
  refine r_aload_n d_M_flips_22 0 rfl ?_
  refine rg_M_30 rfl d_M_flips_23 gM rfl ?_
  refine r_iload_n d_M_flips_26 3 rfl ?_
  refine r_iconst (v := nI 1) d_M_flips_27 (by decide) ?_
  refine r_zast (b := true) d_M_flips_28 rfl gmHas (by omega) (by decide) (wm_has) ?_
  refine r_aload_n d_M_flips_29 0 rfl ?_
  refine rg_M_33 rfl d_M_flips_30 gM rfl ?_
  refine r_iload_n d_M_flips_33 3 rfl ?_
  refine r_aload_n d_M_flips_34 0 rfl ?_
  refine rg_M_33 rfl d_M_flips_35 gM rfl ?_
  refine r_iload d_M_flips_38 4 rfl ?_
  refine r_aldN d_M_flips_40 gmVer (by omega) (by decide) ?_
  refine r_astN d_M_flips_41 gmVer (by omega) (by decide) (wm_ver) ?_
  refine r_aload_n d_M_flips_42 0 rfl ?_
  refine rg_M_36 rfl d_M_flips_43 gM rfl ?_
  refine r_iload_n d_M_flips_46 3 rfl ?_
  refine r_aload_n d_M_flips_47 0 rfl ?_
  refine rg_M_36 rfl d_M_flips_48 gM rfl ?_
  refine r_iload d_M_flips_51 4 rfl ?_
  refine r_aldN d_M_flips_53 gmSize (by omega) (by decide) ?_
  refine r_astN d_M_flips_54 gmSize (by omega) (by decide) (wm_size) ?_
  refine r_iconst (v := nI 0) d_M_flips_55 (by decide) ?_
  refine r_istore (lv' := [(0, _), (1, _), (2, _), (3, _), (4, _), (5, _)]) d_M_flips_56 (by decide) rfl ?_
  refine r_heap (h' := hp g c (mfK (mgu m i (rx i o false)) (rx i o false) (rx i o true) 0)) rfl ?_
  refine back_ind (n := 8) (G := fun k => RJ l g M_M_flips (RMX d 0 0) (TQ g 0 0 (QE (none) n (hp g c (mfl m i o)))) XT n (hp g c (mfK (mgu m i (rx i o false)) (rx i o false) (rx i o true) k)) 0 0 58 [(0, .ref (aM g)), (1, .int (nI i)), (2, .int (nI o)), (3, .int (nI (rx i o false))), (4, .int (nI (rx i o true))), (5, .int (nI k))] []) ?_ ?_ 0 (Nat.zero_le _)
  · skip
    refine r_iload d_M_flips_58 5 rfl ?_
    refine r_bipush (v := nI 8) d_M_flips_60 (by decide) ?_
    refine r_icmp_geN (tgt := 96) d_M_flips_62 (by decide) (by omega) (by omega) (fun c62 => ?_) (fun c62 => ?_)
    rotate_left 1
    · exfalso; first | omega | (revert c62; decide) | cases c62
    refine r_aload_n d_M_flips_96 0 rfl ?_
    refine rg_M_30 rfl d_M_flips_97 gM rfl ?_
    refine r_iload d_M_flips_100 4 rfl ?_
    refine r_iconst (v := nI 0) d_M_flips_102 (by decide) ?_
    refine r_zast (b := false) d_M_flips_103 rfl gmHas (by omega) (by decide) (wm_has) ?_
    refine r_return d_M_flips_104 rfl ⟨rfl, rfl, ?_⟩
    · rfl
  · intro k hb_k ih_k
    refine r_iload d_M_flips_58 5 rfl ?_
    refine r_bipush (v := nI 8) d_M_flips_60 (by decide) ?_
    refine r_icmp_geN (tgt := 96) d_M_flips_62 (by decide) (by omega) (by omega) (fun c62 => ?_) (fun c62 => ?_)
    · exfalso; first | omega | (revert c62; decide) | cases c62
    refine r_aload_n d_M_flips_65 0 rfl ?_
    refine rg_M_39 rfl d_M_flips_66 gM rfl ?_
    refine r_bipush (v := nI 8) d_M_flips_69 (by decide) ?_
    refine r_iload_n d_M_flips_71 3 rfl ?_
    refine r_imulN d_M_flips_72 ?_
    refine r_iload d_M_flips_73 5 rfl ?_
    refine r_iaddN d_M_flips_75 ?_
    refine r_aload_n d_M_flips_76 0 rfl ?_
    refine rg_M_39 rfl d_M_flips_77 gM rfl ?_
    refine r_bipush (v := nI 8) d_M_flips_80 (by decide) ?_
    refine r_iload d_M_flips_82 4 rfl ?_
    refine r_imulN d_M_flips_84 ?_
    refine r_iload d_M_flips_85 5 rfl ?_
    refine r_iaddN d_M_flips_87 ?_
    refine r_aldN d_M_flips_88 gmBlk (by omega) (by decide) ?_
    refine r_astN d_M_flips_89 gmBlk (by omega) (by decide) (wm_blk) ?_
    refine r_iincN (lv' := [(0, _), (1, _), (2, _), (3, _), (4, _), (5, _)]) d_M_flips_90 5 rfl (by decide) rfl ?_
    refine r_goto (tgt := 58) d_M_flips_93 (by decide) ?_
    exact r_at ih_k rfl rfl rfl
theorem k_M_byteAt {l : Launch} {g : GX} {c : CS} {m : MS} {n d : Nat} (hd : 0 ≤ d) {i r s k : Nat} (hrs : 8 * r + s < 1152) : CE l g M_M_byteAt d 0 0 [.ref (aM g), .int (nI i), .int (nI r), .int (nI s), .int (nI k)] n (hp g c m) (some (.int (nI (8 * (40 * i + m.blk (8 * r + s)) + k)))) n (hp g c m) := by
  refine CE.of (by decide +kernel) (lv := [(0, .ref (aM g)), (1, .int (nI i)), (2, .int (nI r)), (3, .int (nI s)), (4, .int (nI k))]) rfl (Nat.le_of_ble_eq_true rfl) ?_
  refine r_bipush (v := nI 8) d_M_byteAt_0 (by decide) ?_
  refine r_bipush (v := nI 40) d_M_byteAt_2 (by decide) ?_
  refine r_iload_n d_M_byteAt_4 1 rfl ?_
  refine r_imulN d_M_byteAt_5 ?_
  refine r_aload_n d_M_byteAt_6 0 rfl ?_
  refine rg_M_39 rfl d_M_byteAt_7 gM rfl ?_
  refine r_bipush (v := nI 8) d_M_byteAt_10 (by decide) ?_
  refine r_iload_n d_M_byteAt_12 2 rfl ?_
  refine r_imulN d_M_byteAt_13 ?_
  refine r_iload_n d_M_byteAt_14 3 rfl ?_
  refine r_iaddN d_M_byteAt_15 ?_
  refine r_aldN d_M_byteAt_16 gmBlk (by omega) (by decide) ?_
  refine r_iaddN d_M_byteAt_17 ?_
  refine r_imulN d_M_byteAt_18 ?_
  refine r_iload d_M_byteAt_19 4 rfl ?_
  refine r_iaddN d_M_byteAt_21 ?_
  refine r_ireturn d_M_byteAt_22 rfl rfl ⟨?_, rfl, ?_⟩
  · rfl
  · rfl
def mfr (m : MS) (o v i : Nat) : Bool := decide (0 < v) && !m.fail i && m.has (rx i o false) && decide (m.ver (rx i o false) = v)
def mfq (m : MS) (o v i : Nat) : Bool := !m.fail i && m.has (rx i o false) && decide (m.ver (rx i o false) = v)
def mnL (m : MS) (o : Nat) : Nat → Nat
  | 0 => 0
  | b + 1 => if m.fail b = false ∧ m.has (rx b o false) = true ∧ mnL m o b < m.ver (rx b o false) ∧ 5 ≤ ct (mfq m o (m.ver (rx b o false))) 12 then m.ver (rx b o false) else mnL m o b
def mnw (m : MS) (o : Nat) : Nat := mnL m o 12
theorem mnL_lt {m : MS} {o : Nat} (h : MI m) : ∀ b, mnL m o b < 65536
  | 0 => show 0 < 65536 by decide
  | b + 1 => by
    unfold mnL
    split
    · exact h.2.1 _
    · exact mnL_lt h b
theorem mnw_lt {m : MS} {o : Nat} (h : MI m) : mnw m o < 65536 := mnL_lt h 12
theorem k_M_isFresh {l : Launch} {g : GX} {c : CS} {m : MS} {n d : Nat} (hd : 1 ≤ d) {i o v : Nat} (hi : i < 12) (ho : o < 6) (hv : v < 65536) (hm : MI m) : CE l g M_M_isFresh d 0 0 [.ref (aM g), .int (nI i), .int (nI o), .int (nI v)] n (hp g c m) (some (.int (b2 (mfr m o v i)))) n (hp g c m) := by
  have hr := rx_lt (z := false) hi ho
  have hv2 := hm.2.1 (rx i o false)
  refine CE.of (by decide +kernel) (lv := [(0, .ref (aM g)), (1, .int (nI i)), (2, .int (nI o)), (3, .int (nI v))]) rfl (Nat.le_of_ble_eq_true rfl) ?_
  refine r_iload_n d_M_isFresh_0 1 rfl ?_
  refine r_iload_n d_M_isFresh_1 2 rfl ?_
  refine r_iconst (v := nI 0) d_M_isFresh_2 (by decide) ?_
  refine rc_M_79 rfl d_M_isFresh_3 (k_M_at (i := i) (o := o) (z := false) (by omega)) (room_ok (d' := d - 1) (by omega) (by decide)) ⟨Nat.le_refl _, Nat.le_refl _⟩ (Nat.le_of_ble_eq_true rfl) ?_
  refine r_istore (lv' := [(0, _), (1, _), (2, _), (3, _), (4, _)]) d_M_isFresh_6 (by decide) rfl ?_
  refine r_iload_n d_M_isFresh_8 3 rfl ?_
  refine r_if_leN (tgt := 46) d_M_isFresh_9 (by decide) (by omega) (fun c9 => ?_) (fun c9 => ?_)
  · skip
    refine r_iconst (v := nI 0) d_M_isFresh_46 (by decide) ?_
    refine r_ireturn d_M_isFresh_47 rfl rfl ⟨?_, rfl, ?_⟩
    · first | exact vb0 (by simp [mfr, *]) | exact vb1 (by simp [mfr, *]) | exact vb0 (by have q : v = 0 := (by omega); simp [mfr, q])
    · rfl
  · skip
    refine r_aload_n d_M_isFresh_12 0 rfl ?_
    refine rg_M_17 rfl d_M_isFresh_13 gM rfl ?_
    refine r_iload_n d_M_isFresh_16 1 rfl ?_
    refine r_zldB d_M_isFresh_17 gmFail (by omega) (by decide) ?_
    refine r_if_neB (tgt := 46) d_M_isFresh_18 (by decide) (fun c18 => ?_) (fun c18 => ?_)
    · skip
      refine r_iconst (v := nI 0) d_M_isFresh_46 (by decide) ?_
      refine r_ireturn d_M_isFresh_47 rfl rfl ⟨?_, rfl, ?_⟩
      · first | exact vb0 (by simp [mfr, *]) | exact vb1 (by simp [mfr, *]) | exact vb0 (by have q : v = 0 := (by omega); simp [mfr, q])
      · rfl
    · skip
      refine r_aload_n d_M_isFresh_21 0 rfl ?_
      refine rg_M_30 rfl d_M_isFresh_22 gM rfl ?_
      refine r_iload d_M_isFresh_25 4 rfl ?_
      refine r_zldB d_M_isFresh_27 gmHas (by omega) (by decide) ?_
      refine r_if_eqB (tgt := 46) d_M_isFresh_28 (by decide) (fun c28 => ?_) (fun c28 => ?_)
      · skip
        refine r_iconst (v := nI 0) d_M_isFresh_46 (by decide) ?_
        refine r_ireturn d_M_isFresh_47 rfl rfl ⟨?_, rfl, ?_⟩
        · first | exact vb0 (by simp [mfr, *]) | exact vb1 (by simp [mfr, *]) | exact vb0 (by have q : v = 0 := (by omega); simp [mfr, q])
        · rfl
      · skip
        refine r_aload_n d_M_isFresh_31 0 rfl ?_
        refine rg_M_33 rfl d_M_isFresh_32 gM rfl ?_
        refine r_iload d_M_isFresh_35 4 rfl ?_
        refine r_aldN d_M_isFresh_37 gmVer (by omega) (by decide) ?_
        refine r_iload_n d_M_isFresh_38 3 rfl ?_
        refine r_icmp_neN (tgt := 46) d_M_isFresh_39 (by decide) (by omega) (by omega) (fun c39 => ?_) (fun c39 => ?_)
        · skip
          refine r_iconst (v := nI 0) d_M_isFresh_46 (by decide) ?_
          refine r_ireturn d_M_isFresh_47 rfl rfl ⟨?_, rfl, ?_⟩
          · first | exact vb0 (by simp [mfr, *]) | exact vb1 (by simp [mfr, *]) | exact vb0 (by have q : v = 0 := (by omega); simp [mfr, q])
          · rfl
        · skip
          refine r_iconst (v := nI 1) d_M_isFresh_42 (by decide) ?_
          refine r_goto (tgt := 47) d_M_isFresh_43 (by decide) ?_
          refine r_ireturn d_M_isFresh_47 rfl rfl ⟨?_, rfl, ?_⟩
          · first | exact vb0 (by simp [mfr, *]) | exact vb1 (by simp [mfr, *]) | exact vb0 (by have q : v = 0 := (by omega); simp [mfr, q])
          · rfl
theorem k_M_newest {l : Launch} {g : GX} {c : CS} {m : MS} {n d : Nat} (hd : 1 ≤ d) {o : Nat} (ho : o < 6) (hm : MI m) : CE l g M_M_newest d 0 0 [.ref (aM g), .int (nI o)] n (hp g c m) (some (.int (nI (mnw m o)))) n (hp g c m) := by
  refine CE.of (by decide +kernel) (lv := [(0, .ref (aM g)), (1, .int (nI o))]) rfl (Nat.le_of_ble_eq_true rfl) ?_
  refine r_iconst (v := nI 0) d_M_newest_0 (by decide) ?_
  refine r_istore_n (lv' := [(0, _), (1, _), (2, _)]) d_M_newest_1 (by decide) rfl ?_
  refine r_iconst (v := nI 0) d_M_newest_2 (by decide) ?_
  refine r_istore_n (lv' := [(0, _), (1, _), (2, _), (3, _)]) d_M_newest_3 (by decide) rfl ?_
  refine r_less (lv' := [(0, .ref (aM g)), (1, .int (nI o)), (2, .int (nI 0)), (3, .int (nI 0))]) (by simp) ?_
  refine back_ind (n := 12) (G := fun b => RJ l g M_M_newest (RMX d 0 0) (TQ g 0 0 (QE (some (.int (nI (mnw m o)))) n (hp g c m))) XT n (hp g c m) 0 0 4 [(0, .ref (aM g)), (1, .int (nI o)), (2, .int (nI (mnL m o b))), (3, .int (nI b))] []) ?_ ?_ 0 (Nat.zero_le _)
  · skip
    refine r_iload_n d_M_newest_4 3 rfl ?_
    refine r_bipush (v := nI 12) d_M_newest_5 (by decide) ?_
    refine r_icmp_geN (tgt := 147) d_M_newest_7 (by decide) (by omega) (by omega) (fun c7 => ?_) (fun c7 => ?_)
    rotate_left 1
    · exfalso; first | omega | (revert c7; decide) | cases c7
    refine r_iload_n d_M_newest_147 2 rfl ?_
    refine r_ireturn d_M_newest_148 rfl rfl ⟨?_, rfl, ?_⟩
    · rfl
    · rfl
  · intro b hb_b ih_b
    have hr := rx_lt (i := b) (z := false) hb_b ho
    have hv2 := hm.2.1 (rx b o false)
    have hl := mnL_lt (o := o) hm b
    have hc12 := ct_le (mfq m o (m.ver (rx b o false))) 12
    refine r_iload_n d_M_newest_4 3 rfl ?_
    refine r_bipush (v := nI 12) d_M_newest_5 (by decide) ?_
    refine r_icmp_geN (tgt := 147) d_M_newest_7 (by decide) (by omega) (by omega) (fun c7 => ?_) (fun c7 => ?_)
    · exfalso; first | omega | (revert c7; decide) | cases c7
    refine r_iload_n d_M_newest_10 3 rfl ?_
    refine r_iload_n d_M_newest_11 1 rfl ?_
    refine r_iconst (v := nI 0) d_M_newest_12 (by decide) ?_
    refine rc_M_79 rfl d_M_newest_13 (k_M_at (i := b) (o := o) (z := false) (by omega)) (room_ok (d' := d - 1) (by omega) (by decide)) ⟨Nat.le_refl _, Nat.le_refl _⟩ (Nat.le_of_ble_eq_true rfl) ?_
    refine r_istore (lv' := [(0, _), (1, _), (2, _), (3, _), (4, _)]) d_M_newest_16 (by decide) rfl ?_
    refine r_aload_n d_M_newest_18 0 rfl ?_
    refine rg_M_17 rfl d_M_newest_19 gM rfl ?_
    refine r_iload_n d_M_newest_22 3 rfl ?_
    refine r_zldB d_M_newest_23 gmFail (by omega) (by decide) ?_
    refine r_if_neB (tgt := 141) d_M_newest_24 (by decide) (fun c24 => ?_) (fun c24 => ?_)
    · skip
      refine r_iincN (lv' := [(0, _), (1, _), (2, _), (3, _), (4, _)]) d_M_newest_141 3 rfl (by decide) rfl ?_
      refine r_goto (tgt := 4) d_M_newest_144 (by decide) ?_
      refine r_less (lv' := [(0, .ref (aM g)), (1, .int (nI o)), (2, .int (nI (mnL m o b))), (3, .int (nI (b + 1)))]) (by simp) ?_
      first | (exact r_at ih_b rfl (by rw [show mnL m o (b + 1) = mnL m o b from if_neg (fun q => absurd (q.1.symm.trans c24) (by decide))]) rfl) | (exact r_at ih_b rfl (by rw [show mnL m o (b + 1) = mnL m o b from if_neg (fun q => absurd (q.2.1.symm.trans c34) (by decide))]) rfl) | (exact r_at ih_b rfl (by rw [show mnL m o (b + 1) = mnL m o b from if_neg (fun q => by omega)]) rfl) | (exact r_at ih_b rfl (by rw [show mnL m o (b + 1) = m.ver (rx b o false) from if_pos ⟨c24, c34, c45, c126⟩]) rfl)
    · skip
      refine r_aload_n d_M_newest_27 0 rfl ?_
      refine rg_M_30 rfl d_M_newest_28 gM rfl ?_
      refine r_iload d_M_newest_31 4 rfl ?_
      refine r_zldB d_M_newest_33 gmHas (by omega) (by decide) ?_
      refine r_if_eqB (tgt := 141) d_M_newest_34 (by decide) (fun c34 => ?_) (fun c34 => ?_)
      · skip
        refine r_iincN (lv' := [(0, _), (1, _), (2, _), (3, _), (4, _)]) d_M_newest_141 3 rfl (by decide) rfl ?_
        refine r_goto (tgt := 4) d_M_newest_144 (by decide) ?_
        refine r_less (lv' := [(0, .ref (aM g)), (1, .int (nI o)), (2, .int (nI (mnL m o b))), (3, .int (nI (b + 1)))]) (by simp) ?_
        first | (exact r_at ih_b rfl (by rw [show mnL m o (b + 1) = mnL m o b from if_neg (fun q => absurd (q.1.symm.trans c24) (by decide))]) rfl) | (exact r_at ih_b rfl (by rw [show mnL m o (b + 1) = mnL m o b from if_neg (fun q => absurd (q.2.1.symm.trans c34) (by decide))]) rfl) | (exact r_at ih_b rfl (by rw [show mnL m o (b + 1) = mnL m o b from if_neg (fun q => by omega)]) rfl) | (exact r_at ih_b rfl (by rw [show mnL m o (b + 1) = m.ver (rx b o false) from if_pos ⟨c24, c34, c45, c126⟩]) rfl)
      · skip
        refine r_aload_n d_M_newest_37 0 rfl ?_
        refine rg_M_33 rfl d_M_newest_38 gM rfl ?_
        refine r_iload d_M_newest_41 4 rfl ?_
        refine r_aldN d_M_newest_43 gmVer (by omega) (by decide) ?_
        refine r_iload_n d_M_newest_44 2 rfl ?_
        refine r_icmp_leN (tgt := 141) d_M_newest_45 (by decide) (by omega) (by omega) (fun c45 => ?_) (fun c45 => ?_)
        · skip
          refine r_iincN (lv' := [(0, _), (1, _), (2, _), (3, _), (4, _)]) d_M_newest_141 3 rfl (by decide) rfl ?_
          refine r_goto (tgt := 4) d_M_newest_144 (by decide) ?_
          refine r_less (lv' := [(0, .ref (aM g)), (1, .int (nI o)), (2, .int (nI (mnL m o b))), (3, .int (nI (b + 1)))]) (by simp) ?_
          first | (exact r_at ih_b rfl (by rw [show mnL m o (b + 1) = mnL m o b from if_neg (fun q => absurd (q.1.symm.trans c24) (by decide))]) rfl) | (exact r_at ih_b rfl (by rw [show mnL m o (b + 1) = mnL m o b from if_neg (fun q => absurd (q.2.1.symm.trans c34) (by decide))]) rfl) | (exact r_at ih_b rfl (by rw [show mnL m o (b + 1) = mnL m o b from if_neg (fun q => by omega)]) rfl) | (exact r_at ih_b rfl (by rw [show mnL m o (b + 1) = m.ver (rx b o false) from if_pos ⟨c24, c34, c45, c126⟩]) rfl)
        · skip
          refine r_iconst (v := nI 0) d_M_newest_48 (by decide) ?_
          refine r_istore (lv' := [(0, _), (1, _), (2, _), (3, _), (4, _), (5, _)]) d_M_newest_49 (by decide) rfl ?_
          refine r_iconst (v := nI 0) d_M_newest_51 (by decide) ?_
          refine r_istore (lv' := [(0, _), (1, _), (2, _), (3, _), (4, _), (5, _), (6, _)]) d_M_newest_52 (by decide) rfl ?_
          refine r_less (lv' := [(0, .ref (aM g)), (1, .int (nI o)), (2, .int (nI (mnL m o b))), (3, .int (nI b)), (4, .int (nI (rx b o false))), (5, .int (nI 0)), (6, .int (nI 0))]) (by simp) ?_
          refine back_ind (n := 12) (G := fun k => RJ l g M_M_newest (RMX d 0 0) (TQ g 0 0 (QE (some (.int (nI (mnw m o)))) n (hp g c m))) XT n (hp g c m) 0 0 54 [(0, .ref (aM g)), (1, .int (nI o)), (2, .int (nI (mnL m o b))), (3, .int (nI b)), (4, .int (nI (rx b o false))), (5, .int (nI (ct (mfq m o (m.ver (rx b o false))) k))), (6, .int (nI k))] []) ?_ ?_ 0 (Nat.zero_le _)
          · skip
            refine r_iload d_M_newest_54 6 rfl ?_
            refine r_bipush (v := nI 12) d_M_newest_56 (by decide) ?_
            refine r_icmp_geN (tgt := 123) d_M_newest_58 (by decide) (by omega) (by omega) (fun c58 => ?_) (fun c58 => ?_)
            rotate_left 1
            · exfalso; first | omega | (revert c58; decide) | cases c58
            refine r_iload d_M_newest_123 5 rfl ?_
            refine r_iconst (v := nI 5) d_M_newest_125 (by decide) ?_
            refine r_icmp_ltN (tgt := 139) d_M_newest_126 (by decide) (by omega) (by omega) (fun c126 => ?_) (fun c126 => ?_)
            · skip
              refine r_iload_n d_M_newest_139 2 rfl ?_
              refine r_istore_n (lv' := [(0, _), (1, _), (2, _), (3, _), (4, _), (5, _), (6, _)]) d_M_newest_140 (by decide) rfl ?_
              refine r_iincN (lv' := [(0, _), (1, _), (2, _), (3, _), (4, _), (5, _), (6, _)]) d_M_newest_141 3 rfl (by decide) rfl ?_
              refine r_goto (tgt := 4) d_M_newest_144 (by decide) ?_
              refine r_less (lv' := [(0, .ref (aM g)), (1, .int (nI o)), (2, .int (nI (mnL m o b))), (3, .int (nI (b + 1)))]) (by simp) ?_
              first | (exact r_at ih_b rfl (by rw [show mnL m o (b + 1) = mnL m o b from if_neg (fun q => absurd (q.1.symm.trans c24) (by decide))]) rfl) | (exact r_at ih_b rfl (by rw [show mnL m o (b + 1) = mnL m o b from if_neg (fun q => absurd (q.2.1.symm.trans c34) (by decide))]) rfl) | (exact r_at ih_b rfl (by rw [show mnL m o (b + 1) = mnL m o b from if_neg (fun q => by omega)]) rfl) | (exact r_at ih_b rfl (by rw [show mnL m o (b + 1) = m.ver (rx b o false) from if_pos ⟨c24, c34, c45, c126⟩]) rfl)
            · skip
              refine r_aload_n d_M_newest_129 0 rfl ?_
              refine rg_M_33 rfl d_M_newest_130 gM rfl ?_
              refine r_iload d_M_newest_133 4 rfl ?_
              refine r_aldN d_M_newest_135 gmVer (by omega) (by decide) ?_
              refine r_goto (tgt := 140) d_M_newest_136 (by decide) ?_
              refine r_istore_n (lv' := [(0, _), (1, _), (2, _), (3, _), (4, _), (5, _), (6, _)]) d_M_newest_140 (by decide) rfl ?_
              refine r_iincN (lv' := [(0, _), (1, _), (2, _), (3, _), (4, _), (5, _), (6, _)]) d_M_newest_141 3 rfl (by decide) rfl ?_
              refine r_goto (tgt := 4) d_M_newest_144 (by decide) ?_
              refine r_less (lv' := [(0, .ref (aM g)), (1, .int (nI o)), (2, .int (nI (m.ver (rx b o false)))), (3, .int (nI (b + 1)))]) (by simp) ?_
              first | (exact r_at ih_b rfl (by rw [show mnL m o (b + 1) = mnL m o b from if_neg (fun q => absurd (q.1.symm.trans c24) (by decide))]) rfl) | (exact r_at ih_b rfl (by rw [show mnL m o (b + 1) = mnL m o b from if_neg (fun q => absurd (q.2.1.symm.trans c34) (by decide))]) rfl) | (exact r_at ih_b rfl (by rw [show mnL m o (b + 1) = mnL m o b from if_neg (fun q => by omega)]) rfl) | (exact r_at ih_b rfl (by rw [show mnL m o (b + 1) = m.ver (rx b o false) from if_pos ⟨c24, c34, c45, c126⟩]) rfl)
          · intro k hb_k ih_k
            have hr2 := rx_lt (i := k) (z := false) hb_k ho
            have hv3 := hm.2.1 (rx k o false)
            refine r_iload d_M_newest_54 6 rfl ?_
            refine r_bipush (v := nI 12) d_M_newest_56 (by decide) ?_
            refine r_icmp_geN (tgt := 123) d_M_newest_58 (by decide) (by omega) (by omega) (fun c58 => ?_) (fun c58 => ?_)
            · exfalso; first | omega | (revert c58; decide) | cases c58
            refine r_iload d_M_newest_61 6 rfl ?_
            refine r_iload_n d_M_newest_63 1 rfl ?_
            refine r_iconst (v := nI 0) d_M_newest_64 (by decide) ?_
            refine rc_M_79 rfl d_M_newest_65 (k_M_at (i := k) (o := o) (z := false) (by omega)) (room_ok (d' := d - 1) (by omega) (by decide)) ⟨Nat.le_refl _, Nat.le_refl _⟩ (Nat.le_of_ble_eq_true rfl) ?_
            refine r_istore (lv' := [(0, _), (1, _), (2, _), (3, _), (4, _), (5, _), (6, _), (7, _)]) d_M_newest_68 (by decide) rfl ?_
            refine r_iload d_M_newest_70 5 rfl ?_
            refine r_aload_n d_M_newest_72 0 rfl ?_
            refine rg_M_17 rfl d_M_newest_73 gM rfl ?_
            refine r_iload d_M_newest_76 6 rfl ?_
            refine r_zldB d_M_newest_78 gmFail (by omega) (by decide) ?_
            refine r_if_neB (tgt := 113) d_M_newest_79 (by decide) (fun c79 => ?_) (fun c79 => ?_)
            · skip
              refine r_iconst (v := nI 0) d_M_newest_113 (by decide) ?_
              refine r_iaddN d_M_newest_114 ?_
              refine r_istore (lv' := [(0, _), (1, _), (2, _), (3, _), (4, _), (5, _), (6, _), (7, _)]) d_M_newest_115 (by decide) rfl ?_
              refine r_iincN (lv' := [(0, _), (1, _), (2, _), (3, _), (4, _), (5, _), (6, _), (7, _)]) d_M_newest_117 6 rfl (by decide) rfl ?_
              refine r_goto (tgt := 54) d_M_newest_120 (by decide) ?_
              refine r_less (lv' := [(0, .ref (aM g)), (1, .int (nI o)), (2, .int (nI (mnL m o b))), (3, .int (nI b)), (4, .int (nI (rx b o false))), (5, .int (nI ((ct (mfq m o (m.ver (rx b o false))) k) + 0))), (6, .int (nI (k + 1)))]) (by simp) ?_
              exact r_at ih_k rfl (by first | (rw [ct_t (show mfq m o (m.ver (rx b o false)) k = true by simp [mfq, *])]; done) | (rw [ct_f (show mfq m o (m.ver (rx b o false)) k = false by simp [mfq, *])]; rfl)) rfl
            · skip
              refine r_aload_n d_M_newest_82 0 rfl ?_
              refine rg_M_30 rfl d_M_newest_83 gM rfl ?_
              refine r_iload d_M_newest_86 7 rfl ?_
              refine r_zldB d_M_newest_88 gmHas (by omega) (by decide) ?_
              refine r_if_eqB (tgt := 113) d_M_newest_89 (by decide) (fun c89 => ?_) (fun c89 => ?_)
              · skip
                refine r_iconst (v := nI 0) d_M_newest_113 (by decide) ?_
                refine r_iaddN d_M_newest_114 ?_
                refine r_istore (lv' := [(0, _), (1, _), (2, _), (3, _), (4, _), (5, _), (6, _), (7, _)]) d_M_newest_115 (by decide) rfl ?_
                refine r_iincN (lv' := [(0, _), (1, _), (2, _), (3, _), (4, _), (5, _), (6, _), (7, _)]) d_M_newest_117 6 rfl (by decide) rfl ?_
                refine r_goto (tgt := 54) d_M_newest_120 (by decide) ?_
                refine r_less (lv' := [(0, .ref (aM g)), (1, .int (nI o)), (2, .int (nI (mnL m o b))), (3, .int (nI b)), (4, .int (nI (rx b o false))), (5, .int (nI ((ct (mfq m o (m.ver (rx b o false))) k) + 0))), (6, .int (nI (k + 1)))]) (by simp) ?_
                exact r_at ih_k rfl (by first | (rw [ct_t (show mfq m o (m.ver (rx b o false)) k = true by simp [mfq, *])]; done) | (rw [ct_f (show mfq m o (m.ver (rx b o false)) k = false by simp [mfq, *])]; rfl)) rfl
              · skip
                refine r_aload_n d_M_newest_92 0 rfl ?_
                refine rg_M_33 rfl d_M_newest_93 gM rfl ?_
                refine r_iload d_M_newest_96 7 rfl ?_
                refine r_aldN d_M_newest_98 gmVer (by omega) (by decide) ?_
                refine r_aload_n d_M_newest_99 0 rfl ?_
                refine rg_M_33 rfl d_M_newest_100 gM rfl ?_
                refine r_iload d_M_newest_103 4 rfl ?_
                refine r_aldN d_M_newest_105 gmVer (by omega) (by decide) ?_
                refine r_icmp_neN (tgt := 113) d_M_newest_106 (by decide) (by omega) (by omega) (fun c106 => ?_) (fun c106 => ?_)
                · skip
                  refine r_iconst (v := nI 0) d_M_newest_113 (by decide) ?_
                  refine r_iaddN d_M_newest_114 ?_
                  refine r_istore (lv' := [(0, _), (1, _), (2, _), (3, _), (4, _), (5, _), (6, _), (7, _)]) d_M_newest_115 (by decide) rfl ?_
                  refine r_iincN (lv' := [(0, _), (1, _), (2, _), (3, _), (4, _), (5, _), (6, _), (7, _)]) d_M_newest_117 6 rfl (by decide) rfl ?_
                  refine r_goto (tgt := 54) d_M_newest_120 (by decide) ?_
                  refine r_less (lv' := [(0, .ref (aM g)), (1, .int (nI o)), (2, .int (nI (mnL m o b))), (3, .int (nI b)), (4, .int (nI (rx b o false))), (5, .int (nI ((ct (mfq m o (m.ver (rx b o false))) k) + 0))), (6, .int (nI (k + 1)))]) (by simp) ?_
                  exact r_at ih_k rfl (by first | (rw [ct_t (show mfq m o (m.ver (rx b o false)) k = true by simp [mfq, *])]; done) | (rw [ct_f (show mfq m o (m.ver (rx b o false)) k = false by simp [mfq, *])]; rfl)) rfl
                · skip
                  refine r_iconst (v := nI 1) d_M_newest_109 (by decide) ?_
                  refine r_goto (tgt := 114) d_M_newest_110 (by decide) ?_
                  refine r_iaddN d_M_newest_114 ?_
                  refine r_istore (lv' := [(0, _), (1, _), (2, _), (3, _), (4, _), (5, _), (6, _), (7, _)]) d_M_newest_115 (by decide) rfl ?_
                  refine r_iincN (lv' := [(0, _), (1, _), (2, _), (3, _), (4, _), (5, _), (6, _), (7, _)]) d_M_newest_117 6 rfl (by decide) rfl ?_
                  refine r_goto (tgt := 54) d_M_newest_120 (by decide) ?_
                  refine r_less (lv' := [(0, .ref (aM g)), (1, .int (nI o)), (2, .int (nI (mnL m o b))), (3, .int (nI b)), (4, .int (nI (rx b o false))), (5, .int (nI ((ct (mfq m o (m.ver (rx b o false))) k) + 1))), (6, .int (nI (k + 1)))]) (by simp) ?_
                  exact r_at ih_k rfl (by first | (rw [ct_t (show mfq m o (m.ver (rx b o false)) k = true by simp [mfq, *])]; done) | (rw [ct_f (show mfq m o (m.ver (rx b o false)) k = false by simp [mfq, *])]; rfl)) rfl
def mff (m : MS) (o v : Nat) : Nat := lfF (fun i => !mfr m o v i) 12 0
theorem k_M_sizeOf {l : Launch} {g : GX} {c : CS} {m : MS} {n d : Nat} (hd : 2 ≤ d) {o v : Nat} (ho : o < 6) (hv : v < 65536) (hm : MI m) (h : mff m o v < 12) : CE l g M_M_sizeOf d 0 0 [.ref (aM g), .int (nI o), .int (nI v)] n (hp g c m) (some (.int (nI (m.size (rx (mff m o v) o false))))) n (hp g c m) := by
  obtain ⟨hl1, hl2⟩ := lfF_spec (f := 12) (k := 0) (T := fun i => !mfr m o v i) h
  have hr := rx_lt (z := false) h ho
  refine CE.of (by decide +kernel) (lv := [(0, .ref (aM g)), (1, .int (nI o)), (2, .int (nI v))]) rfl (Nat.le_of_ble_eq_true rfl) ?_
  refine r_iconst (v := nI 0) d_M_sizeOf_0 (by decide) ?_
  refine r_istore_n (lv' := [(0, _), (1, _), (2, _), (3, _)]) d_M_sizeOf_1 (by decide) rfl ?_
  refine back_ind (n := mff m o v) (G := fun b => RJ l g M_M_sizeOf (RMX d 0 0) (TQ g 0 0 (QE (some (.int (nI (m.size (rx (mff m o v) o false))))) n (hp g c m))) XT n (hp g c m) 0 0 2 [(0, .ref (aM g)), (1, .int (nI o)), (2, .int (nI v)), (3, .int (nI b))] []) ?_ ?_ 0 (Nat.zero_le _)
  · skip
    refine r_aload_n d_M_sizeOf_2 0 rfl ?_
    refine r_iload_n d_M_sizeOf_3 3 rfl ?_
    refine r_iload_n d_M_sizeOf_4 1 rfl ?_
    refine r_iload_n d_M_sizeOf_5 2 rfl ?_
    refine rc_M_93 rfl d_M_sizeOf_6 (k_M_isFresh (by omega) (by omega) ho hv hm) gM (room_ok (d' := d - 1) (by omega) (by decide)) ⟨Nat.le_refl _, Nat.le_refl _⟩ (Nat.le_of_ble_eq_true rfl) ?_
    refine r_if_neB (tgt := 18) d_M_sizeOf_9 (by decide) (fun c9 => ?_) (fun c9 => ?_)
    rotate_left 1
    · exact absurd (hl1.symm.trans (congrArg (fun z => !z) c9)) (by decide)
    refine r_aload_n d_M_sizeOf_18 0 rfl ?_
    refine rg_M_36 rfl d_M_sizeOf_19 gM rfl ?_
    refine r_iload_n d_M_sizeOf_22 3 rfl ?_
    refine r_iload_n d_M_sizeOf_23 1 rfl ?_
    refine r_iconst (v := nI 0) d_M_sizeOf_24 (by decide) ?_
    refine rc_M_79 rfl d_M_sizeOf_25 (k_M_at (i := mff m o v) (o := o) (z := false) (by omega)) (room_ok (d' := d - 1) (by omega) (by decide)) ⟨Nat.le_refl _, Nat.le_refl _⟩ (Nat.le_of_ble_eq_true rfl) ?_
    refine r_aldN d_M_sizeOf_28 gmSize (by omega) (by decide) ?_
    refine r_ireturn d_M_sizeOf_29 rfl rfl ⟨?_, rfl, ?_⟩
    · rfl
    · rfl
  · intro b hb_b ih_b
    refine r_aload_n d_M_sizeOf_2 0 rfl ?_
    refine r_iload_n d_M_sizeOf_3 3 rfl ?_
    refine r_iload_n d_M_sizeOf_4 1 rfl ?_
    refine r_iload_n d_M_sizeOf_5 2 rfl ?_
    refine rc_M_93 rfl d_M_sizeOf_6 (k_M_isFresh (by omega) (by omega) ho hv hm) gM (room_ok (d' := d - 1) (by omega) (by decide)) ⟨Nat.le_refl _, Nat.le_refl _⟩ (Nat.le_of_ble_eq_true rfl) ?_
    refine r_if_neB (tgt := 18) d_M_sizeOf_9 (by decide) (fun c9 => ?_) (fun c9 => ?_)
    · exact absurd ((hl2 b (Nat.zero_le _) hb_b).symm.trans (congrArg (fun z => !z) c9)) (by decide)
    refine r_iincN (lv' := [(0, _), (1, _), (2, _), (3, _)]) d_M_sizeOf_12 3 rfl (by decide) rfl ?_
    refine r_goto (tgt := 2) d_M_sizeOf_15 (by decide) ?_
    exact ih_b
theorem k_M_live {l : Launch} {g : GX} {c : CS} {m : MS} {n d : Nat} (hd : 0 ≤ d)  : CE l g M_M_live d 0 0 [.ref (aM g)] n (hp g c m) (some (.int (nI (ct (fun i => !m.fail i) 12)))) n (hp g c m) := by
  refine CE.of (by decide +kernel) (lv := [(0, .ref (aM g))]) rfl (Nat.le_of_ble_eq_true rfl) ?_
  refine r_iconst (v := nI 0) d_M_live_0 (by decide) ?_
  refine r_istore_n (lv' := [(0, _), (1, _)]) d_M_live_1 (by decide) rfl ?_
  refine r_iconst (v := nI 0) d_M_live_2 (by decide) ?_
  refine r_istore_n (lv' := [(0, _), (1, _), (2, _)]) d_M_live_3 (by decide) rfl ?_
  refine back_ind (n := 12) (G := fun b => RJ l g M_M_live (RMX d 0 0) (TQ g 0 0 (QE (some (.int (nI (ct (fun i => !m.fail i) 12)))) n (hp g c m))) XT n (hp g c m) 0 0 4 [(0, .ref (aM g)), (1, .int (nI (ct (fun i => !m.fail i) b))), (2, .int (nI b))] []) ?_ ?_ 0 (Nat.zero_le _)
  · skip
    refine r_iload_n d_M_live_4 2 rfl ?_
    refine r_bipush (v := nI 12) d_M_live_5 (by decide) ?_
    refine r_icmp_geN (tgt := 33) d_M_live_7 (by decide) (by omega) (by omega) (fun c7 => ?_) (fun c7 => ?_)
    rotate_left 1
    · exfalso; first | omega | (revert c7; decide) | cases c7
    refine r_iload_n d_M_live_33 1 rfl ?_
    refine r_ireturn d_M_live_34 rfl rfl ⟨?_, rfl, ?_⟩
    · rfl
    · rfl
  · intro b hb_b ih_b
    refine r_iload_n d_M_live_4 2 rfl ?_
    refine r_bipush (v := nI 12) d_M_live_5 (by decide) ?_
    refine r_icmp_geN (tgt := 33) d_M_live_7 (by decide) (by omega) (by omega) (fun c7 => ?_) (fun c7 => ?_)
    · exfalso; first | omega | (revert c7; decide) | cases c7
    refine r_iload_n d_M_live_10 1 rfl ?_
    refine r_aload_n d_M_live_11 0 rfl ?_
    refine rg_M_17 rfl d_M_live_12 gM rfl ?_
    refine r_iload_n d_M_live_15 2 rfl ?_
    refine r_zldB d_M_live_16 gmFail (by omega) (by decide) ?_
    refine r_if_eqB (tgt := 24) d_M_live_17 (by decide) (fun c17 => ?_) (fun c17 => ?_)
    · skip
      refine r_iconst (v := nI 1) d_M_live_24 (by decide) ?_
      refine r_iaddN d_M_live_25 ?_
      refine r_istore_n (lv' := [(0, _), (1, _), (2, _)]) d_M_live_26 (by decide) rfl ?_
      refine r_iincN (lv' := [(0, _), (1, _), (2, _)]) d_M_live_27 2 rfl (by decide) rfl ?_
      refine r_goto (tgt := 4) d_M_live_30 (by decide) ?_
      exact r_at ih_b rfl (by simp [ct, c17]) rfl
    · skip
      refine r_iconst (v := nI 0) d_M_live_20 (by decide) ?_
      refine r_goto (tgt := 25) d_M_live_21 (by decide) ?_
      refine r_iaddN d_M_live_25 ?_
      refine r_istore_n (lv' := [(0, _), (1, _), (2, _)]) d_M_live_26 (by decide) rfl ?_
      refine r_iincN (lv' := [(0, _), (1, _), (2, _)]) d_M_live_27 2 rfl (by decide) rfl ?_
      refine r_goto (tgt := 4) d_M_live_30 (by decide) ?_
      exact r_at ih_b rfl (by simp [ct, c17]) rfl
