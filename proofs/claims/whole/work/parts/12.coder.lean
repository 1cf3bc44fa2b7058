theorem upN_ind {α : Type} {Q : α → Prop} {f : Nat → α} {i : Nat} {v : α} (h : ∀ i, Q (f i)) (hv : Q v) : ∀ j, Q (upN f i v j) := by
  intro j
  unfold upN
  by_cases e : j = i
  · rw [if_pos e]; exact hv
  · rw [if_neg e]; exact h j
theorem xor_lt {a b : Nat} (ha : a < 256) (hb : b < 256) : a ^^^ b < 256 := Nat.xor_lt_two_pow (n := 8) ha hb
theorem xt_lt : ∀ x, x < 256 → xt x < 256 := by decide +kernel
theorem pwN_lt : ∀ e, pwN e < 256
  | 0 => by decide
  | e + 1 => xt_lt _ (pwN_lt e)
theorem pwT_lt (e : Nat) : pwT e < 256 := by
  unfold pwT
  split
  · exact pwN_lt e
  · split
    · exact pwN_lt _
    · decide
theorem mulT_lt (a b : Nat) : mulT a b < 256 := by
  unfold mulT
  split
  · decide
  · exact pwT_lt _
theorem quoT_lt (a b : Nat) : quoT a b < 256 := by
  unfold quoT
  split
  · decide
  · exact pwT_lt _
theorem rowT_lt (i : Nat) : ∀ k, rowT i k < 256
  | 0 => show 1 < 256 by decide
  | k + 1 => mulT_lt _ _
theorem lgN_lt : ∀ e, e ≤ 255 → ∀ x, lgN e x < 255
  | 0, _, _ => show 0 < 255 by decide
  | e + 1, h, x => upN_ind (Q := fun y => y < 255) (lgN_lt e (by omega)) (by omega) x
theorem exT_lt (x : Nat) : exT x < 255 := lgN_lt 255 (Nat.le_refl _) x
theorem and255 {a : Nat} (h : a < 256) : nI a &&& nI 255 = nI a := by
  rw [pk_andN (by omega) 8 rfl, Nat.mod_eq_of_lt (by omega)]
/-- the sum of the first n -/
def xs (f : Nat → Nat) : Nat → Nat
  | 0 => 0
  | n + 1 => xs f n ^^^ f n
theorem xs_lt {f : Nat → Nat} (h : ∀ i, f i < 256) : ∀ n, xs f n < 256
  | 0 => show 0 < 256 by decide
  | n + 1 => xor_lt (xs_lt h n) (h n)
def BM (A : Nat → Nat → Nat) : Prop := ∀ i j, A i j < 256
theorem BM_up {A : Nat → Nat → Nat} {i : Nat} {f : Nat → Nat} (h : BM A) (hf : ∀ j, f j < 256) : BM (upN A i f) := fun i' => upN_ind (Q := fun g : Nat → Nat => ∀ j, g j < 256) h hf i'
theorem k_S_isNodeN {l : Launch} {g : GX} {c : CS} {m : MS} {n d i : Nat} (hi : i < 12) : CE l g M_S_isNode d 0 0 [.int (nI i)] n (hp g c m) (some (.int (b2 true))) n (hp g c m) := by
  have h := k_S_isNode (l := l) (g := g) (c := c) (m := m) (n := n) (d := d) (x := nI i) (Nat.zero_le _)
  rw [inR_n (by omega) (by decide), decide_eq_true hi] at h
  exact h
theorem k_S_isObjectN {l : Launch} {g : GX} {c : CS} {m : MS} {n d i : Nat} (hi : i < 6) : CE l g M_S_isObject d 0 0 [.int (nI i)] n (hp g c m) (some (.int (b2 true))) n (hp g c m) := by
  have h := k_S_isObject (l := l) (g := g) (c := c) (m := m) (n := n) (d := d) (x := nI i) (Nat.zero_le _)
  rw [inR_n (by omega) (by decide), decide_eq_true hi] at h
  exact h
theorem k_F_product {l : Launch} {g : GX} {c : CS} {m : MS} {n d : Nat} (hd : 0 ≤ d) {a b : Nat} (ha : a < 256) (hb : b < 256) : CE l g M_F_product d 0 0 [.ref (aF g), .int (nI a), .int (nI b)] n (hp g c m) (some (.int (nI (mulT a b)))) n (hp g c m) := by
  have e1 := exT_lt a
  have e2 := exT_lt b
  refine CE.of (by decide +kernel) (lv := [(0, .ref (aF g)), (1, .int (nI a)), (2, .int (nI b))]) rfl (Nat.le_of_ble_eq_true rfl) ?_
  refine r_iload_n d_F_product_0 1 rfl ?_
  refine r_if_eqN (tgt := 8) d_F_product_1 (by decide) (by omega) (fun c1 => ?_) (fun c1 => ?_)
  · skip
    refine r_iconst (v := nI 0) d_F_product_8 (by decide) ?_
    refine r_ireturn d_F_product_9 rfl rfl ⟨?_, rfl, ?_⟩
    · simp [mulT, *]
    · rfl
  · skip
    refine r_iload_n d_F_product_4 2 rfl ?_
    refine r_if_neN (tgt := 10) d_F_product_5 (by decide) (by omega) (fun c5 => ?_) (fun c5 => ?_)
    · skip
      refine r_aload_n d_F_product_10 0 rfl ?_
      refine rg_F_9 rfl d_F_product_11 gF rfl ?_
      refine r_aload_n d_F_product_14 0 rfl ?_
      refine rg_F_15 rfl d_F_product_15 gF rfl ?_
      refine r_iload_n d_F_product_18 1 rfl ?_
      refine r_sipush (v := nI 255) d_F_product_19 (by decide) ?_
      refine r_iand d_F_product_22 ?_
      refine r_top (y := (nI a)) (and255 (by omega)) ?_
      refine r_aldN d_F_product_23 gEx (by omega) (by decide) ?_
      refine r_aload_n d_F_product_24 0 rfl ?_
      refine rg_F_15 rfl d_F_product_25 gF rfl ?_
      refine r_iload_n d_F_product_28 2 rfl ?_
      refine r_sipush (v := nI 255) d_F_product_29 (by decide) ?_
      refine r_iand d_F_product_32 ?_
      refine r_top (y := (nI b)) (and255 (by omega)) ?_
      refine r_aldN d_F_product_33 gEx (by omega) (by decide) ?_
      refine r_iaddN d_F_product_34 ?_
      refine r_aldN d_F_product_35 gPw (by omega) (by decide) ?_
      refine r_ireturn d_F_product_36 rfl rfl ⟨?_, rfl, ?_⟩
      · simp [mulT, *]
      · rfl
    · skip
      refine r_iconst (v := nI 0) d_F_product_8 (by decide) ?_
      refine r_ireturn d_F_product_9 rfl rfl ⟨?_, rfl, ?_⟩
      · simp [mulT, *]
      · rfl
theorem k_F_quotient {l : Launch} {g : GX} {c : CS} {m : MS} {n d : Nat} (hd : 0 ≤ d) {a b : Nat} (ha : a < 256) (hb : b < 256) : CE l g M_F_quotient d 0 0 [.ref (aF g), .int (nI a), .int (nI b)] n (hp g c m) (some (.int (nI (quoT a b)))) n (hp g c m) := by
  have e1 := exT_lt a
  have e2 := exT_lt b
  refine CE.of (by decide +kernel) (lv := [(0, .ref (aF g)), (1, .int (nI a)), (2, .int (nI b))]) rfl (Nat.le_of_ble_eq_true rfl) ?_
  refine r_iload_n d_F_quotient_0 1 rfl ?_
  refine r_if_eqN (tgt := 8) d_F_quotient_1 (by decide) (by omega) (fun c1 => ?_) (fun c1 => ?_)
  · skip
    refine r_iconst (v := nI 0) d_F_quotient_8 (by decide) ?_
    refine r_ireturn d_F_quotient_9 rfl rfl ⟨?_, rfl, ?_⟩
    · simp [quoT, *]
    · rfl
  · skip
    refine r_iload_n d_F_quotient_4 2 rfl ?_
    refine r_if_neN (tgt := 10) d_F_quotient_5 (by decide) (by omega) (fun c5 => ?_) (fun c5 => ?_)
    · skip
      refine r_aload_n d_F_quotient_10 0 rfl ?_
      refine rg_F_9 rfl d_F_quotient_11 gF rfl ?_
      refine r_aload_n d_F_quotient_14 0 rfl ?_
      refine rg_F_15 rfl d_F_quotient_15 gF rfl ?_
      refine r_iload_n d_F_quotient_18 1 rfl ?_
      refine r_sipush (v := nI 255) d_F_quotient_19 (by decide) ?_
      refine r_iand d_F_quotient_22 ?_
      refine r_top (y := (nI a)) (and255 (by omega)) ?_
      refine r_aldN d_F_quotient_23 gEx (by omega) (by decide) ?_
      refine r_sipush (v := nI 255) d_F_quotient_24 (by decide) ?_
      refine r_iaddN d_F_quotient_27 ?_
      refine r_aload_n d_F_quotient_28 0 rfl ?_
      refine rg_F_15 rfl d_F_quotient_29 gF rfl ?_
      refine r_iload_n d_F_quotient_32 2 rfl ?_
      refine r_sipush (v := nI 255) d_F_quotient_33 (by decide) ?_
      refine r_iand d_F_quotient_36 ?_
      refine r_top (y := (nI b)) (and255 (by omega)) ?_
      refine r_aldN d_F_quotient_37 gEx (by omega) (by decide) ?_
      refine r_isubN d_F_quotient_38 (by omega) ?_
      refine r_aldN d_F_quotient_39 gPw (by omega) (by decide) ?_
      refine r_ireturn d_F_quotient_40 rfl rfl ⟨?_, rfl, ?_⟩
      · simp [quoT, *]
      · rfl
    · skip
      refine r_iconst (v := nI 0) d_F_quotient_8 (by decide) ?_
      refine r_ireturn d_F_quotient_9 rfl rfl ⟨?_, rfl, ?_⟩
      · simp [quoT, *]
      · rfl
theorem k_C_rowByte {l : Launch} {g : GX} {c : CS} {m : MS} {n d : Nat} (hd : 1 ≤ d) {i k : Nat} (hi : i < 12) (hk : k < 8) : CE l g M_C_rowByte d 0 0 [.ref (aC g), .int (nI i), .int (nI k)] n (hp g c m) (some (.int (nI (rowT i k)))) n (hp g c m) := by
  refine CE.of (by decide +kernel) (lv := [(0, .ref (aC g)), (1, .int (nI i)), (2, .int (nI k))]) rfl (Nat.le_of_ble_eq_true rfl) ?_
  refine r_iload_n d_C_rowByte_0 1 rfl ?_
  refine rc_C_43 rfl d_C_rowByte_1 (k_S_isNodeN hi) (room_ok (d' := d - 1) (by omega) (by decide)) ⟨Nat.le_refl _, Nat.le_refl _⟩ (Nat.le_of_ble_eq_true rfl) ?_
  refine r_if_eqB (tgt := 28) d_C_rowByte_4 (by decide) (fun c4 => ?_) (fun c4 => ?_)
  · exfalso; first | omega | (revert c4; decide) | cases c4
  refine r_iload_n d_C_rowByte_7 2 rfl ?_
  refine r_if_ltN (tgt := 28) d_C_rowByte_8 (by decide) (by omega) (fun c8 => ?_) (fun c8 => ?_)
  · exfalso; first | omega | (revert c8; decide) | cases c8
  refine r_iload_n d_C_rowByte_11 2 rfl ?_
  refine r_bipush (v := nI 8) d_C_rowByte_12 (by decide) ?_
  refine r_icmp_geN (tgt := 28) d_C_rowByte_14 (by decide) (by omega) (by omega) (fun c14 => ?_) (fun c14 => ?_)
  · exfalso; first | omega | (revert c14; decide) | cases c14
  refine r_aload_n d_C_rowByte_17 0 rfl ?_
  refine rg_C_20 rfl d_C_rowByte_18 gC rfl ?_
  refine r_iload_n d_C_rowByte_21 1 rfl ?_
  refine r_gld d_C_rowByte_22 gRows (by omega) (by decide) rfl ?_
  refine r_iload_n d_C_rowByte_23 2 rfl ?_
  refine r_aldN d_C_rowByte_24 (gRow (i := i) (by omega)) (by omega) (by decide) ?_
  refine r_goto (tgt := 29) d_C_rowByte_25 (by decide) ?_
  refine r_ireturn d_C_rowByte_29 rfl rfl ⟨?_, rfl, ?_⟩
  · rfl
  · rfl
def tbF (t : Nat → Nat) (e at_ : Nat) : Nat := if at_ < e ∧ at_ < 240 then t at_ else 0
theorem k_C_byteBefore {l : Launch} {g : GX} {c : CS} {m : MS} {n d : Nat} (hd : 0 ≤ d) {a e : Nat} (ha : a < 65536) (he : e < 65536) : CE l g M_C_byteBefore d 0 0 [.ref (aTap g), .int (nI a), .int (nI e)] n (hp g c m) (some (.int (nI (tbF c.tape e a)))) n (hp g c m) := by
  refine CE.of (by decide +kernel) (lv := [(0, .ref (aTap g)), (1, .int (nI a)), (2, .int (nI e))]) rfl (Nat.le_of_ble_eq_true rfl) ?_
  refine r_iload_n d_C_byteBefore_0 1 rfl ?_
  refine r_if_ltN (tgt := 21) d_C_byteBefore_1 (by decide) (by omega) (fun c1 => ?_) (fun c1 => ?_)
  · exfalso; first | omega | (revert c1; decide) | cases c1
  refine r_iload_n d_C_byteBefore_4 1 rfl ?_
  refine r_iload_n d_C_byteBefore_5 2 rfl ?_
  refine r_icmp_geN (tgt := 21) d_C_byteBefore_6 (by decide) (by omega) (by omega) (fun c6 => ?_) (fun c6 => ?_)
  · skip
    refine r_iconst (v := nI 0) d_C_byteBefore_21 (by decide) ?_
    refine r_ireturn d_C_byteBefore_22 rfl rfl ⟨?_, rfl, ?_⟩
    · first | (unfold tbF; rw [if_pos ⟨by omega, by omega⟩]; done) | (unfold tbF; rw [if_neg (by omega)])
    · rfl
  · skip
    refine r_iload_n d_C_byteBefore_9 1 rfl ?_
    refine r_aload_n d_C_byteBefore_10 0 rfl ?_
    refine r_alen (t := 0) (v := nI 240) rfl d_C_byteBefore_11 gTap rfl ?_
    refine r_icmp_geN (tgt := 21) d_C_byteBefore_12 (by decide) (by omega) (by omega) (fun c12 => ?_) (fun c12 => ?_)
    · skip
      refine r_iconst (v := nI 0) d_C_byteBefore_21 (by decide) ?_
      refine r_ireturn d_C_byteBefore_22 rfl rfl ⟨?_, rfl, ?_⟩
      · first | (unfold tbF; rw [if_pos ⟨by omega, by omega⟩]; done) | (unfold tbF; rw [if_neg (by omega)])
      · rfl
    · skip
      refine r_aload_n d_C_byteBefore_15 0 rfl ?_
      refine r_iload_n d_C_byteBefore_16 1 rfl ?_
      refine r_aldN d_C_byteBefore_17 gTap (by omega) (by decide) ?_
      refine r_goto (tgt := 22) d_C_byteBefore_18 (by decide) ?_
      refine r_ireturn d_C_byteBefore_22 rfl rfl ⟨?_, rfl, ?_⟩
      · first | (unfold tbF; rw [if_pos ⟨by omega, by omega⟩]; done) | (unfold tbF; rw [if_neg (by omega)])
      · rfl
def mirM (A : Nat → Nat → Nat) (r k v : Nat) : Nat → Nat → Nat := upN (upN A r (upN (A r) k v)) k (upN ((upN A r (upN (A r) k v)) k) r v)
theorem BM_mir {A : Nat → Nat → Nat} {r k v : Nat} (h : BM A) (hv : v < 256) : BM (mirM A r k v) := by
  have h1 : BM (upN A r (upN (A r) k v)) := BM_up h (upN_ind (Q := fun x => x < 256) (h r) hv)
  exact BM_up h1 (upN_ind (Q := fun x => x < 256) (h1 k) hv)
theorem k_C_mirror {l : Launch} {g : GX} {c : CS} {m : MS} {n d : Nat} (hd : 0 ≤ d) {r k v : Nat} (hr : r < 8) (hk : k < 8) : CE l g M_C_mirror d 0 0 [.ref (aC g), .int (nI r), .int (nI k), .int (nI v)] n (hp g c m) (none) n (hp g (c.s_mat (mirM c.mat r k v)) m) := by
  refine CE.of (by decide +kernel) (lv := [(0, .ref (aC g)), (1, .int (nI r)), (2, .int (nI k)), (3, .int (nI v))]) rfl (Nat.le_of_ble_eq_true rfl) ?_
  refine r_aload_n d_C_mirror_0 0 rfl ?_
  refine rg_C_23 rfl d_C_mirror_1 gC rfl ?_
  refine r_iload_n d_C_mirror_4 1 rfl ?_
  refine r_gld d_C_mirror_5 gMat (by omega) (by decide) rfl ?_
  refine r_iload_n d_C_mirror_6 2 rfl ?_
  refine r_iload_n d_C_mirror_7 3 rfl ?_
  refine r_astN d_C_mirror_8 (gMatR (i := r) (by omega)) (by omega) (by decide) (wmat (i := r) (by omega)) ?_
  refine r_aload_n d_C_mirror_9 0 rfl ?_
  refine rg_C_23 rfl d_C_mirror_10 gC rfl ?_
  refine r_iload_n d_C_mirror_13 2 rfl ?_
  refine r_gld d_C_mirror_14 gMat (by omega) (by decide) rfl ?_
  refine r_iload_n d_C_mirror_15 1 rfl ?_
  refine r_iload_n d_C_mirror_16 3 rfl ?_
  refine r_astN d_C_mirror_17 (gMatR (i := k) (by omega)) (by omega) (by decide) (wmat (i := k) (by omega)) ?_
  refine r_return d_C_mirror_18 rfl ⟨rfl, rfl, ?_⟩
  · rfl
/-- how many bytes of the triangle stand ahead of row r -/
def o1 : Nat → Nat
  | 0 => 0
  | r + 1 => o1 r + (5 - r)
theorem o1_le : ∀ r, r ≤ 5 → o1 r ≤ 15 := by decide
def ldI (tb : Nat → Nat) (A : Nat → Nat → Nat) (a r k0 : Nat) : Nat → Nat → Nat → Nat
  | 0 => A
  | j + 1 => mirM (ldI tb A a r k0 j) r (k0 + j) (tb (a + j))
def ldO1 (tb : Nat → Nat) (A : Nat → Nat → Nat) (a : Nat) : Nat → Nat → Nat → Nat
  | 0 => A
  | r + 1 => ldI tb (ldO1 tb A a r) (a + o1 r) r r (5 - r)
def ldO2 (tb : Nat → Nat) (A : Nat → Nat → Nat) (a : Nat) : Nat → Nat → Nat → Nat
  | 0 => A
  | r + 1 => ldI tb (ldO2 tb A a r) (a + 3 * r) r 5 3
def ldM (tb : Nat → Nat) (A : Nat → Nat → Nat) (a : Nat) : Nat → Nat → Nat := ldO2 tb (ldO1 tb A a 5) (a + 15) 5
theorem k_C_load {l : Launch} {g : GX} {c : CS} {m : MS} {n d : Nat} (hd : 2 ≤ d) {a e : Nat} (ha : a < 60000) (he : e < 65536) : CE l g M_C_load d 0 0 [.ref (aC g), .ref (aTap g), .int (nI a), .int (nI e)] n (hp g c m) (none) n (hp g (c.s_mat (ldM (tbF c.tape e) c.mat a)) m) := by
  refine CE.of (by decide +kernel) (lv := [(0, .ref (aC g)), (1, .ref (aTap g)), (2, .int (nI a)), (3, .int (nI e))]) rfl (Nat.le_of_ble_eq_true rfl) ?_
  refine r_iload_n d_C_load_0 2 rfl ?_
  refine r_istore (lv' := [(0, _), (1, _), (2, _), (3, _), (4, _)]) d_C_load_1 (by decide) rfl ?_
  refine r_iconst (v := nI 0) d_C_load_3 (by decide) ?_
  refine r_istore (lv' := [(0, _), (1, _), (2, _), (3, _), (4, _), (5, _)]) d_C_load_4 (by decide) rfl ?_
  refine r_less (lv' := [(0, .ref (aC g)), (1, .ref (aTap g)), (2, .int (nI a)), (3, .int (nI e)), (4, .int (nI a)), (5, .int (nI 0))]) (by simp) ?_
  refine back_ind (n := 5) (G := fun r => RJ l g M_C_load (RMX d 0 0) (TQ g 0 0 (QE (none) n (hp g (c.s_mat (ldM (tbF c.tape e) c.mat a)) m))) XT n (hp g (c.s_mat (ldO1 (tbF c.tape e) c.mat a r)) m) 0 0 6 [(0, .ref (aC g)), (1, .ref (aTap g)), (2, .int (nI a)), (3, .int (nI e)), (4, .int (nI (a + o1 r))), (5, .int (nI r))] []) ?_ ?_ 0 (Nat.zero_le _)
  · skip
    refine r_iload d_C_load_6 5 rfl ?_
    refine r_iconst (v := nI 5) d_C_load_8 (by decide) ?_
    refine r_icmp_geN (tgt := 52) d_C_load_9 (by decide) (by omega) (by omega) (fun c9 => ?_) (fun c9 => ?_)
    rotate_left 1
    · exfalso; first | omega | (revert c9; decide) | cases c9
    refine r_iconst (v := nI 0) d_C_load_52 (by decide) ?_
    refine r_istore (lv' := [(0, _), (1, _), (2, _), (3, _), (4, _), (5, _)]) d_C_load_53 (by decide) rfl ?_
    refine r_less (lv' := [(0, .ref (aC g)), (1, .ref (aTap g)), (2, .int (nI a)), (3, .int (nI e)), (4, .int (nI (a + o1 5))), (5, .int (nI 0))]) (by simp) ?_
    refine back_ind (n := 5) (G := fun r => RJ l g M_C_load (RMX d 0 0) (TQ g 0 0 (QE (none) n (hp g (c.s_mat (ldM (tbF c.tape e) c.mat a)) m))) XT n (hp g (c.s_mat (ldO2 (tbF c.tape e) (ldO1 (tbF c.tape e) c.mat a 5) (a + 15) r)) m) 0 0 55 [(0, .ref (aC g)), (1, .ref (aTap g)), (2, .int (nI a)), (3, .int (nI e)), (4, .int (nI (a + 15 + 3 * r))), (5, .int (nI r))] []) ?_ ?_ 0 (Nat.zero_le _)
    · skip
      refine r_iload d_C_load_55 5 rfl ?_
      refine r_iconst (v := nI 5) d_C_load_57 (by decide) ?_
      refine r_icmp_geN (tgt := 101) d_C_load_58 (by decide) (by omega) (by omega) (fun c58 => ?_) (fun c58 => ?_)
      rotate_left 1
      · exfalso; first | omega | (revert c58; decide) | cases c58
      refine r_return d_C_load_101 rfl ⟨rfl, rfl, ?_⟩
      · rfl
    · intro r hb_r ih_r
      refine r_iload d_C_load_55 5 rfl ?_
      refine r_iconst (v := nI 5) d_C_load_57 (by decide) ?_
      refine r_icmp_geN (tgt := 101) d_C_load_58 (by decide) (by omega) (by omega) (fun c58 => ?_) (fun c58 => ?_)
      · exfalso; first | omega | (revert c58; decide) | cases c58
      refine r_iconst (v := nI 5) d_C_load_61 (by decide) ?_
      refine r_istore (lv' := [(0, _), (1, _), (2, _), (3, _), (4, _), (5, _), (6, _)]) d_C_load_62 (by decide) rfl ?_
      refine back_ind (n := 3) (G := fun j => RJ l g M_C_load (RMX d 0 0) (TQ g 0 0 (QE (none) n (hp g (c.s_mat (ldM (tbF c.tape e) c.mat a)) m))) XT n (hp g (c.s_mat (ldI (tbF c.tape e) (ldO2 (tbF c.tape e) (ldO1 (tbF c.tape e) c.mat a 5) (a + 15) r) (a + 15 + 3 * r) r 5 j)) m) 0 0 64 [(0, .ref (aC g)), (1, .ref (aTap g)), (2, .int (nI a)), (3, .int (nI e)), (4, .int (nI (a + 15 + 3 * r + j))), (5, .int (nI r)), (6, .int (nI (5 + j)))] []) ?_ ?_ 0 (Nat.zero_le _)
      · skip
        refine r_iload d_C_load_64 6 rfl ?_
        refine r_bipush (v := nI 8) d_C_load_66 (by decide) ?_
        refine r_icmp_geN (tgt := 95) d_C_load_68 (by decide) (by omega) (by omega) (fun c68 => ?_) (fun c68 => ?_)
        rotate_left 1
        · exfalso; first | omega | (revert c68; decide) | cases c68
        refine r_iincN (lv' := [(0, _), (1, _), (2, _), (3, _), (4, _), (5, _), (6, _)]) d_C_load_95 5 rfl (by decide) rfl ?_
        refine r_goto (tgt := 55) d_C_load_98 (by decide) ?_
        refine r_less (lv' := [(0, .ref (aC g)), (1, .ref (aTap g)), (2, .int (nI a)), (3, .int (nI e)), (4, .int (nI (a + 15 + 3 * r + 3))), (5, .int (nI (r + 1)))]) (by simp) ?_
        exact r_at ih_r rfl (by simp only [Nat.mul_add, Nat.mul_one, Nat.add_assoc]) rfl
      · intro j hb_j ih_j
        refine r_iload d_C_load_64 6 rfl ?_
        refine r_bipush (v := nI 8) d_C_load_66 (by decide) ?_
        refine r_icmp_geN (tgt := 95) d_C_load_68 (by decide) (by omega) (by omega) (fun c68 => ?_) (fun c68 => ?_)
        · exfalso; first | omega | (revert c68; decide) | cases c68
        refine r_aload_n d_C_load_71 0 rfl ?_
        refine r_iload d_C_load_72 5 rfl ?_
        refine r_iload d_C_load_74 6 rfl ?_
        refine r_aload_n d_C_load_76 1 rfl ?_
        refine r_iload d_C_load_77 4 rfl ?_
        refine r_iload_n d_C_load_79 3 rfl ?_
        refine rc_C_47 rfl d_C_load_80 (k_C_byteBefore (c := c.s_mat (ldI (tbF c.tape e) (ldO2 (tbF c.tape e) (ldO1 (tbF c.tape e) c.mat a 5) (a + 15) r) (a + 15 + 3 * r) r 5 j)) (by omega) (by omega) (by omega)) (room_ok (d' := d - 1) (by omega) (by decide)) ⟨Nat.le_refl _, Nat.le_refl _⟩ (Nat.le_of_ble_eq_true rfl) ?_
        refine rc_C_51 rfl d_C_load_83 (k_C_mirror (c := c.s_mat (ldI (tbF c.tape e) (ldO2 (tbF c.tape e) (ldO1 (tbF c.tape e) c.mat a 5) (a + 15) r) (a + 15 + 3 * r) r 5 j)) (by omega) (by omega) (by omega)) gC (room_ok (d' := d - 1) (by omega) (by decide)) ⟨Nat.le_refl _, Nat.le_refl _⟩ (Nat.le_of_ble_eq_true rfl) ?_
        refine r_iincN (lv' := [(0, _), (1, _), (2, _), (3, _), (4, _), (5, _), (6, _)]) d_C_load_86 4 rfl (by decide) rfl ?_
        refine r_iincN (lv' := [(0, _), (1, _), (2, _), (3, _), (4, _), (5, _), (6, _)]) d_C_load_89 6 rfl (by decide) rfl ?_
        refine r_goto (tgt := 64) d_C_load_92 (by decide) ?_
        exact ih_j
  · intro r hb_r ih_r
    have q1 := o1_le r (by omega)
    refine r_iload d_C_load_6 5 rfl ?_
    refine r_iconst (v := nI 5) d_C_load_8 (by decide) ?_
    refine r_icmp_geN (tgt := 52) d_C_load_9 (by decide) (by omega) (by omega) (fun c9 => ?_) (fun c9 => ?_)
    · exfalso; first | omega | (revert c9; decide) | cases c9
    refine r_iload d_C_load_12 5 rfl ?_
    refine r_istore (lv' := [(0, _), (1, _), (2, _), (3, _), (4, _), (5, _), (6, _)]) d_C_load_14 (by decide) rfl ?_
    refine back_ind (n := 5 - r) (G := fun j => RJ l g M_C_load (RMX d 0 0) (TQ g 0 0 (QE (none) n (hp g (c.s_mat (ldM (tbF c.tape e) c.mat a)) m))) XT n (hp g (c.s_mat (ldI (tbF c.tape e) (ldO1 (tbF c.tape e) c.mat a r) (a + o1 r) r r j)) m) 0 0 16 [(0, .ref (aC g)), (1, .ref (aTap g)), (2, .int (nI a)), (3, .int (nI e)), (4, .int (nI (a + o1 r + j))), (5, .int (nI r)), (6, .int (nI (r + j)))] []) ?_ ?_ 0 (Nat.zero_le _)
    · skip
      refine r_iload d_C_load_16 6 rfl ?_
      refine r_iconst (v := nI 5) d_C_load_18 (by decide) ?_
      refine r_icmp_geN (tgt := 46) d_C_load_19 (by decide) (by omega) (by omega) (fun c19 => ?_) (fun c19 => ?_)
      rotate_left 1
      · exfalso; first | omega | (revert c19; decide) | cases c19
      refine r_iincN (lv' := [(0, _), (1, _), (2, _), (3, _), (4, _), (5, _), (6, _)]) d_C_load_46 5 rfl (by decide) rfl ?_
      refine r_goto (tgt := 6) d_C_load_49 (by decide) ?_
      refine r_less (lv' := [(0, .ref (aC g)), (1, .ref (aTap g)), (2, .int (nI a)), (3, .int (nI e)), (4, .int (nI (a + o1 r + (5 - r)))), (5, .int (nI (r + 1)))]) (by simp) ?_
      exact r_at ih_r rfl (by simp only [o1, Nat.add_assoc]) rfl
    · intro j hb_j ih_j
      refine r_iload d_C_load_16 6 rfl ?_
      refine r_iconst (v := nI 5) d_C_load_18 (by decide) ?_
      refine r_icmp_geN (tgt := 46) d_C_load_19 (by decide) (by omega) (by omega) (fun c19 => ?_) (fun c19 => ?_)
      · exfalso; first | omega | (revert c19; decide) | cases c19
      refine r_aload_n d_C_load_22 0 rfl ?_
      refine r_iload d_C_load_23 5 rfl ?_
      refine r_iload d_C_load_25 6 rfl ?_
      refine r_aload_n d_C_load_27 1 rfl ?_
      refine r_iload d_C_load_28 4 rfl ?_
      refine r_iload_n d_C_load_30 3 rfl ?_
      refine rc_C_47 rfl d_C_load_31 (k_C_byteBefore (c := c.s_mat (ldI (tbF c.tape e) (ldO1 (tbF c.tape e) c.mat a r) (a + o1 r) r r j)) (by omega) (by omega) (by omega)) (room_ok (d' := d - 1) (by omega) (by decide)) ⟨Nat.le_refl _, Nat.le_refl _⟩ (Nat.le_of_ble_eq_true rfl) ?_
      refine rc_C_51 rfl d_C_load_34 (k_C_mirror (c := c.s_mat (ldI (tbF c.tape e) (ldO1 (tbF c.tape e) c.mat a r) (a + o1 r) r r j)) (by omega) (by omega) (by omega)) gC (room_ok (d' := d - 1) (by omega) (by decide)) ⟨Nat.le_refl _, Nat.le_refl _⟩ (Nat.le_of_ble_eq_true rfl) ?_
      refine r_iincN (lv' := [(0, _), (1, _), (2, _), (3, _), (4, _), (5, _), (6, _)]) d_C_load_37 4 rfl (by decide) rfl ?_
      refine r_iincN (lv' := [(0, _), (1, _), (2, _), (3, _), (4, _), (5, _), (6, _)]) d_C_load_40 6 rfl (by decide) rfl ?_
      refine r_goto (tgt := 16) d_C_load_43 (by decide) ?_
      exact ih_j
def fillF (f R : Nat → Nat) : Nat → Nat → Nat
  | 0 => R
  | k + 1 => upN (fillF f R k) k (f k)
def shB (i : Nat) (A : Nat → Nat → Nat) (k : Nat) : Nat := xs (fun r => mulT (rowT i r) (A r k)) 8
theorem k_C_share {l : Launch} {g : GX} {c : CS} {m : MS} {n d : Nat} (hd : 3 ≤ d) {i : Nat} (hi : i < 12) (hm : BM c.mat) : CE l g M_C_share d 0 0 [.ref (aC g), .int (nI i), .ref (aWir g)] n (hp g c m) (none) n (hp g (c.s_wire (fillF (shB i c.mat) c.wire 8)) m) := by
  refine CE.of (by decide +kernel) (lv := [(0, .ref (aC g)), (1, .int (nI i)), (2, .ref (aWir g))]) rfl (Nat.le_of_ble_eq_true rfl) ?_
  refine r_iconst (v := nI 0) d_C_share_0 (by decide) ?_
  refine r_istore_n (lv' := [(0, _), (1, _), (2, _), (3, _)]) d_C_share_1 (by decide) rfl ?_
  refine r_heap (h' := hp g (c.s_wire (fillF (shB i c.mat) c.wire 0)) m) rfl ?_
  refine back_ind (n := 8) (G := fun k => RJ l g M_C_share (RMX d 0 0) (TQ g 0 0 (QE (none) n (hp g (c.s_wire (fillF (shB i c.mat) c.wire 8)) m))) XT n (hp g (c.s_wire (fillF (shB i c.mat) c.wire k)) m) 0 0 2 [(0, .ref (aC g)), (1, .int (nI i)), (2, .ref (aWir g)), (3, .int (nI k))] []) ?_ ?_ 0 (Nat.zero_le _)
  · skip
    refine r_iload_n d_C_share_2 3 rfl ?_
    refine r_bipush (v := nI 8) d_C_share_3 (by decide) ?_
    refine r_icmp_geN (tgt := 72) d_C_share_5 (by decide) (by omega) (by omega) (fun c5 => ?_) (fun c5 => ?_)
    rotate_left 1
    · exfalso; first | omega | (revert c5; decide) | cases c5
    refine r_return d_C_share_72 rfl ⟨rfl, rfl, ?_⟩
    · rfl
  · intro k hb_k ih_k
    refine r_iload_n d_C_share_2 3 rfl ?_
    refine r_bipush (v := nI 8) d_C_share_3 (by decide) ?_
    refine r_icmp_geN (tgt := 72) d_C_share_5 (by decide) (by omega) (by omega) (fun c5 => ?_) (fun c5 => ?_)
    · exfalso; first | omega | (revert c5; decide) | cases c5
    refine r_iload_n d_C_share_8 3 rfl ?_
    refine r_aload_n d_C_share_9 2 rfl ?_
    refine r_alen (t := 0) (v := nI 8) rfl d_C_share_10 gWir rfl ?_
    refine r_icmp_geN (tgt := 72) d_C_share_11 (by decide) (by omega) (by omega) (fun c11 => ?_) (fun c11 => ?_)
    · exfalso; first | omega | (revert c11; decide) | cases c11
    refine r_iconst (v := nI 0) d_C_share_14 (by decide) ?_
    refine r_istore (lv' := [(0, _), (1, _), (2, _), (3, _), (4, _)]) d_C_share_15 (by decide) rfl ?_
    refine r_iconst (v := nI 0) d_C_share_17 (by decide) ?_
    refine r_istore (lv' := [(0, _), (1, _), (2, _), (3, _), (4, _), (5, _)]) d_C_share_18 (by decide) rfl ?_
    refine back_ind (n := 8) (G := fun r => RJ l g M_C_share (RMX d 0 0) (TQ g 0 0 (QE (none) n (hp g (c.s_wire (fillF (shB i c.mat) c.wire 8)) m))) XT n (hp g (c.s_wire (fillF (shB i c.mat) c.wire k)) m) 0 0 20 [(0, .ref (aC g)), (1, .int (nI i)), (2, .ref (aWir g)), (3, .int (nI k)), (4, .int (nI (xs (fun r => mulT (rowT i r) (c.mat r k)) r))), (5, .int (nI r))] []) ?_ ?_ 0 (Nat.zero_le _)
    · skip
      refine r_iload d_C_share_20 5 rfl ?_
      refine r_bipush (v := nI 8) d_C_share_22 (by decide) ?_
      refine r_icmp_geN (tgt := 61) d_C_share_24 (by decide) (by omega) (by omega) (fun c24 => ?_) (fun c24 => ?_)
      rotate_left 1
      · exfalso; first | omega | (revert c24; decide) | cases c24
      refine r_aload_n d_C_share_61 2 rfl ?_
      refine r_iload_n d_C_share_62 3 rfl ?_
      refine r_iload d_C_share_63 4 rfl ?_
      refine r_astN d_C_share_65 gWir (by omega) (by decide) (wwire) ?_
      refine r_iincN (lv' := [(0, _), (1, _), (2, _), (3, _), (4, _), (5, _)]) d_C_share_66 3 rfl (by decide) rfl ?_
      refine r_goto (tgt := 2) d_C_share_69 (by decide) ?_
      refine r_less (lv' := [(0, .ref (aC g)), (1, .int (nI i)), (2, .ref (aWir g)), (3, .int (nI (k + 1)))]) (by simp) ?_
      exact r_at ih_k rfl rfl rfl
    · intro r hb_r ih_r
      refine r_iload d_C_share_20 5 rfl ?_
      refine r_bipush (v := nI 8) d_C_share_22 (by decide) ?_
      refine r_icmp_geN (tgt := 61) d_C_share_24 (by decide) (by omega) (by omega) (fun c24 => ?_) (fun c24 => ?_)
      · exfalso; first | omega | (revert c24; decide) | cases c24
      refine r_iload d_C_share_27 4 rfl ?_
      refine r_aload_n d_C_share_29 0 rfl ?_
      refine rg_C_12 rfl d_C_share_30 gC rfl ?_
      refine r_aload_n d_C_share_33 0 rfl ?_
      refine r_iload_n d_C_share_34 1 rfl ?_
      refine r_iload d_C_share_35 5 rfl ?_
      refine rc_C_59 rfl d_C_share_37 (k_C_rowByte (c := c.s_wire (fillF (shB i c.mat) c.wire k)) (by omega) hi hb_r) gC (room_ok (d' := d - 1) (by omega) (by decide)) ⟨Nat.le_refl _, Nat.le_refl _⟩ (Nat.le_of_ble_eq_true rfl) ?_
      refine r_aload_n d_C_share_40 0 rfl ?_
      refine rg_C_23 rfl d_C_share_41 gC rfl ?_
      refine r_iload d_C_share_44 5 rfl ?_
      refine r_gld d_C_share_46 gMat (by omega) (by decide) rfl ?_
      refine r_iload_n d_C_share_47 3 rfl ?_
      refine r_aldN d_C_share_48 (gMatR (i := r) (by omega)) (by omega) (by decide) ?_
      refine rc_C_39 rfl d_C_share_49 (k_F_product (c := c.s_wire (fillF (shB i c.mat) c.wire k)) (by omega) (rowT_lt i r) (hm r k)) gF (room_ok (d' := d - 1) (by omega) (by decide)) ⟨Nat.le_refl _, Nat.le_refl _⟩ (Nat.le_of_ble_eq_true rfl) ?_
      refine r_ixorN d_C_share_52 ?_
      refine r_istore (lv' := [(0, _), (1, _), (2, _), (3, _), (4, _), (5, _)]) d_C_share_53 (by decide) rfl ?_
      refine r_iincN (lv' := [(0, _), (1, _), (2, _), (3, _), (4, _), (5, _)]) d_C_share_55 5 rfl (by decide) rfl ?_
      refine r_goto (tgt := 20) d_C_share_58 (by decide) ?_
      exact ih_r
def sbF (t : Nat → Nat) (e a v : Nat) : Nat → Nat := if a < e ∧ a < 240 then upN t a v else t
def ulI (A : Nat → Nat → Nat) (e : Nat) (t : Nat → Nat) (a r k0 : Nat) : Nat → Nat → Nat
  | 0 => t
  | j + 1 => sbF (ulI A e t a r k0 j) e (a + j) (A r (k0 + j))
def ulO1 (A : Nat → Nat → Nat) (e : Nat) (t : Nat → Nat) (a : Nat) : Nat → Nat → Nat
  | 0 => t
  | r + 1 => ulI A e (ulO1 A e t a r) (a + o1 r) r r (5 - r)
def ulO2 (A : Nat → Nat → Nat) (e : Nat) (t : Nat → Nat) (a : Nat) : Nat → Nat → Nat
  | 0 => t
  | r + 1 => ulI A e (ulO2 A e t a r) (a + 3 * r) r 5 3
def ulM (A : Nat → Nat → Nat) (e : Nat) (t : Nat → Nat) (a : Nat) : Nat → Nat := ulO2 A e (ulO1 A e t a 5) (a + 15) 5
theorem k_C_storeBefore {l : Launch} {g : GX} {c : CS} {m : MS} {n d : Nat} (hd : 0 ≤ d) {a e v : Nat} (ha : a < 65536) (he : e < 65536) : CE l g M_C_storeBefore d 0 0 [.ref (aGot g), .int (nI a), .int (nI e), .int (nI v)] n (hp g c m) (none) n (hp g (c.s_gott (sbF c.gott e a v)) m) := by
  refine CE.of (by decide +kernel) (lv := [(0, .ref (aGot g)), (1, .int (nI a)), (2, .int (nI e)), (3, .int (nI v))]) rfl (Nat.le_of_ble_eq_true rfl) ?_
  refine r_iload_n d_C_storeBefore_0 1 rfl ?_
  refine r_if_ltN (tgt := 19) d_C_storeBefore_1 (by decide) (by omega) (fun c1 => ?_) (fun c1 => ?_)
  · exfalso; first | omega | (revert c1; decide) | cases c1
  refine r_iload_n d_C_storeBefore_4 1 rfl ?_
  refine r_iload_n d_C_storeBefore_5 2 rfl ?_
  refine r_icmp_geN (tgt := 19) d_C_storeBefore_6 (by decide) (by omega) (by omega) (fun c6 => ?_) (fun c6 => ?_)
  · skip
    refine r_return d_C_storeBefore_19 rfl ⟨rfl, rfl, ?_⟩
    · first | (unfold sbF; rw [if_pos ⟨by omega, by omega⟩]; done) | (unfold sbF; rw [if_neg (by omega)]; rfl)
  · skip
    refine r_iload_n d_C_storeBefore_9 1 rfl ?_
    refine r_aload_n d_C_storeBefore_10 0 rfl ?_
    refine r_alen (t := 0) (v := nI 240) rfl d_C_storeBefore_11 gGot rfl ?_
    refine r_icmp_geN (tgt := 19) d_C_storeBefore_12 (by decide) (by omega) (by omega) (fun c12 => ?_) (fun c12 => ?_)
    · skip
      refine r_return d_C_storeBefore_19 rfl ⟨rfl, rfl, ?_⟩
      · first | (unfold sbF; rw [if_pos ⟨by omega, by omega⟩]; done) | (unfold sbF; rw [if_neg (by omega)]; rfl)
    · skip
      refine r_aload_n d_C_storeBefore_15 0 rfl ?_
      refine r_iload_n d_C_storeBefore_16 1 rfl ?_
      refine r_iload_n d_C_storeBefore_17 3 rfl ?_
      refine r_astN d_C_storeBefore_18 gGot (by omega) (by decide) (wgott) ?_
      refine r_return d_C_storeBefore_19 rfl ⟨rfl, rfl, ?_⟩
      · first | (unfold sbF; rw [if_pos ⟨by omega, by omega⟩]; done) | (unfold sbF; rw [if_neg (by omega)]; rfl)
theorem k_C_unload {l : Launch} {g : GX} {c : CS} {m : MS} {n d : Nat} (hd : 2 ≤ d) {a e : Nat} (ha : a < 60000) (he : e < 65536) : CE l g M_C_unload d 0 0 [.ref (aC g), .ref (aGot g), .int (nI a), .int (nI e)] n (hp g c m) (none) n (hp g (c.s_gott (ulM c.mat e c.gott a)) m) := by
  refine CE.of (by decide +kernel) (lv := [(0, .ref (aC g)), (1, .ref (aGot g)), (2, .int (nI a)), (3, .int (nI e))]) rfl (Nat.le_of_ble_eq_true rfl) ?_
  refine r_iload_n d_C_unload_0 2 rfl ?_
  refine r_istore (lv' := [(0, _), (1, _), (2, _), (3, _), (4, _)]) d_C_unload_1 (by decide) rfl ?_
  refine r_iconst (v := nI 0) d_C_unload_3 (by decide) ?_
  refine r_istore (lv' := [(0, _), (1, _), (2, _), (3, _), (4, _), (5, _)]) d_C_unload_4 (by decide) rfl ?_
  refine r_less (lv' := [(0, .ref (aC g)), (1, .ref (aGot g)), (2, .int (nI a)), (3, .int (nI e)), (4, .int (nI a)), (5, .int (nI 0))]) (by simp) ?_
  refine back_ind (n := 5) (G := fun r => RJ l g M_C_unload (RMX d 0 0) (TQ g 0 0 (QE (none) n (hp g (c.s_gott (ulM c.mat e c.gott a)) m))) XT n (hp g (c.s_gott (ulO1 c.mat e c.gott a r)) m) 0 0 6 [(0, .ref (aC g)), (1, .ref (aGot g)), (2, .int (nI a)), (3, .int (nI e)), (4, .int (nI (a + o1 r))), (5, .int (nI r))] []) ?_ ?_ 0 (Nat.zero_le _)
  · skip
    refine r_iload d_C_unload_6 5 rfl ?_
    refine r_iconst (v := nI 5) d_C_unload_8 (by decide) ?_
    refine r_icmp_geN (tgt := 54) d_C_unload_9 (by decide) (by omega) (by omega) (fun c9 => ?_) (fun c9 => ?_)
    rotate_left 1
    · exfalso; first | omega | (revert c9; decide) | cases c9
    refine r_iconst (v := nI 0) d_C_unload_54 (by decide) ?_
    refine r_istore (lv' := [(0, _), (1, _), (2, _), (3, _), (4, _), (5, _)]) d_C_unload_55 (by decide) rfl ?_
    refine r_less (lv' := [(0, .ref (aC g)), (1, .ref (aGot g)), (2, .int (nI a)), (3, .int (nI e)), (4, .int (nI (a + o1 5))), (5, .int (nI 0))]) (by simp) ?_
    refine back_ind (n := 5) (G := fun r => RJ l g M_C_unload (RMX d 0 0) (TQ g 0 0 (QE (none) n (hp g (c.s_gott (ulM c.mat e c.gott a)) m))) XT n (hp g (c.s_gott (ulO2 c.mat e (ulO1 c.mat e c.gott a 5) (a + 15) r)) m) 0 0 57 [(0, .ref (aC g)), (1, .ref (aGot g)), (2, .int (nI a)), (3, .int (nI e)), (4, .int (nI (a + 15 + 3 * r))), (5, .int (nI r))] []) ?_ ?_ 0 (Nat.zero_le _)
    · skip
      refine r_iload d_C_unload_57 5 rfl ?_
      refine r_iconst (v := nI 5) d_C_unload_59 (by decide) ?_
      refine r_icmp_geN (tgt := 105) d_C_unload_60 (by decide) (by omega) (by omega) (fun c60 => ?_) (fun c60 => ?_)
      rotate_left 1
      · exfalso; first | omega | (revert c60; decide) | cases c60
      refine r_return d_C_unload_105 rfl ⟨rfl, rfl, ?_⟩
      · rfl
    · intro r hb_r ih_r
      refine r_iload d_C_unload_57 5 rfl ?_
      refine r_iconst (v := nI 5) d_C_unload_59 (by decide) ?_
      refine r_icmp_geN (tgt := 105) d_C_unload_60 (by decide) (by omega) (by omega) (fun c60 => ?_) (fun c60 => ?_)
      · exfalso; first | omega | (revert c60; decide) | cases c60
      refine r_iconst (v := nI 5) d_C_unload_63 (by decide) ?_
      refine r_istore (lv' := [(0, _), (1, _), (2, _), (3, _), (4, _), (5, _), (6, _)]) d_C_unload_64 (by decide) rfl ?_
      refine back_ind (n := 3) (G := fun j => RJ l g M_C_unload (RMX d 0 0) (TQ g 0 0 (QE (none) n (hp g (c.s_gott (ulM c.mat e c.gott a)) m))) XT n (hp g (c.s_gott (ulI c.mat e (ulO2 c.mat e (ulO1 c.mat e c.gott a 5) (a + 15) r) (a + 15 + 3 * r) r 5 j)) m) 0 0 66 [(0, .ref (aC g)), (1, .ref (aGot g)), (2, .int (nI a)), (3, .int (nI e)), (4, .int (nI (a + 15 + 3 * r + j))), (5, .int (nI r)), (6, .int (nI (5 + j)))] []) ?_ ?_ 0 (Nat.zero_le _)
      · skip
        refine r_iload d_C_unload_66 6 rfl ?_
        refine r_bipush (v := nI 8) d_C_unload_68 (by decide) ?_
        refine r_icmp_geN (tgt := 99) d_C_unload_70 (by decide) (by omega) (by omega) (fun c70 => ?_) (fun c70 => ?_)
        rotate_left 1
        · exfalso; first | omega | (revert c70; decide) | cases c70
        refine r_iincN (lv' := [(0, _), (1, _), (2, _), (3, _), (4, _), (5, _), (6, _)]) d_C_unload_99 5 rfl (by decide) rfl ?_
        refine r_goto (tgt := 57) d_C_unload_102 (by decide) ?_
        refine r_less (lv' := [(0, .ref (aC g)), (1, .ref (aGot g)), (2, .int (nI a)), (3, .int (nI e)), (4, .int (nI (a + 15 + 3 * r + 3))), (5, .int (nI (r + 1)))]) (by simp) ?_
        exact r_at ih_r rfl (by simp only [Nat.mul_add, Nat.mul_one, Nat.add_assoc]) rfl
      · intro j hb_j ih_j
        refine r_iload d_C_unload_66 6 rfl ?_
        refine r_bipush (v := nI 8) d_C_unload_68 (by decide) ?_
        refine r_icmp_geN (tgt := 99) d_C_unload_70 (by decide) (by omega) (by omega) (fun c70 => ?_) (fun c70 => ?_)
        · exfalso; first | omega | (revert c70; decide) | cases c70
        refine r_aload_n d_C_unload_73 1 rfl ?_
        refine r_iload d_C_unload_74 4 rfl ?_
        refine r_iload_n d_C_unload_76 3 rfl ?_
        refine r_aload_n d_C_unload_77 0 rfl ?_
        refine rg_C_23 rfl d_C_unload_78 gC rfl ?_
        refine r_iload d_C_unload_81 5 rfl ?_
        refine r_gld d_C_unload_83 gMat (by omega) (by decide) rfl ?_
        refine r_iload d_C_unload_84 6 rfl ?_
        refine r_aldN d_C_unload_86 (gMatR (i := r) (by omega)) (by omega) (by decide) ?_
        refine rc_C_55 rfl d_C_unload_87 (k_C_storeBefore (c := c.s_gott (ulI c.mat e (ulO2 c.mat e (ulO1 c.mat e c.gott a 5) (a + 15) r) (a + 15 + 3 * r) r 5 j)) (by omega) (by omega) (by omega)) (room_ok (d' := d - 1) (by omega) (by decide)) ⟨Nat.le_refl _, Nat.le_refl _⟩ (Nat.le_of_ble_eq_true rfl) ?_
        refine r_iincN (lv' := [(0, _), (1, _), (2, _), (3, _), (4, _), (5, _), (6, _)]) d_C_unload_90 4 rfl (by decide) rfl ?_
        refine r_iincN (lv' := [(0, _), (1, _), (2, _), (3, _), (4, _), (5, _), (6, _)]) d_C_unload_93 6 rfl (by decide) rfl ?_
        refine r_goto (tgt := 66) d_C_unload_96 (by decide) ?_
        exact ih_j
  · intro r hb_r ih_r
    have q1 := o1_le r (by omega)
    refine r_iload d_C_unload_6 5 rfl ?_
    refine r_iconst (v := nI 5) d_C_unload_8 (by decide) ?_
    refine r_icmp_geN (tgt := 54) d_C_unload_9 (by decide) (by omega) (by omega) (fun c9 => ?_) (fun c9 => ?_)
    · exfalso; first | omega | (revert c9; decide) | cases c9
    refine r_iload d_C_unload_12 5 rfl ?_
    refine r_istore (lv' := [(0, _), (1, _), (2, _), (3, _), (4, _), (5, _), (6, _)]) d_C_unload_14 (by decide) rfl ?_
    refine back_ind (n := 5 - r) (G := fun j => RJ l g M_C_unload (RMX d 0 0) (TQ g 0 0 (QE (none) n (hp g (c.s_gott (ulM c.mat e c.gott a)) m))) XT n (hp g (c.s_gott (ulI c.mat e (ulO1 c.mat e c.gott a r) (a + o1 r) r r j)) m) 0 0 16 [(0, .ref (aC g)), (1, .ref (aGot g)), (2, .int (nI a)), (3, .int (nI e)), (4, .int (nI (a + o1 r + j))), (5, .int (nI r)), (6, .int (nI (r + j)))] []) ?_ ?_ 0 (Nat.zero_le _)
    · skip
      refine r_iload d_C_unload_16 6 rfl ?_
      refine r_iconst (v := nI 5) d_C_unload_18 (by decide) ?_
      refine r_icmp_geN (tgt := 48) d_C_unload_19 (by decide) (by omega) (by omega) (fun c19 => ?_) (fun c19 => ?_)
      rotate_left 1
      · exfalso; first | omega | (revert c19; decide) | cases c19
      refine r_iincN (lv' := [(0, _), (1, _), (2, _), (3, _), (4, _), (5, _), (6, _)]) d_C_unload_48 5 rfl (by decide) rfl ?_
      refine r_goto (tgt := 6) d_C_unload_51 (by decide) ?_
      refine r_less (lv' := [(0, .ref (aC g)), (1, .ref (aGot g)), (2, .int (nI a)), (3, .int (nI e)), (4, .int (nI (a + o1 r + (5 - r)))), (5, .int (nI (r + 1)))]) (by simp) ?_
      exact r_at ih_r rfl (by simp only [o1, Nat.add_assoc]) rfl
    · intro j hb_j ih_j
      refine r_iload d_C_unload_16 6 rfl ?_
      refine r_iconst (v := nI 5) d_C_unload_18 (by decide) ?_
      refine r_icmp_geN (tgt := 48) d_C_unload_19 (by decide) (by omega) (by omega) (fun c19 => ?_) (fun c19 => ?_)
      · exfalso; first | omega | (revert c19; decide) | cases c19
      refine r_aload_n d_C_unload_22 1 rfl ?_
      refine r_iload d_C_unload_23 4 rfl ?_
      refine r_iload_n d_C_unload_25 3 rfl ?_
      refine r_aload_n d_C_unload_26 0 rfl ?_
      refine rg_C_23 rfl d_C_unload_27 gC rfl ?_
      refine r_iload d_C_unload_30 5 rfl ?_
      refine r_gld d_C_unload_32 gMat (by omega) (by decide) rfl ?_
      refine r_iload d_C_unload_33 6 rfl ?_
      refine r_aldN d_C_unload_35 (gMatR (i := r) (by omega)) (by omega) (by decide) ?_
      refine rc_C_55 rfl d_C_unload_36 (k_C_storeBefore (c := c.s_gott (ulI c.mat e (ulO1 c.mat e c.gott a r) (a + o1 r) r r j)) (by omega) (by omega) (by omega)) (room_ok (d' := d - 1) (by omega) (by decide)) ⟨Nat.le_refl _, Nat.le_refl _⟩ (Nat.le_of_ble_eq_true rfl) ?_
      refine r_iincN (lv' := [(0, _), (1, _), (2, _), (3, _), (4, _), (5, _), (6, _)]) d_C_unload_39 4 rfl (by decide) rfl ?_
      refine r_iincN (lv' := [(0, _), (1, _), (2, _), (3, _), (4, _), (5, _), (6, _)]) d_C_unload_42 6 rfl (by decide) rfl ?_
      refine r_goto (tgt := 16) d_C_unload_45 (by decide) ?_
      exact ih_j
