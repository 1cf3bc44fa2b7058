def row2 (X : CS) (i : Nat) (R S : Nat → Nat) : CS := (X.s_squ (upN X.squ i R)).s_inv (upN X.inv i S)
theorem row2_self (X : CS) (i : Nat) : row2 X i (X.squ i) (X.inv i) = X := CS.ext2 (squ := upN_self _ _) (inv := upN_self _ _)
theorem row2_squ (X : CS) (i : Nat) (R S : Nat → Nat) : (row2 X i R S).squ i = R := upN_s
theorem row2_inv (X : CS) (i : Nat) (R S : Nat → Nat) : (row2 X i R S).inv i = S := upN_s
theorem row2_squn {X : CS} {i p : Nat} {R S : Nat → Nat} (h : p ≠ i) : (row2 X i R S).squ p = X.squ p := upN_n h
theorem row2_invn {X : CS} {i p : Nat} {R S : Nat → Nat} (h : p ≠ i) : (row2 X i R S).inv p = X.inv p := upN_n h
theorem row2_step (X : CS) (i j a b : Nat) (R S R' S' : Nat → Nat) (h1 : R' = upN R j a) (h2 : S' = upN S j b) : ((row2 X i R S).s_squ (upN (row2 X i R S).squ i (upN ((row2 X i R S).squ i) j a))).s_inv (upN (row2 X i R S).inv i (upN ((row2 X i R S).inv i) j b)) = row2 X i R' S' := by
  subst h1 h2
  refine CS.ext2 (squ := ?_) (inv := ?_)
  · show upN (upN X.squ i R) i (upN ((upN X.squ i R) i) j a) = upN X.squ i (upN R j a)
    rw [upN_step]
  · show upN (upN X.inv i S) i (upN ((upN X.inv i S) i) j b) = upN X.inv i (upN S j b)
    rw [upN_step]
theorem row2_BM {X : CS} {i : Nat} {R S : Nat → Nat} (h1 : BM X.squ) (h2 : BM X.inv) (h3 : ∀ j, R j < 256) (h4 : ∀ j, S j < 256) : BM (row2 X i R S).squ ∧ BM (row2 X i R S).inv := ⟨BM_up h1 h3, BM_up h2 h4⟩
def adF (f : Nat) (Rp R : Nat → Nat) : Nat → Nat → Nat
  | 0 => R
  | k + 1 => upN (adF f Rp R k) k ((adF f Rp R k) k ^^^ mulT f (Rp k))
theorem adF_lt {f : Nat} {Rp R : Nat → Nat} (h : ∀ j, R j < 256) : ∀ k j, adF f Rp R k j < 256
  | 0, j => h j
  | k + 1, j => upN_ind (Q := fun x => x < 256) (adF_lt h k) (xor_lt (adF_lt h k k) (mulT_lt _ _)) j
def clf (c : CS) (p i : Nat) : Nat := if i = p then 0 else c.squ i p
theorem clf_ne {c : CS} {p i : Nat} (h : 0 < clf c p i) : p ≠ i := fun e => by
  unfold clf at h
  rw [if_pos e.symm] at h
  omega
def clJ (X : CS) (p i f j : Nat) : CS := row2 X i (adF f (X.squ p) (X.squ i) j) (adF f (X.inv p) (X.inv i) j)
theorem clJ_squ (X : CS) (p i f j : Nat) : (clJ X p i f j).squ i = adF f (X.squ p) (X.squ i) j := upN_s
theorem clJ_inv (X : CS) (p i f j : Nat) : (clJ X p i f j).inv i = adF f (X.inv p) (X.inv i) j := upN_s
theorem clJ_squn {X : CS} {p i f j : Nat} (h : p ≠ i) : (clJ X p i f j).squ p = X.squ p := upN_n h
theorem clJ_invn {X : CS} {p i f j : Nat} (h : p ≠ i) : (clJ X p i f j).inv p = X.inv p := upN_n h
theorem acopy_room {d mc ms : Nat} (h : 1 ≤ d) : 1 ≤ (RMX d mc ms).frames ∧ (([] : List Value).map fun v => v.category).sum + (nativeFrameWords "java/lang/System" "arraycopy" 5 + 11) ≤ (RMX d mc ms).locals := ⟨h, by
  have q : nativeFrameWords "java/lang/System" "arraycopy" 5 ≤ 25 := by decide +kernel
  show 0 + (nativeFrameWords "java/lang/System" "arraycopy" 5 + 11) ≤ 36 * d
  omega⟩
def clC (c : CS) (p n : Nat) : Nat → CS
  | 0 => c
  | i + 1 => if clf (clC c p n i) p i = 0 then clC c p n i else clJ (clC c p n i) p i (clf (clC c p n i) p i) n
theorem clC_z {c : CS} {p n i : Nat} (h : clf (clC c p n i) p i = 0) : clC c p n (i + 1) = clC c p n i := if_pos h
theorem clC_p {c : CS} {p n i : Nat} (h : 0 < clf (clC c p n i) p i) : clC c p n (i + 1) = clJ (clC c p n i) p i (clf (clC c p n i) p i) n := if_neg (by omega)
theorem clC_BM {c : CS} {p n : Nat} (h1 : BM c.squ) (h2 : BM c.inv) : ∀ i, BM (clC c p n i).squ ∧ BM (clC c p n i).inv
  | 0 => ⟨h1, h2⟩
  | i + 1 => by
    have ih := clC_BM (p := p) (n := n) h1 h2 i
    unfold clC
    split
    · exact ih
    · exact row2_BM ih.1 ih.2 (adF_lt (ih.1 i) n) (adF_lt (ih.2 i) n)
theorem clf_lt {c : CS} {p i : Nat} (h : BM c.squ) : clf c p i < 256 := by
  unfold clf
  split
  · decide
  · exact h i p
theorem k_C_clearColumn {l : Launch} {g : GX} {c : CS} {m : MS} {n d : Nat} (hd : 2 ≤ d) {p w : Nat} (hp8 : p < 8) (hw : w ≤ 8) (hw0 : 0 < w) (h1 : BM c.squ) (h2 : BM c.inv) : CE l g M_C_clearColumn d 0 0 [.ref (aC g), .int (nI p), .int (nI w)] n (hp g c m) (none) n (hp g (clC c p w w) m) := by
  refine CE.of (by decide +kernel) (lv := [(0, .ref (aC g)), (1, .int (nI p)), (2, .int (nI w))]) rfl (Nat.le_of_ble_eq_true rfl) ?_
  refine r_iconst (v := nI 0) d_C_clearColumn_0 (by decide) ?_
  refine r_istore_n (lv' := [(0, _), (1, _), (2, _), (3, _)]) d_C_clearColumn_1 (by decide) rfl ?_
  refine r_less (lv' := [(0, .ref (aC g)), (1, .int (nI p)), (2, .int (nI w)), (3, .int (nI 0))]) (by simp) ?_
  refine back_ind (n := w) (G := fun i => RJ l g M_C_clearColumn (RMX d 0 0) (TQ g 0 0 (QE (none) n (hp g (clC c p w w) m))) XT n (hp g (clC c p w i) m) 0 0 2 [(0, .ref (aC g)), (1, .int (nI p)), (2, .int (nI w)), (3, .int (nI i))] []) ?_ ?_ 0 (Nat.zero_le _)
  · skip
    refine r_iload_n d_C_clearColumn_2 3 rfl ?_
    refine r_iload_n d_C_clearColumn_3 2 rfl ?_
    refine r_icmp_geN (tgt := 112) d_C_clearColumn_4 (by decide) (by omega) (by omega) (fun c4 => ?_) (fun c4 => ?_)
    rotate_left 1
    · exfalso; first | omega | (revert c4; decide) | cases c4
    refine r_return d_C_clearColumn_112 rfl ⟨rfl, rfl, ?_⟩
    · rfl
  · intro i hb_i ih_i
    have hX := clC_BM (p := p) (n := w) h1 h2 i
    have hfl := clf_lt (p := p) (i := i) hX.1
    refine r_iload_n d_C_clearColumn_2 3 rfl ?_
    refine r_iload_n d_C_clearColumn_3 2 rfl ?_
    refine r_icmp_geN (tgt := 112) d_C_clearColumn_4 (by decide) (by omega) (by omega) (fun c4 => ?_) (fun c4 => ?_)
    · exfalso; first | omega | (revert c4; decide) | cases c4
    refine r_iload_n d_C_clearColumn_7 3 rfl ?_
    refine r_iload_n d_C_clearColumn_8 1 rfl ?_
    refine r_icmp_neN (tgt := 16) d_C_clearColumn_9 (by decide) (by omega) (by omega) (fun c9 => ?_) (fun c9 => ?_)
    · skip
      refine r_aload_n d_C_clearColumn_16 0 rfl ?_
      refine rg_C_29 rfl d_C_clearColumn_17 gC rfl ?_
      refine r_iload_n d_C_clearColumn_20 3 rfl ?_
      refine r_gld d_C_clearColumn_21 gSqu (by omega) (by decide) rfl ?_
      refine r_iload_n d_C_clearColumn_22 1 rfl ?_
      refine r_aldN d_C_clearColumn_23 (gSquR (i := i) (by omega)) (by omega) (by decide) ?_
      refine r_top (y := nI (clf (clC c p w i) p i)) (congrArg nI (by simp [clf, c9])) ?_
      refine r_istore (lv' := [(0, _), (1, _), (2, _), (3, _), (4, _)]) d_C_clearColumn_24 (by decide) rfl ?_
      rcases Nat.eq_zero_or_pos (clf (clC c p w i) p i) with hf | hf
      · skip
        refine r_iconst (v := nI 0) d_C_clearColumn_26 (by decide) ?_
        refine r_istore (lv' := [(0, _), (1, _), (2, _), (3, _), (4, _), (5, _)]) d_C_clearColumn_27 (by decide) rfl ?_
        refine r_iload d_C_clearColumn_29 5 rfl ?_
        refine r_iload_n d_C_clearColumn_31 2 rfl ?_
        refine r_icmp_geN (tgt := 106) d_C_clearColumn_32 (by decide) (by omega) (by omega) (fun c32 => ?_) (fun c32 => ?_)
        · exfalso; first | omega | (revert c32; decide) | cases c32
        refine r_iload d_C_clearColumn_35 4 rfl ?_
        refine r_if_eqN (tgt := 106) d_C_clearColumn_37 (by decide) (by omega) (fun c37 => ?_) (fun c37 => ?_)
        rotate_left 1
        · exfalso; first | omega | (revert c37; decide) | cases c37
        refine r_iincN (lv' := [(0, _), (1, _), (2, _), (3, _), (4, _), (5, _)]) d_C_clearColumn_106 3 rfl (by decide) rfl ?_
        refine r_goto (tgt := 2) d_C_clearColumn_109 (by decide) ?_
        refine r_less (lv' := [(0, .ref (aC g)), (1, .int (nI p)), (2, .int (nI w)), (3, .int (nI (i + 1)))]) (by simp) ?_
        exact r_at ih_i (by rw [clC_z hf]) rfl rfl
      · skip
        refine r_iconst (v := nI 0) d_C_clearColumn_26 (by decide) ?_
        refine r_istore (lv' := [(0, _), (1, _), (2, _), (3, _), (4, _), (5, _)]) d_C_clearColumn_27 (by decide) rfl ?_
        have hpi := clf_ne hf
        refine r_heap (h' := hp g (clJ (clC c p w i) p i (clf (clC c p w i) p i) 0) m) (by unfold clJ; simp only [adF]; rw [row2_self]) ?_
        refine back_ind (n := w) (G := fun j => RJ l g M_C_clearColumn (RMX d 0 0) (TQ g 0 0 (QE (none) n (hp g (clC c p w w) m))) XT n (hp g (clJ (clC c p w i) p i (clf (clC c p w i) p i) j) m) 0 0 29 [(0, .ref (aC g)), (1, .int (nI p)), (2, .int (nI w)), (3, .int (nI i)), (4, .int (nI (clf (clC c p w i) p i))), (5, .int (nI j))] []) ?_ ?_ 0 (Nat.zero_le _)
        · skip
          refine r_iload d_C_clearColumn_29 5 rfl ?_
          refine r_iload_n d_C_clearColumn_31 2 rfl ?_
          refine r_icmp_geN (tgt := 106) d_C_clearColumn_32 (by decide) (by omega) (by omega) (fun c32 => ?_) (fun c32 => ?_)
          rotate_left 1
          · exfalso; first | omega | (revert c32; decide) | cases c32
          refine r_iincN (lv' := [(0, _), (1, _), (2, _), (3, _), (4, _), (5, _)]) d_C_clearColumn_106 3 rfl (by decide) rfl ?_
          refine r_goto (tgt := 2) d_C_clearColumn_109 (by decide) ?_
          refine r_less (lv' := [(0, .ref (aC g)), (1, .int (nI p)), (2, .int (nI w)), (3, .int (nI (i + 1)))]) (by simp) ?_
          exact r_at ih_i (by rw [clC_p hf]) rfl rfl
        · intro j hb_j ih_j
          have hJ : BM (clJ (clC c p w i) p i (clf (clC c p w i) p i) j).squ ∧ BM (clJ (clC c p w i) p i (clf (clC c p w i) p i) j).inv := row2_BM hX.1 hX.2 (adF_lt (hX.1 i) j) (adF_lt (hX.2 i) j)
          refine r_iload d_C_clearColumn_29 5 rfl ?_
          refine r_iload_n d_C_clearColumn_31 2 rfl ?_
          refine r_icmp_geN (tgt := 106) d_C_clearColumn_32 (by decide) (by omega) (by omega) (fun c32 => ?_) (fun c32 => ?_)
          · exfalso; first | omega | (revert c32; decide) | cases c32
          refine r_iload d_C_clearColumn_35 4 rfl ?_
          refine r_if_eqN (tgt := 106) d_C_clearColumn_37 (by decide) (by omega) (fun c37 => ?_) (fun c37 => ?_)
          · exfalso; first | omega | (revert c37; decide) | cases c37
          refine r_aload_n d_C_clearColumn_40 0 rfl ?_
          refine rg_C_29 rfl d_C_clearColumn_41 gC rfl ?_
          refine r_iload_n d_C_clearColumn_44 3 rfl ?_
          refine r_gld d_C_clearColumn_45 gSqu (by omega) (by decide) rfl ?_
          refine r_iload d_C_clearColumn_46 5 rfl ?_
          refine r_dup2 d_C_clearColumn_48 rfl rfl ?_
          refine r_aldN d_C_clearColumn_49 (gSquR (i := i) (by omega)) (by omega) (by decide) ?_
          refine r_aload_n d_C_clearColumn_50 0 rfl ?_
          refine rg_C_12 rfl d_C_clearColumn_51 gC rfl ?_
          refine r_iload d_C_clearColumn_54 4 rfl ?_
          refine r_aload_n d_C_clearColumn_56 0 rfl ?_
          refine rg_C_29 rfl d_C_clearColumn_57 gC rfl ?_
          refine r_iload_n d_C_clearColumn_60 1 rfl ?_
          refine r_gld d_C_clearColumn_61 gSqu (by omega) (by decide) rfl ?_
          refine r_iload d_C_clearColumn_62 5 rfl ?_
          refine r_aldN d_C_clearColumn_64 (gSquR (i := p) (by omega)) (by omega) (by decide) ?_
          refine rc_C_39 rfl d_C_clearColumn_65 (k_F_product (c := clJ (clC c p w i) p i (clf (clC c p w i) p i) j) (by omega) hfl (hJ.1 p j)) gF (room_ok (d' := d - 1) (by omega) (by decide)) ⟨Nat.le_refl _, Nat.le_refl _⟩ (Nat.le_of_ble_eq_true rfl) ?_
          refine r_ixorN d_C_clearColumn_68 ?_
          refine r_astN d_C_clearColumn_69 (gSquR (i := i) (by omega)) (by omega) (by decide) (wsqu (i := i) (by omega)) ?_
          refine r_aload_n d_C_clearColumn_70 0 rfl ?_
          refine rg_C_32 rfl d_C_clearColumn_71 gC rfl ?_
          refine r_iload_n d_C_clearColumn_74 3 rfl ?_
          refine r_gld d_C_clearColumn_75 gInv (by omega) (by decide) rfl ?_
          refine r_iload d_C_clearColumn_76 5 rfl ?_
          refine r_dup2 d_C_clearColumn_78 rfl rfl ?_
          refine r_aldN d_C_clearColumn_79 (gInvR (i := i) (by omega)) (by omega) (by decide) ?_
          refine r_aload_n d_C_clearColumn_80 0 rfl ?_
          refine rg_C_12 rfl d_C_clearColumn_81 gC rfl ?_
          refine r_iload d_C_clearColumn_84 4 rfl ?_
          refine r_aload_n d_C_clearColumn_86 0 rfl ?_
          refine rg_C_32 rfl d_C_clearColumn_87 gC rfl ?_
          refine r_iload_n d_C_clearColumn_90 1 rfl ?_
          refine r_gld d_C_clearColumn_91 gInv (by omega) (by decide) rfl ?_
          refine r_iload d_C_clearColumn_92 5 rfl ?_
          refine r_aldN d_C_clearColumn_94 (gInvR (i := p) (by omega)) (by omega) (by decide) ?_
          refine rc_C_39 rfl d_C_clearColumn_95 (k_F_product (c := (clJ (clC c p w i) p i (clf (clC c p w i) p i) j).s_squ (upN (clJ (clC c p w i) p i (clf (clC c p w i) p i) j).squ i (upN ((clJ (clC c p w i) p i (clf (clC c p w i) p i) j).squ i) j (((clJ (clC c p w i) p i (clf (clC c p w i) p i) j).squ i j) ^^^ (mulT (clf (clC c p w i) p i) ((clJ (clC c p w i) p i (clf (clC c p w i) p i) j).squ p j)))))) (by omega) hfl (hJ.2 p j)) gF (room_ok (d' := d - 1) (by omega) (by decide)) ⟨Nat.le_refl _, Nat.le_refl _⟩ (Nat.le_of_ble_eq_true rfl) ?_
          refine r_ixorN d_C_clearColumn_98 ?_
          refine r_astN d_C_clearColumn_99 (gInvR (i := i) (by omega)) (by omega) (by decide) (winv (i := i) (by omega)) ?_
          refine r_iincN (lv' := [(0, _), (1, _), (2, _), (3, _), (4, _), (5, _)]) d_C_clearColumn_100 5 rfl (by decide) rfl ?_
          refine r_goto (tgt := 29) d_C_clearColumn_103 (by decide) ?_
          exact r_at ih_j (congrArg (fun z => hp g z m) (row2_step _ _ _ _ _ _ _ _ _ (by rw [clJ_squn hpi, clJ_squ]; rfl) (by show _ = upN _ j ((clJ (clC c p w i) p i (clf (clC c p w i) p i) j).inv i j ^^^ mulT (clf (clC c p w i) p i) ((clJ (clC c p w i) p i (clf (clC c p w i) p i) j).inv p j)); rw [clJ_invn hpi, clJ_inv]; rfl))) rfl rfl
    · skip
      refine r_iconst (v := nI 0) d_C_clearColumn_12 (by decide) ?_
      refine r_goto (tgt := 24) d_C_clearColumn_13 (by decide) ?_
      refine r_top (y := nI (clf (clC c p w i) p i)) (congrArg nI (by simp [clf, c9])) ?_
      refine r_istore (lv' := [(0, _), (1, _), (2, _), (3, _), (4, _)]) d_C_clearColumn_24 (by decide) rfl ?_
      rcases Nat.eq_zero_or_pos (clf (clC c p w i) p i) with hf | hf
      · skip
        refine r_iconst (v := nI 0) d_C_clearColumn_26 (by decide) ?_
        refine r_istore (lv' := [(0, _), (1, _), (2, _), (3, _), (4, _), (5, _)]) d_C_clearColumn_27 (by decide) rfl ?_
        refine r_iload d_C_clearColumn_29 5 rfl ?_
        refine r_iload_n d_C_clearColumn_31 2 rfl ?_
        refine r_icmp_geN (tgt := 106) d_C_clearColumn_32 (by decide) (by omega) (by omega) (fun c32 => ?_) (fun c32 => ?_)
        · exfalso; first | omega | (revert c32; decide) | cases c32
        refine r_iload d_C_clearColumn_35 4 rfl ?_
        refine r_if_eqN (tgt := 106) d_C_clearColumn_37 (by decide) (by omega) (fun c37 => ?_) (fun c37 => ?_)
        rotate_left 1
        · exfalso; first | omega | (revert c37; decide) | cases c37
        refine r_iincN (lv' := [(0, _), (1, _), (2, _), (3, _), (4, _), (5, _)]) d_C_clearColumn_106 3 rfl (by decide) rfl ?_
        refine r_goto (tgt := 2) d_C_clearColumn_109 (by decide) ?_
        refine r_less (lv' := [(0, .ref (aC g)), (1, .int (nI p)), (2, .int (nI w)), (3, .int (nI (i + 1)))]) (by simp) ?_
        exact r_at ih_i (by rw [clC_z hf]) rfl rfl
      · skip
        refine r_iconst (v := nI 0) d_C_clearColumn_26 (by decide) ?_
        refine r_istore (lv' := [(0, _), (1, _), (2, _), (3, _), (4, _), (5, _)]) d_C_clearColumn_27 (by decide) rfl ?_
        have hpi := clf_ne hf
        refine r_heap (h' := hp g (clJ (clC c p w i) p i (clf (clC c p w i) p i) 0) m) (by unfold clJ; simp only [adF]; rw [row2_self]) ?_
        refine back_ind (n := w) (G := fun j => RJ l g M_C_clearColumn (RMX d 0 0) (TQ g 0 0 (QE (none) n (hp g (clC c p w w) m))) XT n (hp g (clJ (clC c p w i) p i (clf (clC c p w i) p i) j) m) 0 0 29 [(0, .ref (aC g)), (1, .int (nI p)), (2, .int (nI w)), (3, .int (nI i)), (4, .int (nI (clf (clC c p w i) p i))), (5, .int (nI j))] []) ?_ ?_ 0 (Nat.zero_le _)
        · skip
          refine r_iload d_C_clearColumn_29 5 rfl ?_
          refine r_iload_n d_C_clearColumn_31 2 rfl ?_
          refine r_icmp_geN (tgt := 106) d_C_clearColumn_32 (by decide) (by omega) (by omega) (fun c32 => ?_) (fun c32 => ?_)
          rotate_left 1
          · exfalso; first | omega | (revert c32; decide) | cases c32
          refine r_iincN (lv' := [(0, _), (1, _), (2, _), (3, _), (4, _), (5, _)]) d_C_clearColumn_106 3 rfl (by decide) rfl ?_
          refine r_goto (tgt := 2) d_C_clearColumn_109 (by decide) ?_
          refine r_less (lv' := [(0, .ref (aC g)), (1, .int (nI p)), (2, .int (nI w)), (3, .int (nI (i + 1)))]) (by simp) ?_
          exact r_at ih_i (by rw [clC_p hf]) rfl rfl
        · intro j hb_j ih_j
          have hJ : BM (clJ (clC c p w i) p i (clf (clC c p w i) p i) j).squ ∧ BM (clJ (clC c p w i) p i (clf (clC c p w i) p i) j).inv := row2_BM hX.1 hX.2 (adF_lt (hX.1 i) j) (adF_lt (hX.2 i) j)
          refine r_iload d_C_clearColumn_29 5 rfl ?_
          refine r_iload_n d_C_clearColumn_31 2 rfl ?_
          refine r_icmp_geN (tgt := 106) d_C_clearColumn_32 (by decide) (by omega) (by omega) (fun c32 => ?_) (fun c32 => ?_)
          · exfalso; first | omega | (revert c32; decide) | cases c32
          refine r_iload d_C_clearColumn_35 4 rfl ?_
          refine r_if_eqN (tgt := 106) d_C_clearColumn_37 (by decide) (by omega) (fun c37 => ?_) (fun c37 => ?_)
          · exfalso; first | omega | (revert c37; decide) | cases c37
          refine r_aload_n d_C_clearColumn_40 0 rfl ?_
          refine rg_C_29 rfl d_C_clearColumn_41 gC rfl ?_
          refine r_iload_n d_C_clearColumn_44 3 rfl ?_
          refine r_gld d_C_clearColumn_45 gSqu (by omega) (by decide) rfl ?_
          refine r_iload d_C_clearColumn_46 5 rfl ?_
          refine r_dup2 d_C_clearColumn_48 rfl rfl ?_
          refine r_aldN d_C_clearColumn_49 (gSquR (i := i) (by omega)) (by omega) (by decide) ?_
          refine r_aload_n d_C_clearColumn_50 0 rfl ?_
          refine rg_C_12 rfl d_C_clearColumn_51 gC rfl ?_
          refine r_iload d_C_clearColumn_54 4 rfl ?_
          refine r_aload_n d_C_clearColumn_56 0 rfl ?_
          refine rg_C_29 rfl d_C_clearColumn_57 gC rfl ?_
          refine r_iload_n d_C_clearColumn_60 1 rfl ?_
          refine r_gld d_C_clearColumn_61 gSqu (by omega) (by decide) rfl ?_
          refine r_iload d_C_clearColumn_62 5 rfl ?_
          refine r_aldN d_C_clearColumn_64 (gSquR (i := p) (by omega)) (by omega) (by decide) ?_
          refine rc_C_39 rfl d_C_clearColumn_65 (k_F_product (c := clJ (clC c p w i) p i (clf (clC c p w i) p i) j) (by omega) hfl (hJ.1 p j)) gF (room_ok (d' := d - 1) (by omega) (by decide)) ⟨Nat.le_refl _, Nat.le_refl _⟩ (Nat.le_of_ble_eq_true rfl) ?_
          refine r_ixorN d_C_clearColumn_68 ?_
          refine r_astN d_C_clearColumn_69 (gSquR (i := i) (by omega)) (by omega) (by decide) (wsqu (i := i) (by omega)) ?_
          refine r_aload_n d_C_clearColumn_70 0 rfl ?_
          refine rg_C_32 rfl d_C_clearColumn_71 gC rfl ?_
          refine r_iload_n d_C_clearColumn_74 3 rfl ?_
          refine r_gld d_C_clearColumn_75 gInv (by omega) (by decide) rfl ?_
          refine r_iload d_C_clearColumn_76 5 rfl ?_
          refine r_dup2 d_C_clearColumn_78 rfl rfl ?_
          refine r_aldN d_C_clearColumn_79 (gInvR (i := i) (by omega)) (by omega) (by decide) ?_
          refine r_aload_n d_C_clearColumn_80 0 rfl ?_
          refine rg_C_12 rfl d_C_clearColumn_81 gC rfl ?_
          refine r_iload d_C_clearColumn_84 4 rfl ?_
          refine r_aload_n d_C_clearColumn_86 0 rfl ?_
          refine rg_C_32 rfl d_C_clearColumn_87 gC rfl ?_
          refine r_iload_n d_C_clearColumn_90 1 rfl ?_
          refine r_gld d_C_clearColumn_91 gInv (by omega) (by decide) rfl ?_
          refine r_iload d_C_clearColumn_92 5 rfl ?_
          refine r_aldN d_C_clearColumn_94 (gInvR (i := p) (by omega)) (by omega) (by decide) ?_
          refine rc_C_39 rfl d_C_clearColumn_95 (k_F_product (c := (clJ (clC c p w i) p i (clf (clC c p w i) p i) j).s_squ (upN (clJ (clC c p w i) p i (clf (clC c p w i) p i) j).squ i (upN ((clJ (clC c p w i) p i (clf (clC c p w i) p i) j).squ i) j (((clJ (clC c p w i) p i (clf (clC c p w i) p i) j).squ i j) ^^^ (mulT (clf (clC c p w i) p i) ((clJ (clC c p w i) p i (clf (clC c p w i) p i) j).squ p j)))))) (by omega) hfl (hJ.2 p j)) gF (room_ok (d' := d - 1) (by omega) (by decide)) ⟨Nat.le_refl _, Nat.le_refl _⟩ (Nat.le_of_ble_eq_true rfl) ?_
          refine r_ixorN d_C_clearColumn_98 ?_
          refine r_astN d_C_clearColumn_99 (gInvR (i := i) (by omega)) (by omega) (by decide) (winv (i := i) (by omega)) ?_
          refine r_iincN (lv' := [(0, _), (1, _), (2, _), (3, _), (4, _), (5, _)]) d_C_clearColumn_100 5 rfl (by decide) rfl ?_
          refine r_goto (tgt := 29) d_C_clearColumn_103 (by decide) ?_
          exact r_at ih_j (congrArg (fun z => hp g z m) (row2_step _ _ _ _ _ _ _ _ _ (by rw [clJ_squn hpi, clJ_squ]; rfl) (by show _ = upN _ j ((clJ (clC c p w i) p i (clf (clC c p w i) p i) j).inv i j ^^^ mulT (clf (clC c p w i) p i) ((clJ (clC c p w i) p i (clf (clC c p w i) p i) j).inv p j)); rw [clJ_invn hpi, clJ_inv]; rfl))) rfl rfl
def fill2 (F : Nat → Nat → Nat) (n : Nat) (Q : Nat → Nat → Nat) : Nat → Nat → Nat → Nat
  | 0 => Q
  | i + 1 => upN (fill2 F n Q i) i (fillF (F i) ((fill2 F n Q i) i) n)
theorem fillF_lt {f R : Nat → Nat} (h1 : ∀ j, f j < 256) (h2 : ∀ j, R j < 256) : ∀ k j, fillF f R k j < 256
  | 0, j => h2 j
  | k + 1, j => upN_ind (Q := fun x => x < 256) (fillF_lt h1 h2 k) (h1 k) j
theorem fill2_lt {F : Nat → Nat → Nat} {n : Nat} {Q : Nat → Nat → Nat} (h1 : BM F) (h2 : BM Q) : ∀ i, BM (fill2 F n Q i)
  | 0 => h2
  | i + 1 => BM_up (fill2_lt h1 h2 i) (fillF_lt (h1 i) (fill2_lt h1 h2 i i) n)
def idM (i j : Nat) : Nat := if i = j then 1 else 0
theorem idM_lt (i j : Nat) : idM i j < 256 := by unfold idM; split <;> decide
def rwM (c : CS) (i : Nat) : Nat → Nat := rowT (c.chos i)
def iv1 (c : CS) (n i : Nat) : CS := (c.s_squ (fill2 (rwM c) n c.squ i)).s_inv (fill2 idM n c.inv i)
theorem iv1_s (c : CS) (n i : Nat) : iv1 c n (i + 1) = row2 (iv1 c n i) i (fillF (rwM c i) ((iv1 c n i).squ i) n) (fillF (idM i) ((iv1 c n i).inv i) n) := rfl
def scF (x : Nat) (R : Nat → Nat) : Nat → Nat → Nat
  | 0 => R
  | k + 1 => upN (scF x R k) k (quoT ((scF x R k) k) x)
theorem scF_lt {x : Nat} {R : Nat → Nat} (h : ∀ j, R j < 256) : ∀ k j, scF x R k j < 256
  | 0, j => h j
  | k + 1, j => upN_ind (Q := fun y => y < 256) (scF_lt h k) (quoT_lt _ _) j
def scJ (X : CS) (p j : Nat) : CS := row2 X p (scF (X.squ p p) (X.squ p) j) (scF (X.squ p p) (X.inv p) j)
theorem scJ_squ (X : CS) (p j : Nat) : (scJ X p j).squ p = scF (X.squ p p) (X.squ p) j := upN_s
theorem scJ_inv (X : CS) (p j : Nat) : (scJ X p j).inv p = scF (X.squ p p) (X.inv p) j := upN_s
def ivP (c : CS) (n : Nat) : Nat → CS
  | 0 => iv1 c n n
  | p + 1 => clC (scJ (ivP c n p) p n) p n n
theorem iv1_BM {c : CS} {n : Nat} (h1 : BM c.squ) (h2 : BM c.inv) (i : Nat) : BM (iv1 c n i).squ ∧ BM (iv1 c n i).inv := ⟨fill2_lt (fun i j => rowT_lt _ _) h1 i, fill2_lt idM_lt h2 i⟩
theorem scJ_BM {X : CS} {p : Nat} (h : BM X.squ ∧ BM X.inv) (j : Nat) : BM (scJ X p j).squ ∧ BM (scJ X p j).inv := row2_BM h.1 h.2 (scF_lt (h.1 p) j) (scF_lt (h.2 p) j)
theorem ivP_BM {c : CS} {n : Nat} (h1 : BM c.squ) (h2 : BM c.inv) : ∀ p, BM (ivP c n p).squ ∧ BM (ivP c n p).inv
  | 0 => iv1_BM h1 h2 n
  | p + 1 => by
    have ih := scJ_BM (p := p) (ivP_BM (n := n) h1 h2 p) n
    exact clC_BM ih.1 ih.2 n
theorem k_C_invert {l : Launch} {g : GX} {c : CS} {m : MS} {n d : Nat} (hd : 3 ≤ d) {w : Nat} (hw : w ≤ 8) (hw0 : 0 < w) (h1 : BM c.squ) (h2 : BM c.inv) (hch : ∀ k, k < w → c.chos k < 12) : CE l g M_C_invert d 0 0 [.ref (aC g), .ref (aCho g), .int (nI w)] n (hp g c m) (none) n (hp g (ivP c w w) m) := by
  refine CE.of (by decide +kernel) (lv := [(0, .ref (aC g)), (1, .ref (aCho g)), (2, .int (nI w))]) rfl (Nat.le_of_ble_eq_true rfl) ?_
  refine r_iload_n d_C_invert_0 2 rfl ?_
  refine r_bipush (v := nI 8) d_C_invert_1 (by decide) ?_
  refine r_icmp_gtN (tgt := 12) d_C_invert_3 (by decide) (by omega) (by omega) (fun c3 => ?_) (fun c3 => ?_)
  · exfalso; first | omega | (revert c3; decide) | cases c3
  refine r_iload_n d_C_invert_6 2 rfl ?_
  refine r_aload_n d_C_invert_7 1 rfl ?_
  refine r_alen (t := 0) (v := nI 8) rfl d_C_invert_8 gCho rfl ?_
  refine r_icmp_leN (tgt := 13) d_C_invert_9 (by decide) (by omega) (by omega) (fun c9 => ?_) (fun c9 => ?_)
  rotate_left 1
  · exfalso; first | omega | (revert c9; decide) | cases c9
  refine r_iconst (v := nI 0) d_C_invert_13 (by decide) ?_
  refine r_istore_n (lv' := [(0, _), (1, _), (2, _), (3, _)]) d_C_invert_14 (by decide) rfl ?_
  refine r_less (lv' := [(0, .ref (aC g)), (1, .ref (aCho g)), (2, .int (nI w)), (3, .int (nI 0))]) (by simp) ?_
  refine back_ind (n := w) (G := fun i => RJ l g M_C_invert (RMX d 0 0) (TQ g 0 0 (QE (none) n (hp g (ivP c w w) m))) XT n (hp g (iv1 c w i) m) 0 0 15 [(0, .ref (aC g)), (1, .ref (aCho g)), (2, .int (nI w)), (3, .int (nI i))] []) ?_ ?_ 0 (Nat.zero_le _)
  · skip
    refine r_iload_n d_C_invert_15 3 rfl ?_
    refine r_iload_n d_C_invert_16 2 rfl ?_
    refine r_icmp_geN (tgt := 79) d_C_invert_17 (by decide) (by omega) (by omega) (fun c17 => ?_) (fun c17 => ?_)
    rotate_left 1
    · exfalso; first | omega | (revert c17; decide) | cases c17
    refine r_iconst (v := nI 0) d_C_invert_79 (by decide) ?_
    refine r_istore_n (lv' := [(0, _), (1, _), (2, _), (3, _)]) d_C_invert_80 (by decide) rfl ?_
    refine r_less (lv' := [(0, .ref (aC g)), (1, .ref (aCho g)), (2, .int (nI w)), (3, .int (nI 0))]) (by simp) ?_
    refine back_ind (n := w) (G := fun p => RJ l g M_C_invert (RMX d 0 0) (TQ g 0 0 (QE (none) n (hp g (ivP c w w) m))) XT n (hp g (ivP c w p) m) 0 0 81 [(0, .ref (aC g)), (1, .ref (aCho g)), (2, .int (nI w)), (3, .int (nI p))] []) ?_ ?_ 0 (Nat.zero_le _)
    · skip
      refine r_iload_n d_C_invert_81 3 rfl ?_
      refine r_iload_n d_C_invert_82 2 rfl ?_
      refine r_icmp_geN (tgt := 177) d_C_invert_83 (by decide) (by omega) (by omega) (fun c83 => ?_) (fun c83 => ?_)
      rotate_left 1
      · exfalso; first | omega | (revert c83; decide) | cases c83
      refine r_return d_C_invert_177 rfl ⟨rfl, rfl, ?_⟩
      · rfl
    · intro p hb_p ih_p
      have hP := ivP_BM (n := w) h1 h2 p
      refine r_iload_n d_C_invert_81 3 rfl ?_
      refine r_iload_n d_C_invert_82 2 rfl ?_
      refine r_icmp_geN (tgt := 177) d_C_invert_83 (by decide) (by omega) (by omega) (fun c83 => ?_) (fun c83 => ?_)
      · exfalso; first | omega | (revert c83; decide) | cases c83
      refine r_aload_n d_C_invert_86 0 rfl ?_
      refine rg_C_29 rfl d_C_invert_87 gC rfl ?_
      refine r_iload_n d_C_invert_90 3 rfl ?_
      refine r_gld d_C_invert_91 gSqu (by omega) (by decide) rfl ?_
      refine r_iload_n d_C_invert_92 3 rfl ?_
      refine r_aldN d_C_invert_93 (gSquR (i := p) (by omega)) (by omega) (by decide) ?_
      refine r_istore (lv' := [(0, _), (1, _), (2, _), (3, _), (4, _)]) d_C_invert_94 (by decide) rfl ?_
      refine r_iconst (v := nI 0) d_C_invert_96 (by decide) ?_
      refine r_istore (lv' := [(0, _), (1, _), (2, _), (3, _), (4, _), (5, _)]) d_C_invert_97 (by decide) rfl ?_
      refine r_heap (h' := hp g (scJ (ivP c w p) p 0) m) (by unfold scJ; simp only [scF]; rw [row2_self]) ?_
      refine back_ind (n := w) (G := fun j => RJ l g M_C_invert (RMX d 0 0) (TQ g 0 0 (QE (none) n (hp g (ivP c w w) m))) XT n (hp g (scJ (ivP c w p) p j) m) 0 0 99 [(0, .ref (aC g)), (1, .ref (aCho g)), (2, .int (nI w)), (3, .int (nI p)), (4, .int (nI ((ivP c w p).squ p p))), (5, .int (nI j))] []) ?_ ?_ 0 (Nat.zero_le _)
      · skip
        refine r_iload d_C_invert_99 5 rfl ?_
        refine r_iload_n d_C_invert_101 2 rfl ?_
        refine r_icmp_geN (tgt := 165) d_C_invert_102 (by decide) (by omega) (by omega) (fun c102 => ?_) (fun c102 => ?_)
        rotate_left 1
        · exfalso; first | omega | (revert c102; decide) | cases c102
        have hS := scJ_BM (p := p) hP w
        refine r_aload_n d_C_invert_165 0 rfl ?_
        refine r_iload_n d_C_invert_166 3 rfl ?_
        refine r_iload_n d_C_invert_167 2 rfl ?_
        refine rc_C_65 rfl d_C_invert_168 (k_C_clearColumn (c := scJ (ivP c w p) p w) (by omega) (by omega) hw hw0 hS.1 hS.2) gC (room_ok (d' := d - 1) (by omega) (by decide)) ⟨Nat.le_refl _, Nat.le_refl _⟩ (Nat.le_of_ble_eq_true rfl) ?_
        refine r_iincN (lv' := [(0, _), (1, _), (2, _), (3, _), (4, _), (5, _)]) d_C_invert_171 3 rfl (by decide) rfl ?_
        refine r_goto (tgt := 81) d_C_invert_174 (by decide) ?_
        refine r_less (lv' := [(0, .ref (aC g)), (1, .ref (aCho g)), (2, .int (nI w)), (3, .int (nI (p + 1)))]) (by simp) ?_
        exact ih_p
      · intro j hb_j ih_j
        have hJ := scJ_BM (p := p) hP j
        have hpp := hP.1 p p
        refine r_iload d_C_invert_99 5 rfl ?_
        refine r_iload_n d_C_invert_101 2 rfl ?_
        refine r_icmp_geN (tgt := 165) d_C_invert_102 (by decide) (by omega) (by omega) (fun c102 => ?_) (fun c102 => ?_)
        · exfalso; first | omega | (revert c102; decide) | cases c102
        refine r_aload_n d_C_invert_105 0 rfl ?_
        refine rg_C_29 rfl d_C_invert_106 gC rfl ?_
        refine r_iload_n d_C_invert_109 3 rfl ?_
        refine r_gld d_C_invert_110 gSqu (by omega) (by decide) rfl ?_
        refine r_iload d_C_invert_111 5 rfl ?_
        refine r_aload_n d_C_invert_113 0 rfl ?_
        refine rg_C_12 rfl d_C_invert_114 gC rfl ?_
        refine r_aload_n d_C_invert_117 0 rfl ?_
        refine rg_C_29 rfl d_C_invert_118 gC rfl ?_
        refine r_iload_n d_C_invert_121 3 rfl ?_
        refine r_gld d_C_invert_122 gSqu (by omega) (by decide) rfl ?_
        refine r_iload d_C_invert_123 5 rfl ?_
        refine r_aldN d_C_invert_125 (gSquR (i := p) (by omega)) (by omega) (by decide) ?_
        refine r_iload d_C_invert_126 4 rfl ?_
        refine rc_C_62 rfl d_C_invert_128 (k_F_quotient (c := scJ (ivP c w p) p j) (by omega) (hJ.1 p j) hpp) gF (room_ok (d' := d - 1) (by omega) (by decide)) ⟨Nat.le_refl _, Nat.le_refl _⟩ (Nat.le_of_ble_eq_true rfl) ?_
        refine r_astN d_C_invert_131 (gSquR (i := p) (by omega)) (by omega) (by decide) (wsqu (i := p) (by omega)) ?_
        refine r_aload_n d_C_invert_132 0 rfl ?_
        refine rg_C_32 rfl d_C_invert_133 gC rfl ?_
        refine r_iload_n d_C_invert_136 3 rfl ?_
        refine r_gld d_C_invert_137 gInv (by omega) (by decide) rfl ?_
        refine r_iload d_C_invert_138 5 rfl ?_
        refine r_aload_n d_C_invert_140 0 rfl ?_
        refine rg_C_12 rfl d_C_invert_141 gC rfl ?_
        refine r_aload_n d_C_invert_144 0 rfl ?_
        refine rg_C_32 rfl d_C_invert_145 gC rfl ?_
        refine r_iload_n d_C_invert_148 3 rfl ?_
        refine r_gld d_C_invert_149 gInv (by omega) (by decide) rfl ?_
        refine r_iload d_C_invert_150 5 rfl ?_
        refine r_aldN d_C_invert_152 (gInvR (i := p) (by omega)) (by omega) (by decide) ?_
        refine r_iload d_C_invert_153 4 rfl ?_
        refine rc_C_62 rfl d_C_invert_155 (k_F_quotient (c := (scJ (ivP c w p) p j).s_squ (upN (scJ (ivP c w p) p j).squ p (upN ((scJ (ivP c w p) p j).squ p) j (quoT ((scJ (ivP c w p) p j).squ p j) ((ivP c w p).squ p p))))) (by omega) (hJ.2 p j) hpp) gF (room_ok (d' := d - 1) (by omega) (by decide)) ⟨Nat.le_refl _, Nat.le_refl _⟩ (Nat.le_of_ble_eq_true rfl) ?_
        refine r_astN d_C_invert_158 (gInvR (i := p) (by omega)) (by omega) (by decide) (winv (i := p) (by omega)) ?_
        refine r_iincN (lv' := [(0, _), (1, _), (2, _), (3, _), (4, _), (5, _)]) d_C_invert_159 5 rfl (by decide) rfl ?_
        refine r_goto (tgt := 99) d_C_invert_162 (by decide) ?_
        exact r_at ih_j (congrArg (fun z => hp g z m) (row2_step _ _ _ _ _ _ _ _ _ (by rw [scJ_squ]; rfl) (by show _ = upN _ j (quoT ((scJ (ivP c w p) p j).inv p j) _); rw [scJ_inv]; rfl))) rfl rfl
  · intro i hb_i ih_i
    have hci := hch i hb_i
    refine r_iload_n d_C_invert_15 3 rfl ?_
    refine r_iload_n d_C_invert_16 2 rfl ?_
    refine r_icmp_geN (tgt := 79) d_C_invert_17 (by decide) (by omega) (by omega) (fun c17 => ?_) (fun c17 => ?_)
    · exfalso; first | omega | (revert c17; decide) | cases c17
    refine r_iconst (v := nI 0) d_C_invert_20 (by decide) ?_
    refine r_istore (lv' := [(0, _), (1, _), (2, _), (3, _), (4, _)]) d_C_invert_21 (by decide) rfl ?_
    refine r_heap (h' := hp g (row2 (iv1 c w i) i (fillF (rwM c i) ((iv1 c w i).squ i) 0) (fillF (idM i) ((iv1 c w i).inv i) 0)) m) (by simp only [fillF]; rw [row2_self]) ?_
    refine back_ind (n := w) (G := fun j => RJ l g M_C_invert (RMX d 0 0) (TQ g 0 0 (QE (none) n (hp g (ivP c w w) m))) XT n (hp g (row2 (iv1 c w i) i (fillF (rwM c i) ((iv1 c w i).squ i) j) (fillF (idM i) ((iv1 c w i).inv i) j)) m) 0 0 23 [(0, .ref (aC g)), (1, .ref (aCho g)), (2, .int (nI w)), (3, .int (nI i)), (4, .int (nI j))] []) ?_ ?_ 0 (Nat.zero_le _)
    · skip
      refine r_iload d_C_invert_23 4 rfl ?_
      refine r_iload_n d_C_invert_25 2 rfl ?_
      refine r_icmp_geN (tgt := 73) d_C_invert_26 (by decide) (by omega) (by omega) (fun c26 => ?_) (fun c26 => ?_)
      rotate_left 1
      · exfalso; first | omega | (revert c26; decide) | cases c26
      refine r_iincN (lv' := [(0, _), (1, _), (2, _), (3, _), (4, _)]) d_C_invert_73 3 rfl (by decide) rfl ?_
      refine r_goto (tgt := 15) d_C_invert_76 (by decide) ?_
      refine r_less (lv' := [(0, .ref (aC g)), (1, .ref (aCho g)), (2, .int (nI w)), (3, .int (nI (i + 1)))]) (by simp) ?_
      exact r_at ih_i (by rw [iv1_s]) rfl rfl
    · intro j hb_j ih_j
      refine r_iload d_C_invert_23 4 rfl ?_
      refine r_iload_n d_C_invert_25 2 rfl ?_
      refine r_icmp_geN (tgt := 73) d_C_invert_26 (by decide) (by omega) (by omega) (fun c26 => ?_) (fun c26 => ?_)
      · exfalso; first | omega | (revert c26; decide) | cases c26
      refine r_aload_n d_C_invert_29 0 rfl ?_
      refine rg_C_29 rfl d_C_invert_30 gC rfl ?_
      refine r_iload_n d_C_invert_33 3 rfl ?_
      refine r_gld d_C_invert_34 gSqu (by omega) (by decide) rfl ?_
      refine r_iload d_C_invert_35 4 rfl ?_
      refine r_aload_n d_C_invert_37 0 rfl ?_
      refine r_aload_n d_C_invert_38 1 rfl ?_
      refine r_iload_n d_C_invert_39 3 rfl ?_
      refine r_aldN d_C_invert_40 gCho (by omega) (by decide) ?_
      refine r_iload d_C_invert_41 4 rfl ?_
      refine rc_C_59 rfl d_C_invert_43 (k_C_rowByte (c := row2 (iv1 c w i) i (fillF (rwM c i) ((iv1 c w i).squ i) j) (fillF (idM i) ((iv1 c w i).inv i) j)) (by omega) hci (by omega)) gC (room_ok (d' := d - 1) (by omega) (by decide)) ⟨Nat.le_refl _, Nat.le_refl _⟩ (Nat.le_of_ble_eq_true rfl) ?_
      refine r_astN d_C_invert_46 (gSquR (i := i) (by omega)) (by omega) (by decide) (wsqu (i := i) (by omega)) ?_
      refine r_aload_n d_C_invert_47 0 rfl ?_
      refine rg_C_32 rfl d_C_invert_48 gC rfl ?_
      refine r_iload_n d_C_invert_51 3 rfl ?_
      refine r_gld d_C_invert_52 gInv (by omega) (by decide) rfl ?_
      refine r_iload d_C_invert_53 4 rfl ?_
      refine r_iload_n d_C_invert_55 3 rfl ?_
      refine r_iload d_C_invert_56 4 rfl ?_
      refine r_icmp_neN (tgt := 65) d_C_invert_58 (by decide) (by omega) (by omega) (fun c58 => ?_) (fun c58 => ?_)
      · skip
        refine r_iconst (v := nI 0) d_C_invert_65 (by decide) ?_
        refine r_top (y := nI (idM i j)) (congrArg nI (by simp [idM, c58])) ?_
        refine r_astN d_C_invert_66 (gInvR (i := i) (by omega)) (by omega) (by decide) (winv (i := i) (by omega)) ?_
        refine r_iincN (lv' := [(0, _), (1, _), (2, _), (3, _), (4, _)]) d_C_invert_67 4 rfl (by decide) rfl ?_
        refine r_goto (tgt := 23) d_C_invert_70 (by decide) ?_
        exact r_at ih_j (congrArg (fun z => hp g z m) (row2_step _ _ _ _ _ _ _ _ _ rfl rfl)) rfl rfl
      · skip
        refine r_iconst (v := nI 1) d_C_invert_61 (by decide) ?_
        refine r_goto (tgt := 66) d_C_invert_62 (by decide) ?_
        refine r_top (y := nI (idM i j)) (congrArg nI (by simp [idM, c58])) ?_
        refine r_astN d_C_invert_66 (gInvR (i := i) (by omega)) (by omega) (by decide) (winv (i := i) (by omega)) ?_
        refine r_iincN (lv' := [(0, _), (1, _), (2, _), (3, _), (4, _)]) d_C_invert_67 4 rfl (by decide) rfl ?_
        refine r_goto (tgt := 23) d_C_invert_70 (by decide) ?_
        exact r_at ih_j (congrArg (fun z => hp g z m) (row2_step _ _ _ _ _ _ _ _ _ rfl rfl)) rfl rfl
def cp8 (R V : Nat → Nat) : Nat → Nat := fun k => if k < 8 then R k else V k
theorem cpy8 (R V : Nat → Nat) : va_cpy (nF R) (nF V) 0 0 8 = nF (cp8 R V) := by
  funext k
  unfold va_cpy nF cp8
  by_cases h : k < 8
  · rw [if_pos ⟨Nat.zero_le _, by omega⟩, if_pos h]
    simp
  · rw [if_neg (by omega), if_neg h]
def mbF (c : CS) (i : Nat) : Nat := xs (fun k => mulT (c.inv i k) (c.wire k)) 8
def mbC (c : CS) : CS := (c.s_resu (fillF (mbF c) c.resu 8)).s_wire (cp8 (fillF (mbF c) c.resu 8) c.wire)
def B1 (f : Nat → Nat) : Prop := ∀ j, f j < 256
theorem k_C_multiplyByInverse {l : Launch} {g : GX} {c : CS} {m : MS} {n d : Nat} (hd : 2 ≤ d) (h1 : BM c.inv) (h2 : B1 c.wire) : CE l g M_C_multiplyByInverse d 0 0 [.ref (aC g), .ref (aWir g)] n (hp g c m) (none) n (hp g (mbC c) m) := by
  refine CE.of (by decide +kernel) (lv := [(0, .ref (aC g)), (1, .ref (aWir g))]) rfl (Nat.le_of_ble_eq_true rfl) ?_
  refine r_aload_n d_C_multiplyByInverse_0 1 rfl ?_
  refine r_alen (t := 0) (v := nI 8) rfl d_C_multiplyByInverse_1 gWir rfl ?_
  refine r_bipush (v := nI 8) d_C_multiplyByInverse_2 (by decide) ?_
  refine r_icmp_geN (tgt := 8) d_C_multiplyByInverse_4 (by decide) (by omega) (by omega) (fun c4 => ?_) (fun c4 => ?_)
  rotate_left 1
  · exfalso; first | omega | (revert c4; decide) | cases c4
  refine r_iconst (v := nI 0) d_C_multiplyByInverse_8 (by decide) ?_
  refine r_istore_n (lv' := [(0, _), (1, _), (2, _)]) d_C_multiplyByInverse_9 (by decide) rfl ?_
  refine r_heap (h' := hp g (c.s_resu (fillF (mbF c) c.resu 0)) m) rfl ?_
  refine r_less (lv' := [(0, .ref (aC g)), (1, .ref (aWir g)), (2, .int (nI 0))]) (by simp) ?_
  refine back_ind (n := 8) (G := fun i => RJ l g M_C_multiplyByInverse (RMX d 0 0) (TQ g 0 0 (QE (none) n (hp g (mbC c) m))) XT n (hp g (c.s_resu (fillF (mbF c) c.resu i)) m) 0 0 10 [(0, .ref (aC g)), (1, .ref (aWir g)), (2, .int (nI i))] []) ?_ ?_ 0 (Nat.zero_le _)
  · skip
    refine r_iload_n d_C_multiplyByInverse_10 2 rfl ?_
    refine r_bipush (v := nI 8) d_C_multiplyByInverse_11 (by decide) ?_
    refine r_icmp_geN (tgt := 70) d_C_multiplyByInverse_13 (by decide) (by omega) (by omega) (fun c13 => ?_) (fun c13 => ?_)
    rotate_left 1
    · exfalso; first | omega | (revert c13; decide) | cases c13
    refine r_aload_n d_C_multiplyByInverse_70 0 rfl ?_
    refine rg_C_35 rfl d_C_multiplyByInverse_71 gC rfl ?_
    refine r_iconst (v := nI 0) d_C_multiplyByInverse_74 (by decide) ?_
    refine r_aload_n d_C_multiplyByInverse_75 1 rfl ?_
    refine r_iconst (v := nI 0) d_C_multiplyByInverse_76 (by decide) ?_
    refine r_bipush (v := nI 8) d_C_multiplyByInverse_77 (by decide) ?_
    refine r_acopy (sp := 0) (dp := 0) (cn := 8) d_C_multiplyByInverse_79 (by decide +kernel) (by decide +kernel) (by decide +kernel) (by decide +kernel) gRes gWir (by decide) (acopy_room (by omega)) (cpy8 _ _) (wwire (v := cp8 (fillF (mbF c) c.resu 8) c.wire)) ?_
    refine r_return d_C_multiplyByInverse_82 rfl ⟨rfl, rfl, ?_⟩
    · rfl
  · intro i hb_i ih_i
    refine r_iload_n d_C_multiplyByInverse_10 2 rfl ?_
    refine r_bipush (v := nI 8) d_C_multiplyByInverse_11 (by decide) ?_
    refine r_icmp_geN (tgt := 70) d_C_multiplyByInverse_13 (by decide) (by omega) (by omega) (fun c13 => ?_) (fun c13 => ?_)
    · exfalso; first | omega | (revert c13; decide) | cases c13
    refine r_iconst (v := nI 0) d_C_multiplyByInverse_16 (by decide) ?_
    refine r_istore_n (lv' := [(0, _), (1, _), (2, _), (3, _)]) d_C_multiplyByInverse_17 (by decide) rfl ?_
    refine r_iconst (v := nI 0) d_C_multiplyByInverse_18 (by decide) ?_
    refine r_istore (lv' := [(0, _), (1, _), (2, _), (3, _), (4, _)]) d_C_multiplyByInverse_19 (by decide) rfl ?_
    refine back_ind (n := 8) (G := fun k => RJ l g M_C_multiplyByInverse (RMX d 0 0) (TQ g 0 0 (QE (none) n (hp g (mbC c) m))) XT n (hp g (c.s_resu (fillF (mbF c) c.resu i)) m) 0 0 21 [(0, .ref (aC g)), (1, .ref (aWir g)), (2, .int (nI i)), (3, .int (nI (xs (fun k => mulT (c.inv i k) (c.wire k)) k))), (4, .int (nI k))] []) ?_ ?_ 0 (Nat.zero_le _)
    · skip
      refine r_iload d_C_multiplyByInverse_21 4 rfl ?_
      refine r_bipush (v := nI 8) d_C_multiplyByInverse_23 (by decide) ?_
      refine r_icmp_geN (tgt := 57) d_C_multiplyByInverse_25 (by decide) (by omega) (by omega) (fun c25 => ?_) (fun c25 => ?_)
      rotate_left 1
      · exfalso; first | omega | (revert c25; decide) | cases c25
      refine r_aload_n d_C_multiplyByInverse_57 0 rfl ?_
      refine rg_C_35 rfl d_C_multiplyByInverse_58 gC rfl ?_
      refine r_iload_n d_C_multiplyByInverse_61 2 rfl ?_
      refine r_iload_n d_C_multiplyByInverse_62 3 rfl ?_
      refine r_astN d_C_multiplyByInverse_63 gRes (by omega) (by decide) (wresu) ?_
      refine r_iincN (lv' := [(0, _), (1, _), (2, _), (3, _), (4, _)]) d_C_multiplyByInverse_64 2 rfl (by decide) rfl ?_
      refine r_goto (tgt := 10) d_C_multiplyByInverse_67 (by decide) ?_
      refine r_less (lv' := [(0, .ref (aC g)), (1, .ref (aWir g)), (2, .int (nI (i + 1)))]) (by simp) ?_
      exact r_at ih_i rfl rfl rfl
    · intro k hb_k ih_k
      refine r_iload d_C_multiplyByInverse_21 4 rfl ?_
      refine r_bipush (v := nI 8) d_C_multiplyByInverse_23 (by decide) ?_
      refine r_icmp_geN (tgt := 57) d_C_multiplyByInverse_25 (by decide) (by omega) (by omega) (fun c25 => ?_) (fun c25 => ?_)
      · exfalso; first | omega | (revert c25; decide) | cases c25
      refine r_iload_n d_C_multiplyByInverse_28 3 rfl ?_
      refine r_aload_n d_C_multiplyByInverse_29 0 rfl ?_
      refine rg_C_12 rfl d_C_multiplyByInverse_30 gC rfl ?_
      refine r_aload_n d_C_multiplyByInverse_33 0 rfl ?_
      refine rg_C_32 rfl d_C_multiplyByInverse_34 gC rfl ?_
      refine r_iload_n d_C_multiplyByInverse_37 2 rfl ?_
      refine r_gld d_C_multiplyByInverse_38 gInv (by omega) (by decide) rfl ?_
      refine r_iload d_C_multiplyByInverse_39 4 rfl ?_
      refine r_aldN d_C_multiplyByInverse_41 (gInvR (i := i) (by omega)) (by omega) (by decide) ?_
      refine r_aload_n d_C_multiplyByInverse_42 1 rfl ?_
      refine r_iload d_C_multiplyByInverse_43 4 rfl ?_
      refine r_aldN d_C_multiplyByInverse_45 gWir (by omega) (by decide) ?_
      refine rc_C_39 rfl d_C_multiplyByInverse_46 (k_F_product (c := c.s_resu (fillF (mbF c) c.resu i)) (by omega) (h1 i k) (h2 k)) gF (room_ok (d' := d - 1) (by omega) (by decide)) ⟨Nat.le_refl _, Nat.le_refl _⟩ (Nat.le_of_ble_eq_true rfl) ?_
      refine r_ixorN d_C_multiplyByInverse_49 ?_
      refine r_istore_n (lv' := [(0, _), (1, _), (2, _), (3, _), (4, _)]) d_C_multiplyByInverse_50 (by decide) rfl ?_
      refine r_iincN (lv' := [(0, _), (1, _), (2, _), (3, _), (4, _)]) d_C_multiplyByInverse_51 4 rfl (by decide) rfl ?_
      refine r_goto (tgt := 21) d_C_multiplyByInverse_54 (by decide) ?_
      exact ih_k
theorem k_C_give {l : Launch} {g : GX} {c : CS} {m : MS} {n d : Nat} (hd : 1 ≤ d) {k : Nat} (hk : k < 5) : CE l g M_C_give d 0 0 [.ref (aC g), .int (nI k), .ref (aWir g)] n (hp g c m) (none) n (hp g (c.s_giv (upN c.giv k (cp8 c.wire (c.giv k)))) m) := by
  refine CE.of (by decide +kernel) (lv := [(0, .ref (aC g)), (1, .int (nI k)), (2, .ref (aWir g))]) rfl (Nat.le_of_ble_eq_true rfl) ?_
  refine r_iload_n d_C_give_0 1 rfl ?_
  refine r_if_ltN (tgt := 30) d_C_give_1 (by decide) (by omega) (fun c1 => ?_) (fun c1 => ?_)
  · exfalso; first | omega | (revert c1; decide) | cases c1
  refine r_iload_n d_C_give_4 1 rfl ?_
  refine r_iconst (v := nI 5) d_C_give_5 (by decide) ?_
  refine r_icmp_geN (tgt := 30) d_C_give_6 (by decide) (by omega) (by omega) (fun c6 => ?_) (fun c6 => ?_)
  · exfalso; first | omega | (revert c6; decide) | cases c6
  refine r_aload_n d_C_give_9 2 rfl ?_
  refine r_alen (t := 0) (v := nI 8) rfl d_C_give_10 gWir rfl ?_
  refine r_bipush (v := nI 8) d_C_give_11 (by decide) ?_
  refine r_icmp_ltN (tgt := 30) d_C_give_13 (by decide) (by omega) (by omega) (fun c13 => ?_) (fun c13 => ?_)
  · exfalso; first | omega | (revert c13; decide) | cases c13
  refine r_aload_n d_C_give_16 2 rfl ?_
  refine r_iconst (v := nI 0) d_C_give_17 (by decide) ?_
  refine r_aload_n d_C_give_18 0 rfl ?_
  refine rg_C_26 rfl d_C_give_19 gC rfl ?_
  refine r_iload_n d_C_give_22 1 rfl ?_
  refine r_gld d_C_give_23 gGiv (by omega) (by decide) rfl ?_
  refine r_iconst (v := nI 0) d_C_give_24 (by decide) ?_
  refine r_bipush (v := nI 8) d_C_give_25 (by decide) ?_
  refine r_acopy (sp := 0) (dp := 0) (cn := 8) d_C_give_27 (by decide +kernel) (by decide +kernel) (by decide +kernel) (by decide +kernel) gWir (gGivR (i := k) (by omega)) (by decide) (acopy_room (by omega)) (cpy8 _ _) (wgiv (i := k) (by omega) (v := cp8 c.wire (c.giv k))) ?_
  refine r_return d_C_give_30 rfl ⟨rfl, rfl, ?_⟩
  · rfl
def scM (V G A : Nat → Nat → Nat) (q : Nat) : Nat → Nat → Nat → Nat
  | 0 => A
  | r + 1 => mirM (scM V G A q r) r q (xs (fun k => mulT (V r k) (G k q)) 5)
theorem scM_BM {V G A : Nat → Nat → Nat} {q : Nat} (h : BM A) : ∀ r, BM (scM V G A q r)
  | 0 => h
  | r + 1 => BM_mir (scM_BM h r) (xs_lt (fun k => mulT_lt _ _) 5)
theorem k_C_solveColumn {l : Launch} {g : GX} {c : CS} {m : MS} {n d : Nat} (hd : 2 ≤ d) {q : Nat} (hq : q < 8) (h1 : BM c.inv) (h2 : BM c.giv) : CE l g M_C_solveColumn d 0 0 [.ref (aC g), .int (nI q)] n (hp g c m) (none) n (hp g (c.s_mat (scM c.inv c.giv c.mat q 5)) m) := by
  refine CE.of (by decide +kernel) (lv := [(0, .ref (aC g)), (1, .int (nI q))]) rfl (Nat.le_of_ble_eq_true rfl) ?_
  refine r_iconst (v := nI 0) d_C_solveColumn_0 (by decide) ?_
  refine r_istore_n (lv' := [(0, _), (1, _), (2, _)]) d_C_solveColumn_1 (by decide) rfl ?_
  refine r_heap (h' := hp g (c.s_mat (scM c.inv c.giv c.mat q 0)) m) rfl ?_
  refine r_less (lv' := [(0, .ref (aC g)), (1, .int (nI q)), (2, .int (nI 0))]) (by simp) ?_
  refine back_ind (n := 5) (G := fun r => RJ l g M_C_solveColumn (RMX d 0 0) (TQ g 0 0 (QE (none) n (hp g (c.s_mat (scM c.inv c.giv c.mat q 5)) m))) XT n (hp g (c.s_mat (scM c.inv c.giv c.mat q r)) m) 0 0 2 [(0, .ref (aC g)), (1, .int (nI q)), (2, .int (nI r))] []) ?_ ?_ 0 (Nat.zero_le _)
  · skip
    refine r_iload_n d_C_solveColumn_2 2 rfl ?_
    refine r_iconst (v := nI 5) d_C_solveColumn_3 (by decide) ?_
    refine r_icmp_geN (tgt := 65) d_C_solveColumn_4 (by decide) (by omega) (by omega) (fun c4 => ?_) (fun c4 => ?_)
    rotate_left 1
    · exfalso; first | omega | (revert c4; decide) | cases c4
    refine r_return d_C_solveColumn_65 rfl ⟨rfl, rfl, ?_⟩
    · rfl
  · intro r hb_r ih_r
    refine r_iload_n d_C_solveColumn_2 2 rfl ?_
    refine r_iconst (v := nI 5) d_C_solveColumn_3 (by decide) ?_
    refine r_icmp_geN (tgt := 65) d_C_solveColumn_4 (by decide) (by omega) (by omega) (fun c4 => ?_) (fun c4 => ?_)
    · exfalso; first | omega | (revert c4; decide) | cases c4
    refine r_iconst (v := nI 0) d_C_solveColumn_7 (by decide) ?_
    refine r_istore_n (lv' := [(0, _), (1, _), (2, _), (3, _)]) d_C_solveColumn_8 (by decide) rfl ?_
    refine r_iconst (v := nI 0) d_C_solveColumn_9 (by decide) ?_
    refine r_istore (lv' := [(0, _), (1, _), (2, _), (3, _), (4, _)]) d_C_solveColumn_10 (by decide) rfl ?_
    refine back_ind (n := 5) (G := fun k => RJ l g M_C_solveColumn (RMX d 0 0) (TQ g 0 0 (QE (none) n (hp g (c.s_mat (scM c.inv c.giv c.mat q 5)) m))) XT n (hp g (c.s_mat (scM c.inv c.giv c.mat q r)) m) 0 0 12 [(0, .ref (aC g)), (1, .int (nI q)), (2, .int (nI r)), (3, .int (nI (xs (fun k => mulT (c.inv r k) (c.giv k q)) k))), (4, .int (nI k))] []) ?_ ?_ 0 (Nat.zero_le _)
    · skip
      refine r_iload d_C_solveColumn_12 4 rfl ?_
      refine r_iconst (v := nI 5) d_C_solveColumn_14 (by decide) ?_
      refine r_icmp_geN (tgt := 52) d_C_solveColumn_15 (by decide) (by omega) (by omega) (fun c15 => ?_) (fun c15 => ?_)
      rotate_left 1
      · exfalso; first | omega | (revert c15; decide) | cases c15
      refine r_aload_n d_C_solveColumn_52 0 rfl ?_
      refine r_iload_n d_C_solveColumn_53 2 rfl ?_
      refine r_iload_n d_C_solveColumn_54 1 rfl ?_
      refine r_iload_n d_C_solveColumn_55 3 rfl ?_
      refine rc_C_51 rfl d_C_solveColumn_56 (k_C_mirror (c := c.s_mat (scM c.inv c.giv c.mat q r)) (by omega) (by omega) (by omega)) gC (room_ok (d' := d - 1) (by omega) (by decide)) ⟨Nat.le_refl _, Nat.le_refl _⟩ (Nat.le_of_ble_eq_true rfl) ?_
      refine r_iincN (lv' := [(0, _), (1, _), (2, _), (3, _), (4, _)]) d_C_solveColumn_59 2 rfl (by decide) rfl ?_
      refine r_goto (tgt := 2) d_C_solveColumn_62 (by decide) ?_
      refine r_less (lv' := [(0, .ref (aC g)), (1, .int (nI q)), (2, .int (nI (r + 1)))]) (by simp) ?_
      exact ih_r
    · intro k hb_k ih_k
      refine r_iload d_C_solveColumn_12 4 rfl ?_
      refine r_iconst (v := nI 5) d_C_solveColumn_14 (by decide) ?_
      refine r_icmp_geN (tgt := 52) d_C_solveColumn_15 (by decide) (by omega) (by omega) (fun c15 => ?_) (fun c15 => ?_)
      · exfalso; first | omega | (revert c15; decide) | cases c15
      refine r_iload_n d_C_solveColumn_18 3 rfl ?_
      refine r_aload_n d_C_solveColumn_19 0 rfl ?_
      refine rg_C_12 rfl d_C_solveColumn_20 gC rfl ?_
      refine r_aload_n d_C_solveColumn_23 0 rfl ?_
      refine rg_C_32 rfl d_C_solveColumn_24 gC rfl ?_
      refine r_iload_n d_C_solveColumn_27 2 rfl ?_
      refine r_gld d_C_solveColumn_28 gInv (by omega) (by decide) rfl ?_
      refine r_iload d_C_solveColumn_29 4 rfl ?_
      refine r_aldN d_C_solveColumn_31 (gInvR (i := r) (by omega)) (by omega) (by decide) ?_
      refine r_aload_n d_C_solveColumn_32 0 rfl ?_
      refine rg_C_26 rfl d_C_solveColumn_33 gC rfl ?_
      refine r_iload d_C_solveColumn_36 4 rfl ?_
      refine r_gld d_C_solveColumn_38 gGiv (by omega) (by decide) rfl ?_
      refine r_iload_n d_C_solveColumn_39 1 rfl ?_
      refine r_aldN d_C_solveColumn_40 (gGivR (i := k) (by omega)) (by omega) (by decide) ?_
      refine rc_C_39 rfl d_C_solveColumn_41 (k_F_product (c := c.s_mat (scM c.inv c.giv c.mat q r)) (by omega) (h1 r k) (h2 k q)) gF (room_ok (d' := d - 1) (by omega) (by decide)) ⟨Nat.le_refl _, Nat.le_refl _⟩ (Nat.le_of_ble_eq_true rfl) ?_
      refine r_ixorN d_C_solveColumn_44 ?_
      refine r_istore_n (lv' := [(0, _), (1, _), (2, _), (3, _), (4, _)]) d_C_solveColumn_45 (by decide) rfl ?_
      refine r_iincN (lv' := [(0, _), (1, _), (2, _), (3, _), (4, _)]) d_C_solveColumn_46 4 rfl (by decide) rfl ?_
      refine r_goto (tgt := 12) d_C_solveColumn_49 (by decide) ?_
      exact ih_k
def slA (V G A : Nat → Nat → Nat) : Nat → Nat → Nat → Nat
  | 0 => A
  | j + 1 => scM V G (slA V G A j) (5 + j) 5
def slB (V G A : Nat → Nat → Nat) : Nat → Nat → Nat → Nat
  | 0 => A
  | j + 1 => scM V G (slB V G A j) j 5
def gvV (A : Nat → Nat → Nat) (ck q x : Nat) : Nat → Nat
  | 0 => x
  | j + 1 => gvV A ck q x j ^^^ mulT (rowT ck (5 + j)) (A (5 + j) q)
def gvR (A : Nat → Nat → Nat) (ck : Nat) (R : Nat → Nat) : Nat → Nat → Nat
  | 0 => R
  | q + 1 => upN (gvR A ck R q) q (gvV A ck q ((gvR A ck R q) q) 3)
def gvO (A : Nat → Nat → Nat) (ch : Nat → Nat) (G : Nat → Nat → Nat) : Nat → Nat → Nat → Nat
  | 0 => G
  | k + 1 => upN (gvO A ch G k) k (gvR A (ch k) ((gvO A ch G k) k) 5)
theorem gvV_lt {A : Nat → Nat → Nat} {ck q x : Nat} (h : x < 256) : ∀ j, gvV A ck q x j < 256
  | 0 => h
  | j + 1 => xor_lt (gvV_lt h j) (mulT_lt _ _)
theorem gvR_lt {A : Nat → Nat → Nat} {ck : Nat} {R : Nat → Nat} (h : B1 R) : ∀ q, B1 (gvR A ck R q)
  | 0 => h
  | q + 1 => upN_ind (Q := fun x => x < 256) (gvR_lt h q) (gvV_lt (gvR_lt h q q) 3)
theorem gvO_BM {A : Nat → Nat → Nat} {ch : Nat → Nat} {G : Nat → Nat → Nat} (h : BM G) : ∀ k, BM (gvO A ch G k)
  | 0 => h
  | k + 1 => BM_up (gvO_BM h k) (gvR_lt (gvO_BM h k k) 5)
theorem slA_BM {V G A : Nat → Nat → Nat} (h : BM A) : ∀ j, BM (slA V G A j)
  | 0 => h
  | j + 1 => scM_BM (slA_BM h j) 5
theorem gv_step (G : Nat → Nat → Nat) (k q : Nat) (R : Nat → Nat) (v w : Nat) : upN (upN G k (upN R q v)) k (upN ((upN G k (upN R q v)) k) q ((upN G k (upN R q v)) k q ^^^ w)) = upN G k (upN R q (v ^^^ w)) := by
  have e : (upN G k (upN R q v)) k = upN R q v := upN_s
  rw [upN_up, e, upN_s, upN_up]
def sl1 (c : CS) : CS := c.s_mat (slA c.inv c.giv c.mat 3)
def sl2 (c : CS) (k : Nat) : CS := (sl1 c).s_giv (gvO (slA c.inv c.giv c.mat 3) c.chos c.giv k)
def slC (c : CS) (j : Nat) : CS := (sl2 c 5).s_mat (slB c.inv (sl2 c 5).giv (sl1 c).mat j)
theorem k_C_solve {l : Launch} {g : GX} {c : CS} {m : MS} {n d : Nat} (hd : 3 ≤ d) (h1 : BM c.inv) (h2 : BM c.giv) (h3 : BM c.mat) (hch : ∀ k, k < 5 → c.chos k < 12) : CE l g M_C_solve d 0 0 [.ref (aC g), .ref (aCho g)] n (hp g c m) (none) n (hp g (slC c 5) m) := by
  refine CE.of (by decide +kernel) (lv := [(0, .ref (aC g)), (1, .ref (aCho g))]) rfl (Nat.le_of_ble_eq_true rfl) ?_
  refine r_aload_n d_C_solve_0 1 rfl ?_
  refine r_alen (t := 0) (v := nI 8) rfl d_C_solve_1 gCho rfl ?_
  refine r_iconst (v := nI 5) d_C_solve_2 (by decide) ?_
  refine r_icmp_geN (tgt := 7) d_C_solve_3 (by decide) (by omega) (by omega) (fun c3 => ?_) (fun c3 => ?_)
  rotate_left 1
  · exfalso; first | omega | (revert c3; decide) | cases c3
  refine r_iconst (v := nI 5) d_C_solve_7 (by decide) ?_
  refine r_istore_n (lv' := [(0, _), (1, _), (2, _)]) d_C_solve_8 (by decide) rfl ?_
  refine r_heap (h' := hp g (c.s_mat (slA c.inv c.giv c.mat 0)) m) rfl ?_
  refine back_ind (n := 3) (G := fun j => RJ l g M_C_solve (RMX d 0 0) (TQ g 0 0 (QE (none) n (hp g (slC c 5) m))) XT n (hp g (c.s_mat (slA c.inv c.giv c.mat j)) m) 0 0 9 [(0, .ref (aC g)), (1, .ref (aCho g)), (2, .int (nI (5 + j)))] []) ?_ ?_ 0 (Nat.zero_le _)
  · skip
    refine r_iload_n d_C_solve_9 2 rfl ?_
    refine r_bipush (v := nI 8) d_C_solve_10 (by decide) ?_
    refine r_icmp_geN (tgt := 26) d_C_solve_12 (by decide) (by omega) (by omega) (fun c12 => ?_) (fun c12 => ?_)
    rotate_left 1
    · exfalso; first | omega | (revert c12; decide) | cases c12
    refine r_iconst (v := nI 0) d_C_solve_26 (by decide) ?_
    refine r_istore_n (lv' := [(0, _), (1, _), (2, _)]) d_C_solve_27 (by decide) rfl ?_
    refine r_heap (h' := hp g (sl2 c 0) m) rfl ?_
    have hA : BM (slA c.inv c.giv c.mat 3) := slA_BM h3 3
    refine r_less (lv' := [(0, .ref (aC g)), (1, .ref (aCho g)), (2, .int (nI 0))]) (by simp) ?_
    refine back_ind (n := 5) (G := fun k => RJ l g M_C_solve (RMX d 0 0) (TQ g 0 0 (QE (none) n (hp g (slC c 5) m))) XT n (hp g (sl2 c k) m) 0 0 28 [(0, .ref (aC g)), (1, .ref (aCho g)), (2, .int (nI k))] []) ?_ ?_ 0 (Nat.zero_le _)
    · skip
      refine r_iload_n d_C_solve_28 2 rfl ?_
      refine r_iconst (v := nI 5) d_C_solve_29 (by decide) ?_
      refine r_icmp_geN (tgt := 104) d_C_solve_30 (by decide) (by omega) (by omega) (fun c30 => ?_) (fun c30 => ?_)
      rotate_left 1
      · exfalso; first | omega | (revert c30; decide) | cases c30
      refine r_iconst (v := nI 0) d_C_solve_104 (by decide) ?_
      refine r_istore_n (lv' := [(0, _), (1, _), (2, _)]) d_C_solve_105 (by decide) rfl ?_
      refine r_heap (h' := hp g (slC c 0) m) rfl ?_
      have hG5 : BM (sl2 c 5).giv := gvO_BM h2 5
      refine back_ind (n := 5) (G := fun j => RJ l g M_C_solve (RMX d 0 0) (TQ g 0 0 (QE (none) n (hp g (slC c 5) m))) XT n (hp g (slC c j) m) 0 0 106 [(0, .ref (aC g)), (1, .ref (aCho g)), (2, .int (nI j))] []) ?_ ?_ 0 (Nat.zero_le _)
      · skip
        refine r_iload_n d_C_solve_106 2 rfl ?_
        refine r_iconst (v := nI 5) d_C_solve_107 (by decide) ?_
        refine r_icmp_geN (tgt := 122) d_C_solve_108 (by decide) (by omega) (by omega) (fun c108 => ?_) (fun c108 => ?_)
        rotate_left 1
        · exfalso; first | omega | (revert c108; decide) | cases c108
        refine r_return d_C_solve_122 rfl ⟨rfl, rfl, ?_⟩
        · rfl
      · intro j hb_j ih_j
        refine r_iload_n d_C_solve_106 2 rfl ?_
        refine r_iconst (v := nI 5) d_C_solve_107 (by decide) ?_
        refine r_icmp_geN (tgt := 122) d_C_solve_108 (by decide) (by omega) (by omega) (fun c108 => ?_) (fun c108 => ?_)
        · exfalso; first | omega | (revert c108; decide) | cases c108
        refine r_aload_n d_C_solve_111 0 rfl ?_
        refine r_iload_n d_C_solve_112 2 rfl ?_
        refine rc_C_75 rfl d_C_solve_113 (k_C_solveColumn (c := slC c j) (by omega) (by omega) h1 hG5) gC (room_ok (d' := d - 1) (by omega) (by decide)) ⟨Nat.le_refl _, Nat.le_refl _⟩ (Nat.le_of_ble_eq_true rfl) ?_
        refine r_iincN (lv' := [(0, _), (1, _), (2, _)]) d_C_solve_116 2 rfl (by decide) rfl ?_
        refine r_goto (tgt := 106) d_C_solve_119 (by decide) ?_
        exact ih_j
    · intro k hb_k ih_k
      have hck := hch k hb_k
      have hG : BM (gvO (slA c.inv c.giv c.mat 3) c.chos c.giv k) := gvO_BM h2 k
      refine r_iload_n d_C_solve_28 2 rfl ?_
      refine r_iconst (v := nI 5) d_C_solve_29 (by decide) ?_
      refine r_icmp_geN (tgt := 104) d_C_solve_30 (by decide) (by omega) (by omega) (fun c30 => ?_) (fun c30 => ?_)
      · exfalso; first | omega | (revert c30; decide) | cases c30
      refine r_iconst (v := nI 0) d_C_solve_33 (by decide) ?_
      refine r_istore_n (lv' := [(0, _), (1, _), (2, _), (3, _)]) d_C_solve_34 (by decide) rfl ?_
      refine r_heap (h' := hp g ((sl1 c).s_giv (upN (gvO (slA c.inv c.giv c.mat 3) c.chos c.giv k) k (gvR (slA c.inv c.giv c.mat 3) (c.chos k) ((gvO (slA c.inv c.giv c.mat 3) c.chos c.giv k) k) 0))) m) (congrArg (fun z => hp g z m) (CS.ext2 (giv := (upN_self _ _).symm))) ?_
      refine r_less (lv' := [(0, .ref (aC g)), (1, .ref (aCho g)), (2, .int (nI k)), (3, .int (nI 0))]) (by simp) ?_
      refine back_ind (n := 5) (G := fun q => RJ l g M_C_solve (RMX d 0 0) (TQ g 0 0 (QE (none) n (hp g (slC c 5) m))) XT n (hp g ((sl1 c).s_giv (upN (gvO (slA c.inv c.giv c.mat 3) c.chos c.giv k) k (gvR (slA c.inv c.giv c.mat 3) (c.chos k) ((gvO (slA c.inv c.giv c.mat 3) c.chos c.giv k) k) q))) m) 0 0 35 [(0, .ref (aC g)), (1, .ref (aCho g)), (2, .int (nI k)), (3, .int (nI q))] []) ?_ ?_ 0 (Nat.zero_le _)
      · skip
        refine r_iload_n d_C_solve_35 3 rfl ?_
        refine r_iconst (v := nI 5) d_C_solve_36 (by decide) ?_
        refine r_icmp_geN (tgt := 98) d_C_solve_37 (by decide) (by omega) (by omega) (fun c37 => ?_) (fun c37 => ?_)
        rotate_left 1
        · exfalso; first | omega | (revert c37; decide) | cases c37
        refine r_iincN (lv' := [(0, _), (1, _), (2, _), (3, _)]) d_C_solve_98 2 rfl (by decide) rfl ?_
        refine r_goto (tgt := 28) d_C_solve_101 (by decide) ?_
        refine r_less (lv' := [(0, .ref (aC g)), (1, .ref (aCho g)), (2, .int (nI (k + 1)))]) (by simp) ?_
        exact r_at ih_k rfl rfl rfl
      · intro q hb_q ih_q
        have hR : B1 (gvR (slA c.inv c.giv c.mat 3) (c.chos k) ((gvO (slA c.inv c.giv c.mat 3) c.chos c.giv k) k) q) := gvR_lt (hG k) q
        refine r_iload_n d_C_solve_35 3 rfl ?_
        refine r_iconst (v := nI 5) d_C_solve_36 (by decide) ?_
        refine r_icmp_geN (tgt := 98) d_C_solve_37 (by decide) (by omega) (by omega) (fun c37 => ?_) (fun c37 => ?_)
        · exfalso; first | omega | (revert c37; decide) | cases c37
        refine r_iconst (v := nI 5) d_C_solve_40 (by decide) ?_
        refine r_istore (lv' := [(0, _), (1, _), (2, _), (3, _), (4, _)]) d_C_solve_41 (by decide) rfl ?_
        refine r_heap (h' := hp g ((sl1 c).s_giv (upN (gvO (slA c.inv c.giv c.mat 3) c.chos c.giv k) k (upN (gvR (slA c.inv c.giv c.mat 3) (c.chos k) ((gvO (slA c.inv c.giv c.mat 3) c.chos c.giv k) k) q) q (gvV (slA c.inv c.giv c.mat 3) (c.chos k) q ((gvR (slA c.inv c.giv c.mat 3) (c.chos k) ((gvO (slA c.inv c.giv c.mat 3) c.chos c.giv k) k) q) q) 0)))) m) (congrArg (fun z => hp g ((sl1 c).s_giv (upN (gvO (slA c.inv c.giv c.mat 3) c.chos c.giv k) k z)) m) (upN_self _ _).symm) ?_
        refine back_ind (n := 3) (G := fun j => RJ l g M_C_solve (RMX d 0 0) (TQ g 0 0 (QE (none) n (hp g (slC c 5) m))) XT n (hp g ((sl1 c).s_giv (upN (gvO (slA c.inv c.giv c.mat 3) c.chos c.giv k) k (upN (gvR (slA c.inv c.giv c.mat 3) (c.chos k) ((gvO (slA c.inv c.giv c.mat 3) c.chos c.giv k) k) q) q (gvV (slA c.inv c.giv c.mat 3) (c.chos k) q ((gvR (slA c.inv c.giv c.mat 3) (c.chos k) ((gvO (slA c.inv c.giv c.mat 3) c.chos c.giv k) k) q) q) j)))) m) 0 0 43 [(0, .ref (aC g)), (1, .ref (aCho g)), (2, .int (nI k)), (3, .int (nI q)), (4, .int (nI (5 + j)))] []) ?_ ?_ 0 (Nat.zero_le _)
        · skip
          refine r_iload d_C_solve_43 4 rfl ?_
          refine r_bipush (v := nI 8) d_C_solve_45 (by decide) ?_
          refine r_icmp_geN (tgt := 92) d_C_solve_47 (by decide) (by omega) (by omega) (fun c47 => ?_) (fun c47 => ?_)
          rotate_left 1
          · exfalso; first | omega | (revert c47; decide) | cases c47
          refine r_iincN (lv' := [(0, _), (1, _), (2, _), (3, _), (4, _)]) d_C_solve_92 3 rfl (by decide) rfl ?_
          refine r_goto (tgt := 35) d_C_solve_95 (by decide) ?_
          refine r_less (lv' := [(0, .ref (aC g)), (1, .ref (aCho g)), (2, .int (nI k)), (3, .int (nI (q + 1)))]) (by simp) ?_
          exact r_at ih_q rfl rfl rfl
        · intro j hb_j ih_j
          refine r_iload d_C_solve_43 4 rfl ?_
          refine r_bipush (v := nI 8) d_C_solve_45 (by decide) ?_
          refine r_icmp_geN (tgt := 92) d_C_solve_47 (by decide) (by omega) (by omega) (fun c47 => ?_) (fun c47 => ?_)
          · exfalso; first | omega | (revert c47; decide) | cases c47
          refine r_aload_n d_C_solve_50 0 rfl ?_
          refine rg_C_26 rfl d_C_solve_51 gC rfl ?_
          refine r_iload_n d_C_solve_54 2 rfl ?_
          refine r_gld d_C_solve_55 gGiv (by omega) (by decide) rfl ?_
          refine r_iload_n d_C_solve_56 3 rfl ?_
          refine r_dup2 d_C_solve_57 rfl rfl ?_
          refine r_aldN d_C_solve_58 (gGivR (i := k) (by omega)) (by omega) (by decide) ?_
          refine r_aload_n d_C_solve_59 0 rfl ?_
          refine rg_C_12 rfl d_C_solve_60 gC rfl ?_
          refine r_aload_n d_C_solve_63 0 rfl ?_
          refine r_aload_n d_C_solve_64 1 rfl ?_
          refine r_iload_n d_C_solve_65 2 rfl ?_
          refine r_aldN d_C_solve_66 gCho (by omega) (by decide) ?_
          refine r_iload d_C_solve_67 4 rfl ?_
          refine rc_C_59 rfl d_C_solve_69 (k_C_rowByte (c := (sl1 c).s_giv (upN (gvO (slA c.inv c.giv c.mat 3) c.chos c.giv k) k (upN (gvR (slA c.inv c.giv c.mat 3) (c.chos k) ((gvO (slA c.inv c.giv c.mat 3) c.chos c.giv k) k) q) q (gvV (slA c.inv c.giv c.mat 3) (c.chos k) q ((gvR (slA c.inv c.giv c.mat 3) (c.chos k) ((gvO (slA c.inv c.giv c.mat 3) c.chos c.giv k) k) q) q) j)))) (by omega) hck (by omega)) gC (room_ok (d' := d - 1) (by omega) (by decide)) ⟨Nat.le_refl _, Nat.le_refl _⟩ (Nat.le_of_ble_eq_true rfl) ?_
          refine r_aload_n d_C_solve_72 0 rfl ?_
          refine rg_C_23 rfl d_C_solve_73 gC rfl ?_
          refine r_iload d_C_solve_76 4 rfl ?_
          refine r_gld d_C_solve_78 gMat (by omega) (by decide) rfl ?_
          refine r_iload_n d_C_solve_79 3 rfl ?_
          refine r_aldN d_C_solve_80 (gMatR (i := 5 + j) (by omega)) (by omega) (by decide) ?_
          refine rc_C_39 rfl d_C_solve_81 (k_F_product (c := (sl1 c).s_giv (upN (gvO (slA c.inv c.giv c.mat 3) c.chos c.giv k) k (upN (gvR (slA c.inv c.giv c.mat 3) (c.chos k) ((gvO (slA c.inv c.giv c.mat 3) c.chos c.giv k) k) q) q (gvV (slA c.inv c.giv c.mat 3) (c.chos k) q ((gvR (slA c.inv c.giv c.mat 3) (c.chos k) ((gvO (slA c.inv c.giv c.mat 3) c.chos c.giv k) k) q) q) j)))) (by omega) (rowT_lt _ _) (hA (5 + j) q)) gF (room_ok (d' := d - 1) (by omega) (by decide)) ⟨Nat.le_refl _, Nat.le_refl _⟩ (Nat.le_of_ble_eq_true rfl) ?_
          refine r_ixorN d_C_solve_84 ?_
          refine r_astN d_C_solve_85 (gGivR (i := k) (by omega)) (by omega) (by decide) (wgiv (i := k) (by omega)) ?_
          refine r_iincN (lv' := [(0, _), (1, _), (2, _), (3, _), (4, _)]) d_C_solve_86 4 rfl (by decide) rfl ?_
          refine r_goto (tgt := 43) d_C_solve_89 (by decide) ?_
          exact r_at ih_j (congrArg (fun z => hp g z m) (CS.ext2 (giv := gv_step _ _ _ _ _ _))) rfl rfl
  · intro j hb_j ih_j
    refine r_iload_n d_C_solve_9 2 rfl ?_
    refine r_bipush (v := nI 8) d_C_solve_10 (by decide) ?_
    refine r_icmp_geN (tgt := 26) d_C_solve_12 (by decide) (by omega) (by omega) (fun c12 => ?_) (fun c12 => ?_)
    · exfalso; first | omega | (revert c12; decide) | cases c12
    refine r_aload_n d_C_solve_15 0 rfl ?_
    refine r_iload_n d_C_solve_16 2 rfl ?_
    refine rc_C_75 rfl d_C_solve_17 (k_C_solveColumn (c := c.s_mat (slA c.inv c.giv c.mat j)) (by omega) (by omega) h1 h2) gC (room_ok (d' := d - 1) (by omega) (by decide)) ⟨Nat.le_refl _, Nat.le_refl _⟩ (Nat.le_of_ble_eq_true rfl) ?_
    refine r_iincN (lv' := [(0, _), (1, _), (2, _)]) d_C_solve_20 2 rfl (by decide) rfl ?_
    refine r_goto (tgt := 9) d_C_solve_23 (by decide) ?_
    exact ih_j
