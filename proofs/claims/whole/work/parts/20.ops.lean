def rpO (X : CS) (i o s k : Nat) : CS := ((X.s_wire (upN X.wire k (syF X (X.chos k) (X.hpl (X.chos k) (rp X (X.chos k) o) s) i))).s_sent (upN X.sent (X.chos k) (X.sent (X.chos k) + nI 1))).s_syms (X.syms + nI 1)
def rpK (X : CS) (i o s : Nat) : Nat → CS
  | 0 => X
  | k + 1 => rpO (rpK X i o s k) i o s k
def rpW (Z : CS) (i o s : Nat) : CS := wrC Z i (Z.hpl i (rp Z i o) s) 8
def rpS (X : CS) (i o : Nat) : Nat → CS
  | 0 => X
  | s + 1 => rpW (mbC (rpK (rpS X i o s) i o s 8)) i o s
def rpC (X : CS) (i o st : Nat) : CS := rpS (ivP X 8 8) i o st
/-- all but what repairing changes -/
def samM (c c' : CS) : Prop := c'.takn = c.takn ∧ c'.hpl = c.hpl ∧ c'.hstr = c.hstr ∧ c'.hver = c.hver ∧ c'.hbyt = c.hbyt ∧ c'.sw = c.sw ∧ c'.chos = c.chos ∧ c'.live = c.live
theorem samM.rf (c : CS) : samM c c := ⟨rfl, rfl, rfl, rfl, rfl, rfl, rfl, rfl⟩
theorem samM.tr {a b c : CS} (h : samM a b) (k : samM b c) : samM a c := ⟨k.1.trans h.1, k.2.1.trans h.2.1, k.2.2.1.trans h.2.2.1, k.2.2.2.1.trans h.2.2.2.1, k.2.2.2.2.1.trans h.2.2.2.2.1, k.2.2.2.2.2.1.trans h.2.2.2.2.2.1, k.2.2.2.2.2.2.1.trans h.2.2.2.2.2.2.1, k.2.2.2.2.2.2.2.trans h.2.2.2.2.2.2.2⟩
theorem samN.m {a b : CS} (h : samN a b) : samM a b := h.2
theorem rpO_same (X : CS) (i o s k : Nat) : samM X (rpO X i o s k) := ⟨rfl, rfl, rfl, rfl, rfl, rfl, rfl, rfl⟩
theorem mbC_same (X : CS) : samM X (mbC X) := ⟨rfl, rfl, rfl, rfl, rfl, rfl, rfl, rfl⟩
theorem wrC_same (X : CS) (i b k : Nat) : samM X (wrC X i b k) := ⟨rfl, rfl, rfl, rfl, rfl, rfl, rfl, rfl⟩
theorem rpK_same (X : CS) (i o s : Nat) : ∀ k, samM X (rpK X i o s k)
  | 0 => samM.rf X
  | k + 1 => (rpK_same X i o s k).tr (rpO_same (rpK X i o s k) i o s k)
theorem rpS_same (X : CS) (i o : Nat) : ∀ s, samM X (rpS X i o s)
  | 0 => samM.rf X
  | s + 1 => ((rpS_same X i o s).tr (rpK_same (rpS X i o s) i o s 8)).tr ((mbC_same (rpK (rpS X i o s) i o s 8)).tr (wrC_same (mbC (rpK (rpS X i o s) i o s 8)) i _ 8))
theorem wrF_lt {D : Nat → Nat} {b : Nat} {V : Nat → Nat} (h1 : B1 D) (h2 : B1 V) : ∀ k, B1 (wrF D b V k)
  | 0 => h1
  | k + 1 => upN_ind (Q := fun x => x < 256) (wrF_lt h1 h2 k) (h2 k)
theorem rpO_BC {X : CS} {i o s k : Nat} (h : BC X) : BC (rpO X i o s k) := ⟨h.1, h.2.1, h.2.2.1, upN_ind (Q := fun x => x < 256) h.2.2.2.1 (syF_lt _ _ _ _), h.2.2.2.2⟩
theorem rpK_BC {X : CS} {i o s : Nat} (h : BC X) : ∀ k, BC (rpK X i o s k)
  | 0 => h
  | k + 1 => rpO_BC (rpK_BC h k)
theorem mbC_BC {X : CS} (h : BC X) : BC (mbC X) := ⟨h.1, h.2.1, h.2.2.1, fun j => by
    show (if j < 8 then fillF (mbF X) X.resu 8 j else X.wire j) < 256
    split
    · rename_i q
      have e : ∀ k, (∀ j, j < k → fillF (mbF X) X.resu k j < 256) := fun k => by
        induction k with
        | zero => intro j hj; omega
        | succ k ih =>
          intro j hj
          show upN (fillF (mbF X) X.resu k) k (mbF X k) j < 256
          by_cases z : j = k
          · rw [z, upN_s]; exact xs_lt (fun k => mulT_lt _ _) 8
          · rw [upN_n z]; exact ih j (by omega)
      exact e 8 j q
    · exact h.2.2.2.1 j, h.2.2.2.2⟩
theorem wrC_BC {X : CS} {i b k : Nat} (h : BC X) : BC (wrC X i b k) := ⟨h.1, h.2.1, h.2.2.1, h.2.2.2.1, BM_up h.2.2.2.2 (wrF_lt (h.2.2.2.2 i) h.2.2.2.1 k)⟩
theorem rpS_BC {X : CS} {i o : Nat} (h : BC X) : ∀ s, BC (rpS X i o s)
  | 0 => h
  | s + 1 => wrC_BC (mbC_BC (rpK_BC (rpS_BC h s) 8))
theorem CI_samM {c c' : CS} (h : CI c) (k : samM c c') : CI c' := CI_eq h k.2.1 k.2.2.1 k.2.2.2.1 k.2.2.2.2.1
theorem ivP_BC {c : CS} {n : Nat} (h1 : BM c.squ) (h : BC c) : BC (ivP c n n) := by
    obtain ⟨k1, k2, k3⟩ := ivP_mat c n n
    have k4 : (ivP c n n).data = c.data := (ivP_same c n n).1
    exact ⟨(ivP_BM (n := n) h1 h.1 n).2, by rw [k2]; exact h.2.1, by rw [k1]; exact h.2.2.1, by rw [k3]; exact h.2.2.2.1, by rw [k4]; exact h.2.2.2.2⟩
theorem k_S_repair {l : Launch} {g : GX} {c : CS} {m : MS} {n d : Nat} (hd : 4 ≤ d) {i o w : Nat} (hi : i < 12) (ho : o < 6) (hw : w ≤ 8) (hc : CI c) (hch : ∀ k, k < 8 → c.chos k < 12) (hst : ∀ k, k < 8 → w ≤ rstr c (c.chos k) o ∧ TKok c (c.chos k) (rp c (c.chos k) o)) (hown : w ≤ rstr c i o) (h1 : BM c.squ) (hB : BC c) : CE l g M_S_repair d 0 0 [.ref (aS g), .int (nI i), .int (nI o), .int (nI w)] n (hp g c m) (none) n (hp g (rpC c i o w) m) := by
  refine CE.of (by decide +kernel) (lv := [(0, .ref (aS g)), (1, .int (nI i)), (2, .int (nI o)), (3, .int (nI w))]) rfl (Nat.le_of_ble_eq_true rfl) ?_
  refine r_aload_n d_S_repair_0 0 rfl ?_
  refine rg_S_10 rfl d_S_repair_1 gS rfl ?_
  refine r_aload_n d_S_repair_4 0 rfl ?_
  refine rg_S_52 rfl d_S_repair_5 gS rfl ?_
  refine r_bipush (v := nI 8) d_S_repair_8 (by decide) ?_
  refine rc_S_234 rfl d_S_repair_10 (k_C_invert (by omega) (by decide) (by decide) h1 hB.1 hch) gC (room_ok (d' := d - 1) (by omega) (by decide)) ⟨Nat.le_refl _, Nat.le_refl _⟩ (Nat.le_of_ble_eq_true rfl) ?_
  refine r_iconst (v := nI 0) d_S_repair_13 (by decide) ?_
  refine r_istore (lv' := [(0, _), (1, _), (2, _), (3, _), (4, _)]) d_S_repair_14 (by decide) rfl ?_
  refine r_heap (h' := hp g (rpS (ivP c 8 8) i o 0) m) rfl ?_
  have hI0 := (ivP_same c 8 8).m
  have hIB := ivP_BC (n := 8) h1 hB
  refine r_less (lv' := [(0, .ref (aS g)), (1, .int (nI i)), (2, .int (nI o)), (3, .int (nI w)), (4, .int (nI 0))]) (by simp) ?_
  refine back_ind (n := w) (G := fun s => RJ l g M_S_repair (RMX d 0 0) (TQ g 0 0 (QE (none) n (hp g (rpC c i o w) m))) XT n (hp g (rpS (ivP c 8 8) i o s) m) 0 0 16 [(0, .ref (aS g)), (1, .int (nI i)), (2, .int (nI o)), (3, .int (nI w)), (4, .int (nI s))] []) ?_ ?_ 0 (Nat.zero_le _)
  · skip
    refine r_iload d_S_repair_16 4 rfl ?_
    refine r_iload_n d_S_repair_18 3 rfl ?_
    refine r_icmp_geN (tgt := 145) d_S_repair_19 (by decide) (by omega) (by omega) (fun c19 => ?_) (fun c19 => ?_)
    rotate_left 1
    · exfalso; first | omega | (revert c19; decide) | cases c19
    refine r_return d_S_repair_145 rfl ⟨rfl, rfl, ?_⟩
    · rfl
  · intro s hb_s ih_s
    have hS0 := hI0.tr (rpS_same (ivP c 8 8) i o s)
    have hB0 := rpS_BC (i := i) (o := o) hIB s
    refine r_iload d_S_repair_16 4 rfl ?_
    refine r_iload_n d_S_repair_18 3 rfl ?_
    refine r_icmp_geN (tgt := 145) d_S_repair_19 (by decide) (by omega) (by omega) (fun c19 => ?_) (fun c19 => ?_)
    · exfalso; first | omega | (revert c19; decide) | cases c19
    refine r_iconst (v := nI 0) d_S_repair_22 (by decide) ?_
    refine r_istore (lv' := [(0, _), (1, _), (2, _), (3, _), (4, _), (5, _)]) d_S_repair_23 (by decide) rfl ?_
    refine r_heap (h' := hp g (rpK (rpS (ivP c 8 8) i o s) i o s 0) m) rfl ?_
    refine r_less (lv' := [(0, .ref (aS g)), (1, .int (nI i)), (2, .int (nI o)), (3, .int (nI w)), (4, .int (nI s)), (5, .int (nI 0))]) (by simp) ?_
    refine back_ind (n := 8) (G := fun k => RJ l g M_S_repair (RMX d 0 0) (TQ g 0 0 (QE (none) n (hp g (rpC c i o w) m))) XT n (hp g (rpK (rpS (ivP c 8 8) i o s) i o s k) m) 0 0 25 [(0, .ref (aS g)), (1, .int (nI i)), (2, .int (nI o)), (3, .int (nI w)), (4, .int (nI s)), (5, .int (nI k))] []) ?_ ?_ 0 (Nat.zero_le _)
    · skip
      refine r_iload d_S_repair_25 5 rfl ?_
      refine r_bipush (v := nI 8) d_S_repair_27 (by decide) ?_
      refine r_icmp_geN (tgt := 99) d_S_repair_29 (by decide) (by omega) (by omega) (fun c29 => ?_) (fun c29 => ?_)
      rotate_left 1
      · exfalso; first | omega | (revert c29; decide) | cases c29
      have hB8 := rpK_BC (i := i) (o := o) (s := s) hB0 8
      obtain ⟨e2, e3, e4, e5, e6, e7, e8, -⟩ := (hS0.tr (rpK_same (rpS (ivP c 8 8) i o s) i o s 8)).tr (mbC_same (rpK (rpS (ivP c 8 8) i o s) i o s 8))
      have q1 : rp (mbC (rpK (rpS (ivP c 8 8) i o s) i o s 8)) i o < 12 := rp_lt ho
      have q2 : s < (mbC (rpK (rpS (ivP c 8 8) i o s) i o s 8)).hstr i (rp (mbC (rpK (rpS (ivP c 8 8) i o s) i o s 8)) i o) := by rw [e4, rp_eq e7]; show s < rstr c i o; omega
      have q3 : (mbC (rpK (rpS (ivP c 8 8) i o s) i o s 8)).hstr i (rp (mbC (rpK (rpS (ivP c 8 8) i o s) i o s 8)) i o) ≤ 8 := by rw [e4]; exact (hc _ _).1
      have q4 : (mbC (rpK (rpS (ivP c 8 8) i o s) i o s 8)).hpl i (rp (mbC (rpK (rpS (ivP c 8 8) i o s) i o s 8)) i o) s < 40 := by rw [e3]; exact (hc _ _).2.2.2 s
      refine r_aload_n d_S_repair_99 0 rfl ?_
      refine rg_S_10 rfl d_S_repair_100 gS rfl ?_
      refine r_aload_n d_S_repair_103 0 rfl ?_
      refine rg_S_55 rfl d_S_repair_104 gS rfl ?_
      refine rc_S_258 rfl d_S_repair_107 (k_C_multiplyByInverse (c := rpK (rpS (ivP c 8 8) i o s) i o s 8) (by omega) hB8.1 hB8.2.2.2.1) gC (room_ok (d' := d - 1) (by omega) (by decide)) ⟨Nat.le_refl _, Nat.le_refl _⟩ (Nat.le_of_ble_eq_true rfl) ?_
      refine r_aload_n d_S_repair_110 0 rfl ?_
      refine rg_S_18 rfl d_S_repair_111 gS rfl ?_
      refine r_iload_n d_S_repair_114 1 rfl ?_
      refine r_qld (t := 2) rfl d_S_repair_115 gNodes (by omega) (by decide) rfl ?_
      refine r_aload_n d_S_repair_116 0 rfl ?_
      refine rg_S_18 rfl d_S_repair_117 gS rfl ?_
      refine r_iload_n d_S_repair_120 1 rfl ?_
      refine r_qld (t := 2) rfl d_S_repair_121 gNodes (by omega) (by decide) rfl ?_
      refine rg_S_173 rfl d_S_repair_122 (gN (i := i) (by omega)) rfl ?_
      refine r_iload_n d_S_repair_125 2 rfl ?_
      refine r_qld (t := 3) rfl d_S_repair_126 (gR (i := i) (by omega)) (by omega) (by decide) rfl ?_
      refine r_iload d_S_repair_127 4 rfl ?_
      refine rc_S_170 rfl d_S_repair_129 (k_H_placeOf (c := mbC (rpK (rpS (ivP c 8 8) i o s) i o s 8)) (by omega) hi q1 q2 (by omega) (by omega)) (gH (i := i) (p := rp (mbC (rpK (rpS (ivP c 8 8) i o s) i o s 8)) i o) (by omega) (by omega)) (room_ok (d' := d - 1) (by omega) (by decide)) ⟨Nat.le_refl _, Nat.le_refl _⟩ (Nat.le_of_ble_eq_true rfl) ?_
      refine r_aload_n d_S_repair_132 0 rfl ?_
      refine rg_S_55 rfl d_S_repair_133 gS rfl ?_
      refine rc_S_228 rfl d_S_repair_136 (k_N_write (c := mbC (rpK (rpS (ivP c 8 8) i o s) i o s 8)) (by omega) hi q4) (gN (i := i) (by omega)) (room_ok (d' := d - 1) (by omega) (by decide)) ⟨Nat.le_refl _, Nat.le_refl _⟩ (Nat.le_of_ble_eq_true rfl) ?_
      refine r_iincN (lv' := [(0, _), (1, _), (2, _), (3, _), (4, _), (5, _)]) d_S_repair_139 4 rfl (by decide) rfl ?_
      refine r_goto (tgt := 16) d_S_repair_142 (by decide) ?_
      refine r_less (lv' := [(0, .ref (aS g)), (1, .int (nI i)), (2, .int (nI o)), (3, .int (nI w)), (4, .int (nI (s + 1)))]) (by simp) ?_
      exact ih_s
    · intro k hb_k ih_k
      obtain ⟨e2, e3, e4, e5, e6, e7, e8, -⟩ := hS0.tr (rpK_same (rpS (ivP c 8 8) i o s) i o s k)
      have hB1 := rpK_BC (i := i) (o := o) (s := s) hB0 k
      have q0 : (rpK (rpS (ivP c 8 8) i o s) i o s k).chos k < 12 := by rw [e8]; exact hch k hb_k
      have q1 : rp (rpK (rpS (ivP c 8 8) i o s) i o s k) ((rpK (rpS (ivP c 8 8) i o s) i o s k).chos k) o < 12 := rp_lt ho
      obtain ⟨t1, t2⟩ := hst k hb_k
      have q2 : s < (rpK (rpS (ivP c 8 8) i o s) i o s k).hstr ((rpK (rpS (ivP c 8 8) i o s) i o s k).chos k) (rp (rpK (rpS (ivP c 8 8) i o s) i o s k) ((rpK (rpS (ivP c 8 8) i o s) i o s k).chos k) o) := by rw [e4, e8, rp_eq e7]; show s < rstr c (c.chos k) o; omega
      have q3 : (rpK (rpS (ivP c 8 8) i o s) i o s k).hstr ((rpK (rpS (ivP c 8 8) i o s) i o s k).chos k) (rp (rpK (rpS (ivP c 8 8) i o s) i o s k) ((rpK (rpS (ivP c 8 8) i o s) i o s k).chos k) o) ≤ 8 := by rw [e4]; exact (hc _ _).1
      have q4 : (rpK (rpS (ivP c 8 8) i o s) i o s k).hpl ((rpK (rpS (ivP c 8 8) i o s) i o s k).chos k) (rp (rpK (rpS (ivP c 8 8) i o s) i o s k) ((rpK (rpS (ivP c 8 8) i o s) i o s k).chos k) o) s < 40 := by rw [e3]; exact (hc _ _).2.2.2 s
      have q5 : (rpK (rpS (ivP c 8 8) i o s) i o s k).takn ((rpK (rpS (ivP c 8 8) i o s) i o s k).chos k) ((rpK (rpS (ivP c 8 8) i o s) i o s k).hpl ((rpK (rpS (ivP c 8 8) i o s) i o s k).chos k) (rp (rpK (rpS (ivP c 8 8) i o s) i o s k) ((rpK (rpS (ivP c 8 8) i o s) i o s k).chos k) o) s) = true := by rw [e2, e3, e8, rp_eq e7]; exact t2 s (by show s < rstr c (c.chos k) o; omega)
      refine r_iload d_S_repair_25 5 rfl ?_
      refine r_bipush (v := nI 8) d_S_repair_27 (by decide) ?_
      refine r_icmp_geN (tgt := 99) d_S_repair_29 (by decide) (by omega) (by omega) (fun c29 => ?_) (fun c29 => ?_)
      · exfalso; first | omega | (revert c29; decide) | cases c29
      refine r_aload_n d_S_repair_32 0 rfl ?_
      refine rg_S_18 rfl d_S_repair_33 gS rfl ?_
      refine r_aload_n d_S_repair_36 0 rfl ?_
      refine rg_S_52 rfl d_S_repair_37 gS rfl ?_
      refine r_iload d_S_repair_40 5 rfl ?_
      refine r_aldN d_S_repair_42 gCho (by omega) (by decide) ?_
      refine r_qld (t := 2) rfl d_S_repair_43 gNodes (by omega) (by decide) rfl ?_
      refine r_astore (lv' := [(0, _), (1, _), (2, _), (3, _), (4, _), (5, _), (6, _)]) d_S_repair_44 (by decide) rfl ?_
      refine r_aload_n d_S_repair_46 0 rfl ?_
      refine rg_S_55 rfl d_S_repair_47 gS rfl ?_
      refine r_iload d_S_repair_50 5 rfl ?_
      refine r_aload_n d_S_repair_52 0 rfl ?_
      refine r_aload d_S_repair_53 6 rfl ?_
      refine r_aload d_S_repair_55 6 rfl ?_
      refine rg_S_173 rfl d_S_repair_57 (gN (i := (rpK (rpS (ivP c 8 8) i o s) i o s k).chos k) (by omega)) rfl ?_
      refine r_iload_n d_S_repair_60 2 rfl ?_
      refine r_qld (t := 3) rfl d_S_repair_61 (gR (i := (rpK (rpS (ivP c 8 8) i o s) i o s k).chos k) (by omega)) (by omega) (by decide) rfl ?_
      refine r_iload d_S_repair_62 4 rfl ?_
      refine rc_S_170 rfl d_S_repair_64 (k_H_placeOf (c := rpK (rpS (ivP c 8 8) i o s) i o s k) (by omega) q0 q1 q2 (by omega) (by omega)) (gH (i := (rpK (rpS (ivP c 8 8) i o s) i o s k).chos k) (p := rp (rpK (rpS (ivP c 8 8) i o s) i o s k) ((rpK (rpS (ivP c 8 8) i o s) i o s k).chos k) o) (by omega) (by omega)) (room_ok (d' := d - 1) (by omega) (by decide)) ⟨Nat.le_refl _, Nat.le_refl _⟩ (Nat.le_of_ble_eq_true rfl) ?_
      refine r_iload_n d_S_repair_67 1 rfl ?_
      refine rc_S_179 rfl d_S_repair_68 (k_S_symbolFrom (c := rpK (rpS (ivP c 8 8) i o s) i o s k) (by omega) q0 q4 hi q5 hB1.2.2.2.2) gS (room_ok (d' := d - 1) (by omega) (by decide)) ⟨Nat.le_refl _, Nat.le_refl _⟩ (Nat.le_of_ble_eq_true rfl) ?_
      refine r_astN d_S_repair_71 gWir (by omega) (by decide) (wwire) ?_
      have q6 : ((rpK (rpS (ivP c 8 8) i o s) i o s k).s_wire (upN ((rpK (rpS (ivP c 8 8) i o s) i o s k).wire) k (syF (rpK (rpS (ivP c 8 8) i o s) i o s k) ((rpK (rpS (ivP c 8 8) i o s) i o s k).chos k) ((rpK (rpS (ivP c 8 8) i o s) i o s k).hpl ((rpK (rpS (ivP c 8 8) i o s) i o s k).chos k) (rp (rpK (rpS (ivP c 8 8) i o s) i o s k) ((rpK (rpS (ivP c 8 8) i o s) i o s k).chos k) o) s) i))).chos k < 12 := q0
      refine r_aload d_S_repair_72 6 rfl ?_
      refine r_dup d_S_repair_74 rfl ?_
      refine rg_S_163 rfl d_S_repair_75 (gN (i := (rpK (rpS (ivP c 8 8) i o s) i o s k).chos k) (by omega)) rfl ?_
      refine r_iconst (v := nI 1) d_S_repair_78 (by decide) ?_
      refine r_iadd d_S_repair_79 ?_
      refine rp_S_163 rfl d_S_repair_80 (gN (i := (rpK (rpS (ivP c 8 8) i o s) i o s k).chos k) (by omega)) (Nat.le_of_ble_eq_true rfl) rfl (wN_sent (i := (rpK (rpS (ivP c 8 8) i o s) i o s k).chos k) (by omega) (v := (((rpK (rpS (ivP c 8 8) i o s) i o s k).s_wire (upN ((rpK (rpS (ivP c 8 8) i o s) i o s k).wire) k (syF (rpK (rpS (ivP c 8 8) i o s) i o s k) ((rpK (rpS (ivP c 8 8) i o s) i o s k).chos k) ((rpK (rpS (ivP c 8 8) i o s) i o s k).hpl ((rpK (rpS (ivP c 8 8) i o s) i o s k).chos k) (rp (rpK (rpS (ivP c 8 8) i o s) i o s k) ((rpK (rpS (ivP c 8 8) i o s) i o s k).chos k) o) s) i))).sent ((rpK (rpS (ivP c 8 8) i o s) i o s k).chos k)) + (nI 1))) ?_
      refine r_aload_n d_S_repair_83 0 rfl ?_
      refine r_dup d_S_repair_84 rfl ?_
      refine rg_S_49 rfl d_S_repair_85 gS rfl ?_
      refine r_iconst (v := nI 1) d_S_repair_88 (by decide) ?_
      refine r_iadd d_S_repair_89 ?_
      refine rp_S_49 rfl d_S_repair_90 gS (Nat.le_of_ble_eq_true rfl) rfl (wS_syms (v := ((((rpK (rpS (ivP c 8 8) i o s) i o s k).s_wire (upN ((rpK (rpS (ivP c 8 8) i o s) i o s k).wire) k (syF (rpK (rpS (ivP c 8 8) i o s) i o s k) ((rpK (rpS (ivP c 8 8) i o s) i o s k).chos k) ((rpK (rpS (ivP c 8 8) i o s) i o s k).hpl ((rpK (rpS (ivP c 8 8) i o s) i o s k).chos k) (rp (rpK (rpS (ivP c 8 8) i o s) i o s k) ((rpK (rpS (ivP c 8 8) i o s) i o s k).chos k) o) s) i))).s_sent (upN ((rpK (rpS (ivP c 8 8) i o s) i o s k).s_wire (upN ((rpK (rpS (ivP c 8 8) i o s) i o s k).wire) k (syF (rpK (rpS (ivP c 8 8) i o s) i o s k) ((rpK (rpS (ivP c 8 8) i o s) i o s k).chos k) ((rpK (rpS (ivP c 8 8) i o s) i o s k).hpl ((rpK (rpS (ivP c 8 8) i o s) i o s k).chos k) (rp (rpK (rpS (ivP c 8 8) i o s) i o s k) ((rpK (rpS (ivP c 8 8) i o s) i o s k).chos k) o) s) i))).sent ((rpK (rpS (ivP c 8 8) i o s) i o s k).chos k) ((((rpK (rpS (ivP c 8 8) i o s) i o s k).s_wire (upN ((rpK (rpS (ivP c 8 8) i o s) i o s k).wire) k (syF (rpK (rpS (ivP c 8 8) i o s) i o s k) ((rpK (rpS (ivP c 8 8) i o s) i o s k).chos k) ((rpK (rpS (ivP c 8 8) i o s) i o s k).hpl ((rpK (rpS (ivP c 8 8) i o s) i o s k).chos k) (rp (rpK (rpS (ivP c 8 8) i o s) i o s k) ((rpK (rpS (ivP c 8 8) i o s) i o s k).chos k) o) s) i))).sent ((rpK (rpS (ivP c 8 8) i o s) i o s k).chos k)) + (nI 1)))).syms) + (nI 1))) ?_
      refine r_iincN (lv' := [(0, _), (1, _), (2, _), (3, _), (4, _), (5, _), (6, _)]) d_S_repair_93 5 rfl (by decide) rfl ?_
      refine r_goto (tgt := 25) d_S_repair_96 (by decide) ?_
      refine r_less (lv' := [(0, .ref (aS g)), (1, .int (nI i)), (2, .int (nI o)), (3, .int (nI w)), (4, .int (nI s)), (5, .int (nI (k + 1)))]) (by simp) ?_
      exact r_at ih_k rfl rfl rfl
def rn1 (c : CS) (i o : Nat) : CS := guC c i (rp c i o)
def rn2 (c : CS) (i o : Nat) : CS := takC (rn1 c i o) i (rp (rn1 c i o) i o) (nw c o) (nbS c o)
def rn3 (c : CS) (i o : Nat) (x : Int32) : CS := (rn2 c i o).s_chos (csF (rn2 c i o) i o x (rn2 c i o).chos (csN (rn2 c i o) i o x))
def rnC (c : CS) (i o : Nat) (x : Int32) : CS := if 0 < nbS c o then (if csN (rn2 c i o) i o x = 8 then rpC (rn3 c i o x) i o (stp (nbS c o)) else rn3 c i o x) else rn2 c i o
theorem tak_BC {c : CS} {i p v a : Nat} (h : BC c) : BC (takC c i p v a) := ⟨h.1, h.2.1, h.2.2.1, h.2.2.2.1, h.2.2.2.2⟩
theorem gu_BC {c : CS} {i p : Nat} (h : BC c) : BC (guC c i p) := ⟨h.1, h.2.1, h.2.2.1, h.2.2.2.1, h.2.2.2.2⟩
theorem chos_BC {c : CS} {f : Nat → Nat} (h : BC c) : BC (c.s_chos f) := ⟨h.1, h.2.1, h.2.2.1, h.2.2.2.1, h.2.2.2.2⟩
theorem rn2_own (c : CS) (i o : Nat) : rstr (rn2 c i o) i o = stp (nbS c o) := up2_s
theorem rn3_own (c : CS) (i o : Nat) (x : Int32) : rstr (rn3 c i o x) i o = stp (nbS c o) := up2_s
theorem k_S_renew {l : Launch} {g : GX} {c : CS} {m : MS} {n d : Nat} (hd : 6 ≤ d) {i o : Nat} {x : Int32} (hi : i < 12) (ho : o < 6) (hc : CI c) (hnb : nbS c o ≤ 240) (hf : ∀ k, k < stp (nbS c o) → lf (TK ((rn1 c i o).takn i) k) < 40) (h1 : BM c.squ) (hB : BC c) (hrp : csN (rn2 c i o) i o x = 8 → ∀ k, k < 8 → (rn3 c i o x).chos k < 12 ∧ stp (nbS c o) ≤ rstr (rn3 c i o x) ((rn3 c i o x).chos k) o ∧ TKok (rn3 c i o x) ((rn3 c i o x).chos k) (rp (rn3 c i o x) ((rn3 c i o x).chos k) o)) : CE l g M_S_renew d 0 0 [.ref (aS g), .int (nI i), .int (nI o), .int x] n (hp g c m) (none) n (hp g (rnC c i o x) m) := by
  have hnw := nw_lt (o := o) hc
  have h8 := stp_le hnb
  have hq0 := rp_lt (c := c) (i := i) ho
  have hq1 := rp_lt (c := rn1 c i o) (i := i) ho
  have hc1 : CI (rn1 c i o) := CI_gu hc
  have hc2 : CI (rn2 c i o) := CI_tak hc1 hnw hnb hf
  refine CE.of (by decide +kernel) (lv := [(0, .ref (aS g)), (1, .int (nI i)), (2, .int (nI o)), (3, .int x)]) rfl (Nat.le_of_ble_eq_true rfl) ?_
  refine r_aload_n d_S_renew_0 0 rfl ?_
  refine r_iload_n d_S_renew_1 2 rfl ?_
  refine rc_S_134 rfl d_S_renew_2 (k_S_newestOf (by omega) ho hc) gS (room_ok (d' := d - 1) (by omega) (by decide)) ⟨Nat.le_refl _, Nat.le_refl _⟩ (Nat.le_of_ble_eq_true rfl) ?_
  refine r_istore (lv' := [(0, _), (1, _), (2, _), (3, _), (4, _)]) d_S_renew_5 (by decide) rfl ?_
  refine r_aload_n d_S_renew_7 0 rfl ?_
  refine r_iload_n d_S_renew_8 2 rfl ?_
  refine rc_S_127 rfl d_S_renew_9 (k_S_newestBytes (by omega) ho hc) gS (room_ok (d' := d - 1) (by omega) (by decide)) ⟨Nat.le_refl _, Nat.le_refl _⟩ (Nat.le_of_ble_eq_true rfl) ?_
  refine r_istore (lv' := [(0, _), (1, _), (2, _), (3, _), (4, _), (5, _)]) d_S_renew_12 (by decide) rfl ?_
  refine r_aload_n d_S_renew_14 0 rfl ?_
  refine rg_S_18 rfl d_S_renew_15 gS rfl ?_
  refine r_iload_n d_S_renew_18 1 rfl ?_
  refine r_qld (t := 2) rfl d_S_renew_19 gNodes (by omega) (by decide) rfl ?_
  refine r_astore (lv' := [(0, _), (1, _), (2, _), (3, _), (4, _), (5, _), (6, _)]) d_S_renew_20 (by decide) rfl ?_
  refine r_aload d_S_renew_22 6 rfl ?_
  refine r_aload d_S_renew_24 6 rfl ?_
  refine rg_S_173 rfl d_S_renew_26 (gN (i := i) (by omega)) rfl ?_
  refine r_iload_n d_S_renew_29 2 rfl ?_
  refine r_qld (t := 3) rfl d_S_renew_30 (gR (i := i) (by omega)) (by omega) (by decide) rfl ?_
  refine rc_S_120 rfl d_S_renew_31 (k_N_giveUp (by omega) hi hq0 hc) (gN (i := i) (by omega)) (room_ok (d' := d - 1) (by omega) (by decide)) ⟨Nat.le_refl _, Nat.le_refl _⟩ (Nat.le_of_ble_eq_true rfl) ?_
  refine r_aload d_S_renew_34 6 rfl ?_
  refine r_aload d_S_renew_36 6 rfl ?_
  refine rg_S_173 rfl d_S_renew_38 (gN (i := i) (by omega)) rfl ?_
  refine r_iload_n d_S_renew_41 2 rfl ?_
  refine r_qld (t := 3) rfl d_S_renew_42 (gR (i := i) (by omega)) (by omega) (by decide) rfl ?_
  refine r_iload d_S_renew_43 4 rfl ?_
  refine r_iload d_S_renew_45 5 rfl ?_
  refine rc_S_213 rfl d_S_renew_47 (k_N_take (c := rn1 c i o) (by omega) hi hq1 hnb hf) (gN (i := i) (by omega)) (room_ok (d' := d - 1) (by omega) (by decide)) ⟨Nat.le_refl _, Nat.le_refl _⟩ (Nat.le_of_ble_eq_true rfl) ?_
  refine r_iload d_S_renew_50 5 rfl ?_
  refine r_if_leN (tgt := 78) d_S_renew_52 (by decide) (by omega) (fun c52 => ?_) (fun c52 => ?_)
  · skip
    have hx : rnC c i o x = rn2 c i o := if_neg (by omega)
    refine r_return d_S_renew_78 rfl ⟨rfl, rfl, ?_⟩
    · exact congrArg (fun z => hp g z m) hx.symm
  · skip
    refine r_aload_n d_S_renew_55 0 rfl ?_
    refine r_iload_n d_S_renew_56 1 rfl ?_
    refine r_iload_n d_S_renew_57 2 rfl ?_
    refine r_iload_n d_S_renew_58 3 rfl ?_
    refine rc_S_251 rfl d_S_renew_59 (k_S_chooseLeastSent (c := rn2 c i o) (by omega) hi ho hc2) gS (room_ok (d' := d - 1) (by omega) (by decide)) ⟨Nat.le_refl _, Nat.le_refl _⟩ (Nat.le_of_ble_eq_true rfl) ?_
    have hn8 := csN_le (rn2 c i o) i o x
    refine r_bipush (v := nI 8) d_S_renew_62 (by decide) ?_
    refine r_icmp_neN (tgt := 78) d_S_renew_64 (by decide) (by omega) (by omega) (fun c64 => ?_) (fun c64 => ?_)
    · skip
      have hx : rnC c i o x = rn3 c i o x := (by unfold rnC; rw [if_pos c52, if_neg c64])
      refine r_return d_S_renew_78 rfl ⟨rfl, rfl, ?_⟩
      · exact congrArg (fun z => hp g z m) hx.symm
    · skip
      have hx : rnC c i o x = rpC (rn3 c i o x) i o (stp (nbS c o)) := (by unfold rnC; rw [if_pos c52, if_pos c64])
      have hr := hrp c64
      refine r_aload_n d_S_renew_67 0 rfl ?_
      refine r_iload_n d_S_renew_68 1 rfl ?_
      refine r_iload_n d_S_renew_69 2 rfl ?_
      refine r_iload d_S_renew_70 5 rfl ?_
      refine rc_S_92 rfl d_S_renew_72 (k_S_stripesOf (by omega) (by omega)) (room_ok (d' := d - 1) (by omega) (by decide)) ⟨Nat.le_refl _, Nat.le_refl _⟩ (Nat.le_of_ble_eq_true rfl) ?_
      refine rc_S_255 rfl d_S_renew_75 (k_S_repair (c := rn3 c i o x) (by omega) hi ho h8 (CI_eq hc2 rfl rfl rfl rfl) (fun k hk => (hr k hk).1) (fun k hk => (hr k hk).2) (Nat.le_of_eq (rn3_own c i o x).symm) h1 (chos_BC (tak_BC (gu_BC hB)))) gS (room_ok (d' := d - 1) (by omega) (by decide)) ⟨Nat.le_refl _, Nat.le_refl _⟩ (Nat.le_of_ble_eq_true rfl) ?_
      refine r_return d_S_renew_78 rfl ⟨rfl, rfl, ?_⟩
      · exact congrArg (fun z => hp g z m) hx.symm
