def selN (c : CS) (o : Nat) (x : Int32) (i : Nat) : Bool := told x i && frs c o (nw c o) i
def chF (sel : Nat → Bool) (V : Nat → Nat) (k : Nat) : Nat → Nat → Nat
  | 0 => V
  | i + 1 => if sel i = true ∧ ct sel i < k then upN (chF sel V k i) (ct sel i) i else chF sel V k i
theorem chF_stop {sel : Nat → Bool} {V : Nat → Nat} {k i : Nat} (h : k ≤ ct sel i) (hi : i ≤ 12) : chF sel V k 12 = chF sel V k i := by
  have q := stop_eq (F := chF sel V k) (Z := fun j => k ≤ ct sel j) (ct_stop h) (fun j hj => by show (if _ then _ else _) = _; rw [if_neg (by omega)]) (12 - i)
  rwa [show i + (12 - i) = 12 by omega] at q
theorem ct12 {p : Nat → Bool} {i : Nat} (hi : i ≤ 12) : ct p i ≤ ct p 12 := by
  have q := ct_mono p i (12 - i)
  rwa [show i + (12 - i) = 12 by omega] at q
theorem k_S_chooseLeastNumbers {l : Launch} {g : GX} {c : CS} {m : MS} {n d : Nat} (hd : 3 ≤ d) {o : Nat} {x : Int32} (ho : o < 6) (hc : CI c) : CE l g M_S_chooseLeastNumbers d 0 0 [.ref (aS g), .int (nI o), .int x] n (hp g c m) (some (.int (nI (min (ct (selN c o x) 12) 5)))) n (hp g (c.s_chos (chF (selN c o x) c.chos 5 12)) m) := by
  have hw := nw_lt (o := o) hc
  refine CE.of (by decide +kernel) (lv := [(0, .ref (aS g)), (1, .int (nI o)), (2, .int x)]) rfl (Nat.le_of_ble_eq_true rfl) ?_
  refine r_aload_n d_S_chooseLeastNumbers_0 0 rfl ?_
  refine r_iload_n d_S_chooseLeastNumbers_1 1 rfl ?_
  refine rc_S_134 rfl d_S_chooseLeastNumbers_2 (k_S_newestOf (by omega) ho hc) gS (room_ok (d' := d - 1) (by omega) (by decide)) ⟨Nat.le_refl _, Nat.le_refl _⟩ (Nat.le_of_ble_eq_true rfl) ?_
  refine r_istore_n (lv' := [(0, _), (1, _), (2, _), (3, _)]) d_S_chooseLeastNumbers_5 (by decide) rfl ?_
  refine r_iconst (v := nI 0) d_S_chooseLeastNumbers_6 (by decide) ?_
  refine r_istore (lv' := [(0, _), (1, _), (2, _), (3, _), (4, _)]) d_S_chooseLeastNumbers_7 (by decide) rfl ?_
  refine r_heap (h' := hp g (c.s_chos (chF (selN c o x) c.chos 5 0)) m) rfl ?_
  refine r_iconst (v := nI 0) d_S_chooseLeastNumbers_9 (by decide) ?_
  refine r_istore (lv' := [(0, _), (1, _), (2, _), (3, _), (4, _), (5, _)]) d_S_chooseLeastNumbers_10 (by decide) rfl ?_
  refine back_ind (n := 12) (G := fun i => (ct (selN c o x) i ≤ 5) → RJ l g M_S_chooseLeastNumbers (RMX d 0 0) (TQ g 0 0 (QE (some (.int (nI (min (ct (selN c o x) 12) 5)))) n (hp g (c.s_chos (chF (selN c o x) c.chos 5 12)) m))) XT n (hp g (c.s_chos (chF (selN c o x) c.chos 5 i)) m) 0 0 12 [(0, .ref (aS g)), (1, .int (nI o)), (2, .int x), (3, .int (nI (nw c o))), (4, .int (nI (ct (selN c o x) i))), (5, .int (nI i))] []) ?_ ?_ 0 (Nat.zero_le _) (Nat.zero_le _)
  · skip
    intro hv_i
    have hcc := ct_le (selN c o x) 12
    refine r_iload d_S_chooseLeastNumbers_12 5 rfl ?_
    refine r_bipush (v := nI 12) d_S_chooseLeastNumbers_14 (by decide) ?_
    refine r_icmp_geN (tgt := 63) d_S_chooseLeastNumbers_16 (by decide) (by omega) (by omega) (fun c16 => ?_) (fun c16 => ?_)
    rotate_left 1
    · exfalso; first | omega | (revert c16; decide) | cases c16
    refine r_iload d_S_chooseLeastNumbers_63 4 rfl ?_
    refine r_ireturn d_S_chooseLeastNumbers_65 rfl rfl ⟨?_, rfl, ?_⟩
    · first | (rw [Nat.min_eq_left hv_i]) | (have q := ct12 (p := (selN c o x)) (i := i) (by omega); rw [Nat.min_eq_right (by omega), show ct (selN c o x) i = 5 by omega])
    · first | (rw [chF_stop (i := i) (by omega) (by omega)]; done) | rfl
  · intro i hb_i ih_i hv_i
    have hcc := ct_le (selN c o x) i
    refine r_iload d_S_chooseLeastNumbers_12 5 rfl ?_
    refine r_bipush (v := nI 12) d_S_chooseLeastNumbers_14 (by decide) ?_
    refine r_icmp_geN (tgt := 63) d_S_chooseLeastNumbers_16 (by decide) (by omega) (by omega) (fun c16 => ?_) (fun c16 => ?_)
    · exfalso; first | omega | (revert c16; decide) | cases c16
    refine r_iload d_S_chooseLeastNumbers_19 4 rfl ?_
    refine r_iconst (v := nI 5) d_S_chooseLeastNumbers_21 (by decide) ?_
    refine r_icmp_geN (tgt := 63) d_S_chooseLeastNumbers_22 (by decide) (by omega) (by omega) (fun c22 => ?_) (fun c22 => ?_)
    · skip
      refine r_iload d_S_chooseLeastNumbers_63 4 rfl ?_
      refine r_ireturn d_S_chooseLeastNumbers_65 rfl rfl ⟨?_, rfl, ?_⟩
      · first | (rw [Nat.min_eq_left hv_i]) | (have q := ct12 (p := (selN c o x)) (i := i) (by omega); rw [Nat.min_eq_right (by omega), show ct (selN c o x) i = 5 by omega])
      · first | (rw [chF_stop (i := i) (by omega) (by omega)]; done) | rfl
    · skip
      refine r_iload_n d_S_chooseLeastNumbers_25 2 rfl ?_
      refine r_iload d_S_chooseLeastNumbers_26 5 rfl ?_
      refine rc_S_231 rfl d_S_chooseLeastNumbers_28 (k_S_isTold (by omega)) (room_ok (d' := d - 1) (by omega) (by decide)) ⟨Nat.le_refl _, Nat.le_refl _⟩ (Nat.le_of_ble_eq_true rfl) ?_
      refine r_if_eqB (tgt := 57) d_S_chooseLeastNumbers_31 (by decide) (fun c31 => ?_) (fun c31 => ?_)
      · skip
        have es : selN c o x i = false := by simp [selN, c31]
        refine r_iincN (lv' := [(0, _), (1, _), (2, _), (3, _), (4, _), (5, _)]) d_S_chooseLeastNumbers_57 5 rfl (by decide) rfl ?_
        refine r_goto (tgt := 12) d_S_chooseLeastNumbers_60 (by decide) ?_
        first | (exact r_at (ih_i (by rw [ct_f es]; omega)) (by show _ = hp g (c.s_chos (if _ then _ else _)) m; rw [if_neg (fun q => by rw [es] at q; exact absurd q.1 (by decide))]) (by rw [ct_f es]) rfl) | (exact r_at (ih_i (by rw [ct_t es]; omega)) (by show _ = hp g (c.s_chos (if _ then _ else _)) m; rw [if_pos ⟨es, by omega⟩]; rfl) (by rw [ct_t es]) rfl)
      · skip
        refine r_aload_n d_S_chooseLeastNumbers_34 0 rfl ?_
        refine r_iload d_S_chooseLeastNumbers_35 5 rfl ?_
        refine r_iload_n d_S_chooseLeastNumbers_37 1 rfl ?_
        refine r_iload_n d_S_chooseLeastNumbers_38 3 rfl ?_
        refine rc_S_159 rfl d_S_chooseLeastNumbers_39 (k_S_isFresh (c := c.s_chos (chF (selN c o x) c.chos 5 i)) (by omega) hb_i ho hw hc) gS (room_ok (d' := d - 1) (by omega) (by decide)) ⟨Nat.le_refl _, Nat.le_refl _⟩ (Nat.le_of_ble_eq_true rfl) ?_
        refine r_top (y := b2 (frs c o (nw c o) i)) rfl ?_
        refine r_if_eqB (tgt := 57) d_S_chooseLeastNumbers_42 (by decide) (fun c42 => ?_) (fun c42 => ?_)
        · skip
          have es : selN c o x i = false := by simp [selN, c42]
          refine r_iincN (lv' := [(0, _), (1, _), (2, _), (3, _), (4, _), (5, _)]) d_S_chooseLeastNumbers_57 5 rfl (by decide) rfl ?_
          refine r_goto (tgt := 12) d_S_chooseLeastNumbers_60 (by decide) ?_
          first | (exact r_at (ih_i (by rw [ct_f es]; omega)) (by show _ = hp g (c.s_chos (if _ then _ else _)) m; rw [if_neg (fun q => by rw [es] at q; exact absurd q.1 (by decide))]) (by rw [ct_f es]) rfl) | (exact r_at (ih_i (by rw [ct_t es]; omega)) (by show _ = hp g (c.s_chos (if _ then _ else _)) m; rw [if_pos ⟨es, by omega⟩]; rfl) (by rw [ct_t es]) rfl)
        · skip
          have es : selN c o x i = true := by simp [selN, c31, c42]
          refine r_aload_n d_S_chooseLeastNumbers_45 0 rfl ?_
          refine rg_S_52 rfl d_S_chooseLeastNumbers_46 gS rfl ?_
          refine r_iload d_S_chooseLeastNumbers_49 4 rfl ?_
          refine r_iload d_S_chooseLeastNumbers_51 5 rfl ?_
          refine r_astN d_S_chooseLeastNumbers_53 gCho (by omega) (by decide) (wchos) ?_
          refine r_iincN (lv' := [(0, _), (1, _), (2, _), (3, _), (4, _), (5, _)]) d_S_chooseLeastNumbers_54 4 rfl (by decide) rfl ?_
          refine r_iincN (lv' := [(0, _), (1, _), (2, _), (3, _), (4, _), (5, _)]) d_S_chooseLeastNumbers_57 5 rfl (by decide) rfl ?_
          refine r_goto (tgt := 12) d_S_chooseLeastNumbers_60 (by decide) ?_
          first | (exact r_at (ih_i (by rw [ct_f es]; omega)) (by show _ = hp g (c.s_chos (if _ then _ else _)) m; rw [if_neg (fun q => by rw [es] at q; exact absurd q.1 (by decide))]) (by rw [ct_f es]) rfl) | (exact r_at (ih_i (by rw [ct_t es]; omega)) (by show _ = hp g (c.s_chos (if _ then _ else _)) m; rw [if_pos ⟨es, by omega⟩]; rfl) (by rw [ct_t es]) rfl)
def dcO (X : CS) (o s k : Nat) : CS := (X.s_wire (rdF (X.data (X.chos k)) (X.hpl (X.chos k) (rp X (X.chos k) o) s) X.wire 8)).s_giv (upN X.giv k (cp8 (rdF (X.data (X.chos k)) (X.hpl (X.chos k) (rp X (X.chos k) o) s) X.wire 8) (X.giv k)))
def dcK (X : CS) (o s : Nat) : Nat → CS
  | 0 => X
  | k + 1 => dcO (dcK X o s k) o s k
def dcT (X : CS) (a s : Nat) : CS := (slC X 5).s_gott (ulM (slC X 5).mat a (slC X 5).gott (s * 30))
def dcS (c : CS) (o a : Nat) : Nat → CS
  | 0 => ivP c 5 5
  | s + 1 => dcT (dcK (dcS c o a s) o s 5) a s
def dcC (c : CS) (o a : Nat) : CS := dcS c o a (stp a)
/-- the node part and what decoding needs of it, unchanged -/
def samN (c c' : CS) : Prop := c'.data = c.data ∧ c'.takn = c.takn ∧ c'.hpl = c.hpl ∧ c'.hstr = c.hstr ∧ c'.hver = c.hver ∧ c'.hbyt = c.hbyt ∧ c'.sw = c.sw ∧ c'.chos = c.chos ∧ c'.live = c.live
theorem samN.rf (c : CS) : samN c c := ⟨rfl, rfl, rfl, rfl, rfl, rfl, rfl, rfl, rfl⟩
theorem samN.tr {a b c : CS} (h : samN a b) (k : samN b c) : samN a c := ⟨k.1.trans h.1, k.2.1.trans h.2.1, k.2.2.1.trans h.2.2.1, k.2.2.2.1.trans h.2.2.2.1, k.2.2.2.2.1.trans h.2.2.2.2.1, k.2.2.2.2.2.1.trans h.2.2.2.2.2.1, k.2.2.2.2.2.2.1.trans h.2.2.2.2.2.2.1, k.2.2.2.2.2.2.2.1.trans h.2.2.2.2.2.2.2.1, k.2.2.2.2.2.2.2.2.trans h.2.2.2.2.2.2.2.2⟩
theorem clJ_same (X : CS) (p i f j : Nat) : samN X (clJ X p i f j) := ⟨rfl, rfl, rfl, rfl, rfl, rfl, rfl, rfl, rfl⟩
theorem scJ_same (X : CS) (p j : Nat) : samN X (scJ X p j) := ⟨rfl, rfl, rfl, rfl, rfl, rfl, rfl, rfl, rfl⟩
theorem iv1_same (X : CS) (n i : Nat) : samN X (iv1 X n i) := ⟨rfl, rfl, rfl, rfl, rfl, rfl, rfl, rfl, rfl⟩
theorem dcO_same (X : CS) (o s k : Nat) : samN X (dcO X o s k) := ⟨rfl, rfl, rfl, rfl, rfl, rfl, rfl, rfl, rfl⟩
theorem slC_same (X : CS) (j : Nat) : samN X (slC X j) := ⟨rfl, rfl, rfl, rfl, rfl, rfl, rfl, rfl, rfl⟩
theorem sgott_same (X : CS) (f : Nat → Nat) : samN X (X.s_gott f) := ⟨rfl, rfl, rfl, rfl, rfl, rfl, rfl, rfl, rfl⟩
theorem dcT_same (X : CS) (a s : Nat) : samN X (dcT X a s) := (slC_same X 5).tr (sgott_same _ _)
theorem clC_same (c : CS) (p n : Nat) : ∀ i, samN c (clC c p n i)
  | 0 => samN.rf c
  | i + 1 => by
    have ih := clC_same c p n i
    unfold clC
    split
    · exact ih
    · exact ih.tr (clJ_same _ _ _ _ _)
theorem ivP_same (c : CS) (n : Nat) : ∀ p, samN c (ivP c n p)
  | 0 => iv1_same c n n
  | p + 1 => (ivP_same c n p).tr ((scJ_same (ivP c n p) p n).tr (clC_same (scJ (ivP c n p) p n) p n n))
theorem dcK_same (X : CS) (o s : Nat) : ∀ k, samN X (dcK X o s k)
  | 0 => samN.rf X
  | k + 1 => (dcK_same X o s k).tr (dcO_same (dcK X o s k) o s k)
theorem dcS_same (c : CS) (o a : Nat) : ∀ s, samN c (dcS c o a s)
  | 0 => ivP_same c 5 5
  | s + 1 => ((dcS_same c o a s).tr (dcK_same (dcS c o a s) o s 5)).tr (dcT_same (dcK (dcS c o a s) o s 5) a s)
theorem rdF_lt {D : Nat → Nat} {b : Nat} {V : Nat → Nat} (h1 : B1 D) (h2 : B1 V) : ∀ k, B1 (rdF D b V k)
  | 0 => h2
  | k + 1 => upN_ind (Q := fun x => x < 256) (rdF_lt h1 h2 k) (h1 _)
theorem cp8_lt {R V : Nat → Nat} (h1 : B1 R) (h2 : B1 V) : B1 (cp8 R V) := fun j => by
  unfold cp8
  split
  · exact h1 j
  · exact h2 j
/-- the coder's matrices hold bytes -/
def BC (c : CS) : Prop := BM c.inv ∧ BM c.giv ∧ BM c.mat ∧ B1 c.wire ∧ BM c.data
theorem dcK_BC {X : CS} {o s : Nat} (h : BC X) : ∀ k, BC (dcK X o s k)
  | 0 => h
  | k + 1 => by
    obtain ⟨h1, h2, h3, h4, h5⟩ := dcK_BC (o := o) (s := s) h k
    have hr := rdF_lt (b := (dcK X o s k).hpl ((dcK X o s k).chos k) (rp (dcK X o s k) ((dcK X o s k).chos k) o) s) (h5 ((dcK X o s k).chos k)) h4 8
    exact ⟨h1, BM_up h2 (cp8_lt hr (h2 k)), h3, hr, h5⟩
theorem slB_BM {V G A : Nat → Nat → Nat} (h : BM A) : ∀ j, BM (slB V G A j)
  | 0 => h
  | j + 1 => scM_BM (slB_BM h j) 5
theorem slC_BC {X : CS} (h : BC X) : BC (slC X 5) := ⟨h.1, gvO_BM h.2.1 5, slB_BM (slA_BM h.2.2.1 3) 5, h.2.2.2.1, h.2.2.2.2⟩
theorem sgott_BC {X : CS} {f : Nat → Nat} (h : BC X) : BC (X.s_gott f) := ⟨h.1, h.2.1, h.2.2.1, h.2.2.2.1, h.2.2.2.2⟩
theorem dcT_BC {X : CS} {a s : Nat} (h : BC X) : BC (dcT X a s) := sgott_BC (slC_BC h)
theorem clC_mat (c : CS) (p n : Nat) : ∀ i, (clC c p n i).mat = c.mat ∧ (clC c p n i).giv = c.giv ∧ (clC c p n i).wire = c.wire
  | 0 => ⟨rfl, rfl, rfl⟩
  | i + 1 => by
    have ih := clC_mat c p n i
    unfold clC
    split
    · exact ih
    · exact ih
theorem ivP_mat (c : CS) (n : Nat) : ∀ p, (ivP c n p).mat = c.mat ∧ (ivP c n p).giv = c.giv ∧ (ivP c n p).wire = c.wire
  | 0 => ⟨rfl, rfl, rfl⟩
  | p + 1 => by
    obtain ⟨h1, h2, h3⟩ := ivP_mat c n p
    obtain ⟨k1, k2, k3⟩ := clC_mat (scJ (ivP c n p) p n) p n n
    exact ⟨k1.trans h1, k2.trans h2, k3.trans h3⟩
theorem dcS_BC {c : CS} {o a : Nat} (h1 : BM c.squ) (h : BC c) : ∀ s, BC (dcS c o a s)
  | 0 => by
    obtain ⟨k1, k2, k3⟩ := ivP_mat c 5 5
    have k4 : (ivP c 5 5).data = c.data := (ivP_same c 5 5).1
    exact ⟨(ivP_BM (n := 5) h1 h.1 5).2, by show BM (ivP c 5 5).giv; rw [k2]; exact h.2.1, by show BM (ivP c 5 5).mat; rw [k1]; exact h.2.2.1, by show B1 (ivP c 5 5).wire; rw [k3]; exact h.2.2.2.1, by show BM (ivP c 5 5).data; rw [k4]; exact h.2.2.2.2⟩
  | s + 1 => dcT_BC (dcK_BC (dcS_BC h1 h s) 5)
theorem k_S_decode {l : Launch} {g : GX} {c : CS} {m : MS} {n d : Nat} (hd : 4 ≤ d) {o a : Nat} (ho : o < 6) (ha : a ≤ 240) (hc : CI c) (hch : ∀ k, k < 5 → c.chos k < 12) (hst : ∀ k, k < 5 → rstr c (c.chos k) o = stp a ∧ TKok c (c.chos k) (rp c (c.chos k) o)) (h1 : BM c.squ) (hB : BC c) : CE l g M_S_decode d 0 0 [.ref (aS g), .int (nI o), .int (nI a)] n (hp g c m) (none) n (hp g (dcC c o a) m) := by
  have h8 := stp_le ha
  refine CE.of (by decide +kernel) (lv := [(0, .ref (aS g)), (1, .int (nI o)), (2, .int (nI a))]) rfl (Nat.le_of_ble_eq_true rfl) ?_
  refine r_aload_n d_S_decode_0 0 rfl ?_
  refine rg_S_10 rfl d_S_decode_1 gS rfl ?_
  refine r_aload_n d_S_decode_4 0 rfl ?_
  refine rg_S_52 rfl d_S_decode_5 gS rfl ?_
  refine r_iconst (v := nI 5) d_S_decode_8 (by decide) ?_
  refine rc_S_234 rfl d_S_decode_9 (k_C_invert (by omega) (by decide) (by decide) h1 hB.1 hch) gC (room_ok (d' := d - 1) (by omega) (by decide)) ⟨Nat.le_refl _, Nat.le_refl _⟩ (Nat.le_of_ble_eq_true rfl) ?_
  refine r_iconst (v := nI 0) d_S_decode_12 (by decide) ?_
  refine r_istore_n (lv' := [(0, _), (1, _), (2, _), (3, _)]) d_S_decode_13 (by decide) rfl ?_
  refine r_heap (h' := hp g (dcS c o a 0) m) rfl ?_
  refine r_less (lv' := [(0, .ref (aS g)), (1, .int (nI o)), (2, .int (nI a)), (3, .int (nI 0))]) (by simp) ?_
  refine back_ind (n := stp a) (G := fun s => RJ l g M_S_decode (RMX d 0 0) (TQ g 0 0 (QE (none) n (hp g (dcC c o a) m))) XT n (hp g (dcS c o a s) m) 0 0 14 [(0, .ref (aS g)), (1, .int (nI o)), (2, .int (nI a)), (3, .int (nI s))] []) ?_ ?_ 0 (Nat.zero_le _)
  · skip
    refine r_iload_n d_S_decode_14 3 rfl ?_
    refine r_iload_n d_S_decode_15 2 rfl ?_
    refine rc_S_92 rfl d_S_decode_16 (k_S_stripesOf (by omega) (by omega)) (room_ok (d' := d - 1) (by omega) (by decide)) ⟨Nat.le_refl _, Nat.le_refl _⟩ (Nat.le_of_ble_eq_true rfl) ?_
    refine r_icmp_geN (tgt := 117) d_S_decode_19 (by decide) (by omega) (by omega) (fun c19 => ?_) (fun c19 => ?_)
    rotate_left 1
    · exfalso; first | omega | (revert c19; decide) | cases c19
    refine r_return d_S_decode_117 rfl ⟨rfl, rfl, ?_⟩
    · rfl
  · intro s hb_s ih_s
    have hS0 := dcS_same c o a s
    have hB0 := dcS_BC (o := o) (a := a) h1 hB s
    refine r_iload_n d_S_decode_14 3 rfl ?_
    refine r_iload_n d_S_decode_15 2 rfl ?_
    refine rc_S_92 rfl d_S_decode_16 (k_S_stripesOf (by omega) (by omega)) (room_ok (d' := d - 1) (by omega) (by decide)) ⟨Nat.le_refl _, Nat.le_refl _⟩ (Nat.le_of_ble_eq_true rfl) ?_
    refine r_icmp_geN (tgt := 117) d_S_decode_19 (by decide) (by omega) (by omega) (fun c19 => ?_) (fun c19 => ?_)
    · exfalso; first | omega | (revert c19; decide) | cases c19
    refine r_iconst (v := nI 0) d_S_decode_22 (by decide) ?_
    refine r_istore (lv' := [(0, _), (1, _), (2, _), (3, _), (4, _)]) d_S_decode_23 (by decide) rfl ?_
    refine r_heap (h' := hp g (dcK (dcS c o a s) o s 0) m) rfl ?_
    refine r_less (lv' := [(0, .ref (aS g)), (1, .int (nI o)), (2, .int (nI a)), (3, .int (nI s)), (4, .int (nI 0))]) (by simp) ?_
    refine back_ind (n := 5) (G := fun k => RJ l g M_S_decode (RMX d 0 0) (TQ g 0 0 (QE (none) n (hp g (dcC c o a) m))) XT n (hp g (dcK (dcS c o a s) o s k) m) 0 0 25 [(0, .ref (aS g)), (1, .int (nI o)), (2, .int (nI a)), (3, .int (nI s)), (4, .int (nI k))] []) ?_ ?_ 0 (Nat.zero_le _)
    · skip
      refine r_iload d_S_decode_25 4 rfl ?_
      refine r_iconst (v := nI 5) d_S_decode_27 (by decide) ?_
      refine r_icmp_geN (tgt := 84) d_S_decode_28 (by decide) (by omega) (by omega) (fun c28 => ?_) (fun c28 => ?_)
      rotate_left 1
      · exfalso; first | omega | (revert c28; decide) | cases c28
      obtain ⟨e1, e2, e3, e4, e5, e6, e7, e8, -⟩ := hS0.tr (dcK_same (dcS c o a s) o s 5)
      have hB1 := dcK_BC (o := o) (s := s) hB0 5
      refine r_aload_n d_S_decode_84 0 rfl ?_
      refine rg_S_10 rfl d_S_decode_85 gS rfl ?_
      refine r_aload_n d_S_decode_88 0 rfl ?_
      refine rg_S_52 rfl d_S_decode_89 gS rfl ?_
      refine rc_S_244 rfl d_S_decode_92 (k_C_solve (c := dcK (dcS c o a s) o s 5) (by omega) hB1.1 hB1.2.1 hB1.2.2.1 (fun k hk => by rw [e8]; exact hch k hk)) gC (room_ok (d' := d - 1) (by omega) (by decide)) ⟨Nat.le_refl _, Nat.le_refl _⟩ (Nat.le_of_ble_eq_true rfl) ?_
      refine r_aload_n d_S_decode_95 0 rfl ?_
      refine rg_S_10 rfl d_S_decode_96 gS rfl ?_
      refine r_aload_n d_S_decode_99 0 rfl ?_
      refine rg_S_37 rfl d_S_decode_100 gS rfl ?_
      refine r_iload_n d_S_decode_103 3 rfl ?_
      refine r_bipush (v := nI 30) d_S_decode_104 (by decide) ?_
      refine r_imulN d_S_decode_106 ?_
      refine r_iload_n d_S_decode_107 2 rfl ?_
      refine rc_S_248 rfl d_S_decode_108 (k_C_unload (c := (slC (dcK (dcS c o a s) o s 5) 5)) (by omega) (by omega) (by omega)) gC (room_ok (d' := d - 1) (by omega) (by decide)) ⟨Nat.le_refl _, Nat.le_refl _⟩ (Nat.le_of_ble_eq_true rfl) ?_
      refine r_iincN (lv' := [(0, _), (1, _), (2, _), (3, _), (4, _)]) d_S_decode_111 3 rfl (by decide) rfl ?_
      refine r_goto (tgt := 14) d_S_decode_114 (by decide) ?_
      refine r_less (lv' := [(0, .ref (aS g)), (1, .int (nI o)), (2, .int (nI a)), (3, .int (nI (s + 1)))]) (by simp) ?_
      exact ih_s
    · intro k hb_k ih_k
      obtain ⟨e1, e2, e3, e4, e5, e6, e7, e8, -⟩ := hS0.tr (dcK_same (dcS c o a s) o s k)
      have hB1 := dcK_BC (o := o) (s := s) hB0 k
      have q0 : (dcK (dcS c o a s) o s k).chos k < 12 := by rw [e8]; exact hch k hb_k
      have q1 : rp (dcK (dcS c o a s) o s k) ((dcK (dcS c o a s) o s k).chos k) o < 12 := rp_lt ho
      obtain ⟨t1, t2⟩ := hst k hb_k
      have q2 : s < (dcK (dcS c o a s) o s k).hstr ((dcK (dcS c o a s) o s k).chos k) (rp (dcK (dcS c o a s) o s k) ((dcK (dcS c o a s) o s k).chos k) o) := by rw [e4, e8, rp_eq e7]; show s < rstr c (c.chos k) o; omega
      have q3 : (dcK (dcS c o a s) o s k).hstr ((dcK (dcS c o a s) o s k).chos k) (rp (dcK (dcS c o a s) o s k) ((dcK (dcS c o a s) o s k).chos k) o) ≤ 8 := by rw [e4]; exact (hc _ _).1
      have q4 : (dcK (dcS c o a s) o s k).hpl ((dcK (dcS c o a s) o s k).chos k) (rp (dcK (dcS c o a s) o s k) ((dcK (dcS c o a s) o s k).chos k) o) s < 40 := by rw [e3]; exact (hc _ _).2.2.2 s
      have q5 : (dcK (dcS c o a s) o s k).takn ((dcK (dcS c o a s) o s k).chos k) ((dcK (dcS c o a s) o s k).hpl ((dcK (dcS c o a s) o s k).chos k) (rp (dcK (dcS c o a s) o s k) ((dcK (dcS c o a s) o s k).chos k) o) s) = true := by rw [e2, e3, e8, rp_eq e7]; exact t2 s (by show s < rstr c (c.chos k) o; omega)
      refine r_iload d_S_decode_25 4 rfl ?_
      refine r_iconst (v := nI 5) d_S_decode_27 (by decide) ?_
      refine r_icmp_geN (tgt := 84) d_S_decode_28 (by decide) (by omega) (by omega) (fun c28 => ?_) (fun c28 => ?_)
      · exfalso; first | omega | (revert c28; decide) | cases c28
      refine r_aload_n d_S_decode_31 0 rfl ?_
      refine rg_S_18 rfl d_S_decode_32 gS rfl ?_
      refine r_aload_n d_S_decode_35 0 rfl ?_
      refine rg_S_52 rfl d_S_decode_36 gS rfl ?_
      refine r_iload d_S_decode_39 4 rfl ?_
      refine r_aldN d_S_decode_41 gCho (by omega) (by decide) ?_
      refine r_qld (t := 2) rfl d_S_decode_42 gNodes (by omega) (by decide) rfl ?_
      refine r_astore (lv' := [(0, _), (1, _), (2, _), (3, _), (4, _), (5, _)]) d_S_decode_43 (by decide) rfl ?_
      refine r_aload d_S_decode_45 5 rfl ?_
      refine r_aload d_S_decode_47 5 rfl ?_
      refine rg_S_173 rfl d_S_decode_49 (gN (i := (dcK (dcS c o a s) o s k).chos k) (by omega)) rfl ?_
      refine r_iload_n d_S_decode_52 1 rfl ?_
      refine r_qld (t := 3) rfl d_S_decode_53 (gR (i := (dcK (dcS c o a s) o s k).chos k) (by omega)) (by omega) (by decide) rfl ?_
      refine r_iload_n d_S_decode_54 3 rfl ?_
      refine rc_S_170 rfl d_S_decode_55 (k_H_placeOf (c := dcK (dcS c o a s) o s k) (by omega) q0 q1 q2 (by omega) (by omega)) (gH (i := (dcK (dcS c o a s) o s k).chos k) (p := rp (dcK (dcS c o a s) o s k) ((dcK (dcS c o a s) o s k).chos k) o) (by omega) (by omega)) (room_ok (d' := d - 1) (by omega) (by decide)) ⟨Nat.le_refl _, Nat.le_refl _⟩ (Nat.le_of_ble_eq_true rfl) ?_
      refine r_aload_n d_S_decode_58 0 rfl ?_
      refine rg_S_55 rfl d_S_decode_59 gS rfl ?_
      refine rc_S_238 rfl d_S_decode_62 (k_N_read (c := dcK (dcS c o a s) o s k) (by omega) q0 q4 q5) (gN (i := (dcK (dcS c o a s) o s k).chos k) (by omega)) (room_ok (d' := d - 1) (by omega) (by decide)) ⟨Nat.le_refl _, Nat.le_refl _⟩ (Nat.le_of_ble_eq_true rfl) ?_
      refine r_aload_n d_S_decode_65 0 rfl ?_
      refine rg_S_10 rfl d_S_decode_66 gS rfl ?_
      refine r_iload d_S_decode_69 4 rfl ?_
      refine r_aload_n d_S_decode_71 0 rfl ?_
      refine rg_S_55 rfl d_S_decode_72 gS rfl ?_
      refine rc_S_241 rfl d_S_decode_75 (k_C_give (c := (dcK (dcS c o a s) o s k).s_wire (rdF ((dcK (dcS c o a s) o s k).data ((dcK (dcS c o a s) o s k).chos k)) ((dcK (dcS c o a s) o s k).hpl ((dcK (dcS c o a s) o s k).chos k) (rp (dcK (dcS c o a s) o s k) ((dcK (dcS c o a s) o s k).chos k) o) s) (dcK (dcS c o a s) o s k).wire 8)) (by omega) hb_k) gC (room_ok (d' := d - 1) (by omega) (by decide)) ⟨Nat.le_refl _, Nat.le_refl _⟩ (Nat.le_of_ble_eq_true rfl) ?_
      refine r_iincN (lv' := [(0, _), (1, _), (2, _), (3, _), (4, _), (5, _)]) d_S_decode_78 4 rfl (by decide) rfl ?_
      refine r_goto (tgt := 25) d_S_decode_81 (by decide) ?_
      refine r_less (lv' := [(0, .ref (aS g)), (1, .int (nI o)), (2, .int (nI a)), (3, .int (nI s)), (4, .int (nI (k + 1)))]) (by simp) ?_
      exact ih_k
def stl (c : CS) (i o : Nat) : Bool := !c.unst o && decide (0 < nw c o) && !frs c o (nw c o) i
theorem k_S_isStale {l : Launch} {g : GX} {c : CS} {m : MS} {n d : Nat} (hd : 3 ≤ d) {i o : Nat} (hi : i < 12) (ho : o < 6) (hc : CI c) : CE l g M_S_isStale d 0 0 [.ref (aS g), .int (nI i), .int (nI o)] n (hp g c m) (some (.int (b2 (stl c i o)))) n (hp g c m) := by
  have hw := nw_lt (o := o) hc
  refine CE.of (by decide +kernel) (lv := [(0, .ref (aS g)), (1, .int (nI i)), (2, .int (nI o))]) rfl (Nat.le_of_ble_eq_true rfl) ?_
  refine r_aload_n d_S_isStale_0 0 rfl ?_
  refine r_iload_n d_S_isStale_1 2 rfl ?_
  refine rc_S_134 rfl d_S_isStale_2 (k_S_newestOf (by omega) ho hc) gS (room_ok (d' := d - 1) (by omega) (by decide)) ⟨Nat.le_refl _, Nat.le_refl _⟩ (Nat.le_of_ble_eq_true rfl) ?_
  refine r_istore_n (lv' := [(0, _), (1, _), (2, _), (3, _)]) d_S_isStale_5 (by decide) rfl ?_
  refine r_aload_n d_S_isStale_6 0 rfl ?_
  refine rg_S_26 rfl d_S_isStale_7 gS rfl ?_
  refine r_iload_n d_S_isStale_10 2 rfl ?_
  refine r_zldB d_S_isStale_11 gUns (by omega) (by decide) ?_
  refine r_if_neB (tgt := 33) d_S_isStale_12 (by decide) (fun c12 => ?_) (fun c12 => ?_)
  · skip
    refine r_iconst (v := nI 0) d_S_isStale_33 (by decide) ?_
    refine r_ireturn d_S_isStale_34 rfl rfl ⟨?_, rfl, ?_⟩
    · first | exact vb0 (by simp [stl, *]) | exact vb1 (by simp [stl, *])
    · rfl
  · skip
    refine r_iload_n d_S_isStale_15 3 rfl ?_
    refine r_if_leN (tgt := 33) d_S_isStale_16 (by decide) (by omega) (fun c16 => ?_) (fun c16 => ?_)
    · skip
      refine r_iconst (v := nI 0) d_S_isStale_33 (by decide) ?_
      refine r_ireturn d_S_isStale_34 rfl rfl ⟨?_, rfl, ?_⟩
      · first | exact vb0 (by simp [stl, *]) | exact vb1 (by simp [stl, *])
      · rfl
    · skip
      refine r_aload_n d_S_isStale_19 0 rfl ?_
      refine r_iload_n d_S_isStale_20 1 rfl ?_
      refine r_iload_n d_S_isStale_21 2 rfl ?_
      refine r_iload_n d_S_isStale_22 3 rfl ?_
      refine rc_S_159 rfl d_S_isStale_23 (k_S_isFresh (by omega) hi ho hw hc) gS (room_ok (d' := d - 1) (by omega) (by decide)) ⟨Nat.le_refl _, Nat.le_refl _⟩ (Nat.le_of_ble_eq_true rfl) ?_
      refine r_if_neB (tgt := 33) d_S_isStale_26 (by decide) (fun c26 => ?_) (fun c26 => ?_)
      · skip
        refine r_iconst (v := nI 0) d_S_isStale_33 (by decide) ?_
        refine r_ireturn d_S_isStale_34 rfl rfl ⟨?_, rfl, ?_⟩
        · first | exact vb0 (by simp [stl, *]) | exact vb1 (by simp [stl, *])
        · rfl
      · skip
        refine r_iconst (v := nI 1) d_S_isStale_29 (by decide) ?_
        refine r_goto (tgt := 34) d_S_isStale_30 (by decide) ?_
        refine r_ireturn d_S_isStale_34 rfl rfl ⟨?_, rfl, ?_⟩
        · first | exact vb0 (by simp [stl, *]) | exact vb1 (by simp [stl, *])
        · rfl
