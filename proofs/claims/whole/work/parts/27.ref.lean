theorem mfr_eq {m m' : MS} (h1 : m'.fail = m.fail) (h2 : m'.has = m.has) (h3 : m'.ver = m.ver) : mfr m' = mfr m := by
  funext o v i
  unfold mfr
  rw [h1, h2, h3]
theorem mfq_eq {m m' : MS} (h1 : m'.fail = m.fail) (h2 : m'.has = m.has) (h3 : m'.ver = m.ver) : mfq m' = mfq m := by
  funext o v i
  unfold mfq
  rw [h1, h2, h3]
theorem mnL_eq {m m' : MS} (h1 : m'.fail = m.fail) (h2 : m'.has = m.has) (h3 : m'.ver = m.ver) (o : Nat) : ∀ b, mnL m' o b = mnL m o b
  | 0 => rfl
  | b + 1 => by
    unfold mnL
    rw [mnL_eq h1 h2 h3 o b, mfq_eq h1 h2 h3, h1, h2, h3]
theorem mnw_eq {m m' : MS} (h1 : m'.fail = m.fail) (h2 : m'.has = m.has) (h3 : m'.ver = m.ver) {o : Nat} : mnw m' o = mnw m o := mnL_eq h1 h2 h3 o 12
theorem wtM_eq {m m' : MS} (h1 : m'.fail = m.fail) (h2 : m'.has = m.has) (h3 : m'.ver = m.ver) (h4 : m'.opn = m.opn) {i o : Nat} : wtM m' i o = wtM m i o := by
  unfold wtM
  rw [mnw_eq h1 h2 h3, mfr_eq h1 h2 h3, h4]
theorem mff_eq {m m' : MS} (h1 : m'.fail = m.fail) (h2 : m'.has = m.has) (h3 : m'.ver = m.ver) {o v : Nat} : mff m' o v = mff m o v := by
  unfold mff
  rw [mfr_eq h1 h2 h3]
theorem mnL_spec (m : MS) (o : Nat) : ∀ b, mnL m o b = 0 ∨ ∃ i, i < b ∧ m.fail i = false ∧ m.has (rx i o false) = true ∧ m.ver (rx i o false) = mnL m o b ∧ 5 ≤ ct (mfq m o (mnL m o b)) 12
  | 0 => Or.inl rfl
  | b + 1 => by
    unfold mnL
    split
    · rename_i q
      exact Or.inr ⟨b, by omega, q.1, q.2.1, rfl, q.2.2.2⟩
    · rcases mnL_spec m o b with h | ⟨i, h1, h2⟩
      · exact Or.inl h
      · exact Or.inr ⟨i, by omega, h2⟩
theorem mff_lt {m : MS} {o i v : Nat} (hi : i < 12) (h : mfr m o v i = true) : mff m o v < 12 := by
  rcases Nat.lt_or_ge (mff m o v) 12 with q | q
  · exact q
  · exfalso
    have h2 := (lfF_ge (fun i => !mfr m o v i) 12 0).2
    have key : ∀ f k, lfF (fun i => !mfr m o v i) f k = k + f → ∀ j, k ≤ j → j < k + f → mfr m o v j = false := by
      intro f
      induction f with
      | zero => intro k _ j h1 h2; omega
      | succ f ih =>
        intro k hk j h1 h2
        unfold lfF at hk
        by_cases e : (!mfr m o v k) = true
        · rw [if_pos e] at hk
          by_cases z : j = k
          · rw [z]; simpa using e
          · exact ih (k + 1) (by omega) j (by omega) (by omega)
        · rw [if_neg e] at hk
          omega
    have := key 12 0 (by unfold mff at q; omega) i (Nat.zero_le _) (by omega)
    rw [h] at this
    cases this
theorem mff_nw {m : MS} {o : Nat} (h : 0 < mnw m o) : mff m o (mnw m o) < 12 := by
  rcases mnL_spec m o 12 with q | ⟨i, h1, h2, h3, h4, -⟩
  · have : mnw m o = 0 := q
    omega
  · exact mff_lt h1 (by unfold mfr; rw [h2, h3, show m.ver (rx i o false) = mnw m o from h4, decide_eq_true h]; simp)
def selM (m : MS) (o v : Nat) (x : Int32) (i : Nat) : Bool := told x i && mfr m o v i
theorem selM_eq {m m' : MS} (h1 : m'.fail = m.fail) (h2 : m'.has = m.has) (h3 : m'.ver = m.ver) : selM m' = selM m := by
  funext o v x i
  unfold selM
  rw [mfr_eq h1 h2 h3]
theorem k_M_choose {l : Launch} {g : GX} {c : CS} {m : MS} {n d : Nat} (hd : 2 ≤ d) {o v mo : Nat} {x : Int32} (ho : o < 6) (hv : v < 65536) (hmo : mo ≤ 8) (hm : MI m) : CE l g M_M_choose d 0 0 [.ref (aM g), .int (nI o), .int (nI v), .int x, .int (nI mo)] n (hp g c m) (some (.int (nI (ct (selM m o v x) 12)))) n (hp g c (m.s_chos (chF (selM m o v x) m.chos mo 12))) := by
  refine CE.of (by decide +kernel) (lv := [(0, .ref (aM g)), (1, .int (nI o)), (2, .int (nI v)), (3, .int x), (4, .int (nI mo))]) rfl (Nat.le_of_ble_eq_true rfl) ?_
  refine r_iconst (v := nI 0) d_M_choose_0 (by decide) ?_
  refine r_istore (lv' := [(0, _), (1, _), (2, _), (3, _), (4, _), (5, _)]) d_M_choose_1 (by decide) rfl ?_
  refine r_iconst (v := nI 0) d_M_choose_3 (by decide) ?_
  refine r_istore (lv' := [(0, _), (1, _), (2, _), (3, _), (4, _), (5, _), (6, _)]) d_M_choose_4 (by decide) rfl ?_
  refine r_heap (h' := hp g c (m.s_chos (chF (selM m o v x) m.chos mo 0))) rfl ?_
  refine back_ind (n := 12) (G := fun i => RJ l g M_M_choose (RMX d 0 0) (TQ g 0 0 (QE (some (.int (nI (ct (selM m o v x) 12)))) n (hp g c (m.s_chos (chF (selM m o v x) m.chos mo 12))))) XT n (hp g c (m.s_chos (chF (selM m o v x) m.chos mo i))) 0 0 6 [(0, .ref (aM g)), (1, .int (nI o)), (2, .int (nI v)), (3, .int x), (4, .int (nI mo)), (5, .int (nI (ct (selM m o v x) i))), (6, .int (nI i))] []) ?_ ?_ 0 (Nat.zero_le _)
  · skip
    refine r_iload d_M_choose_6 6 rfl ?_
    refine r_bipush (v := nI 12) d_M_choose_8 (by decide) ?_
    refine r_icmp_geN (tgt := 59) d_M_choose_10 (by decide) (by omega) (by omega) (fun c10 => ?_) (fun c10 => ?_)
    rotate_left 1
    · exfalso; first | omega | (revert c10; decide) | cases c10
    refine r_iload d_M_choose_59 5 rfl ?_
    refine r_ireturn d_M_choose_61 rfl rfl ⟨?_, rfl, ?_⟩
    · rfl
    · rfl
  · intro i hb_i ih_i
    have hc12 := ct_le (selM m o v x) i
    refine r_iload d_M_choose_6 6 rfl ?_
    refine r_bipush (v := nI 12) d_M_choose_8 (by decide) ?_
    refine r_icmp_geN (tgt := 59) d_M_choose_10 (by decide) (by omega) (by omega) (fun c10 => ?_) (fun c10 => ?_)
    · exfalso; first | omega | (revert c10; decide) | cases c10
    refine r_iload_n d_M_choose_13 3 rfl ?_
    refine r_iload d_M_choose_14 6 rfl ?_
    refine r_ishr d_M_choose_16 ?_
    refine r_iconst (v := nI 1) d_M_choose_17 (by decide) ?_
    refine r_iand d_M_choose_18 ?_
    refine r_iconst (v := nI 1) d_M_choose_19 (by decide) ?_
    refine r_icmp_ne (tgt := 53) d_M_choose_20 (by decide) (fun c20 => ?_) (fun c20 => ?_)
    · skip
      have ht : told x i = false := decide_eq_false c20
      have hs : selM m o v x i = false := by simp [selM, ht]
      refine r_iincN (lv' := [(0, _), (1, _), (2, _), (3, _), (4, _), (5, _), (6, _)]) d_M_choose_53 6 rfl (by decide) rfl ?_
      refine r_goto (tgt := 6) d_M_choose_56 (by decide) ?_
      first | (exact r_at ih_i (congrArg (fun z => hp g c (m.s_chos z)) (if_neg (fun q => absurd (hs.symm.trans q.1) (by decide))).symm) (by rw [ct_f hs]) rfl) | (exact r_at ih_i (congrArg (fun z => hp g c (m.s_chos z)) (if_pos ⟨hs, c38⟩).symm) (by rw [ct_t hs]) rfl) | (exact r_at ih_i (congrArg (fun z => hp g c (m.s_chos z)) (if_neg (fun q => absurd q.2 (by omega))).symm) (by rw [ct_t hs]) rfl)
    · skip
      have ht : told x i = true := decide_eq_true c20
      refine r_aload_n d_M_choose_23 0 rfl ?_
      refine r_iload d_M_choose_24 6 rfl ?_
      refine r_iload_n d_M_choose_26 1 rfl ?_
      refine r_iload_n d_M_choose_27 2 rfl ?_
      refine rc_M_93 rfl d_M_choose_28 (k_M_isFresh (m := m.s_chos (chF (selM m o v x) m.chos mo i)) (by omega) hb_i ho hv hm) gM (room_ok (d' := d - 1) (by omega) (by decide)) ⟨Nat.le_refl _, Nat.le_refl _⟩ (Nat.le_of_ble_eq_true rfl) ?_
      refine r_top (y := b2 (mfr m o v i)) (congrArg b2 (congrFun (congrFun (congrFun (mfr_eq (m := m) rfl rfl rfl) o) v) i)) ?_
      refine r_if_eqB (tgt := 53) d_M_choose_31 (by decide) (fun c31 => ?_) (fun c31 => ?_)
      · skip
        have hs : selM m o v x i = false := by simp [selM, c31]
        refine r_iincN (lv' := [(0, _), (1, _), (2, _), (3, _), (4, _), (5, _), (6, _)]) d_M_choose_53 6 rfl (by decide) rfl ?_
        refine r_goto (tgt := 6) d_M_choose_56 (by decide) ?_
        first | (exact r_at ih_i (congrArg (fun z => hp g c (m.s_chos z)) (if_neg (fun q => absurd (hs.symm.trans q.1) (by decide))).symm) (by rw [ct_f hs]) rfl) | (exact r_at ih_i (congrArg (fun z => hp g c (m.s_chos z)) (if_pos ⟨hs, c38⟩).symm) (by rw [ct_t hs]) rfl) | (exact r_at ih_i (congrArg (fun z => hp g c (m.s_chos z)) (if_neg (fun q => absurd q.2 (by omega))).symm) (by rw [ct_t hs]) rfl)
      · skip
        have hs : selM m o v x i = true := by simp [selM, ht, c31]
        refine r_iload d_M_choose_34 5 rfl ?_
        refine r_iload d_M_choose_36 4 rfl ?_
        refine r_icmp_geN (tgt := 50) d_M_choose_38 (by decide) (by omega) (by omega) (fun c38 => ?_) (fun c38 => ?_)
        · skip
          refine r_iincN (lv' := [(0, _), (1, _), (2, _), (3, _), (4, _), (5, _), (6, _)]) d_M_choose_50 5 rfl (by decide) rfl ?_
          refine r_iincN (lv' := [(0, _), (1, _), (2, _), (3, _), (4, _), (5, _), (6, _)]) d_M_choose_53 6 rfl (by decide) rfl ?_
          refine r_goto (tgt := 6) d_M_choose_56 (by decide) ?_
          first | (exact r_at ih_i (congrArg (fun z => hp g c (m.s_chos z)) (if_neg (fun q => absurd (hs.symm.trans q.1) (by decide))).symm) (by rw [ct_f hs]) rfl) | (exact r_at ih_i (congrArg (fun z => hp g c (m.s_chos z)) (if_pos ⟨hs, c38⟩).symm) (by rw [ct_t hs]) rfl) | (exact r_at ih_i (congrArg (fun z => hp g c (m.s_chos z)) (if_neg (fun q => absurd q.2 (by omega))).symm) (by rw [ct_t hs]) rfl)
        · skip
          refine r_aload_n d_M_choose_41 0 rfl ?_
          refine rg_M_54 rfl d_M_choose_42 gM rfl ?_
          refine r_iload d_M_choose_45 5 rfl ?_
          refine r_iload d_M_choose_47 6 rfl ?_
          refine r_astN d_M_choose_49 gmCho (by omega) (by decide) (wm_chos) ?_
          refine r_iincN (lv' := [(0, _), (1, _), (2, _), (3, _), (4, _), (5, _), (6, _)]) d_M_choose_50 5 rfl (by decide) rfl ?_
          refine r_iincN (lv' := [(0, _), (1, _), (2, _), (3, _), (4, _), (5, _), (6, _)]) d_M_choose_53 6 rfl (by decide) rfl ?_
          refine r_goto (tgt := 6) d_M_choose_56 (by decide) ?_
          first | (exact r_at ih_i (congrArg (fun z => hp g c (m.s_chos z)) (if_neg (fun q => absurd (hs.symm.trans q.1) (by decide))).symm) (by rw [ct_f hs]) rfl) | (exact r_at ih_i (congrArg (fun z => hp g c (m.s_chos z)) (if_pos ⟨hs, c38⟩).symm) (by rw [ct_t hs]) rfl) | (exact r_at ih_i (congrArg (fun z => hp g c (m.s_chos z)) (if_neg (fun q => absurd q.2 (by omega))).symm) (by rw [ct_t hs]) rfl)
def gtB (m : MS) (o s i k : Nat) : Nat := m.byts (8 * (40 * m.chos i + m.blk (8 * rx (m.chos i) o false + s)) + k)
def gE1 (m : MS) (o s : Nat) : Nat → Nat → Nat
  | 0 => m.eqs
  | i + 1 => wrB (wrB (gE1 m o s i) (16 * i) (rowT (m.chos i)) 5) (16 * i + 5) (fun k => gtB m o s i (5 + k)) 3
def gS1 (m : MS) (o s : Nat) : Nat → Nat := stE (gE1 m o s 5) 5 8 5
def gRt (m : MS) (o s : Nat) : Nat → Nat → Nat
  | 0 => m.right
  | i + 1 => wrB (gRt m o s i) (3 * i) (fun k => gS1 m o s (16 * i + 5 + k)) 3
def gVv (m : MS) (o s i q : Nat) : Nat → Nat
  | 0 => gtB m o s i q
  | k + 1 => gVv m o s i q k ^^^ mulT (rowT (m.chos i) (5 + k)) (gRt m o s 5 (3 * q + k))
def gE2 (m : MS) (o s : Nat) : Nat → Nat → Nat
  | 0 => gS1 m o s
  | i + 1 => wrB (wrB (gE2 m o s i) (16 * i) (rowT (m.chos i)) 5) (16 * i + 5) (fun q => gVv m o s i q 3) 5
def gS2 (m : MS) (o s : Nat) : Nat → Nat := stE (gE2 m o s 5) 5 10 5
def gGo (m : MS) (o s : Nat) : Nat → Nat → Nat
  | 0 => m.got
  | i + 1 => wrB (gGo m o s i) (30 * s + o1 i) (fun j => gS2 m o s (16 * i + 5 + (i + j))) (5 - i)
def gG2 (m : MS) (o s : Nat) : Nat → Nat := wrB (gGo m o s 5) (30 * s + 15) (gRt m o s 5) 15
def gtC (m : MS) (o s : Nat) : MS := ((m.s_eqs (gS2 m o s)).s_right (gRt m o s 5)).s_got (gG2 m o s)
theorem slv_eq (m : MS) (E : Nat → Nat) (w z : Nat) : (m.s_eqs E).s_eqs (stE (m.s_eqs E).eqs w z w) = (m.s_eqs (stE E w z w)).s_right m.right := rfl
theorem slv_eq2 (X : MS) (E R : Nat → Nat) (w z : Nat) : ((X.s_eqs E).s_right R).s_eqs (stE ((X.s_eqs E).s_right R).eqs w z w) = ((X.s_eqs (stE E w z w)).s_right R).s_got X.got := rfl
theorem er_eqs (X : MS) (a b : Nat → Nat) : ((X.s_eqs a).s_right b).eqs = a := rfl
theorem got_up (X : MS) (a b W : Nat → Nat) (i v : Nat) : (((X.s_eqs a).s_right b).s_got W).s_got (upN (((X.s_eqs a).s_right b).s_got W).got i v) = ((X.s_eqs a).s_right b).s_got (upN W i v) := rfl
theorem right_up (X : MS) (a W : Nat → Nat) (i v : Nat) : ((X.s_eqs a).s_right W).s_right (upN ((X.s_eqs a).s_right W).right i v) = (X.s_eqs a).s_right (upN W i v) := rfl
theorem erg_keep (X : MS) (a b d : Nat → Nat) : (((X.s_eqs a).s_right b).s_got d).byts = X.byts ∧ (((X.s_eqs a).s_right b).s_got d).chos = X.chos ∧ (((X.s_eqs a).s_right b).s_got d).blk = X.blk ∧ (((X.s_eqs a).s_right b).s_got d).size = X.size ∧ (((X.s_eqs a).s_right b).s_got d).ver = X.ver := ⟨rfl, rfl, rfl, rfl, rfl⟩
theorem erg_er (X : MS) (a b d : Nat → Nat) : (((X.s_eqs a).s_right b).s_got d).eqs = a ∧ (((X.s_eqs a).s_right b).s_got d).right = b := ⟨rfl, rfl⟩
theorem gtB_lt {m : MS} (h : B1 m.byts) (o s i k : Nat) : gtB m o s i k < 256 := h _
theorem gE1_lt {m : MS} {o s : Nat} (h1 : B1 m.byts) (h2 : B1 m.eqs) : ∀ i, B1 (gE1 m o s i)
  | 0 => h2
  | i + 1 => wrB_lt (wrB_lt (gE1_lt h1 h2 i) (fun k => rowT_lt _ k) 5) (fun k => gtB_lt h1 o s i (5 + k)) 3
theorem gS1_lt {m : MS} {o s : Nat} (h1 : B1 m.byts) (h2 : B1 m.eqs) : B1 (gS1 m o s) := stE_lt (gE1_lt h1 h2 5) 5
theorem gRt_lt {m : MS} {o s : Nat} (h1 : B1 m.byts) (h2 : B1 m.eqs) (h3 : B1 m.right) : ∀ i, B1 (gRt m o s i)
  | 0 => h3
  | i + 1 => wrB_lt (gRt_lt h1 h2 h3 i) (fun k => gS1_lt h1 h2 _) 3
theorem gVv_lt {m : MS} {o s i q : Nat} (h1 : B1 m.byts) : ∀ k, gVv m o s i q k < 256
  | 0 => gtB_lt h1 o s i q
  | k + 1 => xor_lt (gVv_lt h1 k) (mulT_lt _ _)
theorem gE2_lt {m : MS} {o s : Nat} (h1 : B1 m.byts) (h2 : B1 m.eqs) : ∀ i, B1 (gE2 m o s i)
  | 0 => gS1_lt h1 h2
  | i + 1 => wrB_lt (wrB_lt (gE2_lt h1 h2 i) (fun k => rowT_lt _ k) 5) (fun q => gVv_lt h1 3) 5
theorem gS2_lt {m : MS} {o s : Nat} (h1 : B1 m.byts) (h2 : B1 m.eqs) : B1 (gS2 m o s) := stE_lt (gE2_lt h1 h2 5) 5
theorem k_M_getStripe {l : Launch} {g : GX} {c : CS} {m : MS} {n d : Nat} (hd : 3 ≤ d) {o s : Nat} (ho : o < 6) (hs : s < 8) (hm : MI m) (hD : B1 m.byts) (hE : B1 m.eqs) (hR : B1 m.right) (hch : ∀ k, k < 5 → m.chos k < 12) (hp1 : ∀ q, q < 5 → stE (gE1 m o s 5) 5 8 q (16 * q + q) ≠ 0) (hp2 : ∀ q, q < 5 → stE (gE2 m o s 5) 5 10 q (16 * q + q) ≠ 0) : CE l g M_M_getStripe d 0 0 [.ref (aM g), .int (nI o), .int (nI s)] n (hp g c m) (none) n (hp g c (gtC m o s)) := by
  have hE1 : B1 (gE1 m o s 5) := gE1_lt hD hE 5
  have hE2 : B1 (gE2 m o s 5) := gE2_lt hD hE 5
  have hRt : B1 (gRt m o s 5) := gRt_lt hD hE hR 5
  refine CE.of (by decide +kernel) (lv := [(0, .ref (aM g)), (1, .int (nI o)), (2, .int (nI s))]) rfl (Nat.le_of_ble_eq_true rfl) ?_
  refine r_iconst (v := nI 0) d_M_getStripe_0 (by decide) ?_
  refine r_istore_n (lv' := [(0, _), (1, _), (2, _), (3, _)]) d_M_getStripe_1 (by decide) rfl ?_
  refine r_heap (h' := hp g c (m.s_eqs (gE1 m o s 0))) rfl ?_
  refine r_less (lv' := [(0, .ref (aM g)), (1, .int (nI o)), (2, .int (nI s)), (3, .int (nI 0))]) (by simp) ?_
  refine back_ind (n := 5) (G := fun i => RJ l g M_M_getStripe (RMX d 0 0) (TQ g 0 0 (QE (none) n (hp g c (gtC m o s)))) XT n (hp g c (m.s_eqs (gE1 m o s i))) 0 0 2 [(0, .ref (aM g)), (1, .int (nI o)), (2, .int (nI s)), (3, .int (nI i))] []) ?_ ?_ 0 (Nat.zero_le _)
  · skip
    refine r_iload_n d_M_getStripe_2 3 rfl ?_
    refine r_iconst (v := nI 5) d_M_getStripe_3 (by decide) ?_
    refine r_icmp_geN (tgt := 115) d_M_getStripe_4 (by decide) (by omega) (by omega) (fun c4 => ?_) (fun c4 => ?_)
    rotate_left 1
    · exfalso; first | omega | (revert c4; decide) | cases c4
    refine r_aload_n d_M_getStripe_115 0 rfl ?_
    refine r_iconst (v := nI 5) d_M_getStripe_116 (by decide) ?_
    refine r_iconst (v := nI 3) d_M_getStripe_117 (by decide) ?_
    refine rc_M_137 rfl d_M_getStripe_118 (k_M_solve (m := m.s_eqs (gE1 m o s 5)) (w := 5) (r := 3) (by omega) (by decide) (by decide) (by decide) hE1 hp1) gM (room_ok (d' := d - 1) (by omega) (by decide)) ⟨Nat.le_refl _, Nat.le_refl _⟩ (Nat.le_of_ble_eq_true rfl) ?_
    refine r_iconst (v := nI 0) d_M_getStripe_121 (by decide) ?_
    refine r_istore_n (lv' := [(0, _), (1, _), (2, _), (3, _)]) d_M_getStripe_122 (by decide) rfl ?_
    refine r_heap (h' := hp g c ((m.s_eqs (gS1 m o s)).s_right (gRt m o s 0))) (congrArg (hp g c) (slv_eq m (gE1 m o s 5) 5 (5 + 3))) ?_
    refine r_less (lv' := [(0, .ref (aM g)), (1, .int (nI o)), (2, .int (nI s)), (3, .int (nI 0))]) (by simp) ?_
    refine back_ind (n := 5) (G := fun i => RJ l g M_M_getStripe (RMX d 0 0) (TQ g 0 0 (QE (none) n (hp g c (gtC m o s)))) XT n (hp g c ((m.s_eqs (gS1 m o s)).s_right (gRt m o s i))) 0 0 123 [(0, .ref (aM g)), (1, .int (nI o)), (2, .int (nI s)), (3, .int (nI i))] []) ?_ ?_ 0 (Nat.zero_le _)
    · skip
      refine r_iload_n d_M_getStripe_123 3 rfl ?_
      refine r_iconst (v := nI 5) d_M_getStripe_124 (by decide) ?_
      refine r_icmp_geN (tgt := 174) d_M_getStripe_125 (by decide) (by omega) (by omega) (fun c125 => ?_) (fun c125 => ?_)
      rotate_left 1
      · exfalso; first | omega | (revert c125; decide) | cases c125
      refine r_iconst (v := nI 0) d_M_getStripe_174 (by decide) ?_
      refine r_istore_n (lv' := [(0, _), (1, _), (2, _), (3, _)]) d_M_getStripe_175 (by decide) rfl ?_
      refine r_heap (h' := hp g c ((m.s_eqs (gE2 m o s 0)).s_right (gRt m o s 5))) rfl ?_
      refine r_less (lv' := [(0, .ref (aM g)), (1, .int (nI o)), (2, .int (nI s)), (3, .int (nI 0))]) (by simp) ?_
      refine back_ind (n := 5) (G := fun i => RJ l g M_M_getStripe (RMX d 0 0) (TQ g 0 0 (QE (none) n (hp g c (gtC m o s)))) XT n (hp g c ((m.s_eqs (gE2 m o s i)).s_right (gRt m o s 5))) 0 0 176 [(0, .ref (aM g)), (1, .int (nI o)), (2, .int (nI s)), (3, .int (nI i))] []) ?_ ?_ 0 (Nat.zero_le _)
      · skip
        refine r_iload_n d_M_getStripe_176 3 rfl ?_
        refine r_iconst (v := nI 5) d_M_getStripe_177 (by decide) ?_
        refine r_icmp_geN (tgt := 339) d_M_getStripe_178 (by decide) (by omega) (by omega) (fun c178 => ?_) (fun c178 => ?_)
        rotate_left 1
        · exfalso; first | omega | (revert c178; decide) | cases c178
        refine r_aload_n d_M_getStripe_339 0 rfl ?_
        refine r_iconst (v := nI 5) d_M_getStripe_340 (by decide) ?_
        refine r_iconst (v := nI 5) d_M_getStripe_341 (by decide) ?_
        refine rc_M_137 rfl d_M_getStripe_342 (k_M_solve (m := (m.s_eqs (gE2 m o s 5)).s_right (gRt m o s 5)) (w := 5) (r := 5) (by omega) (by decide) (by decide) (by decide) hE2 hp2) gM (room_ok (d' := d - 1) (by omega) (by decide)) ⟨Nat.le_refl _, Nat.le_refl _⟩ (Nat.le_of_ble_eq_true rfl) ?_
        refine r_bipush (v := nI 30) d_M_getStripe_345 (by decide) ?_
        refine r_iload_n d_M_getStripe_347 2 rfl ?_
        refine r_imulN d_M_getStripe_348 ?_
        refine r_istore_n (lv' := [(0, _), (1, _), (2, _), (3, _)]) d_M_getStripe_349 (by decide) rfl ?_
        refine r_iconst (v := nI 0) d_M_getStripe_350 (by decide) ?_
        refine r_istore (lv' := [(0, _), (1, _), (2, _), (3, _), (4, _)]) d_M_getStripe_351 (by decide) rfl ?_
        refine r_heap (h' := hp g c (((m.s_eqs (gS2 m o s)).s_right (gRt m o s 5)).s_got (gGo m o s 0))) (congrArg (hp g c) (slv_eq2 m (gE2 m o s 5) (gRt m o s 5) 5 (5 + 5))) ?_
        refine r_less (lv' := [(0, .ref (aM g)), (1, .int (nI o)), (2, .int (nI s)), (3, .int (nI (30 * s))), (4, .int (nI 0))]) (by simp) ?_
        refine back_ind (n := 5) (G := fun i => RJ l g M_M_getStripe (RMX d 0 0) (TQ g 0 0 (QE (none) n (hp g c (gtC m o s)))) XT n (hp g c (((m.s_eqs (gS2 m o s)).s_right (gRt m o s 5)).s_got (gGo m o s i))) 0 0 353 [(0, .ref (aM g)), (1, .int (nI o)), (2, .int (nI s)), (3, .int (nI (30 * s + o1 i))), (4, .int (nI i))] []) ?_ ?_ 0 (Nat.zero_le _)
        · skip
          refine r_iload d_M_getStripe_353 4 rfl ?_
          refine r_iconst (v := nI 5) d_M_getStripe_355 (by decide) ?_
          refine r_icmp_geN (tgt := 405) d_M_getStripe_356 (by decide) (by omega) (by omega) (fun c356 => ?_) (fun c356 => ?_)
          rotate_left 1
          · exfalso; first | omega | (revert c356; decide) | cases c356
          refine r_iconst (v := nI 0) d_M_getStripe_405 (by decide) ?_
          refine r_istore (lv' := [(0, _), (1, _), (2, _), (3, _), (4, _)]) d_M_getStripe_406 (by decide) rfl ?_
          refine r_heap (h' := hp g c (((m.s_eqs (gS2 m o s)).s_right (gRt m o s 5)).s_got (wrB (gGo m o s 5) (30 * s + 15) (gRt m o s 5) 0))) rfl ?_
          refine back_ind (n := 15) (G := fun k => RJ l g M_M_getStripe (RMX d 0 0) (TQ g 0 0 (QE (none) n (hp g c (gtC m o s)))) XT n (hp g c (((m.s_eqs (gS2 m o s)).s_right (gRt m o s 5)).s_got (wrB (gGo m o s 5) (30 * s + 15) (gRt m o s 5) k))) 0 0 408 [(0, .ref (aM g)), (1, .int (nI o)), (2, .int (nI s)), (3, .int (nI (30 * s + 15 + k))), (4, .int (nI k))] []) ?_ ?_ 0 (Nat.zero_le _)
          · skip
            refine r_iload d_M_getStripe_408 4 rfl ?_
            refine r_bipush (v := nI 15) d_M_getStripe_410 (by decide) ?_
            refine r_icmp_geN (tgt := 437) d_M_getStripe_412 (by decide) (by omega) (by omega) (fun c412 => ?_) (fun c412 => ?_)
            rotate_left 1
            · exfalso; first | omega | (revert c412; decide) | cases c412
            refine r_return d_M_getStripe_437 rfl ⟨rfl, rfl, ?_⟩
            · rfl
          · intro k hb_k ih_k
            refine r_iload d_M_getStripe_408 4 rfl ?_
            refine r_bipush (v := nI 15) d_M_getStripe_410 (by decide) ?_
            refine r_icmp_geN (tgt := 437) d_M_getStripe_412 (by decide) (by omega) (by omega) (fun c412 => ?_) (fun c412 => ?_)
            · exfalso; first | omega | (revert c412; decide) | cases c412
            refine r_aload_n d_M_getStripe_415 0 rfl ?_
            refine rg_M_48 rfl d_M_getStripe_416 gM rfl ?_
            refine r_iload_n d_M_getStripe_419 3 rfl ?_
            refine r_aload_n d_M_getStripe_420 0 rfl ?_
            refine rg_M_57 rfl d_M_getStripe_421 gM rfl ?_
            refine r_iload d_M_getStripe_424 4 rfl ?_
            refine r_aldN d_M_getStripe_426 gmRig (by omega) (by decide) ?_
            refine r_top (y := nI (gRt m o s 5 k)) rfl ?_
            refine r_astN d_M_getStripe_427 gmGot (by omega) (by decide) (wm_got) ?_
            refine r_iincN (lv' := [(0, _), (1, _), (2, _), (3, _), (4, _)]) d_M_getStripe_428 3 rfl (by decide) rfl ?_
            refine r_iincN (lv' := [(0, _), (1, _), (2, _), (3, _), (4, _)]) d_M_getStripe_431 4 rfl (by decide) rfl ?_
            refine r_goto (tgt := 408) d_M_getStripe_434 (by decide) ?_
            exact r_at ih_k (congrArg (hp g c) (got_up m (gS2 m o s) (gRt m o s 5) _ _ _)) rfl rfl
        · intro i hb_i ih_i
          have ho1 := o1_le (i + 1) (by omega)
          have ho2 : o1 (i + 1) = o1 i + (5 - i) := rfl
          refine r_iload d_M_getStripe_353 4 rfl ?_
          refine r_iconst (v := nI 5) d_M_getStripe_355 (by decide) ?_
          refine r_icmp_geN (tgt := 405) d_M_getStripe_356 (by decide) (by omega) (by omega) (fun c356 => ?_) (fun c356 => ?_)
          · exfalso; first | omega | (revert c356; decide) | cases c356
          refine r_iload d_M_getStripe_359 4 rfl ?_
          refine r_istore (lv' := [(0, _), (1, _), (2, _), (3, _), (4, _), (5, _)]) d_M_getStripe_361 (by decide) rfl ?_
          refine r_heap (h' := hp g c (((m.s_eqs (gS2 m o s)).s_right (gRt m o s 5)).s_got (wrB (gGo m o s i) (30 * s + o1 i) (fun j => gS2 m o s (16 * i + 5 + (i + j))) 0))) rfl ?_
          refine back_ind (n := 5 - i) (G := fun j => RJ l g M_M_getStripe (RMX d 0 0) (TQ g 0 0 (QE (none) n (hp g c (gtC m o s)))) XT n (hp g c (((m.s_eqs (gS2 m o s)).s_right (gRt m o s 5)).s_got (wrB (gGo m o s i) (30 * s + o1 i) (fun j => gS2 m o s (16 * i + 5 + (i + j))) j))) 0 0 363 [(0, .ref (aM g)), (1, .int (nI o)), (2, .int (nI s)), (3, .int (nI (30 * s + o1 i + j))), (4, .int (nI i)), (5, .int (nI (i + j)))] []) ?_ ?_ 0 (Nat.zero_le _)
          · skip
            refine r_iload d_M_getStripe_363 5 rfl ?_
            refine r_iconst (v := nI 5) d_M_getStripe_365 (by decide) ?_
            refine r_icmp_geN (tgt := 399) d_M_getStripe_366 (by decide) (by omega) (by omega) (fun c366 => ?_) (fun c366 => ?_)
            rotate_left 1
            · exfalso; first | omega | (revert c366; decide) | cases c366
            refine r_iincN (lv' := [(0, _), (1, _), (2, _), (3, _), (4, _), (5, _)]) d_M_getStripe_399 4 rfl (by decide) rfl ?_
            refine r_goto (tgt := 353) d_M_getStripe_402 (by decide) ?_
            refine r_less (lv' := [(0, .ref (aM g)), (1, .int (nI o)), (2, .int (nI s)), (3, .int (nI (30 * s + o1 i + (5 - i)))), (4, .int (nI (i + 1)))]) (by simp) ?_
            exact r_at ih_i rfl (by rw [show 30 * s + o1 (i + 1) = 30 * s + o1 i + (5 - i) by omega]) rfl
          · intro j hb_j ih_j
            refine r_iload d_M_getStripe_363 5 rfl ?_
            refine r_iconst (v := nI 5) d_M_getStripe_365 (by decide) ?_
            refine r_icmp_geN (tgt := 399) d_M_getStripe_366 (by decide) (by omega) (by omega) (fun c366 => ?_) (fun c366 => ?_)
            · exfalso; first | omega | (revert c366; decide) | cases c366
            refine r_aload_n d_M_getStripe_369 0 rfl ?_
            refine rg_M_48 rfl d_M_getStripe_370 gM rfl ?_
            refine r_iload_n d_M_getStripe_373 3 rfl ?_
            refine r_aload_n d_M_getStripe_374 0 rfl ?_
            refine rg_M_51 rfl d_M_getStripe_375 gM rfl ?_
            refine r_bipush (v := nI 16) d_M_getStripe_378 (by decide) ?_
            refine r_iload d_M_getStripe_380 4 rfl ?_
            refine r_imulN d_M_getStripe_382 ?_
            refine r_iconst (v := nI 5) d_M_getStripe_383 (by decide) ?_
            refine r_iaddN d_M_getStripe_384 ?_
            refine r_iload d_M_getStripe_385 5 rfl ?_
            refine r_iaddN d_M_getStripe_387 ?_
            refine r_aldN d_M_getStripe_388 gmEqs (by omega) (by decide) ?_
            refine r_top (y := nI (gS2 m o s (16 * i + 5 + (i + j)))) (congrArg nI (congrFun (erg_er m (gS2 m o s) (gRt m o s 5) _).1 _)) ?_
            refine r_astN d_M_getStripe_389 gmGot (by omega) (by decide) (wm_got) ?_
            refine r_iincN (lv' := [(0, _), (1, _), (2, _), (3, _), (4, _), (5, _)]) d_M_getStripe_390 3 rfl (by decide) rfl ?_
            refine r_iincN (lv' := [(0, _), (1, _), (2, _), (3, _), (4, _), (5, _)]) d_M_getStripe_393 5 rfl (by decide) rfl ?_
            refine r_goto (tgt := 363) d_M_getStripe_396 (by decide) ?_
            exact r_at ih_j (congrArg (hp g c) (got_up m (gS2 m o s) (gRt m o s 5) _ _ _)) rfl rfl
      · intro i hb_i ih_i
        have hci := hch i hb_i
        have hrc := rx_lt (z := false) hci ho
        have hb40 := hm.2.2 (8 * (rx (m.chos i) o false) + s)
        refine r_iload_n d_M_getStripe_176 3 rfl ?_
        refine r_iconst (v := nI 5) d_M_getStripe_177 (by decide) ?_
        refine r_icmp_geN (tgt := 339) d_M_getStripe_178 (by decide) (by omega) (by omega) (fun c178 => ?_) (fun c178 => ?_)
        · exfalso; first | omega | (revert c178; decide) | cases c178
        refine r_aload_n d_M_getStripe_181 0 rfl ?_
        refine rg_M_54 rfl d_M_getStripe_182 gM rfl ?_
        refine r_iload_n d_M_getStripe_185 3 rfl ?_
        refine r_aldN d_M_getStripe_186 gmCho (by omega) (by decide) ?_
        refine r_top (y := nI (m.chos i)) rfl ?_
        refine r_iload_n d_M_getStripe_187 1 rfl ?_
        refine r_iconst (v := nI 0) d_M_getStripe_188 (by decide) ?_
        refine rc_M_79 rfl d_M_getStripe_189 (k_M_at (i := m.chos i) (o := o) (z := false) (by omega)) (room_ok (d' := d - 1) (by omega) (by decide)) ⟨Nat.le_refl _, Nat.le_refl _⟩ (Nat.le_of_ble_eq_true rfl) ?_
        refine r_istore (lv' := [(0, _), (1, _), (2, _), (3, _), (4, _)]) d_M_getStripe_192 (by decide) rfl ?_
        refine r_iconst (v := nI 0) d_M_getStripe_194 (by decide) ?_
        refine r_istore (lv' := [(0, _), (1, _), (2, _), (3, _), (4, _), (5, _)]) d_M_getStripe_195 (by decide) rfl ?_
        refine r_heap (h' := hp g c ((m.s_eqs (wrB (gE2 m o s i) (16 * i) (rowT (m.chos i)) 0)).s_right (gRt m o s 5))) rfl ?_
        refine back_ind (n := 5) (G := fun k => RJ l g M_M_getStripe (RMX d 0 0) (TQ g 0 0 (QE (none) n (hp g c (gtC m o s)))) XT n (hp g c ((m.s_eqs (wrB (gE2 m o s i) (16 * i) (rowT (m.chos i)) k)).s_right (gRt m o s 5))) 0 0 197 [(0, .ref (aM g)), (1, .int (nI o)), (2, .int (nI s)), (3, .int (nI i)), (4, .int (nI (rx (m.chos i) o false))), (5, .int (nI k))] []) ?_ ?_ 0 (Nat.zero_le _)
        · skip
          refine r_iload d_M_getStripe_197 5 rfl ?_
          refine r_iconst (v := nI 5) d_M_getStripe_199 (by decide) ?_
          refine r_icmp_geN (tgt := 232) d_M_getStripe_200 (by decide) (by omega) (by omega) (fun c200 => ?_) (fun c200 => ?_)
          rotate_left 1
          · exfalso; first | omega | (revert c200; decide) | cases c200
          refine r_iconst (v := nI 0) d_M_getStripe_232 (by decide) ?_
          refine r_istore (lv' := [(0, _), (1, _), (2, _), (3, _), (4, _), (5, _)]) d_M_getStripe_233 (by decide) rfl ?_
          refine r_heap (h' := hp g c ((m.s_eqs (wrB (wrB (gE2 m o s i) (16 * i) (rowT (m.chos i)) 5) (16 * i + 5) (fun q => gVv m o s i q 3) 0)).s_right (gRt m o s 5))) rfl ?_
          refine r_less (lv' := [(0, .ref (aM g)), (1, .int (nI o)), (2, .int (nI s)), (3, .int (nI i)), (4, .int (nI (rx (m.chos i) o false))), (5, .int (nI 0))]) (by simp) ?_
          refine back_ind (n := 5) (G := fun q => RJ l g M_M_getStripe (RMX d 0 0) (TQ g 0 0 (QE (none) n (hp g c (gtC m o s)))) XT n (hp g c ((m.s_eqs (wrB (wrB (gE2 m o s i) (16 * i) (rowT (m.chos i)) 5) (16 * i + 5) (fun q => gVv m o s i q 3) q)).s_right (gRt m o s 5))) 0 0 235 [(0, .ref (aM g)), (1, .int (nI o)), (2, .int (nI s)), (3, .int (nI i)), (4, .int (nI (rx (m.chos i) o false))), (5, .int (nI q))] []) ?_ ?_ 0 (Nat.zero_le _)
          · skip
            refine r_iload d_M_getStripe_235 5 rfl ?_
            refine r_iconst (v := nI 5) d_M_getStripe_237 (by decide) ?_
            refine r_icmp_geN (tgt := 333) d_M_getStripe_238 (by decide) (by omega) (by omega) (fun c238 => ?_) (fun c238 => ?_)
            rotate_left 1
            · exfalso; first | omega | (revert c238; decide) | cases c238
            refine r_iincN (lv' := [(0, _), (1, _), (2, _), (3, _), (4, _), (5, _)]) d_M_getStripe_333 3 rfl (by decide) rfl ?_
            refine r_goto (tgt := 176) d_M_getStripe_336 (by decide) ?_
            refine r_less (lv' := [(0, .ref (aM g)), (1, .int (nI o)), (2, .int (nI s)), (3, .int (nI (i + 1)))]) (by simp) ?_
            exact r_at ih_i rfl rfl rfl
          · intro q hb_q ih_q
            refine r_iload d_M_getStripe_235 5 rfl ?_
            refine r_iconst (v := nI 5) d_M_getStripe_237 (by decide) ?_
            refine r_icmp_geN (tgt := 333) d_M_getStripe_238 (by decide) (by omega) (by omega) (fun c238 => ?_) (fun c238 => ?_)
            · exfalso; first | omega | (revert c238; decide) | cases c238
            refine r_aload_n d_M_getStripe_241 0 rfl ?_
            refine rg_M_27 rfl d_M_getStripe_242 gM rfl ?_
            refine r_aload_n d_M_getStripe_245 0 rfl ?_
            refine r_aload_n d_M_getStripe_246 0 rfl ?_
            refine rg_M_54 rfl d_M_getStripe_247 gM rfl ?_
            refine r_iload_n d_M_getStripe_250 3 rfl ?_
            refine r_aldN d_M_getStripe_251 gmCho (by omega) (by decide) ?_
            refine r_top (y := nI (m.chos i)) rfl ?_
            refine r_iload d_M_getStripe_252 4 rfl ?_
            refine r_iload_n d_M_getStripe_254 2 rfl ?_
            refine r_iload d_M_getStripe_255 5 rfl ?_
            refine rc_M_103 rfl d_M_getStripe_257 (k_M_byteAt (m := (m.s_eqs (wrB (wrB (gE2 m o s i) (16 * i) (rowT (m.chos i)) 5) (16 * i + 5) (fun q => gVv m o s i q 3) q)).s_right (gRt m o s 5)) (i := m.chos i) (r := (rx (m.chos i) o false)) (s := s) (k := q) (by omega) (by omega)) gM (room_ok (d' := d - 1) (by omega) (by decide)) ⟨Nat.le_refl _, Nat.le_refl _⟩ (Nat.le_of_ble_eq_true rfl) ?_
            refine r_top (y := nI (8 * (40 * m.chos i + m.blk (8 * (rx (m.chos i) o false) + s)) + q)) rfl ?_
            refine r_aldN d_M_getStripe_260 gmByts (by omega) (by decide) ?_
            refine r_top (y := nI (gtB m o s i q)) rfl ?_
            refine r_istore (lv' := [(0, _), (1, _), (2, _), (3, _), (4, _), (5, _), (6, _)]) d_M_getStripe_261 (by decide) rfl ?_
            refine r_iconst (v := nI 0) d_M_getStripe_263 (by decide) ?_
            refine r_istore (lv' := [(0, _), (1, _), (2, _), (3, _), (4, _), (5, _), (6, _), (7, _)]) d_M_getStripe_264 (by decide) rfl ?_
            refine back_ind (n := 3) (G := fun k => RJ l g M_M_getStripe (RMX d 0 0) (TQ g 0 0 (QE (none) n (hp g c (gtC m o s)))) XT n (hp g c ((m.s_eqs (wrB (wrB (gE2 m o s i) (16 * i) (rowT (m.chos i)) 5) (16 * i + 5) (fun q => gVv m o s i q 3) q)).s_right (gRt m o s 5))) 0 0 266 [(0, .ref (aM g)), (1, .int (nI o)), (2, .int (nI s)), (3, .int (nI i)), (4, .int (nI (rx (m.chos i) o false))), (5, .int (nI q)), (6, .int (nI (gVv m o s i q k))), (7, .int (nI k))] []) ?_ ?_ 0 (Nat.zero_le _)
            · skip
              refine r_iload d_M_getStripe_266 7 rfl ?_
              refine r_iconst (v := nI 3) d_M_getStripe_268 (by decide) ?_
              refine r_icmp_geN (tgt := 311) d_M_getStripe_269 (by decide) (by omega) (by omega) (fun c269 => ?_) (fun c269 => ?_)
              rotate_left 1
              · exfalso; first | omega | (revert c269; decide) | cases c269
              refine r_aload_n d_M_getStripe_311 0 rfl ?_
              refine rg_M_51 rfl d_M_getStripe_312 gM rfl ?_
              refine r_bipush (v := nI 16) d_M_getStripe_315 (by decide) ?_
              refine r_iload_n d_M_getStripe_317 3 rfl ?_
              refine r_imulN d_M_getStripe_318 ?_
              refine r_iconst (v := nI 5) d_M_getStripe_319 (by decide) ?_
              refine r_iaddN d_M_getStripe_320 ?_
              refine r_iload d_M_getStripe_321 5 rfl ?_
              refine r_iaddN d_M_getStripe_323 ?_
              refine r_iload d_M_getStripe_324 6 rfl ?_
              refine r_astN d_M_getStripe_326 gmEqs (by omega) (by decide) (wm_eqs) ?_
              refine r_iincN (lv' := [(0, _), (1, _), (2, _), (3, _), (4, _), (5, _), (6, _), (7, _)]) d_M_getStripe_327 5 rfl (by decide) rfl ?_
              refine r_goto (tgt := 235) d_M_getStripe_330 (by decide) ?_
              refine r_less (lv' := [(0, .ref (aM g)), (1, .int (nI o)), (2, .int (nI s)), (3, .int (nI i)), (4, .int (nI (rx (m.chos i) o false))), (5, .int (nI (q + 1)))]) (by simp) ?_
              exact r_at ih_q rfl rfl rfl
            · intro k hb_k ih_k
              refine r_iload d_M_getStripe_266 7 rfl ?_
              refine r_iconst (v := nI 3) d_M_getStripe_268 (by decide) ?_
              refine r_icmp_geN (tgt := 311) d_M_getStripe_269 (by decide) (by omega) (by omega) (fun c269 => ?_) (fun c269 => ?_)
              · exfalso; first | omega | (revert c269; decide) | cases c269
              refine r_iload d_M_getStripe_272 6 rfl ?_
              refine r_aload_n d_M_getStripe_274 0 rfl ?_
              refine rg_M_54 rfl d_M_getStripe_275 gM rfl ?_
              refine r_iload_n d_M_getStripe_278 3 rfl ?_
              refine r_aldN d_M_getStripe_279 gmCho (by omega) (by decide) ?_
              refine r_top (y := nI (m.chos i)) rfl ?_
              refine r_iconst (v := nI 5) d_M_getStripe_280 (by decide) ?_
              refine r_iload d_M_getStripe_281 7 rfl ?_
              refine r_iaddN d_M_getStripe_283 ?_
              refine rc_M_76 rfl d_M_getStripe_284 (k_M_row (m := (m.s_eqs (wrB (wrB (gE2 m o s i) (16 * i) (rowT (m.chos i)) 5) (16 * i + 5) (fun q => gVv m o s i q 3) q)).s_right (gRt m o s 5)) (by omega) hci (by omega)) (room_ok (d' := d - 1) (by omega) (by decide)) ⟨Nat.le_refl _, Nat.le_refl _⟩ (Nat.le_of_ble_eq_true rfl) ?_
              refine r_aload_n d_M_getStripe_287 0 rfl ?_
              refine rg_M_57 rfl d_M_getStripe_288 gM rfl ?_
              refine r_iconst (v := nI 3) d_M_getStripe_291 (by decide) ?_
              refine r_iload d_M_getStripe_292 5 rfl ?_
              refine r_imulN d_M_getStripe_294 ?_
              refine r_iload d_M_getStripe_295 7 rfl ?_
              refine r_iaddN d_M_getStripe_297 ?_
              refine r_aldN d_M_getStripe_298 gmRig (by omega) (by decide) ?_
              refine r_top (y := nI (gRt m o s 5 (3 * q + k))) rfl ?_
              refine rc_M_64 rfl d_M_getStripe_299 (k_M_product (m := (m.s_eqs (wrB (wrB (gE2 m o s i) (16 * i) (rowT (m.chos i)) 5) (16 * i + 5) (fun q => gVv m o s i q 3) q)).s_right (gRt m o s 5)) (by omega) (rowT_lt _ _) (hRt _)) (room_ok (d' := d - 1) (by omega) (by decide)) ⟨Nat.le_refl _, Nat.le_refl _⟩ (Nat.le_of_ble_eq_true rfl) ?_
              refine r_ixorN d_M_getStripe_302 ?_
              refine r_istore (lv' := [(0, _), (1, _), (2, _), (3, _), (4, _), (5, _), (6, _), (7, _)]) d_M_getStripe_303 (by decide) rfl ?_
              refine r_iincN (lv' := [(0, _), (1, _), (2, _), (3, _), (4, _), (5, _), (6, _), (7, _)]) d_M_getStripe_305 7 rfl (by decide) rfl ?_
              refine r_goto (tgt := 266) d_M_getStripe_308 (by decide) ?_
              exact r_at ih_k rfl rfl rfl
        · intro k hb_k ih_k
          refine r_iload d_M_getStripe_197 5 rfl ?_
          refine r_iconst (v := nI 5) d_M_getStripe_199 (by decide) ?_
          refine r_icmp_geN (tgt := 232) d_M_getStripe_200 (by decide) (by omega) (by omega) (fun c200 => ?_) (fun c200 => ?_)
          · exfalso; first | omega | (revert c200; decide) | cases c200
          refine r_aload_n d_M_getStripe_203 0 rfl ?_
          refine rg_M_51 rfl d_M_getStripe_204 gM rfl ?_
          refine r_bipush (v := nI 16) d_M_getStripe_207 (by decide) ?_
          refine r_iload_n d_M_getStripe_209 3 rfl ?_
          refine r_imulN d_M_getStripe_210 ?_
          refine r_iload d_M_getStripe_211 5 rfl ?_
          refine r_iaddN d_M_getStripe_213 ?_
          refine r_aload_n d_M_getStripe_214 0 rfl ?_
          refine rg_M_54 rfl d_M_getStripe_215 gM rfl ?_
          refine r_iload_n d_M_getStripe_218 3 rfl ?_
          refine r_aldN d_M_getStripe_219 gmCho (by omega) (by decide) ?_
          refine r_top (y := nI (m.chos i)) rfl ?_
          refine r_iload d_M_getStripe_220 5 rfl ?_
          refine rc_M_76 rfl d_M_getStripe_222 (k_M_row (m := (m.s_eqs (wrB (gE2 m o s i) (16 * i) (rowT (m.chos i)) k)).s_right (gRt m o s 5)) (by omega) hci (by omega)) (room_ok (d' := d - 1) (by omega) (by decide)) ⟨Nat.le_refl _, Nat.le_refl _⟩ (Nat.le_of_ble_eq_true rfl) ?_
          refine r_astN d_M_getStripe_225 gmEqs (by omega) (by decide) (wm_eqs) ?_
          refine r_iincN (lv' := [(0, _), (1, _), (2, _), (3, _), (4, _), (5, _)]) d_M_getStripe_226 5 rfl (by decide) rfl ?_
          refine r_goto (tgt := 197) d_M_getStripe_229 (by decide) ?_
          exact r_at ih_k rfl rfl rfl
    · intro i hb_i ih_i
      refine r_iload_n d_M_getStripe_123 3 rfl ?_
      refine r_iconst (v := nI 5) d_M_getStripe_124 (by decide) ?_
      refine r_icmp_geN (tgt := 174) d_M_getStripe_125 (by decide) (by omega) (by omega) (fun c125 => ?_) (fun c125 => ?_)
      · exfalso; first | omega | (revert c125; decide) | cases c125
      refine r_iconst (v := nI 0) d_M_getStripe_128 (by decide) ?_
      refine r_istore (lv' := [(0, _), (1, _), (2, _), (3, _), (4, _)]) d_M_getStripe_129 (by decide) rfl ?_
      refine r_heap (h' := hp g c ((m.s_eqs (gS1 m o s)).s_right (wrB (gRt m o s i) (3 * i) (fun k => gS1 m o s (16 * i + 5 + k)) 0))) rfl ?_
      refine back_ind (n := 3) (G := fun k => RJ l g M_M_getStripe (RMX d 0 0) (TQ g 0 0 (QE (none) n (hp g c (gtC m o s)))) XT n (hp g c ((m.s_eqs (gS1 m o s)).s_right (wrB (gRt m o s i) (3 * i) (fun k => gS1 m o s (16 * i + 5 + k)) k))) 0 0 131 [(0, .ref (aM g)), (1, .int (nI o)), (2, .int (nI s)), (3, .int (nI i)), (4, .int (nI k))] []) ?_ ?_ 0 (Nat.zero_le _)
      · skip
        refine r_iload d_M_getStripe_131 4 rfl ?_
        refine r_iconst (v := nI 3) d_M_getStripe_133 (by decide) ?_
        refine r_icmp_geN (tgt := 168) d_M_getStripe_134 (by decide) (by omega) (by omega) (fun c134 => ?_) (fun c134 => ?_)
        rotate_left 1
        · exfalso; first | omega | (revert c134; decide) | cases c134
        refine r_iincN (lv' := [(0, _), (1, _), (2, _), (3, _), (4, _)]) d_M_getStripe_168 3 rfl (by decide) rfl ?_
        refine r_goto (tgt := 123) d_M_getStripe_171 (by decide) ?_
        refine r_less (lv' := [(0, .ref (aM g)), (1, .int (nI o)), (2, .int (nI s)), (3, .int (nI (i + 1)))]) (by simp) ?_
        exact r_at ih_i rfl rfl rfl
      · intro k hb_k ih_k
        refine r_iload d_M_getStripe_131 4 rfl ?_
        refine r_iconst (v := nI 3) d_M_getStripe_133 (by decide) ?_
        refine r_icmp_geN (tgt := 168) d_M_getStripe_134 (by decide) (by omega) (by omega) (fun c134 => ?_) (fun c134 => ?_)
        · exfalso; first | omega | (revert c134; decide) | cases c134
        refine r_aload_n d_M_getStripe_137 0 rfl ?_
        refine rg_M_57 rfl d_M_getStripe_138 gM rfl ?_
        refine r_iconst (v := nI 3) d_M_getStripe_141 (by decide) ?_
        refine r_iload_n d_M_getStripe_142 3 rfl ?_
        refine r_imulN d_M_getStripe_143 ?_
        refine r_iload d_M_getStripe_144 4 rfl ?_
        refine r_iaddN d_M_getStripe_146 ?_
        refine r_aload_n d_M_getStripe_147 0 rfl ?_
        refine rg_M_51 rfl d_M_getStripe_148 gM rfl ?_
        refine r_bipush (v := nI 16) d_M_getStripe_151 (by decide) ?_
        refine r_iload_n d_M_getStripe_153 3 rfl ?_
        refine r_imulN d_M_getStripe_154 ?_
        refine r_iconst (v := nI 5) d_M_getStripe_155 (by decide) ?_
        refine r_iaddN d_M_getStripe_156 ?_
        refine r_iload d_M_getStripe_157 4 rfl ?_
        refine r_iaddN d_M_getStripe_159 ?_
        refine r_aldN d_M_getStripe_160 gmEqs (by omega) (by decide) ?_
        refine r_top (y := nI (gS1 m o s (16 * i + 5 + k))) (congrArg nI (congrFun (er_eqs m (gS1 m o s) _) _)) ?_
        refine r_astN d_M_getStripe_161 gmRig (by omega) (by decide) (wm_right) ?_
        refine r_iincN (lv' := [(0, _), (1, _), (2, _), (3, _), (4, _)]) d_M_getStripe_162 4 rfl (by decide) rfl ?_
        refine r_goto (tgt := 131) d_M_getStripe_165 (by decide) ?_
        exact r_at ih_k (congrArg (hp g c) (right_up m (gS1 m o s) _ _ _)) rfl rfl
  · intro i hb_i ih_i
    have hci := hch i hb_i
    have hrc := rx_lt (z := false) hci ho
    have hb40 := hm.2.2 (8 * (rx (m.chos i) o false) + s)
    refine r_iload_n d_M_getStripe_2 3 rfl ?_
    refine r_iconst (v := nI 5) d_M_getStripe_3 (by decide) ?_
    refine r_icmp_geN (tgt := 115) d_M_getStripe_4 (by decide) (by omega) (by omega) (fun c4 => ?_) (fun c4 => ?_)
    · exfalso; first | omega | (revert c4; decide) | cases c4
    refine r_aload_n d_M_getStripe_7 0 rfl ?_
    refine rg_M_54 rfl d_M_getStripe_8 gM rfl ?_
    refine r_iload_n d_M_getStripe_11 3 rfl ?_
    refine r_aldN d_M_getStripe_12 gmCho (by omega) (by decide) ?_
    refine r_top (y := nI (m.chos i)) rfl ?_
    refine r_iload_n d_M_getStripe_13 1 rfl ?_
    refine r_iconst (v := nI 0) d_M_getStripe_14 (by decide) ?_
    refine rc_M_79 rfl d_M_getStripe_15 (k_M_at (i := m.chos i) (o := o) (z := false) (by omega)) (room_ok (d' := d - 1) (by omega) (by decide)) ⟨Nat.le_refl _, Nat.le_refl _⟩ (Nat.le_of_ble_eq_true rfl) ?_
    refine r_istore (lv' := [(0, _), (1, _), (2, _), (3, _), (4, _)]) d_M_getStripe_18 (by decide) rfl ?_
    refine r_iconst (v := nI 0) d_M_getStripe_20 (by decide) ?_
    refine r_istore (lv' := [(0, _), (1, _), (2, _), (3, _), (4, _), (5, _)]) d_M_getStripe_21 (by decide) rfl ?_
    refine r_heap (h' := hp g c (m.s_eqs (wrB (gE1 m o s i) (16 * i) (rowT (m.chos i)) 0))) rfl ?_
    refine back_ind (n := 5) (G := fun k => RJ l g M_M_getStripe (RMX d 0 0) (TQ g 0 0 (QE (none) n (hp g c (gtC m o s)))) XT n (hp g c (m.s_eqs (wrB (gE1 m o s i) (16 * i) (rowT (m.chos i)) k))) 0 0 23 [(0, .ref (aM g)), (1, .int (nI o)), (2, .int (nI s)), (3, .int (nI i)), (4, .int (nI (rx (m.chos i) o false))), (5, .int (nI k))] []) ?_ ?_ 0 (Nat.zero_le _)
    · skip
      refine r_iload d_M_getStripe_23 5 rfl ?_
      refine r_iconst (v := nI 5) d_M_getStripe_25 (by decide) ?_
      refine r_icmp_geN (tgt := 58) d_M_getStripe_26 (by decide) (by omega) (by omega) (fun c26 => ?_) (fun c26 => ?_)
      rotate_left 1
      · exfalso; first | omega | (revert c26; decide) | cases c26
      refine r_iconst (v := nI 0) d_M_getStripe_58 (by decide) ?_
      refine r_istore (lv' := [(0, _), (1, _), (2, _), (3, _), (4, _), (5, _)]) d_M_getStripe_59 (by decide) rfl ?_
      refine r_heap (h' := hp g c (m.s_eqs (wrB (wrB (gE1 m o s i) (16 * i) (rowT (m.chos i)) 5) (16 * i + 5) (fun k => gtB m o s i (5 + k)) 0))) rfl ?_
      refine back_ind (n := 3) (G := fun k => RJ l g M_M_getStripe (RMX d 0 0) (TQ g 0 0 (QE (none) n (hp g c (gtC m o s)))) XT n (hp g c (m.s_eqs (wrB (wrB (gE1 m o s i) (16 * i) (rowT (m.chos i)) 5) (16 * i + 5) (fun k => gtB m o s i (5 + k)) k))) 0 0 61 [(0, .ref (aM g)), (1, .int (nI o)), (2, .int (nI s)), (3, .int (nI i)), (4, .int (nI (rx (m.chos i) o false))), (5, .int (nI k))] []) ?_ ?_ 0 (Nat.zero_le _)
      · skip
        refine r_iload d_M_getStripe_61 5 rfl ?_
        refine r_iconst (v := nI 3) d_M_getStripe_63 (by decide) ?_
        refine r_icmp_geN (tgt := 109) d_M_getStripe_64 (by decide) (by omega) (by omega) (fun c64 => ?_) (fun c64 => ?_)
        rotate_left 1
        · exfalso; first | omega | (revert c64; decide) | cases c64
        refine r_iincN (lv' := [(0, _), (1, _), (2, _), (3, _), (4, _), (5, _)]) d_M_getStripe_109 3 rfl (by decide) rfl ?_
        refine r_goto (tgt := 2) d_M_getStripe_112 (by decide) ?_
        refine r_less (lv' := [(0, .ref (aM g)), (1, .int (nI o)), (2, .int (nI s)), (3, .int (nI (i + 1)))]) (by simp) ?_
        exact r_at ih_i rfl rfl rfl
      · intro k hb_k ih_k
        refine r_iload d_M_getStripe_61 5 rfl ?_
        refine r_iconst (v := nI 3) d_M_getStripe_63 (by decide) ?_
        refine r_icmp_geN (tgt := 109) d_M_getStripe_64 (by decide) (by omega) (by omega) (fun c64 => ?_) (fun c64 => ?_)
        · exfalso; first | omega | (revert c64; decide) | cases c64
        refine r_aload_n d_M_getStripe_67 0 rfl ?_
        refine rg_M_51 rfl d_M_getStripe_68 gM rfl ?_
        refine r_bipush (v := nI 16) d_M_getStripe_71 (by decide) ?_
        refine r_iload_n d_M_getStripe_73 3 rfl ?_
        refine r_imulN d_M_getStripe_74 ?_
        refine r_iconst (v := nI 5) d_M_getStripe_75 (by decide) ?_
        refine r_iaddN d_M_getStripe_76 ?_
        refine r_iload d_M_getStripe_77 5 rfl ?_
        refine r_iaddN d_M_getStripe_79 ?_
        refine r_aload_n d_M_getStripe_80 0 rfl ?_
        refine rg_M_27 rfl d_M_getStripe_81 gM rfl ?_
        refine r_aload_n d_M_getStripe_84 0 rfl ?_
        refine r_aload_n d_M_getStripe_85 0 rfl ?_
        refine rg_M_54 rfl d_M_getStripe_86 gM rfl ?_
        refine r_iload_n d_M_getStripe_89 3 rfl ?_
        refine r_aldN d_M_getStripe_90 gmCho (by omega) (by decide) ?_
        refine r_top (y := nI (m.chos i)) rfl ?_
        refine r_iload d_M_getStripe_91 4 rfl ?_
        refine r_iload_n d_M_getStripe_93 2 rfl ?_
        refine r_iconst (v := nI 5) d_M_getStripe_94 (by decide) ?_
        refine r_iload d_M_getStripe_95 5 rfl ?_
        refine r_iaddN d_M_getStripe_97 ?_
        refine rc_M_103 rfl d_M_getStripe_98 (k_M_byteAt (m := m.s_eqs (wrB (wrB (gE1 m o s i) (16 * i) (rowT (m.chos i)) 5) (16 * i + 5) (fun k => gtB m o s i (5 + k)) k)) (i := m.chos i) (r := (rx (m.chos i) o false)) (s := s) (k := 5 + k) (by omega) (by omega)) gM (room_ok (d' := d - 1) (by omega) (by decide)) ⟨Nat.le_refl _, Nat.le_refl _⟩ (Nat.le_of_ble_eq_true rfl) ?_
        refine r_top (y := nI (8 * (40 * m.chos i + m.blk (8 * (rx (m.chos i) o false) + s)) + (5 + k))) rfl ?_
        refine r_aldN d_M_getStripe_101 gmByts (by omega) (by decide) ?_
        refine r_top (y := nI (gtB m o s i (5 + k))) rfl ?_
        refine r_astN d_M_getStripe_102 gmEqs (by omega) (by decide) (wm_eqs) ?_
        refine r_iincN (lv' := [(0, _), (1, _), (2, _), (3, _), (4, _), (5, _)]) d_M_getStripe_103 5 rfl (by decide) rfl ?_
        refine r_goto (tgt := 61) d_M_getStripe_106 (by decide) ?_
        exact r_at ih_k rfl rfl rfl
    · intro k hb_k ih_k
      refine r_iload d_M_getStripe_23 5 rfl ?_
      refine r_iconst (v := nI 5) d_M_getStripe_25 (by decide) ?_
      refine r_icmp_geN (tgt := 58) d_M_getStripe_26 (by decide) (by omega) (by omega) (fun c26 => ?_) (fun c26 => ?_)
      · exfalso; first | omega | (revert c26; decide) | cases c26
      refine r_aload_n d_M_getStripe_29 0 rfl ?_
      refine rg_M_51 rfl d_M_getStripe_30 gM rfl ?_
      refine r_bipush (v := nI 16) d_M_getStripe_33 (by decide) ?_
      refine r_iload_n d_M_getStripe_35 3 rfl ?_
      refine r_imulN d_M_getStripe_36 ?_
      refine r_iload d_M_getStripe_37 5 rfl ?_
      refine r_iaddN d_M_getStripe_39 ?_
      refine r_aload_n d_M_getStripe_40 0 rfl ?_
      refine rg_M_54 rfl d_M_getStripe_41 gM rfl ?_
      refine r_iload_n d_M_getStripe_44 3 rfl ?_
      refine r_aldN d_M_getStripe_45 gmCho (by omega) (by decide) ?_
      refine r_top (y := nI (m.chos i)) rfl ?_
      refine r_iload d_M_getStripe_46 5 rfl ?_
      refine rc_M_76 rfl d_M_getStripe_48 (k_M_row (m := m.s_eqs (wrB (gE1 m o s i) (16 * i) (rowT (m.chos i)) k)) (by omega) hci (by omega)) (room_ok (d' := d - 1) (by omega) (by decide)) ⟨Nat.le_refl _, Nat.le_refl _⟩ (Nat.le_of_ble_eq_true rfl) ?_
      refine r_astN d_M_getStripe_51 gmEqs (by omega) (by decide) (wm_eqs) ?_
      refine r_iincN (lv' := [(0, _), (1, _), (2, _), (3, _), (4, _), (5, _)]) d_M_getStripe_52 5 rfl (by decide) rfl ?_
      refine r_goto (tgt := 23) d_M_getStripe_55 (by decide) ?_
      exact r_at ih_k rfl rfl rfl
def gm1 (m : MS) (o : Nat) (x : Int32) : MS := m.s_chos (chF (selM m o (mnw m o) x) m.chos 5 12)
def szM (m : MS) (o : Nat) : Nat := m.size (rx (mff m o (mnw m o)) o false)
theorem szM_le {m : MS} {o : Nat} (hm : MI m) : szM m o ≤ 240 := hm.1 _
theorem szM_eq {m m' : MS} (h1 : m'.fail = m.fail) (h2 : m'.has = m.has) (h3 : m'.ver = m.ver) (h4 : m'.size = m.size) {o : Nat} : szM m' o = szM m o := by
  unfold szM
  rw [mnw_eq h1 h2 h3, mff_eq h1 h2 h3, h4]
theorem gm1_mff {m : MS} {o : Nat} {x : Int32} : mff (gm1 m o x) o (mnw m o) = mff m o (mnw m o) := mff_eq (m := m) rfl rfl rfl
theorem gm1_sz {m : MS} {o : Nat} {x : Int32} : (gm1 m o x).size (rx (mff (gm1 m o x) o (mnw m o)) o false) = szM m o := by
  rw [gm1_mff]
  rfl
def gtS (X : MS) (o : Nat) : Nat → MS
  | 0 => X
  | s + 1 => gtC (gtS X o s) o s
theorem gtS_keep (X : MS) (o : Nat) : ∀ s, (gtS X o s).byts = X.byts ∧ (gtS X o s).chos = X.chos ∧ (gtS X o s).blk = X.blk ∧ (gtS X o s).size = X.size ∧ (gtS X o s).ver = X.ver
  | 0 => ⟨rfl, rfl, rfl, rfl, rfl⟩
  | s + 1 => by
    obtain ⟨h1, h2, h3, h4, h5⟩ := gtS_keep X o s
    obtain ⟨k1, k2, k3, k4, k5⟩ := erg_keep (gtS X o s) (gS2 (gtS X o s) o s) (gRt (gtS X o s) o s 5) (gG2 (gtS X o s) o s)
    exact ⟨k1.trans h1, k2.trans h2, k3.trans h3, k4.trans h4, k5.trans h5⟩
theorem gtS_lt {X : MS} {o : Nat} (h1 : B1 X.byts) (h2 : B1 X.eqs) (h3 : B1 X.right) : ∀ s, B1 (gtS X o s).eqs ∧ B1 (gtS X o s).right
  | 0 => ⟨h2, h3⟩
  | s + 1 => by
    have ih := gtS_lt (o := o) h1 h2 h3 s
    have hb : B1 (gtS X o s).byts := by rw [(gtS_keep X o s).1]; exact h1
    obtain ⟨k1, k2⟩ := erg_er (gtS X o s) (gS2 (gtS X o s) o s) (gRt (gtS X o s) o s 5) (gG2 (gtS X o s) o s)
    have q1 : (gtS X o (s + 1)).eqs = gS2 (gtS X o s) o s := k1
    have q2 : (gtS X o (s + 1)).right = gRt (gtS X o s) o s 5 := k2
    rw [q1, q2]
    exact ⟨gS2_lt hb ih.1, gRt_lt hb ih.1 ih.2 5⟩
theorem gtS_MI {X : MS} {o : Nat} (h : MI X) (s : Nat) : MI (gtS X o s) := by
  obtain ⟨-, -, k3, k4, k5⟩ := gtS_keep X o s
  unfold MI
  rw [k3, k4, k5]
  exact h
theorem k_M_getFew {l : Launch} {g : GX} {c : CS} {m : MS} {n d : Nat} (hd : 4 ≤ d) {o : Nat} {x : Int32} (ho : o < 6) (hm : MI m) (h : m.opn o = false) (hs : ct (selM m o (mnw m o) x) 12 < 5) : CE l g M_M_get d 0 0 [.ref (aM g), .int (nI o), .int x] n (hp g c m) (some (.int (-4))) n (hp g c (gm1 m o x)) := by
  have hw := mnw_lt (o := o) hm
  have hsz := szM_le (o := o) hm
  have h8 := stp_le hsz
  have hc12 := ct_le (selM m o (mnw m o) x) 12
  refine CE.of (by decide +kernel) (lv := [(0, .ref (aM g)), (1, .int (nI o)), (2, .int x)]) rfl (Nat.le_of_ble_eq_true rfl) ?_
  refine r_iload_n d_M_get_0 1 rfl ?_
  refine rc_M_125 rfl d_M_get_1 (k_M_isObjectN (by omega) ho) (room_ok (d' := d - 1) (by omega) (by decide)) ⟨Nat.le_refl _, Nat.le_refl _⟩ (Nat.le_of_ble_eq_true rfl) ?_
  refine r_if_neB (tgt := 10) d_M_get_4 (by decide) (fun c4 => ?_) (fun c4 => ?_)
  rotate_left 1
  · exfalso; first | omega | (revert c4; decide) | cases c4
  refine r_aload_n d_M_get_10 0 rfl ?_
  refine rg_M_45 rfl d_M_get_11 gM rfl ?_
  refine r_iload_n d_M_get_14 1 rfl ?_
  refine r_zldB d_M_get_15 gmOpn (by omega) (by decide) ?_
  refine r_if_eqB (tgt := 22) d_M_get_16 (by decide) (fun c16 => ?_) (fun c16 => ?_)
  rotate_left 1
  · exact absurd (h.symm.trans c16) (by decide)
  refine r_aload_n d_M_get_22 0 rfl ?_
  refine r_iload_n d_M_get_23 1 rfl ?_
  refine rc_M_140 rfl d_M_get_24 (k_M_newest (by omega) ho hm) gM (room_ok (d' := d - 1) (by omega) (by decide)) ⟨Nat.le_refl _, Nat.le_refl _⟩ (Nat.le_of_ble_eq_true rfl) ?_
  refine r_istore_n (lv' := [(0, _), (1, _), (2, _), (3, _)]) d_M_get_27 (by decide) rfl ?_
  refine r_aload_n d_M_get_28 0 rfl ?_
  refine r_iload_n d_M_get_29 1 rfl ?_
  refine r_iload_n d_M_get_30 3 rfl ?_
  refine r_iload_n d_M_get_31 2 rfl ?_
  refine r_iconst (v := nI 5) d_M_get_32 (by decide) ?_
  refine rc_M_143 rfl d_M_get_33 (k_M_choose (mo := 5) (by omega) ho hw (by decide) hm) gM (room_ok (d' := d - 1) (by omega) (by decide)) ⟨Nat.le_refl _, Nat.le_refl _⟩ (Nat.le_of_ble_eq_true rfl) ?_
  refine r_iconst (v := nI 5) d_M_get_36 (by decide) ?_
  refine r_icmp_geN (tgt := 43) d_M_get_37 (by decide) (by omega) (by omega) (fun c37 => ?_) (fun c37 => ?_)
  · exfalso; first | omega | (revert c37; decide) | cases c37
  refine r_bipush (v := (-4)) d_M_get_40 (by decide) ?_
  refine r_ireturn d_M_get_42 rfl rfl ⟨?_, rfl, ?_⟩
  · rfl
  · rfl
theorem k_M_getEmpty {l : Launch} {g : GX} {c : CS} {m : MS} {n d : Nat} (hd : 4 ≤ d) {o : Nat} {x : Int32} (ho : o < 6) (hm : MI m) (h : m.opn o = false) (hs : 5 ≤ ct (selM m o (mnw m o) x) 12) (hff : mff m o (mnw m o) < 12) (h0 : szM m o = 0) : CE l g M_M_get d 0 0 [.ref (aM g), .int (nI o), .int x] n (hp g c m) (some (.int (-6))) n (hp g c (gm1 m o x)) := by
  have hw := mnw_lt (o := o) hm
  have hsz := szM_le (o := o) hm
  have h8 := stp_le hsz
  have hc12 := ct_le (selM m o (mnw m o) x) 12
  refine CE.of (by decide +kernel) (lv := [(0, .ref (aM g)), (1, .int (nI o)), (2, .int x)]) rfl (Nat.le_of_ble_eq_true rfl) ?_
  refine r_iload_n d_M_get_0 1 rfl ?_
  refine rc_M_125 rfl d_M_get_1 (k_M_isObjectN (by omega) ho) (room_ok (d' := d - 1) (by omega) (by decide)) ⟨Nat.le_refl _, Nat.le_refl _⟩ (Nat.le_of_ble_eq_true rfl) ?_
  refine r_if_neB (tgt := 10) d_M_get_4 (by decide) (fun c4 => ?_) (fun c4 => ?_)
  rotate_left 1
  · exfalso; first | omega | (revert c4; decide) | cases c4
  refine r_aload_n d_M_get_10 0 rfl ?_
  refine rg_M_45 rfl d_M_get_11 gM rfl ?_
  refine r_iload_n d_M_get_14 1 rfl ?_
  refine r_zldB d_M_get_15 gmOpn (by omega) (by decide) ?_
  refine r_if_eqB (tgt := 22) d_M_get_16 (by decide) (fun c16 => ?_) (fun c16 => ?_)
  rotate_left 1
  · exact absurd (h.symm.trans c16) (by decide)
  refine r_aload_n d_M_get_22 0 rfl ?_
  refine r_iload_n d_M_get_23 1 rfl ?_
  refine rc_M_140 rfl d_M_get_24 (k_M_newest (by omega) ho hm) gM (room_ok (d' := d - 1) (by omega) (by decide)) ⟨Nat.le_refl _, Nat.le_refl _⟩ (Nat.le_of_ble_eq_true rfl) ?_
  refine r_istore_n (lv' := [(0, _), (1, _), (2, _), (3, _)]) d_M_get_27 (by decide) rfl ?_
  refine r_aload_n d_M_get_28 0 rfl ?_
  refine r_iload_n d_M_get_29 1 rfl ?_
  refine r_iload_n d_M_get_30 3 rfl ?_
  refine r_iload_n d_M_get_31 2 rfl ?_
  refine r_iconst (v := nI 5) d_M_get_32 (by decide) ?_
  refine rc_M_143 rfl d_M_get_33 (k_M_choose (mo := 5) (by omega) ho hw (by decide) hm) gM (room_ok (d' := d - 1) (by omega) (by decide)) ⟨Nat.le_refl _, Nat.le_refl _⟩ (Nat.le_of_ble_eq_true rfl) ?_
  refine r_iconst (v := nI 5) d_M_get_36 (by decide) ?_
  refine r_icmp_geN (tgt := 43) d_M_get_37 (by decide) (by omega) (by omega) (fun c37 => ?_) (fun c37 => ?_)
  rotate_left 1
  · exfalso; first | omega | (revert c37; decide) | cases c37
  refine r_aload_n d_M_get_43 0 rfl ?_
  refine r_iload_n d_M_get_44 1 rfl ?_
  refine r_iload_n d_M_get_45 3 rfl ?_
  refine rc_M_146 rfl d_M_get_46 (k_M_sizeOf (m := gm1 m o x) (by omega) ho hw hm (by rw [gm1_mff]; exact hff)) gM (room_ok (d' := d - 1) (by omega) (by decide)) ⟨Nat.le_refl _, Nat.le_refl _⟩ (Nat.le_of_ble_eq_true rfl) ?_
  refine r_top (y := nI (szM m o)) (congrArg nI gm1_sz) ?_
  refine r_istore (lv' := [(0, _), (1, _), (2, _), (3, _), (4, _)]) d_M_get_49 (by decide) rfl ?_
  refine r_iload d_M_get_51 4 rfl ?_
  refine r_if_neN (tgt := 59) d_M_get_53 (by decide) (by omega) (fun c53 => ?_) (fun c53 => ?_)
  · exfalso; first | omega | (revert c53; decide) | cases c53
  refine r_bipush (v := (-6)) d_M_get_56 (by decide) ?_
  refine r_ireturn d_M_get_58 rfl rfl ⟨?_, rfl, ?_⟩
  · rfl
  · rfl
theorem k_M_get {l : Launch} {g : GX} {c : CS} {m : MS} {n d : Nat} (hd : 4 ≤ d) {o : Nat} {x : Int32} (ho : o < 6) (hm : MI m) (h : m.opn o = false) (hs : 5 ≤ ct (selM m o (mnw m o) x) 12) (hff : mff m o (mnw m o) < 12) (h0 : 0 < szM m o) (hD : B1 m.byts) (hE : B1 m.eqs) (hR : B1 m.right) (hch : ∀ k, k < 5 → (gm1 m o x).chos k < 12) (hpv : ∀ s, s < stp (szM m o) → (∀ q, q < 5 → stE (gE1 (gtS (gm1 m o x) o s) o s 5) 5 8 q (16 * q + q) ≠ 0) ∧ (∀ q, q < 5 → stE (gE2 (gtS (gm1 m o x) o s) o s 5) 5 10 q (16 * q + q) ≠ 0)) : CE l g M_M_get d 0 0 [.ref (aM g), .int (nI o), .int x] n (hp g c m) (some (.int (nI (szM m o)))) n (hp g c ((gtS (gm1 m o x) o (stp (szM m o))).s_gotN (szM m o))) := by
  have hw := mnw_lt (o := o) hm
  have hsz := szM_le (o := o) hm
  have h8 := stp_le hsz
  have hc12 := ct_le (selM m o (mnw m o) x) 12
  refine CE.of (by decide +kernel) (lv := [(0, .ref (aM g)), (1, .int (nI o)), (2, .int x)]) rfl (Nat.le_of_ble_eq_true rfl) ?_
  refine r_iload_n d_M_get_0 1 rfl ?_
  refine rc_M_125 rfl d_M_get_1 (k_M_isObjectN (by omega) ho) (room_ok (d' := d - 1) (by omega) (by decide)) ⟨Nat.le_refl _, Nat.le_refl _⟩ (Nat.le_of_ble_eq_true rfl) ?_
  refine r_if_neB (tgt := 10) d_M_get_4 (by decide) (fun c4 => ?_) (fun c4 => ?_)
  rotate_left 1
  · exfalso; first | omega | (revert c4; decide) | cases c4
  refine r_aload_n d_M_get_10 0 rfl ?_
  refine rg_M_45 rfl d_M_get_11 gM rfl ?_
  refine r_iload_n d_M_get_14 1 rfl ?_
  refine r_zldB d_M_get_15 gmOpn (by omega) (by decide) ?_
  refine r_if_eqB (tgt := 22) d_M_get_16 (by decide) (fun c16 => ?_) (fun c16 => ?_)
  rotate_left 1
  · exact absurd (h.symm.trans c16) (by decide)
  refine r_aload_n d_M_get_22 0 rfl ?_
  refine r_iload_n d_M_get_23 1 rfl ?_
  refine rc_M_140 rfl d_M_get_24 (k_M_newest (by omega) ho hm) gM (room_ok (d' := d - 1) (by omega) (by decide)) ⟨Nat.le_refl _, Nat.le_refl _⟩ (Nat.le_of_ble_eq_true rfl) ?_
  refine r_istore_n (lv' := [(0, _), (1, _), (2, _), (3, _)]) d_M_get_27 (by decide) rfl ?_
  refine r_aload_n d_M_get_28 0 rfl ?_
  refine r_iload_n d_M_get_29 1 rfl ?_
  refine r_iload_n d_M_get_30 3 rfl ?_
  refine r_iload_n d_M_get_31 2 rfl ?_
  refine r_iconst (v := nI 5) d_M_get_32 (by decide) ?_
  refine rc_M_143 rfl d_M_get_33 (k_M_choose (mo := 5) (by omega) ho hw (by decide) hm) gM (room_ok (d' := d - 1) (by omega) (by decide)) ⟨Nat.le_refl _, Nat.le_refl _⟩ (Nat.le_of_ble_eq_true rfl) ?_
  refine r_iconst (v := nI 5) d_M_get_36 (by decide) ?_
  refine r_icmp_geN (tgt := 43) d_M_get_37 (by decide) (by omega) (by omega) (fun c37 => ?_) (fun c37 => ?_)
  rotate_left 1
  · exfalso; first | omega | (revert c37; decide) | cases c37
  refine r_aload_n d_M_get_43 0 rfl ?_
  refine r_iload_n d_M_get_44 1 rfl ?_
  refine r_iload_n d_M_get_45 3 rfl ?_
  refine rc_M_146 rfl d_M_get_46 (k_M_sizeOf (m := gm1 m o x) (by omega) ho hw hm (by rw [gm1_mff]; exact hff)) gM (room_ok (d' := d - 1) (by omega) (by decide)) ⟨Nat.le_refl _, Nat.le_refl _⟩ (Nat.le_of_ble_eq_true rfl) ?_
  refine r_top (y := nI (szM m o)) (congrArg nI gm1_sz) ?_
  refine r_istore (lv' := [(0, _), (1, _), (2, _), (3, _), (4, _)]) d_M_get_49 (by decide) rfl ?_
  refine r_iload d_M_get_51 4 rfl ?_
  refine r_if_neN (tgt := 59) d_M_get_53 (by decide) (by omega) (fun c53 => ?_) (fun c53 => ?_)
  rotate_left 1
  · exfalso; first | omega | (revert c53; decide) | cases c53
  refine r_iconst (v := nI 0) d_M_get_59 (by decide) ?_
  refine r_istore (lv' := [(0, _), (1, _), (2, _), (3, _), (4, _), (5, _)]) d_M_get_60 (by decide) rfl ?_
  refine r_heap (h' := hp g c (gtS (gm1 m o x) o 0)) rfl ?_
  refine back_ind (n := stp (szM m o)) (G := fun s => RJ l g M_M_get (RMX d 0 0) (TQ g 0 0 (QE (some (.int (nI (szM m o)))) n (hp g c ((gtS (gm1 m o x) o (stp (szM m o))).s_gotN (szM m o))))) XT n (hp g c (gtS (gm1 m o x) o s)) 0 0 62 [(0, .ref (aM g)), (1, .int (nI o)), (2, .int x), (3, .int (nI (mnw m o))), (4, .int (nI (szM m o))), (5, .int (nI s))] []) ?_ ?_ 0 (Nat.zero_le _)
  · skip
    refine r_iload d_M_get_62 5 rfl ?_
    refine r_iload d_M_get_64 4 rfl ?_
    refine rc_M_83 rfl d_M_get_66 (k_M_stripes (by omega) (by omega)) (room_ok (d' := d - 1) (by omega) (by decide)) ⟨Nat.le_refl _, Nat.le_refl _⟩ (Nat.le_of_ble_eq_true rfl) ?_
    refine r_icmp_geN (tgt := 85) d_M_get_69 (by decide) (by omega) (by omega) (fun c69 => ?_) (fun c69 => ?_)
    rotate_left 1
    · exfalso; first | omega | (revert c69; decide) | cases c69
    refine r_aload_n d_M_get_85 0 rfl ?_
    refine r_iload d_M_get_86 4 rfl ?_
    refine rp_M_152 rfl d_M_get_88 gM (Nat.le_of_ble_eq_true rfl) rfl (wM_gotN (v := szM m o)) ?_
    refine r_iload d_M_get_91 4 rfl ?_
    refine r_ireturn d_M_get_93 rfl rfl ⟨?_, rfl, ?_⟩
    · rfl
    · rfl
  · intro s hb_s ih_s
    have hX : MI (gtS (gm1 m o x) o s) := gtS_MI (X := gm1 m o x) hm s
    have hXl := gtS_lt (X := gm1 m o x) (o := o) hD hE hR s
    obtain ⟨k1, k2, -⟩ := gtS_keep (gm1 m o x) o s
    obtain ⟨p1, p2⟩ := hpv s hb_s
    refine r_iload d_M_get_62 5 rfl ?_
    refine r_iload d_M_get_64 4 rfl ?_
    refine rc_M_83 rfl d_M_get_66 (k_M_stripes (by omega) (by omega)) (room_ok (d' := d - 1) (by omega) (by decide)) ⟨Nat.le_refl _, Nat.le_refl _⟩ (Nat.le_of_ble_eq_true rfl) ?_
    refine r_icmp_geN (tgt := 85) d_M_get_69 (by decide) (by omega) (by omega) (fun c69 => ?_) (fun c69 => ?_)
    · exfalso; first | omega | (revert c69; decide) | cases c69
    refine r_aload_n d_M_get_72 0 rfl ?_
    refine r_iload_n d_M_get_73 1 rfl ?_
    refine r_iload d_M_get_74 5 rfl ?_
    refine rc_M_149 rfl d_M_get_76 (k_M_getStripe (m := gtS (gm1 m o x) o s) (by omega) ho (by omega) hX (by rw [k1]; exact hD) hXl.1 hXl.2 (by rw [k2]; exact hch) p1 p2) gM (room_ok (d' := d - 1) (by omega) (by decide)) ⟨Nat.le_refl _, Nat.le_refl _⟩ (Nat.le_of_ble_eq_true rfl) ?_
    refine r_iincN (lv' := [(0, _), (1, _), (2, _), (3, _), (4, _), (5, _)]) d_M_get_79 5 rfl (by decide) rfl ?_
    refine r_goto (tgt := 62) d_M_get_82 (by decide) ?_
    exact r_at ih_s rfl rfl rfl
