def lvM (m : MS) : Nat := ct (fun i => !m.fail i) 12
theorem lvM_le (m : MS) : lvM m ≤ 12 := ct_le _ 12
/-- behind how many messages it ends -/
def mst (m : MS) : Nat := if m.cutA = -1 then 2 * lvM m else if m.cutA ≤ nI (2 * lvM m) then m.cutA.toNatClampNeg else 2 * lvM m
theorem mst_t {m : MS} (h : m.cutA = -1) : mst m = 2 * lvM m := if_pos h
theorem mst_k {m : MS} {k : Nat} (h : m.cutA = nI k) (hk : k < 24) : mst m = if k ≤ 2 * lvM m then k else 2 * lvM m := by
  have hl := lvM_le m
  unfold mst
  rw [if_neg (by rw [h]; exact nI_m1 (by omega)), h, nI_clamp (by omega)]
  by_cases q : k ≤ 2 * lvM m
  · rw [if_pos q, if_pos ((nI_leI (by omega) (by omega)).mpr q)]
  · rw [if_neg q, if_neg (fun z => q ((nI_leI (by omega) (by omega)).mp z))]
theorem mst_le {m : MS} (h : m.cutA = -1 ∨ ∃ k, k < 24 ∧ m.cutA = nI k) : mst m ≤ 2 * lvM m := by
  rcases h with h | ⟨k, hk, h⟩
  · rw [mst_t h]; exact Nat.le_refl _
  · rw [mst_k h hk]; split <;> omega
theorem mst_a {m : MS} (h : m.cutA = -1 ∨ ∃ k, k < 24 ∧ m.cutA = nI k) (h1 : ¬ m.cutA = -1) (h2 : m.cutA ≤ nI (2 * lvM m)) : m.cutA = nI (mst m) := by
  rcases h with h | ⟨k, hk, h⟩
  · exact absurd h h1
  · have hl := lvM_le m
    rw [mst_k h hk, if_pos ((nI_leI (by omega) (by omega)).mp (h ▸ h2)), h]
theorem mst_b {m : MS} (h1 : ¬ m.cutA = -1) (h2 : ¬ m.cutA ≤ nI (2 * lvM m)) : nI (2 * lvM m) = nI (mst m) := by
  unfold mst
  rw [if_neg h1, if_neg h2]
def gsO (X : MS) (i o : Nat) : MS := msh (mtk (mgu X i (rx i o true)) i (rx i o true) (X.latest o) X.taped) i (rx i o true)
def gaM (m : MS) (o mo : Nat) : Nat → MS
  | 0 => m
  | i + 1 => if m.fail i = false ∧ ct (fun i => !m.fail i) i < mo then gsO (gaM m o mo i) i o else gaM m o mo i
def gfM (m : MS) (o mo : Nat) : Nat → MS
  | 0 => m
  | i + 1 => if m.fail i = false ∧ ct (fun i => !m.fail i) i < mo then mfl (gfM m o mo i) i o else gfM m o mo i
theorem gaM_stop {m : MS} {o mo i : Nat} (h : mo ≤ ct (fun i => !m.fail i) i) (hi : i ≤ 12) : gaM m o mo 12 = gaM m o mo i := by
  have q := stop_eq (F := gaM m o mo) (Z := fun k => mo ≤ ct (fun i => !m.fail i) k) (ct_stop h) (fun k hk => by show (if _ then _ else _) = _; rw [if_neg (by omega)]) (12 - i)
  rwa [show i + (12 - i) = 12 by omega] at q
theorem gfM_stop {m : MS} {o mo i : Nat} (h : mo ≤ ct (fun i => !m.fail i) i) (hi : i ≤ 12) : gfM m o mo 12 = gfM m o mo i := by
  have q := stop_eq (F := gfM m o mo) (Z := fun k => mo ≤ ct (fun i => !m.fail i) k) (ct_stop h) (fun k hk => by show (if _ then _ else _) = _; rw [if_neg (by omega)]) (12 - i)
  rwa [show i + (12 - i) = 12 by omega] at q
/-- what the node operations leave -/
def samG (m m' : MS) : Prop := m'.fail = m.fail ∧ m'.latest = m.latest ∧ m'.taped = m.taped ∧ m'.tape = m.tape ∧ m'.opn = m.opn ∧ m'.msgs = m.msgs ∧ m'.syms = m.syms ∧ m'.sent = m.sent ∧ m'.cutA = m.cutA ∧ m'.got = m.got ∧ m'.gotN = m.gotN ∧ m'.eqs = m.eqs
theorem samG.rf (m : MS) : samG m m := ⟨rfl, rfl, rfl, rfl, rfl, rfl, rfl, rfl, rfl, rfl, rfl, rfl⟩
theorem samG.tr {a b d : MS} (h : samG a b) (k : samG b d) : samG a d := ⟨k.1.trans h.1, k.2.1.trans h.2.1, k.2.2.1.trans h.2.2.1, k.2.2.2.1.trans h.2.2.2.1, k.2.2.2.2.1.trans h.2.2.2.2.1, k.2.2.2.2.2.1.trans h.2.2.2.2.2.1, k.2.2.2.2.2.2.1.trans h.2.2.2.2.2.2.1, k.2.2.2.2.2.2.2.1.trans h.2.2.2.2.2.2.2.1, k.2.2.2.2.2.2.2.2.1.trans h.2.2.2.2.2.2.2.2.1, k.2.2.2.2.2.2.2.2.2.1.trans h.2.2.2.2.2.2.2.2.2.1, k.2.2.2.2.2.2.2.2.2.2.1.trans h.2.2.2.2.2.2.2.2.2.2.1, k.2.2.2.2.2.2.2.2.2.2.2.trans h.2.2.2.2.2.2.2.2.2.2.2⟩
theorem samG_gu (m : MS) (i r : Nat) : samG m (mgu m i r) := by
  unfold mgu
  split
  · exact samG.rf m
  · exact samG.rf m
theorem samG_tk (m : MS) (i r v a : Nat) : samG m (mtk m i r v a) := samG.rf m
theorem samG_sh (m : MS) (i r : Nat) : samG m (msh m i r) := samG.rf m
theorem samG_fC (m : MS) (r s : Nat) : samG m (mfC m r s) := samG.rf m
theorem samG_fl (m : MS) (i o : Nat) : samG m (mfl m i o) := (samG_gu m i _).tr (samG_fC _ _ _)
theorem samG_gs (m : MS) (i o : Nat) : samG m (gsO m i o) := ((samG_gu m i _).tr (samG_tk _ i _ _ _)).tr (samG_sh _ i _)
theorem samG_ga (m : MS) (o mo : Nat) : ∀ i, samG m (gaM m o mo i)
  | 0 => samG.rf m
  | i + 1 => by
    unfold gaM
    split
    · exact (samG_ga m o mo i).tr (samG_gs _ i o)
    · exact samG_ga m o mo i
theorem samG_gf (m : MS) (o mo : Nat) : ∀ i, samG m (gfM m o mo i)
  | 0 => samG.rf m
  | i + 1 => by
    unfold gfM
    split
    · exact (samG_gf m o mo i).tr (samG_fl _ i o)
    · exact samG_gf m o mo i
theorem MI_gf {m : MS} {o mo : Nat} (h : MI m) : ∀ i, MI (gfM m o mo i)
  | 0 => h
  | i + 1 => by
    unfold gfM
    split
    · exact MI_fl (MI_gf h i)
    · exact MI_gf h i
/-- a shadow's blocks can be taken at the first of the nodes -/
def gaOk (m : MS) (o mo : Nat) : Prop := ∀ i, i < 12 → m.fail i = false → ct (fun i => !m.fail i) i < mo → ∀ k, k < stp m.taped → lf (fun b => mtU (mgu (gaM m o mo i) i (rx i o true)).used i k (40 * i + b)) < 40
theorem MI_ga {m : MS} {o mo : Nat} (h : MI m) (hl : m.latest o < 65536) (ht : m.taped ≤ 240) (hk : gaOk m o mo) : ∀ i, i ≤ 12 → MI (gaM m o mo i)
  | 0, _ => h
  | i + 1, hi => by
    have ih := MI_ga h hl ht hk i (by omega)
    obtain ⟨s1, s2, s3, -⟩ := samG_ga m o mo i
    unfold gaM
    split
    · rename_i q
      exact MI_tk (m := mgu (gaM m o mo i) i (rx i o true)) (MI_gu ih) (by rw [s2]; exact hl) (by rw [s3]; exact ht) (fun k h1 => hk i (by omega) q.1 q.2 k (by rwa [s3] at h1))
    · exact ih
def gs1 (m : MS) (o : Nat) : MS := (m.s_latest (upN m.latest o (m.latest o + 1))).s_cutA (-1)
def gs2 (m : MS) (o : Nat) : MS := gaM (gs1 m o) o (mst m) 12
def gs3 (m : MS) (o : Nat) : MS := gfM (gs2 m o) o (mst m - lvM m) 12
def gsM (m : MS) (o : Nat) : MS := ((gs3 m o).s_msgs ((gs3 m o).msgs + nI (mst m))).s_opn (upN (gs3 m o).opn o (decide (mst m < 2 * lvM m)))
def gsR (m : MS) (o : Nat) : Int32 := if mst m < 2 * lvM m then nI 0 else nI (m.latest o + 1)
theorem ctf_t {m : MS} {i : Nat} (h : m.fail i = false) : ct (fun i => !m.fail i) (i + 1) = ct (fun i => !m.fail i) i + 1 := ct_t (by simp [h])
theorem ctf_f {m : MS} {i : Nat} (h : m.fail i = true) : ct (fun i => !m.fail i) (i + 1) = ct (fun i => !m.fail i) i := ct_f (by simp [h])
theorem k_M_goes {l : Launch} {g : GX} {c : CS} {m : MS} {n d : Nat} (hd : 4 ≤ d) {o : Nat} (ho : o < 6) (hm : MI m) (hT : m.taped ≤ 240) (hB : B1 m.tape) (hlt : m.latest o < 65535) (hcut : m.cutA = -1 ∨ ∃ k, k < 24 ∧ m.cutA = nI k) (hok : gaOk (gs1 m o) o (mst m)) : CE l g M_M_goes d 0 0 [.ref (aM g), .int (nI o)] n (hp g c m) (some (.int (gsR m o))) n (hp g c (gsM m o)) := by
  have hl12 : lvM m ≤ 12 := lvM_le m
  have hmo := mst_le hcut
  have hl1 : (gs1 m o).latest o = m.latest o + 1 := upN_s
  have hMA : ∀ i, i ≤ 12 → MI (gaM (gs1 m o) o (mst m) i) := MI_ga (m := gs1 m o) hm (by omega) hT hok
  have hG2 := samG_ga (gs1 m o) o (mst m) 12
  have hG3 : samG (gs2 m o) (gs3 m o) := samG_gf (gs2 m o) o (mst m - lvM m) 12
  have hf2 : (gs2 m o).fail = m.fail := hG2.1
  have hct2 : (fun i => !(gs2 m o).fail i) = fun i => !m.fail i := by rw [hf2]
  refine CE.of (by decide +kernel) (lv := [(0, .ref (aM g)), (1, .int (nI o))]) rfl (Nat.le_of_ble_eq_true rfl) ?_
  refine r_aload_n d_M_goes_0 0 rfl ?_
  refine rg_M_42 rfl d_M_goes_1 gM rfl ?_
  refine r_iload_n d_M_goes_4 1 rfl ?_
  refine r_dup2 d_M_goes_5 rfl rfl ?_
  refine r_aldN d_M_goes_6 gmLat (by omega) (by decide) ?_
  refine r_iconst (v := nI 1) d_M_goes_7 (by decide) ?_
  refine r_iaddN d_M_goes_8 ?_
  refine r_astN d_M_goes_9 gmLat (by omega) (by decide) (wm_latest) ?_
  refine r_iconst (v := nI 2) d_M_goes_10 (by decide) ?_
  refine r_aload_n d_M_goes_11 0 rfl ?_
  refine rc_M_107 rfl d_M_goes_12 (k_M_live (m := m.s_latest (upN m.latest o ((m.latest o) + 1))) (by omega)) gM (room_ok (d' := d - 1) (by omega) (by decide)) ⟨Nat.le_refl _, Nat.le_refl _⟩ (Nat.le_of_ble_eq_true rfl) ?_
  refine r_imulN d_M_goes_15 ?_
  refine r_istore_n (lv' := [(0, _), (1, _), (2, _)]) d_M_goes_16 (by decide) rfl ?_
  have K42 : RJ l g M_M_goes (RMX d 0 0) (TQ g 0 0 (QE (some (.int (gsR m o))) n (hp g c (gsM m o)))) XT n (hp g c (m.s_latest (upN m.latest o ((m.latest o) + 1)))) 0 0 42 [(0, .ref (aM g)), (1, .int (nI o)), (2, .int (nI (2 * (lvM m)))), (3, .int (nI (mst m)))] [] := by
    refine r_aload_n d_M_goes_42 0 rfl ?_
    refine r_iconst (v := (-1)) d_M_goes_43 (by decide) ?_
    refine rp_M_13 rfl d_M_goes_44 gM (Nat.le_of_ble_eq_true rfl) rfl (wM_cutA (v := (-1))) ?_
    refine r_heap (h' := hp g c (gs1 m o)) rfl ?_
    refine r_iconst (v := nI 0) d_M_goes_47 (by decide) ?_
    refine r_istore (lv' := [(0, _), (1, _), (2, _), (3, _), (4, _)]) d_M_goes_48 (by decide) rfl ?_
    refine r_iconst (v := nI 0) d_M_goes_50 (by decide) ?_
    have K118 : RJ l g M_M_goes (RMX d 0 0) (TQ g 0 0 (QE (some (.int (gsR m o))) n (hp g c (gsM m o)))) XT n (hp g c (gaM (gs1 m o) o (mst m) 12)) 0 0 118 [(0, .ref (aM g)), (1, .int (nI o)), (2, .int (nI (2 * lvM m))), (3, .int (nI (mst m))), (4, .int (nI (min (lvM m) (mst m))))] [] := by
      refine r_iconst (v := nI 0) d_M_goes_118 (by decide) ?_
      have K160 : RJ l g M_M_goes (RMX d 0 0) (TQ g 0 0 (QE (some (.int (gsR m o))) n (hp g c (gsM m o)))) XT n (hp g c (gs3 m o)) 0 0 160 [(0, .ref (aM g)), (1, .int (nI o)), (2, .int (nI (2 * lvM m))), (3, .int (nI (mst m))), (4, .int (nI (mst m)))] [] := by
        refine r_aload_n d_M_goes_160 0 rfl ?_
        refine r_dup d_M_goes_161 rfl ?_
        refine rg_M_122 rfl d_M_goes_162 gM rfl ?_
        refine r_iload d_M_goes_165 4 rfl ?_
        refine r_iadd d_M_goes_167 ?_
        refine rp_M_122 rfl d_M_goes_168 gM (Nat.le_of_ble_eq_true rfl) rfl (wM_msgs (v := ((gs3 m o).msgs) + (nI (mst m)))) ?_
        refine r_aload_n d_M_goes_171 0 rfl ?_
        refine rg_M_45 rfl d_M_goes_172 gM rfl ?_
        refine r_iload_n d_M_goes_175 1 rfl ?_
        refine r_iload d_M_goes_176 4 rfl ?_
        refine r_iload_n d_M_goes_178 2 rfl ?_
        refine r_icmp_geN (tgt := 186) d_M_goes_179 (by decide) (by omega) (by omega) (fun c179 => ?_) (fun c179 => ?_)
        · skip
          refine r_iconst (v := nI 0) d_M_goes_186 (by decide) ?_
          refine r_zast (b := false) d_M_goes_187 rfl gmOpn (by omega) (by decide) (wm_opn) ?_
          refine r_aload_n d_M_goes_188 0 rfl ?_
          refine rg_M_45 rfl d_M_goes_189 gM rfl ?_
          refine r_iload_n d_M_goes_192 1 rfl ?_
          refine r_zldB d_M_goes_193 gmOpn (by omega) (by decide) ?_
          refine r_top (y := b2 false) (congrArg b2 upN_s) ?_
          refine r_if_eqB (tgt := 201) d_M_goes_194 (by decide) (fun c194 => ?_) (fun c194 => ?_)
          rotate_left 1
          · exfalso; first | omega | (revert c194; decide) | cases c194
          refine r_aload_n d_M_goes_201 0 rfl ?_
          refine rg_M_42 rfl d_M_goes_202 gM rfl ?_
          refine r_iload_n d_M_goes_205 1 rfl ?_
          refine r_aldN d_M_goes_206 gmLat (by omega) (by decide) ?_
          refine r_ireturn d_M_goes_207 rfl rfl ⟨?_, rfl, ?_⟩
          · first | exact congrArg (fun z => some (Value.int z)) (show nI 0 = gsR m o from (if_pos (by omega)).symm) | (refine congrArg (fun z => some (Value.int z)) ?_; show nI ((gs3 m o).latest o) = gsR m o; rw [hG3.2.1, show (gs2 m o).latest = (gs1 m o).latest from hG2.2.1, hl1]; exact (if_neg (by omega)).symm)
          · first | (show hp g c (((gs3 m o).s_msgs ((gs3 m o).msgs + nI (mst m))).s_opn (upN (gs3 m o).opn o true)) = hp g c (gsM m o); unfold gsM; rw [decide_eq_true (by omega)]) | (show hp g c (((gs3 m o).s_msgs ((gs3 m o).msgs + nI (mst m))).s_opn (upN (gs3 m o).opn o false)) = hp g c (gsM m o); unfold gsM; rw [decide_eq_false (by omega)])
        · skip
          refine r_iconst (v := nI 1) d_M_goes_182 (by decide) ?_
          refine r_goto (tgt := 187) d_M_goes_183 (by decide) ?_
          refine r_zast (b := true) d_M_goes_187 rfl gmOpn (by omega) (by decide) (wm_opn) ?_
          refine r_aload_n d_M_goes_188 0 rfl ?_
          refine rg_M_45 rfl d_M_goes_189 gM rfl ?_
          refine r_iload_n d_M_goes_192 1 rfl ?_
          refine r_zldB d_M_goes_193 gmOpn (by omega) (by decide) ?_
          refine r_top (y := b2 true) (congrArg b2 upN_s) ?_
          refine r_if_eqB (tgt := 201) d_M_goes_194 (by decide) (fun c194 => ?_) (fun c194 => ?_)
          · exfalso; first | omega | (revert c194; decide) | cases c194
          refine r_iconst (v := nI 0) d_M_goes_197 (by decide) ?_
          refine r_goto (tgt := 207) d_M_goes_198 (by decide) ?_
          refine r_ireturn d_M_goes_207 rfl rfl ⟨?_, rfl, ?_⟩
          · first | exact congrArg (fun z => some (Value.int z)) (show nI 0 = gsR m o from (if_pos (by omega)).symm) | (refine congrArg (fun z => some (Value.int z)) ?_; show nI ((gs3 m o).latest o) = gsR m o; rw [hG3.2.1, show (gs2 m o).latest = (gs1 m o).latest from hG2.2.1, hl1]; exact (if_neg (by omega)).symm)
          · first | (show hp g c (((gs3 m o).s_msgs ((gs3 m o).msgs + nI (mst m))).s_opn (upN (gs3 m o).opn o true)) = hp g c (gsM m o); unfold gsM; rw [decide_eq_true (by omega)]) | (show hp g c (((gs3 m o).s_msgs ((gs3 m o).msgs + nI (mst m))).s_opn (upN (gs3 m o).opn o false)) = hp g c (gsM m o); unfold gsM; rw [decide_eq_false (by omega)])
      refine r_istore (lv' := [(0, _), (1, _), (2, _), (3, _), (4, _), (5, _)]) d_M_goes_119 (by decide) rfl ?_
      refine r_at (lv' := [(0, .ref (aM g)), (1, .int (nI o)), (2, .int (nI (2 * lvM m))), (3, .int (nI (mst m))), (4, .int (nI (min (lvM m + ct (fun i => !m.fail i) 0) (mst m)))), (5, .int (nI 0))]) (h' := hp g c (gfM (gs2 m o) o (mst m - lvM m) 0)) ?_ rfl (by rw [show min (lvM m + ct (fun i => !m.fail i) 0) (mst m) = min (lvM m) (mst m) from rfl]) rfl
      refine back_ind (n := 12) (G := fun i => RJ l g M_M_goes (RMX d 0 0) (TQ g 0 0 (QE (some (.int (gsR m o))) n (hp g c (gsM m o)))) XT n (hp g c (gfM (gs2 m o) o (mst m - lvM m) i)) 0 0 121 [(0, .ref (aM g)), (1, .int (nI o)), (2, .int (nI (2 * lvM m))), (3, .int (nI (mst m))), (4, .int (nI (min (lvM m + ct (fun i => !m.fail i) i) (mst m)))), (5, .int (nI i))] []) ?_ ?_ 0 (Nat.zero_le _)
      · skip
        refine r_iload d_M_goes_121 5 rfl ?_
        refine r_bipush (v := nI 12) d_M_goes_123 (by decide) ?_
        refine r_icmp_geN (tgt := 160) d_M_goes_125 (by decide) (by omega) (by omega) (fun c125 => ?_) (fun c125 => ?_)
        rotate_left 1
        · exfalso; first | omega | (revert c125; decide) | cases c125
        refine r_less (lv' := [(0, .ref (aM g)), (1, .int (nI o)), (2, .int (nI (2 * lvM m))), (3, .int (nI (mst m))), (4, .int (nI (min (lvM m + ct (fun i => !m.fail i) 12) (mst m))))]) (by simp) ?_
        first | exact r_at K160 rfl (by rw [show min (lvM m + ct (fun i => !m.fail i) 12) (mst m) = mst m by have q2 : lvM m = ct (fun i => !m.fail i) 12 := rfl; omega]) rfl | exact r_at K160 (by show _ = hp g c (gfM (gs2 m o) o (mst m - lvM m) 12); rw [gfM_stop (m := gs2 m o) (i := i) (by rw [hct2]; omega) (by omega)]) (by rw [show min (lvM m + ct (fun i => !m.fail i) i) (mst m) = mst m by omega]) rfl
      · intro i hb_i ih_i
        have hX : MI (gfM (gs2 m o) o (mst m - lvM m) i) := MI_gf (hMA 12 (by omega)) i
        obtain ⟨s1, s2, s3, s4, -⟩ := samG_gf (gs2 m o) o (mst m - lvM m) i
        refine r_iload d_M_goes_121 5 rfl ?_
        refine r_bipush (v := nI 12) d_M_goes_123 (by decide) ?_
        refine r_icmp_geN (tgt := 160) d_M_goes_125 (by decide) (by omega) (by omega) (fun c125 => ?_) (fun c125 => ?_)
        · exfalso; first | omega | (revert c125; decide) | cases c125
        refine r_iload d_M_goes_128 4 rfl ?_
        refine r_iload_n d_M_goes_130 3 rfl ?_
        refine r_icmp_geN (tgt := 160) d_M_goes_131 (by decide) (by omega) (by omega) (fun c131 => ?_) (fun c131 => ?_)
        · skip
          refine r_less (lv' := [(0, .ref (aM g)), (1, .int (nI o)), (2, .int (nI (2 * lvM m))), (3, .int (nI (mst m))), (4, .int (nI (min (lvM m + ct (fun i => !m.fail i) i) (mst m))))]) (by simp) ?_
          first | exact r_at K160 rfl (by rw [show min (lvM m + ct (fun i => !m.fail i) 12) (mst m) = mst m by have q2 : lvM m = ct (fun i => !m.fail i) 12 := rfl; omega]) rfl | exact r_at K160 (by show _ = hp g c (gfM (gs2 m o) o (mst m - lvM m) 12); rw [gfM_stop (m := gs2 m o) (i := i) (by rw [hct2]; omega) (by omega)]) (by rw [show min (lvM m + ct (fun i => !m.fail i) i) (mst m) = mst m by omega]) rfl
        · skip
          refine r_aload_n d_M_goes_134 0 rfl ?_
          refine rg_M_17 rfl d_M_goes_135 gM rfl ?_
          refine r_iload d_M_goes_138 5 rfl ?_
          refine r_zldB d_M_goes_140 gmFail (by omega) (by decide) ?_
          refine r_if_neB (tgt := 154) d_M_goes_141 (by decide) (fun c141 => ?_) (fun c141 => ?_)
          · skip
            have hl2 : (gs2 m o).fail i = true := by rw [← s1]; exact c141
            have hlv : m.fail i = true := by rw [← hf2]; exact hl2
            refine r_iincN (lv' := [(0, _), (1, _), (2, _), (3, _), (4, _), (5, _)]) d_M_goes_154 5 rfl (by decide) rfl ?_
            refine r_goto (tgt := 121) d_M_goes_157 (by decide) ?_
            first | (exact r_at ih_i (by show _ = hp g c (if _ then _ else _); rw [if_neg (fun q => absurd (hl2.symm.trans q.1) (by decide))]) (by rw [show min (lvM m + ct (fun i => !m.fail i) (i + 1)) (mst m) = min (lvM m + ct (fun i => !m.fail i) i) (mst m) by rw [ctf_f hlv]]) rfl) | (exact r_at ih_i (by show _ = hp g c (if _ then _ else _); rw [if_pos ⟨hl2, by rw [hct2]; omega⟩]; try rfl) rfl rfl)
          · skip
            have hl2 : (gs2 m o).fail i = false := by rw [← s1]; exact c141
            have hlv : m.fail i = false := by rw [← hf2]; exact hl2
            refine r_aload_n d_M_goes_144 0 rfl ?_
            refine r_iload d_M_goes_145 5 rfl ?_
            refine r_iload_n d_M_goes_147 1 rfl ?_
            refine rc_M_119 rfl d_M_goes_148 (k_M_flips (m := (gfM (gs2 m o) o (mst m - lvM m) i)) (by omega) hb_i ho hX) gM (room_ok (d' := d - 1) (by omega) (by decide)) ⟨Nat.le_refl _, Nat.le_refl _⟩ (Nat.le_of_ble_eq_true rfl) ?_
            refine r_iincN (lv' := [(0, _), (1, _), (2, _), (3, _), (4, _), (5, _)]) d_M_goes_151 4 rfl (by decide) rfl ?_
            refine r_at (lv' := [(0, .ref (aM g)), (1, .int (nI o)), (2, .int (nI (2 * lvM m))), (3, .int (nI (mst m))), (4, .int (nI (min (lvM m + ct (fun i => !m.fail i) (i + 1)) (mst m)))), (5, .int (nI i))]) ?_ rfl (by rw [show min (lvM m + ct (fun i => !m.fail i) (i + 1)) (mst m) = (min (lvM m + ct (fun i => !m.fail i) i) (mst m)) + 1 by rw [ctf_t hlv]; omega]) rfl
            refine r_iincN (lv' := [(0, _), (1, _), (2, _), (3, _), (4, _), (5, _)]) d_M_goes_154 5 rfl (by decide) rfl ?_
            refine r_goto (tgt := 121) d_M_goes_157 (by decide) ?_
            first | (exact r_at ih_i (by show _ = hp g c (if _ then _ else _); rw [if_neg (fun q => absurd (hl2.symm.trans q.1) (by decide))]) (by rw [show min (lvM m + ct (fun i => !m.fail i) (i + 1)) (mst m) = min (lvM m + ct (fun i => !m.fail i) i) (mst m) by rw [ctf_f hlv]]) rfl) | (exact r_at ih_i (by show _ = hp g c (if _ then _ else _); rw [if_pos ⟨hl2, by rw [hct2]; omega⟩]; try rfl) rfl rfl)
    refine r_istore (lv' := [(0, _), (1, _), (2, _), (3, _), (4, _), (5, _)]) d_M_goes_51 (by decide) rfl ?_
    refine r_at (lv' := [(0, .ref (aM g)), (1, .int (nI o)), (2, .int (nI (2 * (lvM m)))), (3, .int (nI (mst m))), (4, .int (nI (min (ct (fun i => !m.fail i) 0) (mst m)))), (5, .int (nI 0))]) (h' := hp g c (gaM (gs1 m o) o (mst m) 0)) ?_ rfl (by rw [show min (ct (fun i => !m.fail i) 0) (mst m) = 0 from Nat.zero_min _]) rfl
    refine back_ind (n := 12) (G := fun i => RJ l g M_M_goes (RMX d 0 0) (TQ g 0 0 (QE (some (.int (gsR m o))) n (hp g c (gsM m o)))) XT n (hp g c (gaM (gs1 m o) o (mst m) i)) 0 0 53 [(0, .ref (aM g)), (1, .int (nI o)), (2, .int (nI (2 * (lvM m)))), (3, .int (nI (mst m))), (4, .int (nI (min (ct (fun i => !m.fail i) i) (mst m)))), (5, .int (nI i))] []) ?_ ?_ 0 (Nat.zero_le _)
    · skip
      refine r_iload d_M_goes_53 5 rfl ?_
      refine r_bipush (v := nI 12) d_M_goes_55 (by decide) ?_
      refine r_icmp_geN (tgt := 118) d_M_goes_57 (by decide) (by omega) (by omega) (fun c57 => ?_) (fun c57 => ?_)
      rotate_left 1
      · exfalso; first | omega | (revert c57; decide) | cases c57
      refine r_less (lv' := [(0, .ref (aM g)), (1, .int (nI o)), (2, .int (nI (2 * (lvM m)))), (3, .int (nI (mst m))), (4, .int (nI (min (ct (fun i => !m.fail i) 12) (mst m))))]) (by simp) ?_
      first | exact r_at K118 rfl rfl rfl | exact r_at K118 (by rw [gaM_stop (m := gs1 m o) (i := i) (show mst m ≤ ct (fun i => !m.fail i) i by omega) (by omega)]) (by have q := ct12 (p := fun i => !m.fail i) (i := i) (by omega); have q2 : lvM m = ct (fun i => !m.fail i) 12 := rfl; rw [show min (ct (fun i => !m.fail i) i) (mst m) = min (lvM m) (mst m) by omega]) rfl
    · intro i hb_i ih_i
      have hX := hMA i (by omega)
      obtain ⟨s1, s2, s3, s4, -⟩ := samG_ga (gs1 m o) o (mst m) i
      refine r_iload d_M_goes_53 5 rfl ?_
      refine r_bipush (v := nI 12) d_M_goes_55 (by decide) ?_
      refine r_icmp_geN (tgt := 118) d_M_goes_57 (by decide) (by omega) (by omega) (fun c57 => ?_) (fun c57 => ?_)
      · exfalso; first | omega | (revert c57; decide) | cases c57
      refine r_iload d_M_goes_60 4 rfl ?_
      refine r_iload_n d_M_goes_62 3 rfl ?_
      refine r_icmp_geN (tgt := 118) d_M_goes_63 (by decide) (by omega) (by omega) (fun c63 => ?_) (fun c63 => ?_)
      · skip
        refine r_less (lv' := [(0, .ref (aM g)), (1, .int (nI o)), (2, .int (nI (2 * (lvM m)))), (3, .int (nI (mst m))), (4, .int (nI (min (ct (fun i => !m.fail i) i) (mst m))))]) (by simp) ?_
        first | exact r_at K118 rfl rfl rfl | exact r_at K118 (by rw [gaM_stop (m := gs1 m o) (i := i) (show mst m ≤ ct (fun i => !m.fail i) i by omega) (by omega)]) (by have q := ct12 (p := fun i => !m.fail i) (i := i) (by omega); have q2 : lvM m = ct (fun i => !m.fail i) 12 := rfl; rw [show min (ct (fun i => !m.fail i) i) (mst m) = min (lvM m) (mst m) by omega]) rfl
      · skip
        refine r_aload_n d_M_goes_66 0 rfl ?_
        refine rg_M_17 rfl d_M_goes_67 gM rfl ?_
        refine r_iload d_M_goes_70 5 rfl ?_
        refine r_zldB d_M_goes_72 gmFail (by omega) (by decide) ?_
        refine r_if_neB (tgt := 112) d_M_goes_73 (by decide) (fun c73 => ?_) (fun c73 => ?_)
        · skip
          have hlv : m.fail i = true := (congrFun s1 i).symm.trans c73
          refine r_iincN (lv' := [(0, _), (1, _), (2, _), (3, _), (4, _), (5, _)]) d_M_goes_112 5 rfl (by decide) rfl ?_
          refine r_goto (tgt := 53) d_M_goes_115 (by decide) ?_
          first | (exact r_at ih_i (by show _ = hp g c (if _ then _ else _); rw [if_neg (fun q => absurd (hlv.symm.trans q.1) (by decide))]) (by rw [show min (ct (fun i => !m.fail i) (i + 1)) (mst m) = min (ct (fun i => !m.fail i) i) (mst m) by rw [ctf_f hlv]]) rfl) | (exact r_at ih_i (by show _ = hp g c (if _ then _ else _); rw [if_pos ⟨hlv, by show ct (fun i => !m.fail i) i < mst m; omega⟩]; try rfl) rfl rfl)
        · skip
          have hlv : m.fail i = false := (congrFun s1 i).symm.trans c73
          refine r_aload_n d_M_goes_76 0 rfl ?_
          refine r_iload d_M_goes_77 5 rfl ?_
          refine r_iload_n d_M_goes_79 1 rfl ?_
          refine r_iconst (v := nI 1) d_M_goes_80 (by decide) ?_
          refine rc_M_89 rfl d_M_goes_81 (k_M_givesUp (m := (gaM (gs1 m o) o (mst m) i)) (z := true) (by omega) hb_i ho hX) gM (room_ok (d' := d - 1) (by omega) (by decide)) ⟨Nat.le_refl _, Nat.le_refl _⟩ (Nat.le_of_ble_eq_true rfl) ?_
          refine r_aload_n d_M_goes_84 0 rfl ?_
          refine r_iload d_M_goes_85 5 rfl ?_
          refine r_iload_n d_M_goes_87 1 rfl ?_
          refine r_iconst (v := nI 1) d_M_goes_88 (by decide) ?_
          refine r_aload_n d_M_goes_89 0 rfl ?_
          refine rg_M_42 rfl d_M_goes_90 gM rfl ?_
          refine r_iload_n d_M_goes_93 1 rfl ?_
          refine r_aldN d_M_goes_94 gmLat (by omega) (by decide) ?_
          refine r_top (y := nI ((gaM (gs1 m o) o (mst m) i).latest o)) (congrArg nI (congrFun (samG_gu (gaM (gs1 m o) o (mst m) i) i (rx i o true)).2.1 o)) ?_
          refine r_aload_n d_M_goes_95 0 rfl ?_
          refine rg_M_96 rfl d_M_goes_96 gM rfl ?_
          refine r_top (y := nI (gaM (gs1 m o) o (mst m) i).taped) (congrArg nI (samG_gu (gaM (gs1 m o) o (mst m) i) i (rx i o true)).2.2.1) ?_
          refine rc_M_111 rfl d_M_goes_99 (k_M_takes (m := mgu (gaM (gs1 m o) o (mst m) i) i (rx i o true)) (z := true) (by omega) hb_i ho (by rw [s3]; exact hT) (fun k h1 => hok i hb_i hlv (show ct (fun i => !m.fail i) i < mst m by omega) k (by rwa [s3] at h1))) gM (room_ok (d' := d - 1) (by omega) (by decide)) ⟨Nat.le_refl _, Nat.le_refl _⟩ (Nat.le_of_ble_eq_true rfl) ?_
          have hg := (samG_gu (gaM (gs1 m o) o (mst m) i) i (rx i o true)).tr (samG_tk (mgu (gaM (gs1 m o) o (mst m) i) i (rx i o true)) i (rx i o true) ((gaM (gs1 m o) o (mst m) i).latest o) (gaM (gs1 m o) o (mst m) i).taped)
          have hXT : MI (mtk (mgu (gaM (gs1 m o) o (mst m) i) i (rx i o true)) i (rx i o true) ((gaM (gs1 m o) o (mst m) i).latest o) (gaM (gs1 m o) o (mst m) i).taped) := MI_tk (m := mgu (gaM (gs1 m o) o (mst m) i) i (rx i o true)) (MI_gu hX) (by rw [s2, hl1]; omega) (by rw [s3]; exact hT) (fun k h1 => hok i hb_i hlv (show ct (fun i => !m.fail i) i < mst m by omega) k (by rwa [s3] at h1))
          refine r_aload_n d_M_goes_102 0 rfl ?_
          refine r_iload d_M_goes_103 5 rfl ?_
          refine r_iload_n d_M_goes_105 1 rfl ?_
          refine rc_M_115 rfl d_M_goes_106 (k_M_shares (m := (mtk (mgu (gaM (gs1 m o) o (mst m) i) i (rx i o true)) i (rx i o true) ((gaM (gs1 m o) o (mst m) i).latest o) (gaM (gs1 m o) o (mst m) i).taped)) (by omega) hb_i ho hXT (by rw [hg.2.2.1, s3]; exact hT) (by rw [hg.2.2.2.1, s4]; exact hB)) gM (room_ok (d' := d - 1) (by omega) (by decide)) ⟨Nat.le_refl _, Nat.le_refl _⟩ (Nat.le_of_ble_eq_true rfl) ?_
          refine r_iincN (lv' := [(0, _), (1, _), (2, _), (3, _), (4, _), (5, _)]) d_M_goes_109 4 rfl (by decide) rfl ?_
          refine r_at (lv' := [(0, .ref (aM g)), (1, .int (nI o)), (2, .int (nI (2 * (lvM m)))), (3, .int (nI (mst m))), (4, .int (nI (min (ct (fun i => !m.fail i) (i + 1)) (mst m)))), (5, .int (nI i))]) ?_ rfl (by rw [show min (ct (fun i => !m.fail i) (i + 1)) (mst m) = (min (ct (fun i => !m.fail i) i) (mst m)) + 1 by rw [ctf_t hlv]; omega]) rfl
          refine r_iincN (lv' := [(0, _), (1, _), (2, _), (3, _), (4, _), (5, _)]) d_M_goes_112 5 rfl (by decide) rfl ?_
          refine r_goto (tgt := 53) d_M_goes_115 (by decide) ?_
          first | (exact r_at ih_i (by show _ = hp g c (if _ then _ else _); rw [if_neg (fun q => absurd (hlv.symm.trans q.1) (by decide))]) (by rw [show min (ct (fun i => !m.fail i) (i + 1)) (mst m) = min (ct (fun i => !m.fail i) i) (mst m) by rw [ctf_f hlv]]) rfl) | (exact r_at ih_i (by show _ = hp g c (if _ then _ else _); rw [if_pos ⟨hlv, by show ct (fun i => !m.fail i) i < mst m; omega⟩]; try rfl) rfl rfl)
  refine r_aload_n d_M_goes_17 0 rfl ?_
  refine rg_M_13 rfl d_M_goes_18 gM rfl ?_
  refine r_iconst (v := (-1)) d_M_goes_21 (by decide) ?_
  refine r_icmp_eq (tgt := 33) d_M_goes_22 (by decide) (fun c22 => ?_) (fun c22 => ?_)
  · skip
    refine r_iload_n d_M_goes_33 2 rfl ?_
    refine r_top (y := nI (mst m)) ?_ ?_
    · first | exact congrArg nI (mst_t c22).symm | exact mst_b c22 c30
    refine r_goto (tgt := 41) d_M_goes_34 (by decide) ?_
    refine r_istore_n (lv' := [(0, _), (1, _), (2, _), (3, _)]) d_M_goes_41 (by decide) rfl ?_
    exact r_at K42 (rfl) rfl rfl
  · skip
    refine r_aload_n d_M_goes_25 0 rfl ?_
    refine rg_M_13 rfl d_M_goes_26 gM rfl ?_
    refine r_iload_n d_M_goes_29 2 rfl ?_
    refine r_icmp_le (tgt := 37) d_M_goes_30 (by decide) (fun c30 => ?_) (fun c30 => ?_)
    · skip
      refine r_aload_n d_M_goes_37 0 rfl ?_
      refine rg_M_13 rfl d_M_goes_38 gM rfl ?_
      refine r_top (y := nI (mst m)) (mst_a hcut c22 c30) ?_
      refine r_istore_n (lv' := [(0, _), (1, _), (2, _), (3, _)]) d_M_goes_41 (by decide) rfl ?_
      exact r_at K42 (rfl) rfl rfl
    · skip
      refine r_iload_n d_M_goes_33 2 rfl ?_
      refine r_top (y := nI (mst m)) ?_ ?_
      · first | exact congrArg nI (mst_t c22).symm | exact mst_b c22 c30
      refine r_goto (tgt := 41) d_M_goes_34 (by decide) ?_
      refine r_istore_n (lv' := [(0, _), (1, _), (2, _), (3, _)]) d_M_goes_41 (by decide) rfl ?_
      exact r_at K42 (rfl) rfl rfl
