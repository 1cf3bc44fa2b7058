def isCutB (c : CS) : Bool := decide (c.cut ≠ -1) && decide (c.cut.toNatClampNeg < 2 * ct c.live 12)
def goN (c : CS) : Nat := if isCutB c = true then c.cut.toNatClampNeg else 2 * ct c.live 12
def bg1 (c : CS) (o : Nat) : CS := ((c.s_begun (upN c.begun o (c.begun o + 1))).s_cut (-1)).s_msgs (c.msgs + nI (goN c))
def bg2 (c : CS) (o a : Nat) : CS := ssB (bg1 c o) o a (if ct c.live 12 < goN c then ct c.live 12 else goN c) (stp a)
def bg3 (c : CS) (o a : Nat) : CS := sfC (bg2 c o a) o (goN c - ct c.live 12) 12
def bgC (c : CS) (o a : Nat) : CS := (bg3 c o a).s_unst (upN (bg3 c o a).unst o (isCutB c))
def bgR (c : CS) (o : Nat) : Int32 := if isCutB c = true then nI 0 else nI (c.begun o + 1)
theorem sfC_0 (c : CS) (o : Nat) : sfC c o 0 12 = c := sfC_stop (i := 0) (Nat.zero_le _) (by decide)
theorem sfC_begun (c : CS) (o most : Nat) : ∀ i, (sfC c o most i).begun = c.begun
  | 0 => rfl
  | i + 1 => by
    have ih := sfC_begun c o most i
    unfold sfC
    split <;> exact ih
theorem fsC_begun (c : CS) (o s most : Nat) : ∀ i, (fsC c o s most i).begun = c.begun
  | 0 => rfl
  | i + 1 => by
    have ih := fsC_begun c o s most i
    unfold fsC
    split <;> exact ih
theorem ssB_begun (c : CS) (o a most : Nat) : ∀ s, (ssB c o a most s).begun = c.begun
  | 0 => (ssA_keep c o a most 12).2.2.2.1
  | s + 1 => (fsC_begun _ o s most 12).trans (ssB_begun c o a most s)
theorem bg_cut0 {c : CS} (h : c.cut = -1) : isCutB c = false := by unfold isCutB; simp [h]
theorem bg_cutK {c : CS} {k : Nat} (h : c.cut = nI k) (hk : k < 24) : isCutB c = decide (k < 2 * ct c.live 12) := by
  unfold isCutB
  rw [h, nI_clamp (by omega)]
  have := nI_m1 (k := k) (by omega)
  simp [this]
theorem CI_ssB {c : CS} {o a most : Nat} (h : CI (ssA c o a most 12)) (s : Nat) : CI (ssB c o a most s) := by
  obtain ⟨b1, b2, b3, b4, b5, b6, b7, b8⟩ := ssB_keep c o a most s
  exact CI_eq h b2 b3 b4 b5
theorem k_S_begin0 {l : Launch} {g : GX} {c : CS} {m : MS} {n d : Nat} (hd : 6 ≤ d) {o a : Nat} (ho : o < 6) (ha : a ≤ 240) (hbg : c.begun o < 65535) (hc : CI c) (hM : BM c.mat) (hT : B1 c.tape) (hf : ∀ i, i < 12 → c.live i = true → ∀ k, k < stp a → lf (TK (c.takn i) k) < 40) (hz : ∀ i, i < 12 → c.live i = true → c.hstr i (sp c i o) = 0) (h : c.cut = -1) : CE l g M_S_begin d 0 0 [.ref (aS g), .int (nI o), .int (nI a)] n (hp g c m) (some (.int (bgR c o))) n (hp g (bgC c o a) m) := by
  have hlv := ct_le c.live 12
  have hb := bg_cut0 h
  have hg : goN c = 2 * ct c.live 12 := (by unfold goN; rw [hb]; rfl)
  refine CE.of (by decide +kernel) (lv := [(0, .ref (aS g)), (1, .int (nI o)), (2, .int (nI a))]) rfl (Nat.le_of_ble_eq_true rfl) ?_
  refine r_aload_n d_S_begin_0 0 rfl ?_
  refine rg_S_22 rfl d_S_begin_1 gS rfl ?_
  refine r_iload_n d_S_begin_4 1 rfl ?_
  refine r_dup2 d_S_begin_5 rfl rfl ?_
  refine r_aldN d_S_begin_6 gBeg (by omega) (by decide) ?_
  refine r_iconst (v := nI 1) d_S_begin_7 (by decide) ?_
  refine r_iaddN d_S_begin_8 ?_
  refine r_astN d_S_begin_9 gBeg (by omega) (by decide) (wbegun) ?_
  refine r_aload_n d_S_begin_10 0 rfl ?_
  refine rc_S_85 rfl d_S_begin_11 (k_S_liveNodes (c := c.s_begun (upN c.begun o (c.begun o + 1))) (by omega)) gS (room_ok (d' := d - 1) (by omega) (by decide)) ⟨Nat.le_refl _, Nat.le_refl _⟩ (Nat.le_of_ble_eq_true rfl) ?_
  refine r_top (y := nI (ct c.live 12)) rfl ?_
  refine r_istore_n (lv' := [(0, _), (1, _), (2, _), (3, _)]) d_S_begin_14 (by decide) rfl ?_
  refine r_iconst (v := nI 2) d_S_begin_15 (by decide) ?_
  refine r_iload_n d_S_begin_16 3 rfl ?_
  refine r_imulN d_S_begin_17 ?_
  refine r_istore (lv' := [(0, _), (1, _), (2, _), (3, _), (4, _)]) d_S_begin_18 (by decide) rfl ?_
  refine r_aload_n d_S_begin_20 0 rfl ?_
  refine rg_S_43 rfl d_S_begin_21 gS rfl ?_
  refine r_iconst (v := (-1)) d_S_begin_24 (by decide) ?_
  refine r_icmp_eq (tgt := 41) d_S_begin_25 (by decide) (fun c25 => ?_) (fun c25 => ?_)
  rotate_left 1
  · exact absurd h c25
  refine r_iconst (v := nI 0) d_S_begin_41 (by decide) ?_
  refine r_istore (lv' := [(0, _), (1, _), (2, _), (3, _), (4, _), (5, _)]) d_S_begin_42 (by decide) rfl ?_
  refine r_iload d_S_begin_44 5 rfl ?_
  refine r_if_eqN (tgt := 56) d_S_begin_46 (by decide) (by omega) (fun c46 => ?_) (fun c46 => ?_)
  rotate_left 1
  · exfalso; first | omega | (revert c46; decide) | cases c46
  refine r_iload d_S_begin_56 4 rfl ?_
  refine r_istore (lv' := [(0, _), (1, _), (2, _), (3, _), (4, _), (5, _), (6, _)]) d_S_begin_58 (by decide) rfl ?_
  refine r_aload_n d_S_begin_60 0 rfl ?_
  refine r_iconst (v := (-1)) d_S_begin_61 (by decide) ?_
  refine rp_S_43 rfl d_S_begin_62 gS (Nat.le_of_ble_eq_true rfl) rfl (wS_cut (v := (-1))) ?_
  refine r_aload_n d_S_begin_65 0 rfl ?_
  refine r_dup d_S_begin_66 rfl ?_
  refine rg_S_46 rfl d_S_begin_67 gS rfl ?_
  refine r_iload d_S_begin_70 6 rfl ?_
  refine r_iadd d_S_begin_72 ?_
  refine rp_S_46 rfl d_S_begin_73 gS (Nat.le_of_ble_eq_true rfl) rfl (wS_msgs (v := (((c.s_begun (upN c.begun o ((c.begun o) + 1))).s_cut (-1)).msgs) + (nI (2 * (ct c.live 12))))) ?_
  refine r_aload_n d_S_begin_76 0 rfl ?_
  refine r_iload_n d_S_begin_77 1 rfl ?_
  refine r_iload_n d_S_begin_78 2 rfl ?_
  refine r_iload d_S_begin_79 6 rfl ?_
  refine r_iload_n d_S_begin_81 3 rfl ?_
  refine r_min d_S_begin_82 (by decide +kernel) (by decide +kernel) (by decide +kernel) (by decide +kernel) ⟨by show 1 ≤ d; omega, by show _ ≤ 36 * d; simp [Value.category]; omega⟩ ⟨Nat.le_refl _, Nat.le_refl _⟩ ?_
  refine r_top (y := (nI (if ct c.live 12 < 2 * ct c.live 12 then ct c.live 12 else 2 * ct c.live 12))) (min_nI (by omega) (by omega)) ?_
  refine rc_S_207 rfl d_S_begin_85 (k_S_sendShadows (c := ((c.s_begun (upN c.begun o ((c.begun o) + 1))).s_cut (-1)).s_msgs ((((c.s_begun (upN c.begun o ((c.begun o) + 1))).s_cut (-1)).msgs) + (nI (2 * (ct c.live 12))))) (by omega) ho ha (by split <;> omega) hc hM hT (show (upN c.begun o (c.begun o + 1)) o < 65536 by rw [upN_s]; omega) hf hz) gS (room_ok (d' := d - 1) (by omega) (by decide)) ⟨Nat.le_refl _, Nat.le_refl _⟩ (Nat.le_of_ble_eq_true rfl) ?_
  have hX12 := CI_ssA (c := ((c.s_begun (upN c.begun o (c.begun o + 1))).s_cut (-1)).s_msgs (c.msgs + nI (2 * ct c.live 12))) (o := o) (a := a) (most := if ct c.live 12 < 2 * ct c.live 12 then ct c.live 12 else 2 * ct c.live 12) hc (show (upN c.begun o (c.begun o + 1)) o < 65536 by rw [upN_s]; omega) ha hf 12 (Nat.le_refl _)
  refine r_aload_n d_S_begin_88 0 rfl ?_
  refine r_iload_n d_S_begin_89 1 rfl ?_
  refine r_iload d_S_begin_90 6 rfl ?_
  refine r_iload_n d_S_begin_92 3 rfl ?_
  refine r_isubN d_S_begin_93 (by omega) ?_
  refine rc_S_210 rfl d_S_begin_94 (k_S_sendFlips (c := ssB (((c.s_begun (upN c.begun o (c.begun o + 1))).s_cut (-1)).s_msgs (c.msgs + nI (2 * ct c.live 12))) o a (if ct c.live 12 < 2 * ct c.live 12 then ct c.live 12 else 2 * ct c.live 12) (stp a)) (by omega) ho (by omega) (CI_ssB hX12 _)) gS (room_ok (d' := d - 1) (by omega) (by decide)) ⟨Nat.le_refl _, Nat.le_refl _⟩ (Nat.le_of_ble_eq_true rfl) ?_
  refine r_aload_n d_S_begin_97 0 rfl ?_
  refine rg_S_26 rfl d_S_begin_98 gS rfl ?_
  refine r_iload_n d_S_begin_101 1 rfl ?_
  refine r_iload d_S_begin_102 5 rfl ?_
  refine r_zast (b := false) d_S_begin_104 rfl gUns (by omega) (by decide) (wunst) ?_
  refine r_iload d_S_begin_105 5 rfl ?_
  refine r_if_eqN (tgt := 114) d_S_begin_107 (by decide) (by omega) (fun c107 => ?_) (fun c107 => ?_)
  rotate_left 1
  · exfalso; first | omega | (revert c107; decide) | cases c107
  refine r_aload_n d_S_begin_114 0 rfl ?_
  refine rg_S_22 rfl d_S_begin_115 gS rfl ?_
  refine r_iload_n d_S_begin_118 1 rfl ?_
  refine r_aldN d_S_begin_119 gBeg (by omega) (by decide) ?_
  refine r_ireturn d_S_begin_120 rfl rfl ⟨?_, rfl, ?_⟩
  · unfold bgR; rw [hb]; first | rfl | (show some (Value.int (nI ((sfC (ssB (((c.s_begun (upN c.begun o (c.begun o + 1))).s_cut (-1)).s_msgs (c.msgs + nI (2 * ct c.live 12))) o a (if ct c.live 12 < 2 * ct c.live 12 then ct c.live 12 else 2 * ct c.live 12) (stp a)) o ((2 * ct c.live 12) - ct c.live 12) 12).begun o))) = some (Value.int (nI (c.begun o + 1))); rw [show (sfC (ssB (((c.s_begun (upN c.begun o (c.begun o + 1))).s_cut (-1)).s_msgs (c.msgs + nI (2 * ct c.live 12))) o a (if ct c.live 12 < 2 * ct c.live 12 then ct c.live 12 else 2 * ct c.live 12) (stp a)) o ((2 * ct c.live 12) - ct c.live 12) 12).begun o = c.begun o + 1 by rw [sfC_begun, ssB_begun]; exact upN_s])
  · show hp g (CS.s_unst _ _) m = hp g (bgC c o a) m; unfold bgC bg3 bg2 bg1; rw [hg, hb]
theorem k_S_beginT {l : Launch} {g : GX} {c : CS} {m : MS} {n d : Nat} (hd : 6 ≤ d) {o a : Nat} {k : Nat} (ho : o < 6) (ha : a ≤ 240) (hbg : c.begun o < 65535) (hc : CI c) (hM : BM c.mat) (hT : B1 c.tape) (hf : ∀ i, i < 12 → c.live i = true → ∀ k, k < stp a → lf (TK (c.takn i) k) < 40) (hz : ∀ i, i < 12 → c.live i = true → c.hstr i (sp c i o) = 0) (hk : k < 24) (h : c.cut = nI k) (hkl : 2 * ct c.live 12 ≤ k) : CE l g M_S_begin d 0 0 [.ref (aS g), .int (nI o), .int (nI a)] n (hp g c m) (some (.int (bgR c o))) n (hp g (bgC c o a) m) := by
  have hlv := ct_le c.live 12
  have hb := bg_cutK h hk
  rw [decide_eq_false (by omega)] at hb
  have hg : goN c = 2 * ct c.live 12 := (by unfold goN; rw [hb]; rfl)
  refine CE.of (by decide +kernel) (lv := [(0, .ref (aS g)), (1, .int (nI o)), (2, .int (nI a))]) rfl (Nat.le_of_ble_eq_true rfl) ?_
  refine r_aload_n d_S_begin_0 0 rfl ?_
  refine rg_S_22 rfl d_S_begin_1 gS rfl ?_
  refine r_iload_n d_S_begin_4 1 rfl ?_
  refine r_dup2 d_S_begin_5 rfl rfl ?_
  refine r_aldN d_S_begin_6 gBeg (by omega) (by decide) ?_
  refine r_iconst (v := nI 1) d_S_begin_7 (by decide) ?_
  refine r_iaddN d_S_begin_8 ?_
  refine r_astN d_S_begin_9 gBeg (by omega) (by decide) (wbegun) ?_
  refine r_aload_n d_S_begin_10 0 rfl ?_
  refine rc_S_85 rfl d_S_begin_11 (k_S_liveNodes (c := c.s_begun (upN c.begun o (c.begun o + 1))) (by omega)) gS (room_ok (d' := d - 1) (by omega) (by decide)) ⟨Nat.le_refl _, Nat.le_refl _⟩ (Nat.le_of_ble_eq_true rfl) ?_
  refine r_top (y := nI (ct c.live 12)) rfl ?_
  refine r_istore_n (lv' := [(0, _), (1, _), (2, _), (3, _)]) d_S_begin_14 (by decide) rfl ?_
  refine r_iconst (v := nI 2) d_S_begin_15 (by decide) ?_
  refine r_iload_n d_S_begin_16 3 rfl ?_
  refine r_imulN d_S_begin_17 ?_
  refine r_istore (lv' := [(0, _), (1, _), (2, _), (3, _), (4, _)]) d_S_begin_18 (by decide) rfl ?_
  refine r_aload_n d_S_begin_20 0 rfl ?_
  refine rg_S_43 rfl d_S_begin_21 gS rfl ?_
  refine r_iconst (v := (-1)) d_S_begin_24 (by decide) ?_
  refine r_icmp_eq (tgt := 41) d_S_begin_25 (by decide) (fun c25 => ?_) (fun c25 => ?_)
  · exact absurd (h.symm.trans c25) (nI_m1 (by omega))
  refine r_aload_n d_S_begin_28 0 rfl ?_
  refine rg_S_43 rfl d_S_begin_29 gS rfl ?_
  refine r_top (y := nI k) h ?_
  refine r_iload d_S_begin_32 4 rfl ?_
  refine r_icmp_geN (tgt := 41) d_S_begin_34 (by decide) (by omega) (by omega) (fun c34 => ?_) (fun c34 => ?_)
  rotate_left 1
  · exfalso; first | omega | (revert c34; decide) | cases c34
  refine r_iconst (v := nI 0) d_S_begin_41 (by decide) ?_
  refine r_istore (lv' := [(0, _), (1, _), (2, _), (3, _), (4, _), (5, _)]) d_S_begin_42 (by decide) rfl ?_
  refine r_iload d_S_begin_44 5 rfl ?_
  refine r_if_eqN (tgt := 56) d_S_begin_46 (by decide) (by omega) (fun c46 => ?_) (fun c46 => ?_)
  rotate_left 1
  · exfalso; first | omega | (revert c46; decide) | cases c46
  refine r_iload d_S_begin_56 4 rfl ?_
  refine r_istore (lv' := [(0, _), (1, _), (2, _), (3, _), (4, _), (5, _), (6, _)]) d_S_begin_58 (by decide) rfl ?_
  refine r_aload_n d_S_begin_60 0 rfl ?_
  refine r_iconst (v := (-1)) d_S_begin_61 (by decide) ?_
  refine rp_S_43 rfl d_S_begin_62 gS (Nat.le_of_ble_eq_true rfl) rfl (wS_cut (v := (-1))) ?_
  refine r_aload_n d_S_begin_65 0 rfl ?_
  refine r_dup d_S_begin_66 rfl ?_
  refine rg_S_46 rfl d_S_begin_67 gS rfl ?_
  refine r_iload d_S_begin_70 6 rfl ?_
  refine r_iadd d_S_begin_72 ?_
  refine rp_S_46 rfl d_S_begin_73 gS (Nat.le_of_ble_eq_true rfl) rfl (wS_msgs (v := (((c.s_begun (upN c.begun o ((c.begun o) + 1))).s_cut (-1)).msgs) + (nI (2 * (ct c.live 12))))) ?_
  refine r_aload_n d_S_begin_76 0 rfl ?_
  refine r_iload_n d_S_begin_77 1 rfl ?_
  refine r_iload_n d_S_begin_78 2 rfl ?_
  refine r_iload d_S_begin_79 6 rfl ?_
  refine r_iload_n d_S_begin_81 3 rfl ?_
  refine r_min d_S_begin_82 (by decide +kernel) (by decide +kernel) (by decide +kernel) (by decide +kernel) ⟨by show 1 ≤ d; omega, by show _ ≤ 36 * d; simp [Value.category]; omega⟩ ⟨Nat.le_refl _, Nat.le_refl _⟩ ?_
  refine r_top (y := (nI (if ct c.live 12 < 2 * ct c.live 12 then ct c.live 12 else 2 * ct c.live 12))) (min_nI (by omega) (by omega)) ?_
  refine rc_S_207 rfl d_S_begin_85 (k_S_sendShadows (c := ((c.s_begun (upN c.begun o ((c.begun o) + 1))).s_cut (-1)).s_msgs ((((c.s_begun (upN c.begun o ((c.begun o) + 1))).s_cut (-1)).msgs) + (nI (2 * (ct c.live 12))))) (by omega) ho ha (by split <;> omega) hc hM hT (show (upN c.begun o (c.begun o + 1)) o < 65536 by rw [upN_s]; omega) hf hz) gS (room_ok (d' := d - 1) (by omega) (by decide)) ⟨Nat.le_refl _, Nat.le_refl _⟩ (Nat.le_of_ble_eq_true rfl) ?_
  have hX12 := CI_ssA (c := ((c.s_begun (upN c.begun o (c.begun o + 1))).s_cut (-1)).s_msgs (c.msgs + nI (2 * ct c.live 12))) (o := o) (a := a) (most := if ct c.live 12 < 2 * ct c.live 12 then ct c.live 12 else 2 * ct c.live 12) hc (show (upN c.begun o (c.begun o + 1)) o < 65536 by rw [upN_s]; omega) ha hf 12 (Nat.le_refl _)
  refine r_aload_n d_S_begin_88 0 rfl ?_
  refine r_iload_n d_S_begin_89 1 rfl ?_
  refine r_iload d_S_begin_90 6 rfl ?_
  refine r_iload_n d_S_begin_92 3 rfl ?_
  refine r_isubN d_S_begin_93 (by omega) ?_
  refine rc_S_210 rfl d_S_begin_94 (k_S_sendFlips (c := ssB (((c.s_begun (upN c.begun o (c.begun o + 1))).s_cut (-1)).s_msgs (c.msgs + nI (2 * ct c.live 12))) o a (if ct c.live 12 < 2 * ct c.live 12 then ct c.live 12 else 2 * ct c.live 12) (stp a)) (by omega) ho (by omega) (CI_ssB hX12 _)) gS (room_ok (d' := d - 1) (by omega) (by decide)) ⟨Nat.le_refl _, Nat.le_refl _⟩ (Nat.le_of_ble_eq_true rfl) ?_
  refine r_aload_n d_S_begin_97 0 rfl ?_
  refine rg_S_26 rfl d_S_begin_98 gS rfl ?_
  refine r_iload_n d_S_begin_101 1 rfl ?_
  refine r_iload d_S_begin_102 5 rfl ?_
  refine r_zast (b := false) d_S_begin_104 rfl gUns (by omega) (by decide) (wunst) ?_
  refine r_iload d_S_begin_105 5 rfl ?_
  refine r_if_eqN (tgt := 114) d_S_begin_107 (by decide) (by omega) (fun c107 => ?_) (fun c107 => ?_)
  rotate_left 1
  · exfalso; first | omega | (revert c107; decide) | cases c107
  refine r_aload_n d_S_begin_114 0 rfl ?_
  refine rg_S_22 rfl d_S_begin_115 gS rfl ?_
  refine r_iload_n d_S_begin_118 1 rfl ?_
  refine r_aldN d_S_begin_119 gBeg (by omega) (by decide) ?_
  refine r_ireturn d_S_begin_120 rfl rfl ⟨?_, rfl, ?_⟩
  · unfold bgR; rw [hb]; first | rfl | (show some (Value.int (nI ((sfC (ssB (((c.s_begun (upN c.begun o (c.begun o + 1))).s_cut (-1)).s_msgs (c.msgs + nI (2 * ct c.live 12))) o a (if ct c.live 12 < 2 * ct c.live 12 then ct c.live 12 else 2 * ct c.live 12) (stp a)) o ((2 * ct c.live 12) - ct c.live 12) 12).begun o))) = some (Value.int (nI (c.begun o + 1))); rw [show (sfC (ssB (((c.s_begun (upN c.begun o (c.begun o + 1))).s_cut (-1)).s_msgs (c.msgs + nI (2 * ct c.live 12))) o a (if ct c.live 12 < 2 * ct c.live 12 then ct c.live 12 else 2 * ct c.live 12) (stp a)) o ((2 * ct c.live 12) - ct c.live 12) 12).begun o = c.begun o + 1 by rw [sfC_begun, ssB_begun]; exact upN_s])
  · show hp g (CS.s_unst _ _) m = hp g (bgC c o a) m; unfold bgC bg3 bg2 bg1; rw [hg, hb]
theorem k_S_beginA {l : Launch} {g : GX} {c : CS} {m : MS} {n d : Nat} (hd : 6 ≤ d) {o a : Nat} {k : Nat} (ho : o < 6) (ha : a ≤ 240) (hbg : c.begun o < 65535) (hc : CI c) (hM : BM c.mat) (hT : B1 c.tape) (hf : ∀ i, i < 12 → c.live i = true → ∀ k, k < stp a → lf (TK (c.takn i) k) < 40) (hz : ∀ i, i < 12 → c.live i = true → c.hstr i (sp c i o) = 0) (hk : k < 24) (h : c.cut = nI k) (hkl : k < ct c.live 12) : CE l g M_S_begin d 0 0 [.ref (aS g), .int (nI o), .int (nI a)] n (hp g c m) (some (.int (bgR c o))) n (hp g (bgC c o a) m) := by
  have hlv := ct_le c.live 12
  have hb := bg_cutK h hk
  rw [decide_eq_true (by omega)] at hb
  have hg : goN c = k := (by unfold goN; rw [hb, h, nI_clamp (by omega)]; rfl)
  refine CE.of (by decide +kernel) (lv := [(0, .ref (aS g)), (1, .int (nI o)), (2, .int (nI a))]) rfl (Nat.le_of_ble_eq_true rfl) ?_
  refine r_aload_n d_S_begin_0 0 rfl ?_
  refine rg_S_22 rfl d_S_begin_1 gS rfl ?_
  refine r_iload_n d_S_begin_4 1 rfl ?_
  refine r_dup2 d_S_begin_5 rfl rfl ?_
  refine r_aldN d_S_begin_6 gBeg (by omega) (by decide) ?_
  refine r_iconst (v := nI 1) d_S_begin_7 (by decide) ?_
  refine r_iaddN d_S_begin_8 ?_
  refine r_astN d_S_begin_9 gBeg (by omega) (by decide) (wbegun) ?_
  refine r_aload_n d_S_begin_10 0 rfl ?_
  refine rc_S_85 rfl d_S_begin_11 (k_S_liveNodes (c := c.s_begun (upN c.begun o (c.begun o + 1))) (by omega)) gS (room_ok (d' := d - 1) (by omega) (by decide)) ⟨Nat.le_refl _, Nat.le_refl _⟩ (Nat.le_of_ble_eq_true rfl) ?_
  refine r_top (y := nI (ct c.live 12)) rfl ?_
  refine r_istore_n (lv' := [(0, _), (1, _), (2, _), (3, _)]) d_S_begin_14 (by decide) rfl ?_
  refine r_iconst (v := nI 2) d_S_begin_15 (by decide) ?_
  refine r_iload_n d_S_begin_16 3 rfl ?_
  refine r_imulN d_S_begin_17 ?_
  refine r_istore (lv' := [(0, _), (1, _), (2, _), (3, _), (4, _)]) d_S_begin_18 (by decide) rfl ?_
  refine r_aload_n d_S_begin_20 0 rfl ?_
  refine rg_S_43 rfl d_S_begin_21 gS rfl ?_
  refine r_iconst (v := (-1)) d_S_begin_24 (by decide) ?_
  refine r_icmp_eq (tgt := 41) d_S_begin_25 (by decide) (fun c25 => ?_) (fun c25 => ?_)
  · exact absurd (h.symm.trans c25) (nI_m1 (by omega))
  refine r_aload_n d_S_begin_28 0 rfl ?_
  refine rg_S_43 rfl d_S_begin_29 gS rfl ?_
  refine r_top (y := nI k) h ?_
  refine r_iload d_S_begin_32 4 rfl ?_
  refine r_icmp_geN (tgt := 41) d_S_begin_34 (by decide) (by omega) (by omega) (fun c34 => ?_) (fun c34 => ?_)
  · exfalso; first | omega | (revert c34; decide) | cases c34
  refine r_iconst (v := nI 1) d_S_begin_37 (by decide) ?_
  refine r_goto (tgt := 42) d_S_begin_38 (by decide) ?_
  refine r_istore (lv' := [(0, _), (1, _), (2, _), (3, _), (4, _), (5, _)]) d_S_begin_42 (by decide) rfl ?_
  refine r_iload d_S_begin_44 5 rfl ?_
  refine r_if_eqN (tgt := 56) d_S_begin_46 (by decide) (by omega) (fun c46 => ?_) (fun c46 => ?_)
  · exfalso; first | omega | (revert c46; decide) | cases c46
  refine r_aload_n d_S_begin_49 0 rfl ?_
  refine rg_S_43 rfl d_S_begin_50 gS rfl ?_
  refine r_top (y := nI k) h ?_
  refine r_goto (tgt := 58) d_S_begin_53 (by decide) ?_
  refine r_istore (lv' := [(0, _), (1, _), (2, _), (3, _), (4, _), (5, _), (6, _)]) d_S_begin_58 (by decide) rfl ?_
  refine r_aload_n d_S_begin_60 0 rfl ?_
  refine r_iconst (v := (-1)) d_S_begin_61 (by decide) ?_
  refine rp_S_43 rfl d_S_begin_62 gS (Nat.le_of_ble_eq_true rfl) rfl (wS_cut (v := (-1))) ?_
  refine r_aload_n d_S_begin_65 0 rfl ?_
  refine r_dup d_S_begin_66 rfl ?_
  refine rg_S_46 rfl d_S_begin_67 gS rfl ?_
  refine r_iload d_S_begin_70 6 rfl ?_
  refine r_iadd d_S_begin_72 ?_
  refine rp_S_46 rfl d_S_begin_73 gS (Nat.le_of_ble_eq_true rfl) rfl (wS_msgs (v := (((c.s_begun (upN c.begun o ((c.begun o) + 1))).s_cut (-1)).msgs) + (nI k))) ?_
  refine r_aload_n d_S_begin_76 0 rfl ?_
  refine r_iload_n d_S_begin_77 1 rfl ?_
  refine r_iload_n d_S_begin_78 2 rfl ?_
  refine r_iload d_S_begin_79 6 rfl ?_
  refine r_iload_n d_S_begin_81 3 rfl ?_
  refine r_min d_S_begin_82 (by decide +kernel) (by decide +kernel) (by decide +kernel) (by decide +kernel) ⟨by show 1 ≤ d; omega, by show _ ≤ 36 * d; simp [Value.category]; omega⟩ ⟨Nat.le_refl _, Nat.le_refl _⟩ ?_
  refine r_top (y := (nI (if ct c.live 12 < k then ct c.live 12 else k))) (min_nI (by omega) (by omega)) ?_
  refine rc_S_207 rfl d_S_begin_85 (k_S_sendShadows (c := ((c.s_begun (upN c.begun o ((c.begun o) + 1))).s_cut (-1)).s_msgs ((((c.s_begun (upN c.begun o ((c.begun o) + 1))).s_cut (-1)).msgs) + (nI k))) (by omega) ho ha (by split <;> omega) hc hM hT (show (upN c.begun o (c.begun o + 1)) o < 65536 by rw [upN_s]; omega) hf hz) gS (room_ok (d' := d - 1) (by omega) (by decide)) ⟨Nat.le_refl _, Nat.le_refl _⟩ (Nat.le_of_ble_eq_true rfl) ?_
  have hX12 := CI_ssA (c := ((c.s_begun (upN c.begun o (c.begun o + 1))).s_cut (-1)).s_msgs (c.msgs + nI (k))) (o := o) (a := a) (most := if ct c.live 12 < k then ct c.live 12 else k) hc (show (upN c.begun o (c.begun o + 1)) o < 65536 by rw [upN_s]; omega) ha hf 12 (Nat.le_refl _)
  refine r_aload_n d_S_begin_88 0 rfl ?_
  refine r_iload_n d_S_begin_89 1 rfl ?_
  refine r_iload d_S_begin_90 6 rfl ?_
  refine r_iload_n d_S_begin_92 3 rfl ?_
  refine r_isub d_S_begin_93 ?_
  refine rc_S_210 rfl d_S_begin_94 (k_S_sendFlips0 (c := ssB (((c.s_begun (upN c.begun o (c.begun o + 1))).s_cut (-1)).s_msgs (c.msgs + nI (k))) o a (if ct c.live 12 < k then ct c.live 12 else k) (stp a)) (by omega) (fun q => absurd (Int32.le_of_lt q) (Int32.not_le.mpr (pk_sneg (by omega) (by omega))))) gS (room_ok (d' := d - 1) (by omega) (by decide)) ⟨Nat.le_refl _, Nat.le_refl _⟩ (Nat.le_of_ble_eq_true rfl) ?_
  refine r_aload_n d_S_begin_97 0 rfl ?_
  refine rg_S_26 rfl d_S_begin_98 gS rfl ?_
  refine r_iload_n d_S_begin_101 1 rfl ?_
  refine r_iload d_S_begin_102 5 rfl ?_
  refine r_zast (b := true) d_S_begin_104 rfl gUns (by omega) (by decide) (wunst) ?_
  refine r_iload d_S_begin_105 5 rfl ?_
  refine r_if_eqN (tgt := 114) d_S_begin_107 (by decide) (by omega) (fun c107 => ?_) (fun c107 => ?_)
  · exfalso; first | omega | (revert c107; decide) | cases c107
  refine r_iconst (v := nI 0) d_S_begin_110 (by decide) ?_
  refine r_goto (tgt := 120) d_S_begin_111 (by decide) ?_
  refine r_ireturn d_S_begin_120 rfl rfl ⟨?_, rfl, ?_⟩
  · unfold bgR; rw [hb]; first | rfl | (show some (Value.int (nI ((ssB (((c.s_begun (upN c.begun o (c.begun o + 1))).s_cut (-1)).s_msgs (c.msgs + nI (k))) o a (if ct c.live 12 < k then ct c.live 12 else k) (stp a)).begun o))) = some (Value.int (nI (c.begun o + 1))); rw [show (ssB (((c.s_begun (upN c.begun o (c.begun o + 1))).s_cut (-1)).s_msgs (c.msgs + nI (k))) o a (if ct c.live 12 < k then ct c.live 12 else k) (stp a)).begun o = c.begun o + 1 by rw [ssB_begun]; exact upN_s])
  · show hp g (CS.s_unst _ _) m = hp g (bgC c o a) m; unfold bgC bg3 bg2 bg1; rw [hg, hb]; rw [show k - ct c.live 12 = 0 by omega, sfC_0]
theorem k_S_beginB {l : Launch} {g : GX} {c : CS} {m : MS} {n d : Nat} (hd : 6 ≤ d) {o a : Nat} {k : Nat} (ho : o < 6) (ha : a ≤ 240) (hbg : c.begun o < 65535) (hc : CI c) (hM : BM c.mat) (hT : B1 c.tape) (hf : ∀ i, i < 12 → c.live i = true → ∀ k, k < stp a → lf (TK (c.takn i) k) < 40) (hz : ∀ i, i < 12 → c.live i = true → c.hstr i (sp c i o) = 0) (hk : k < 24) (h : c.cut = nI k) (hkl : k < 2 * ct c.live 12) (hkm : ct c.live 12 ≤ k) : CE l g M_S_begin d 0 0 [.ref (aS g), .int (nI o), .int (nI a)] n (hp g c m) (some (.int (bgR c o))) n (hp g (bgC c o a) m) := by
  have hlv := ct_le c.live 12
  have hb := bg_cutK h hk
  rw [decide_eq_true (by omega)] at hb
  have hg : goN c = k := (by unfold goN; rw [hb, h, nI_clamp (by omega)]; rfl)
  refine CE.of (by decide +kernel) (lv := [(0, .ref (aS g)), (1, .int (nI o)), (2, .int (nI a))]) rfl (Nat.le_of_ble_eq_true rfl) ?_
  refine r_aload_n d_S_begin_0 0 rfl ?_
  refine rg_S_22 rfl d_S_begin_1 gS rfl ?_
  refine r_iload_n d_S_begin_4 1 rfl ?_
  refine r_dup2 d_S_begin_5 rfl rfl ?_
  refine r_aldN d_S_begin_6 gBeg (by omega) (by decide) ?_
  refine r_iconst (v := nI 1) d_S_begin_7 (by decide) ?_
  refine r_iaddN d_S_begin_8 ?_
  refine r_astN d_S_begin_9 gBeg (by omega) (by decide) (wbegun) ?_
  refine r_aload_n d_S_begin_10 0 rfl ?_
  refine rc_S_85 rfl d_S_begin_11 (k_S_liveNodes (c := c.s_begun (upN c.begun o (c.begun o + 1))) (by omega)) gS (room_ok (d' := d - 1) (by omega) (by decide)) ⟨Nat.le_refl _, Nat.le_refl _⟩ (Nat.le_of_ble_eq_true rfl) ?_
  refine r_top (y := nI (ct c.live 12)) rfl ?_
  refine r_istore_n (lv' := [(0, _), (1, _), (2, _), (3, _)]) d_S_begin_14 (by decide) rfl ?_
  refine r_iconst (v := nI 2) d_S_begin_15 (by decide) ?_
  refine r_iload_n d_S_begin_16 3 rfl ?_
  refine r_imulN d_S_begin_17 ?_
  refine r_istore (lv' := [(0, _), (1, _), (2, _), (3, _), (4, _)]) d_S_begin_18 (by decide) rfl ?_
  refine r_aload_n d_S_begin_20 0 rfl ?_
  refine rg_S_43 rfl d_S_begin_21 gS rfl ?_
  refine r_iconst (v := (-1)) d_S_begin_24 (by decide) ?_
  refine r_icmp_eq (tgt := 41) d_S_begin_25 (by decide) (fun c25 => ?_) (fun c25 => ?_)
  · exact absurd (h.symm.trans c25) (nI_m1 (by omega))
  refine r_aload_n d_S_begin_28 0 rfl ?_
  refine rg_S_43 rfl d_S_begin_29 gS rfl ?_
  refine r_top (y := nI k) h ?_
  refine r_iload d_S_begin_32 4 rfl ?_
  refine r_icmp_geN (tgt := 41) d_S_begin_34 (by decide) (by omega) (by omega) (fun c34 => ?_) (fun c34 => ?_)
  · exfalso; first | omega | (revert c34; decide) | cases c34
  refine r_iconst (v := nI 1) d_S_begin_37 (by decide) ?_
  refine r_goto (tgt := 42) d_S_begin_38 (by decide) ?_
  refine r_istore (lv' := [(0, _), (1, _), (2, _), (3, _), (4, _), (5, _)]) d_S_begin_42 (by decide) rfl ?_
  refine r_iload d_S_begin_44 5 rfl ?_
  refine r_if_eqN (tgt := 56) d_S_begin_46 (by decide) (by omega) (fun c46 => ?_) (fun c46 => ?_)
  · exfalso; first | omega | (revert c46; decide) | cases c46
  refine r_aload_n d_S_begin_49 0 rfl ?_
  refine rg_S_43 rfl d_S_begin_50 gS rfl ?_
  refine r_top (y := nI k) h ?_
  refine r_goto (tgt := 58) d_S_begin_53 (by decide) ?_
  refine r_istore (lv' := [(0, _), (1, _), (2, _), (3, _), (4, _), (5, _), (6, _)]) d_S_begin_58 (by decide) rfl ?_
  refine r_aload_n d_S_begin_60 0 rfl ?_
  refine r_iconst (v := (-1)) d_S_begin_61 (by decide) ?_
  refine rp_S_43 rfl d_S_begin_62 gS (Nat.le_of_ble_eq_true rfl) rfl (wS_cut (v := (-1))) ?_
  refine r_aload_n d_S_begin_65 0 rfl ?_
  refine r_dup d_S_begin_66 rfl ?_
  refine rg_S_46 rfl d_S_begin_67 gS rfl ?_
  refine r_iload d_S_begin_70 6 rfl ?_
  refine r_iadd d_S_begin_72 ?_
  refine rp_S_46 rfl d_S_begin_73 gS (Nat.le_of_ble_eq_true rfl) rfl (wS_msgs (v := (((c.s_begun (upN c.begun o ((c.begun o) + 1))).s_cut (-1)).msgs) + (nI k))) ?_
  refine r_aload_n d_S_begin_76 0 rfl ?_
  refine r_iload_n d_S_begin_77 1 rfl ?_
  refine r_iload_n d_S_begin_78 2 rfl ?_
  refine r_iload d_S_begin_79 6 rfl ?_
  refine r_iload_n d_S_begin_81 3 rfl ?_
  refine r_min d_S_begin_82 (by decide +kernel) (by decide +kernel) (by decide +kernel) (by decide +kernel) ⟨by show 1 ≤ d; omega, by show _ ≤ 36 * d; simp [Value.category]; omega⟩ ⟨Nat.le_refl _, Nat.le_refl _⟩ ?_
  refine r_top (y := (nI (if ct c.live 12 < k then ct c.live 12 else k))) (min_nI (by omega) (by omega)) ?_
  refine rc_S_207 rfl d_S_begin_85 (k_S_sendShadows (c := ((c.s_begun (upN c.begun o ((c.begun o) + 1))).s_cut (-1)).s_msgs ((((c.s_begun (upN c.begun o ((c.begun o) + 1))).s_cut (-1)).msgs) + (nI k))) (by omega) ho ha (by split <;> omega) hc hM hT (show (upN c.begun o (c.begun o + 1)) o < 65536 by rw [upN_s]; omega) hf hz) gS (room_ok (d' := d - 1) (by omega) (by decide)) ⟨Nat.le_refl _, Nat.le_refl _⟩ (Nat.le_of_ble_eq_true rfl) ?_
  have hX12 := CI_ssA (c := ((c.s_begun (upN c.begun o (c.begun o + 1))).s_cut (-1)).s_msgs (c.msgs + nI (k))) (o := o) (a := a) (most := if ct c.live 12 < k then ct c.live 12 else k) hc (show (upN c.begun o (c.begun o + 1)) o < 65536 by rw [upN_s]; omega) ha hf 12 (Nat.le_refl _)
  refine r_aload_n d_S_begin_88 0 rfl ?_
  refine r_iload_n d_S_begin_89 1 rfl ?_
  refine r_iload d_S_begin_90 6 rfl ?_
  refine r_iload_n d_S_begin_92 3 rfl ?_
  refine r_isubN d_S_begin_93 (by omega) ?_
  refine rc_S_210 rfl d_S_begin_94 (k_S_sendFlips (c := ssB (((c.s_begun (upN c.begun o (c.begun o + 1))).s_cut (-1)).s_msgs (c.msgs + nI (k))) o a (if ct c.live 12 < k then ct c.live 12 else k) (stp a)) (by omega) ho (by omega) (CI_ssB hX12 _)) gS (room_ok (d' := d - 1) (by omega) (by decide)) ⟨Nat.le_refl _, Nat.le_refl _⟩ (Nat.le_of_ble_eq_true rfl) ?_
  refine r_aload_n d_S_begin_97 0 rfl ?_
  refine rg_S_26 rfl d_S_begin_98 gS rfl ?_
  refine r_iload_n d_S_begin_101 1 rfl ?_
  refine r_iload d_S_begin_102 5 rfl ?_
  refine r_zast (b := true) d_S_begin_104 rfl gUns (by omega) (by decide) (wunst) ?_
  refine r_iload d_S_begin_105 5 rfl ?_
  refine r_if_eqN (tgt := 114) d_S_begin_107 (by decide) (by omega) (fun c107 => ?_) (fun c107 => ?_)
  · exfalso; first | omega | (revert c107; decide) | cases c107
  refine r_iconst (v := nI 0) d_S_begin_110 (by decide) ?_
  refine r_goto (tgt := 120) d_S_begin_111 (by decide) ?_
  refine r_ireturn d_S_begin_120 rfl rfl ⟨?_, rfl, ?_⟩
  · unfold bgR; rw [hb]; first | rfl | (show some (Value.int (nI ((sfC (ssB (((c.s_begun (upN c.begun o (c.begun o + 1))).s_cut (-1)).s_msgs (c.msgs + nI (k))) o a (if ct c.live 12 < k then ct c.live 12 else k) (stp a)) o (k - ct c.live 12) 12).begun o))) = some (Value.int (nI (c.begun o + 1))); rw [show (sfC (ssB (((c.s_begun (upN c.begun o (c.begun o + 1))).s_cut (-1)).s_msgs (c.msgs + nI (k))) o a (if ct c.live 12 < k then ct c.live 12 else k) (stp a)) o (k - ct c.live 12) 12).begun o = c.begun o + 1 by rw [sfC_begun, ssB_begun]; exact upN_s])
  · show hp g (CS.s_unst _ _) m = hp g (bgC c o a) m; unfold bgC bg3 bg2 bg1; rw [hg, hb]
theorem k_S_begin {l : Launch} {g : GX} {c : CS} {m : MS} {n d : Nat} (hd : 6 ≤ d) {o a : Nat} (ho : o < 6) (ha : a ≤ 240) (hbg : c.begun o < 65535) (hc : CI c) (hM : BM c.mat) (hT : B1 c.tape) (hf : ∀ i, i < 12 → c.live i = true → ∀ k, k < stp a → lf (TK (c.takn i) k) < 40) (hz : ∀ i, i < 12 → c.live i = true → c.hstr i (sp c i o) = 0) (hcut : c.cut = -1 ∨ ∃ k, k < 24 ∧ c.cut = nI k) : CE l g M_S_begin d 0 0 [.ref (aS g), .int (nI o), .int (nI a)] n (hp g c m) (some (.int (bgR c o))) n (hp g (bgC c o a) m) := by
  rcases hcut with h | ⟨k, hk, h⟩
  · exact k_S_begin0 hd ho ha hbg hc hM hT hf hz h
  · rcases Nat.lt_or_ge k (2 * ct c.live 12) with q | q
    · rcases Nat.lt_or_ge k (ct c.live 12) with q2 | q2
      · exact k_S_beginA hd ho ha hbg hc hM hT hf hz hk h q2
      · exact k_S_beginB hd ho ha hbg hc hM hT hf hz hk h q q2
    · exact k_S_beginT hd ho ha hbg hc hM hT hf hz hk h q
