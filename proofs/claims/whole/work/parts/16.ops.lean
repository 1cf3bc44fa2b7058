def shW (i : Nat) (X : CS) : CS := X.s_wire (fillF (shB i X.mat) X.wire 8)
/-- node i's share of the stripe in the matrix, into its shadow's block s -/
def fsO (X : CS) (i o s : Nat) : CS := wrC (shW i X) i (X.hpl i (sp X i o) s) 8
def fsC (c : CS) (o s most : Nat) : Nat → CS
  | 0 => c
  | i + 1 => if c.live i = true ∧ ct c.live i < most then fsO (fsC c o s most i) i o s else fsC c o s most i
theorem fsC_stop {c : CS} {o s most i : Nat} (h : most ≤ ct c.live i) (hi : i ≤ 12) : fsC c o s most 12 = fsC c o s most i := by
  have q := stop_eq (F := fsC c o s most) (Z := fun k => most ≤ ct c.live k) (ct_stop h) (fun k hk => by show (if _ then _ else _) = _; rw [if_neg (by omega)]) (12 - i)
  rwa [show i + (12 - i) = 12 by omega] at q
/-- what the filling leaves -/
theorem fsC_keep (c : CS) (o s most : Nat) : ∀ i, (fsC c o s most i).live = c.live ∧ (fsC c o s most i).hpl = c.hpl ∧ (fsC c o s most i).hstr = c.hstr ∧ (fsC c o s most i).hver = c.hver ∧ (fsC c o s most i).hbyt = c.hbyt ∧ (fsC c o s most i).sw = c.sw ∧ (fsC c o s most i).mat = c.mat ∧ (fsC c o s most i).takn = c.takn ∧ (fsC c o s most i).tape = c.tape
  | 0 => ⟨rfl, rfl, rfl, rfl, rfl, rfl, rfl, rfl, rfl⟩
  | i + 1 => by
    have ih := fsC_keep c o s most i
    unfold fsC
    split
    · exact ih
    · exact ih
theorem sp_eq {c c' : CS} (h : c'.sw = c.sw) (i o : Nat) : sp c' i o = sp c i o := by unfold sp; rw [h]
theorem rp_eq {c c' : CS} (h : c'.sw = c.sw) (i o : Nat) : rp c' i o = rp c i o := by unfold rp; rw [h]
theorem CI_eq {c c' : CS} (h : CI c) (h1 : c'.hpl = c.hpl) (h2 : c'.hstr = c.hstr) (h3 : c'.hver = c.hver) (h4 : c'.hbyt = c.hbyt) : CI c' := fun i p => by
  rw [h1, h2, h3, h4]
  exact h i p
theorem nI_m1 {k : Nat} (h : k < 2 ^ 31) : ¬ nI k = (-1) := fun e => by
  have q := congrArg Int32.toInt e
  rw [nI_toInt h] at q
  have : ((-1 : Int32)).toInt = -1 := by decide
  omega
theorem lv3 (T : Nat → Bool) (i a b : Nat) : T i = false ∨ (T i = true ∧ a < b) ∨ (T i = true ∧ b ≤ a) := by
  cases h : T i
  · exact Or.inl rfl
  · rcases Nat.lt_or_ge a b with q | q
    · exact Or.inr (Or.inl ⟨rfl, q⟩)
    · exact Or.inr (Or.inr ⟨rfl, q⟩)
theorem k_S_fillShadows {l : Launch} {g : GX} {c : CS} {m : MS} {n d : Nat} (hd : 4 ≤ d) {o s most : Nat} (ho : o < 6) (hs : s < 8) (hc : CI c) (hM : BM c.mat) (hst : ∀ i, i < 12 → c.live i = true → ct c.live i < most → s < c.hstr i (sp c i o)) (hz : ∀ i, i < 12 → c.live i = true → most ≤ ct c.live i → c.hstr i (sp c i o) = 0) : CE l g M_S_fillShadows d 0 0 [.ref (aS g), .int (nI o), .int (nI s)] n (hp g c m) (none) n (hp g (fsC c o s most 12) m) := by
  refine CE.of (by decide +kernel) (lv := [(0, .ref (aS g)), (1, .int (nI o)), (2, .int (nI s))]) rfl (Nat.le_of_ble_eq_true rfl) ?_
  refine r_heap (h' := hp g (fsC c o s most 0) m) rfl ?_
  refine r_iconst (v := nI 0) d_S_fillShadows_0 (by decide) ?_
  refine r_istore_n (lv' := [(0, _), (1, _), (2, _), (3, _)]) d_S_fillShadows_1 (by decide) rfl ?_
  refine back_ind (n := 12) (G := fun i => RJ l g M_S_fillShadows (RMX d 0 0) (TQ g 0 0 (QE (none) n (hp g (fsC c o s most 12) m))) XT n (hp g (fsC c o s most i) m) 0 0 2 [(0, .ref (aS g)), (1, .int (nI o)), (2, .int (nI s)), (3, .int (nI i))] []) ?_ ?_ 0 (Nat.zero_le _)
  · skip
    refine r_iload_n d_S_fillShadows_2 3 rfl ?_
    refine r_bipush (v := nI 12) d_S_fillShadows_3 (by decide) ?_
    refine r_icmp_geN (tgt := 80) d_S_fillShadows_5 (by decide) (by omega) (by omega) (fun c5 => ?_) (fun c5 => ?_)
    rotate_left 1
    · exfalso; first | omega | (revert c5; decide) | cases c5
    refine r_return d_S_fillShadows_80 rfl ⟨rfl, rfl, ?_⟩
    · rfl
  · intro i hb_i ih_i
    obtain ⟨hL, k1, k2, k3, k4, k5, k6, k7, k8⟩ := fsC_keep c o s most i
    have hsp : (sp (fsC c o s most i) i o) < 12 := sp_lt ho
    have h8 := (hc i (sp c i o)).1
    have h40 : (fsC c o s most i).hpl i (sp (fsC c o s most i) i o) s < 40 := by rw [k1]; exact (hc i _).2.2.2 s
    refine r_iload_n d_S_fillShadows_2 3 rfl ?_
    refine r_bipush (v := nI 12) d_S_fillShadows_3 (by decide) ?_
    refine r_icmp_geN (tgt := 80) d_S_fillShadows_5 (by decide) (by omega) (by omega) (fun c5 => ?_) (fun c5 => ?_)
    · exfalso; first | omega | (revert c5; decide) | cases c5
    rcases lv3 c.live i (ct c.live i) most with hlv | ⟨hlv, hlt⟩ | ⟨hlv, hge⟩
    · skip
      refine r_aload_n d_S_fillShadows_8 0 rfl ?_
      refine rg_S_18 rfl d_S_fillShadows_9 gS rfl ?_
      refine r_iload_n d_S_fillShadows_12 3 rfl ?_
      refine r_qld (t := 2) rfl d_S_fillShadows_13 gNodes (by omega) (by decide) rfl ?_
      refine rg_S_103 rfl d_S_fillShadows_14 (gN (i := i) (by omega)) rfl ?_
      refine r_if_eqB (tgt := 38) d_S_fillShadows_17 (by decide) (fun c17 => ?_) (fun c17 => ?_)
      rotate_left 1
      · exact absurd (hlv.symm.trans ((congrFun hL i).symm.trans c17)) (by decide)
      refine r_iconst (v := (-1)) d_S_fillShadows_38 (by decide) ?_
      refine r_istore (lv' := [(0, _), (1, _), (2, _), (3, _), (4, _)]) d_S_fillShadows_39 (by decide) rfl ?_
      refine r_iload d_S_fillShadows_41 4 rfl ?_
      refine r_iconst (v := (-1)) d_S_fillShadows_43 (by decide) ?_
      refine r_icmp_eq (tgt := 74) d_S_fillShadows_44 (by decide) (fun c44 => ?_) (fun c44 => ?_)
      rotate_left 1
      · exact absurd rfl c44
      refine r_iincN (lv' := [(0, _), (1, _), (2, _), (3, _), (4, _)]) d_S_fillShadows_74 3 rfl (by decide) rfl ?_
      refine r_goto (tgt := 2) d_S_fillShadows_77 (by decide) ?_
      refine r_less (lv' := [(0, .ref (aS g)), (1, .int (nI o)), (2, .int (nI s)), (3, .int (nI (i + 1)))]) (by simp) ?_
      exact r_at ih_i (by show _ = hp g (if _ then _ else _) m; rw [if_neg (fun q => by rw [hlv] at q; exact absurd q.1 (by decide))]) rfl rfl
    · skip
      refine r_aload_n d_S_fillShadows_8 0 rfl ?_
      refine rg_S_18 rfl d_S_fillShadows_9 gS rfl ?_
      refine r_iload_n d_S_fillShadows_12 3 rfl ?_
      refine r_qld (t := 2) rfl d_S_fillShadows_13 gNodes (by omega) (by decide) rfl ?_
      refine rg_S_103 rfl d_S_fillShadows_14 (gN (i := i) (by omega)) rfl ?_
      refine r_if_eqB (tgt := 38) d_S_fillShadows_17 (by decide) (fun c17 => ?_) (fun c17 => ?_)
      · exact absurd (hlv.symm.trans ((congrFun hL i).symm.trans c17)) (by decide)
      have hs2 : s < (fsC c o s most i).hstr i (sp (fsC c o s most i) i o) := by rw [k2, sp_eq k5]; exact hst i hb_i hlv hlt
      refine r_aload_n d_S_fillShadows_20 0 rfl ?_
      refine rg_S_18 rfl d_S_fillShadows_21 gS rfl ?_
      refine r_iload_n d_S_fillShadows_24 3 rfl ?_
      refine r_qld (t := 2) rfl d_S_fillShadows_25 gNodes (by omega) (by decide) rfl ?_
      refine rg_S_107 rfl d_S_fillShadows_26 (gN (i := i) (by omega)) rfl ?_
      refine r_iload_n d_S_fillShadows_29 1 rfl ?_
      refine r_qld (t := 3) rfl d_S_fillShadows_30 (gSh (i := i) (by omega)) (by omega) (by decide) rfl ?_
      refine r_iload_n d_S_fillShadows_31 2 rfl ?_
      refine rc_S_170 rfl d_S_fillShadows_32 (k_H_placeOf (c := fsC c o s most i) (by omega) hb_i hsp hs2 hs (by rw [k2, sp_eq k5]; omega)) (gH (i := i) (p := sp (fsC c o s most i) i o) (by omega) (by omega)) (room_ok (d' := d - 1) (by omega) (by decide)) ⟨Nat.le_refl _, Nat.le_refl _⟩ (Nat.le_of_ble_eq_true rfl) ?_
      refine r_goto (tgt := 39) d_S_fillShadows_35 (by decide) ?_
      refine r_istore (lv' := [(0, _), (1, _), (2, _), (3, _), (4, _)]) d_S_fillShadows_39 (by decide) rfl ?_
      refine r_iload d_S_fillShadows_41 4 rfl ?_
      refine r_iconst (v := (-1)) d_S_fillShadows_43 (by decide) ?_
      refine r_icmp_eq (tgt := 74) d_S_fillShadows_44 (by decide) (fun c44 => ?_) (fun c44 => ?_)
      · exact absurd c44 (nI_m1 (by omega))
      refine r_aload_n d_S_fillShadows_47 0 rfl ?_
      refine rg_S_10 rfl d_S_fillShadows_48 gS rfl ?_
      refine r_iload_n d_S_fillShadows_51 3 rfl ?_
      refine r_aload_n d_S_fillShadows_52 0 rfl ?_
      refine rg_S_55 rfl d_S_fillShadows_53 gS rfl ?_
      refine rc_S_224 rfl d_S_fillShadows_56 (k_C_share (c := fsC c o s most i) (by omega) hb_i (by rw [k6]; exact hM)) gC (room_ok (d' := d - 1) (by omega) (by decide)) ⟨Nat.le_refl _, Nat.le_refl _⟩ (Nat.le_of_ble_eq_true rfl) ?_
      refine r_aload_n d_S_fillShadows_59 0 rfl ?_
      refine rg_S_18 rfl d_S_fillShadows_60 gS rfl ?_
      refine r_iload_n d_S_fillShadows_63 3 rfl ?_
      refine r_qld (t := 2) rfl d_S_fillShadows_64 gNodes (by omega) (by decide) rfl ?_
      refine r_iload d_S_fillShadows_65 4 rfl ?_
      refine r_aload_n d_S_fillShadows_67 0 rfl ?_
      refine rg_S_55 rfl d_S_fillShadows_68 gS rfl ?_
      refine rc_S_228 rfl d_S_fillShadows_71 (k_N_write (c := shW i (fsC c o s most i)) (by omega) hb_i h40) (gN (i := i) (by omega)) (room_ok (d' := d - 1) (by omega) (by decide)) ⟨Nat.le_refl _, Nat.le_refl _⟩ (Nat.le_of_ble_eq_true rfl) ?_
      refine r_iincN (lv' := [(0, _), (1, _), (2, _), (3, _), (4, _)]) d_S_fillShadows_74 3 rfl (by decide) rfl ?_
      refine r_goto (tgt := 2) d_S_fillShadows_77 (by decide) ?_
      refine r_less (lv' := [(0, .ref (aS g)), (1, .int (nI o)), (2, .int (nI s)), (3, .int (nI (i + 1)))]) (by simp) ?_
      exact r_at ih_i (by show _ = hp g (if _ then _ else _) m; rw [if_pos ⟨hlv, hlt⟩]; rfl) rfl rfl
    · skip
      refine r_aload_n d_S_fillShadows_8 0 rfl ?_
      refine rg_S_18 rfl d_S_fillShadows_9 gS rfl ?_
      refine r_iload_n d_S_fillShadows_12 3 rfl ?_
      refine r_qld (t := 2) rfl d_S_fillShadows_13 gNodes (by omega) (by decide) rfl ?_
      refine rg_S_103 rfl d_S_fillShadows_14 (gN (i := i) (by omega)) rfl ?_
      refine r_if_eqB (tgt := 38) d_S_fillShadows_17 (by decide) (fun c17 => ?_) (fun c17 => ?_)
      · exact absurd (hlv.symm.trans ((congrFun hL i).symm.trans c17)) (by decide)
      have h0 : (fsC c o s most i).hstr i (sp (fsC c o s most i) i o) = 0 := by rw [k2, sp_eq k5]; exact hz i hb_i hlv hge
      have hno : inR (nI s) ((fsC c o s most i).hstr i (sp (fsC c o s most i) i o)) = false := by rw [h0]; unfold inR; exact decide_eq_false (fun q => q.1 q.2)
      refine r_aload_n d_S_fillShadows_20 0 rfl ?_
      refine rg_S_18 rfl d_S_fillShadows_21 gS rfl ?_
      refine r_iload_n d_S_fillShadows_24 3 rfl ?_
      refine r_qld (t := 2) rfl d_S_fillShadows_25 gNodes (by omega) (by decide) rfl ?_
      refine rg_S_107 rfl d_S_fillShadows_26 (gN (i := i) (by omega)) rfl ?_
      refine r_iload_n d_S_fillShadows_29 1 rfl ?_
      refine r_qld (t := 3) rfl d_S_fillShadows_30 (gSh (i := i) (by omega)) (by omega) (by decide) rfl ?_
      refine r_iload_n d_S_fillShadows_31 2 rfl ?_
      refine rc_S_170 rfl d_S_fillShadows_32 (k_H_placeOfNo (c := fsC c o s most i) (x := nI s) (by omega) hb_i hsp hno) (gH (i := i) (p := sp (fsC c o s most i) i o) (by omega) (by omega)) (room_ok (d' := d - 1) (by omega) (by decide)) ⟨Nat.le_refl _, Nat.le_refl _⟩ (Nat.le_of_ble_eq_true rfl) ?_
      refine r_goto (tgt := 39) d_S_fillShadows_35 (by decide) ?_
      refine r_istore (lv' := [(0, _), (1, _), (2, _), (3, _), (4, _)]) d_S_fillShadows_39 (by decide) rfl ?_
      refine r_iload d_S_fillShadows_41 4 rfl ?_
      refine r_iconst (v := (-1)) d_S_fillShadows_43 (by decide) ?_
      refine r_icmp_eq (tgt := 74) d_S_fillShadows_44 (by decide) (fun c44 => ?_) (fun c44 => ?_)
      rotate_left 1
      · exact absurd rfl c44
      refine r_iincN (lv' := [(0, _), (1, _), (2, _), (3, _), (4, _)]) d_S_fillShadows_74 3 rfl (by decide) rfl ?_
      refine r_goto (tgt := 2) d_S_fillShadows_77 (by decide) ?_
      refine r_less (lv' := [(0, .ref (aS g)), (1, .int (nI o)), (2, .int (nI s)), (3, .int (nI (i + 1)))]) (by simp) ?_
      exact r_at ih_i (by show _ = hp g (if _ then _ else _) m; rw [if_neg (fun q => absurd q.2 (by omega))]) rfl rfl
def ssA (c : CS) (o a most : Nat) : Nat → CS
  | 0 => c
  | i + 1 => if c.live i = true ∧ ct c.live i < most then takC (ssA c o a most i) i (sp (ssA c o a most i) i o) ((ssA c o a most i).begun o) a else ssA c o a most i
theorem ssA_stop {c : CS} {o a most i : Nat} (h : most ≤ ct c.live i) (hi : i ≤ 12) : ssA c o a most 12 = ssA c o a most i := by
  have q := stop_eq (F := ssA c o a most) (Z := fun k => most ≤ ct c.live k) (ct_stop h) (fun k hk => by show (if _ then _ else _) = _; rw [if_neg (by omega)]) (12 - i)
  rwa [show i + (12 - i) = 12 by omega] at q
theorem ssA_keep (c : CS) (o a most : Nat) : ∀ i, (ssA c o a most i).live = c.live ∧ (ssA c o a most i).sw = c.sw ∧ (ssA c o a most i).mat = c.mat ∧ (ssA c o a most i).begun = c.begun ∧ (ssA c o a most i).tape = c.tape ∧ ∀ i', i ≤ i' → (ssA c o a most i).takn i' = c.takn i'
  | 0 => ⟨rfl, rfl, rfl, rfl, rfl, fun _ _ => rfl⟩
  | i + 1 => by
    obtain ⟨h1, h2, h3, h4, h5, h6⟩ := ssA_keep c o a most i
    unfold ssA
    split
    · exact ⟨h1, h2, h3, h4, h5, fun i' hi' => (upN_n (show i' ≠ i by omega)).trans (h6 i' (by omega))⟩
    · exact ⟨h1, h2, h3, h4, h5, fun i' hi' => h6 i' (by omega)⟩
theorem PLs_lt {T : Nat → Bool} {Pp : Nat → Nat} (h : ∀ s, Pp s < 40) : ∀ k, (∀ j, j < k → lf (TK T j) < 40) → ∀ s, PLs T Pp k s < 40
  | 0, _, s => h s
  | k + 1, hk, s => upN_ind (Q := fun x => x < 40) (PLs_lt h k (fun j hj => hk j (by omega))) (hk k (by omega)) s
theorem CI_tak {c : CS} {i p v a : Nat} (h : CI c) (hv : v < 65536) (ha : a ≤ 240) (hf : ∀ k, k < stp a → lf (TK (c.takn i) k) < 40) : CI (takC c i p v a) := fun i' p' =>
  ⟨up2_ind (Q := fun x => x ≤ 8) (fun i p => (h i p).1) (stp_le ha) i' p', up2_ind (Q := fun x => x < 65536) (fun i p => (h i p).2.1) hv i' p', up2_ind (Q := fun x => x < 65536) (fun i p => (h i p).2.2.1) (by omega) i' p',
   up2_ind (Q := fun f : Nat → Nat => ∀ s, f s < 40) (fun i p => (h i p).2.2.2) (PLs_lt (h i p).2.2.2 (stp a) hf) i' p'⟩
theorem CI_ssA {c : CS} {o a most : Nat} (h : CI c) (hb : c.begun o < 65536) (ha : a ≤ 240) (hf : ∀ i, i < 12 → c.live i = true → ∀ k, k < stp a → lf (TK (c.takn i) k) < 40) : ∀ i, i ≤ 12 → CI (ssA c o a most i)
  | 0, _ => h
  | i + 1, hi => by
    have ih := CI_ssA (most := most) h hb ha hf i (by omega)
    obtain ⟨-, -, -, h4, -, h6⟩ := ssA_keep c o a most i
    unfold ssA
    split
    · rename_i q
      exact CI_tak ih (by rw [h4]; exact hb) ha (by rw [h6 i (Nat.le_refl _)]; exact hf i (by omega) q.1)
    · exact ih
theorem ssA_str {c : CS} {o a most : Nat} : ∀ i j, j < i → c.live j = true → ct c.live j < most → (ssA c o a most i).hstr j (sp c j o) = stp a
  | 0, j, hj, _, _ => by omega
  | i + 1, j, hj, h1, h2 => by
    obtain ⟨-, k2, -⟩ := ssA_keep c o a most i
    unfold ssA
    by_cases e : j = i
    · subst e
      rw [if_pos ⟨h1, h2⟩, sp_eq k2]
      exact up2_s
    · have ih := ssA_str (c := c) (o := o) (a := a) (most := most) i j (by omega) h1 h2
      split
      · exact (up2_n (fun z => e z.1)).trans ih
      · exact ih
theorem ssA_str0 {c : CS} {o a most : Nat} : ∀ i j, most ≤ ct c.live j → (ssA c o a most i).hstr j (sp c j o) = c.hstr j (sp c j o)
  | 0, j, _ => rfl
  | i + 1, j, h => by
    have ih := ssA_str0 (c := c) (o := o) (a := a) (most := most) i j h
    unfold ssA
    split
    · rename_i q
      exact (up2_n (fun z => absurd q.2 (by rw [← z.1]; omega))).trans ih
    · exact ih
def ssB (c : CS) (o a most : Nat) : Nat → CS
  | 0 => ssA c o a most 12
  | s + 1 => fsC ((ssB c o a most s).s_mat (ldM (tbF (ssB c o a most s).tape a) (ssB c o a most s).mat (s * 30))) o s most 12
theorem ldI_BM {tb : Nat → Nat} {A : Nat → Nat → Nat} {a r k0 : Nat} (h1 : B1 tb) (h2 : BM A) : ∀ j, BM (ldI tb A a r k0 j)
  | 0 => h2
  | j + 1 => BM_mir (ldI_BM h1 h2 j) (h1 _)
theorem ldM_BM {tb : Nat → Nat} {A : Nat → Nat → Nat} {a : Nat} (h1 : B1 tb) (h2 : BM A) : BM (ldM tb A a) := by
  have q1 : ∀ r, BM (ldO1 tb A a r) := fun r => by
    induction r with
    | zero => exact h2
    | succ r ih => exact ldI_BM h1 ih _
  have q2 : ∀ r, BM (ldO2 tb (ldO1 tb A a 5) (a + 15) r) := fun r => by
    induction r with
    | zero => exact q1 5
    | succ r ih => exact ldI_BM h1 ih _
  exact q2 5
theorem tbF_lt {t : Nat → Nat} {e : Nat} (h : B1 t) : B1 (tbF t e) := fun j => by
  unfold tbF
  split
  · exact h j
  · decide
theorem ssB_keep (c : CS) (o a most : Nat) : ∀ s, (ssB c o a most s).live = c.live ∧ (ssB c o a most s).hpl = (ssA c o a most 12).hpl ∧ (ssB c o a most s).hstr = (ssA c o a most 12).hstr ∧ (ssB c o a most s).hver = (ssA c o a most 12).hver ∧ (ssB c o a most s).hbyt = (ssA c o a most 12).hbyt ∧ (ssB c o a most s).sw = c.sw ∧ (ssB c o a most s).takn = (ssA c o a most 12).takn ∧ (ssB c o a most s).tape = c.tape
  | 0 => by
    obtain ⟨h1, h2, h3, h4, h5, h6⟩ := ssA_keep c o a most 12
    exact ⟨h1, rfl, rfl, rfl, rfl, h2, rfl, h5⟩
  | s + 1 => by
    obtain ⟨h1, h2, h3, h4, h5, h6, h7, h8⟩ := ssB_keep c o a most s
    obtain ⟨k1, k2, k3, k4, k5, k6, k7, k8, k9⟩ := fsC_keep ((ssB c o a most s).s_mat (ldM (tbF (ssB c o a most s).tape a) (ssB c o a most s).mat (s * 30))) o s most 12
    exact ⟨k1.trans h1, k2.trans h2, k3.trans h3, k4.trans h4, k5.trans h5, k6.trans h6, k8.trans h7, k9.trans h8⟩
theorem ssB_BM {c : CS} {o a most : Nat} (h1 : B1 c.tape) (h2 : BM c.mat) : ∀ s, BM (ssB c o a most s).mat
  | 0 => by
    obtain ⟨-, -, h3, -⟩ := ssA_keep c o a most 12
    show BM (ssA c o a most 12).mat
    rw [h3]; exact h2
  | s + 1 => by
    obtain ⟨-, -, -, -, -, -, k7, -⟩ := fsC_keep ((ssB c o a most s).s_mat (ldM (tbF (ssB c o a most s).tape a) (ssB c o a most s).mat (s * 30))) o s most 12
    have q : (ssB c o a most (s + 1)).mat = ldM (tbF (ssB c o a most s).tape a) (ssB c o a most s).mat (s * 30) := k7
    rw [q]
    obtain ⟨-, -, -, -, -, -, -, h8⟩ := ssB_keep c o a most s
    exact ldM_BM (tbF_lt (by rw [h8]; exact h1)) (ssB_BM h1 h2 s)
theorem k_S_sendShadows {l : Launch} {g : GX} {c : CS} {m : MS} {n d : Nat} (hd : 5 ≤ d) {o a most : Nat} (ho : o < 6) (ha : a ≤ 240) (hm : most < 65536) (hc : CI c) (hM : BM c.mat) (hT : B1 c.tape) (hbg : c.begun o < 65536) (hf : ∀ i, i < 12 → c.live i = true → ∀ k, k < stp a → lf (TK (c.takn i) k) < 40) (hz : ∀ i, i < 12 → c.live i = true → c.hstr i (sp c i o) = 0) : CE l g M_S_sendShadows d 0 0 [.ref (aS g), .int (nI o), .int (nI a), .int (nI most)] n (hp g c m) (none) n (hp g (ssB c o a most (stp a)) m) := by
  refine CE.of (by decide +kernel) (lv := [(0, .ref (aS g)), (1, .int (nI o)), (2, .int (nI a)), (3, .int (nI most))]) rfl (Nat.le_of_ble_eq_true rfl) ?_
  refine r_iload_n d_S_sendShadows_0 3 rfl ?_
  refine r_istore (lv' := [(0, _), (1, _), (2, _), (3, _), (4, _)]) d_S_sendShadows_1 (by decide) rfl ?_
  refine r_heap (h' := hp g (ssA c o a most 0) m) rfl ?_
  refine r_iconst (v := nI 0) d_S_sendShadows_3 (by decide) ?_
  refine r_istore (lv' := [(0, _), (1, _), (2, _), (3, _), (4, _), (5, _)]) d_S_sendShadows_4 (by decide) rfl ?_
  have K69 : RJ l g M_S_sendShadows (RMX d 0 0) (TQ g 0 0 (QE (none) n (hp g (ssB c o a most (stp a)) m))) XT n (hp g (ssB c o a most 0) m) 0 0 69 [(0, .ref (aS g)), (1, .int (nI o)), (2, .int (nI a)), (3, .int (nI most))] [] := by
    have h8 := stp_le ha
    have hX12 := CI_ssA (most := most) hc hbg ha hf 12 (Nat.le_refl _)
    refine r_iconst (v := nI 0) d_S_sendShadows_69 (by decide) ?_
    refine r_istore (lv' := [(0, _), (1, _), (2, _), (3, _), (5, _)]) d_S_sendShadows_70 (by decide) rfl ?_
    refine back_ind (n := stp a) (G := fun s => RJ l g M_S_sendShadows (RMX d 0 0) (TQ g 0 0 (QE (none) n (hp g (ssB c o a most (stp a)) m))) XT n (hp g (ssB c o a most s) m) 0 0 72 [(0, .ref (aS g)), (1, .int (nI o)), (2, .int (nI a)), (3, .int (nI most)), (5, .int (nI s))] []) ?_ ?_ 0 (Nat.zero_le _)
    · skip
      refine r_iload d_S_sendShadows_72 4 rfl ?_
      refine r_iload_n d_S_sendShadows_74 2 rfl ?_
      refine rc_S_92 rfl d_S_sendShadows_75 (k_S_stripesOf (by omega) (by omega)) (room_ok (d' := d - 1) (by omega) (by decide)) ⟨Nat.le_refl _, Nat.le_refl _⟩ (Nat.le_of_ble_eq_true rfl) ?_
      refine r_icmp_geN (tgt := 111) d_S_sendShadows_78 (by decide) (by omega) (by omega) (fun c78 => ?_) (fun c78 => ?_)
      rotate_left 1
      · exfalso; first | omega | (revert c78; decide) | cases c78
      refine r_return d_S_sendShadows_111 rfl ⟨rfl, rfl, ?_⟩
      · rfl
    · intro s hb_s ih_s
      obtain ⟨b1, b2, b3, b4, b5, b6, b7, b8⟩ := ssB_keep c o a most s
      have hBM := ssB_BM (o := o) (a := a) (most := most) hT hM s
      have hBT : B1 (tbF (ssB c o a most s).tape a) := tbF_lt (by rw [b8]; exact hT)
      have hBM2 := ldM_BM (a := s * 30) hBT hBM
      refine r_iload d_S_sendShadows_72 4 rfl ?_
      refine r_iload_n d_S_sendShadows_74 2 rfl ?_
      refine rc_S_92 rfl d_S_sendShadows_75 (k_S_stripesOf (by omega) (by omega)) (room_ok (d' := d - 1) (by omega) (by decide)) ⟨Nat.le_refl _, Nat.le_refl _⟩ (Nat.le_of_ble_eq_true rfl) ?_
      refine r_icmp_geN (tgt := 111) d_S_sendShadows_78 (by decide) (by omega) (by omega) (fun c78 => ?_) (fun c78 => ?_)
      · exfalso; first | omega | (revert c78; decide) | cases c78
      refine r_aload_n d_S_sendShadows_81 0 rfl ?_
      refine rg_S_10 rfl d_S_sendShadows_82 gS rfl ?_
      refine r_aload_n d_S_sendShadows_85 0 rfl ?_
      refine rg_S_30 rfl d_S_sendShadows_86 gS rfl ?_
      refine r_iload d_S_sendShadows_89 4 rfl ?_
      refine r_bipush (v := nI 30) d_S_sendShadows_91 (by decide) ?_
      refine r_imulN d_S_sendShadows_93 ?_
      refine r_iload_n d_S_sendShadows_94 2 rfl ?_
      refine rc_S_217 rfl d_S_sendShadows_95 (k_C_load (c := ssB c o a most s) (by omega) (by omega) (by omega)) gC (room_ok (d' := d - 1) (by omega) (by decide)) ⟨Nat.le_refl _, Nat.le_refl _⟩ (Nat.le_of_ble_eq_true rfl) ?_
      refine r_aload_n d_S_sendShadows_98 0 rfl ?_
      refine r_iload_n d_S_sendShadows_99 1 rfl ?_
      refine r_iload d_S_sendShadows_100 4 rfl ?_
      refine rc_S_221 rfl d_S_sendShadows_102 (k_S_fillShadows (c := (ssB c o a most s).s_mat (ldM (tbF (ssB c o a most s).tape a) (ssB c o a most s).mat (s * 30))) (most := most) (by omega) ho (by omega) (CI_eq hX12 b2 b3 b4 b5) hBM2 (fun i hi q1 q2 => by have q3 : ((ssB c o a most s).s_mat (ldM (tbF (ssB c o a most s).tape a) (ssB c o a most s).mat (s * 30))).live = c.live := b1; rw [q3] at q1 q2; show s < (ssB c o a most s).hstr i (sp ((ssB c o a most s).s_mat (ldM (tbF (ssB c o a most s).tape a) (ssB c o a most s).mat (s * 30))) i o); rw [b3, sp_eq (c := c) (c' := (ssB c o a most s).s_mat (ldM (tbF (ssB c o a most s).tape a) (ssB c o a most s).mat (s * 30))) b6, ssA_str 12 i hi q1 q2]; exact hb_s) (fun i hi q1 q2 => by have q3 : ((ssB c o a most s).s_mat (ldM (tbF (ssB c o a most s).tape a) (ssB c o a most s).mat (s * 30))).live = c.live := b1; rw [q3] at q1 q2; show (ssB c o a most s).hstr i (sp ((ssB c o a most s).s_mat (ldM (tbF (ssB c o a most s).tape a) (ssB c o a most s).mat (s * 30))) i o) = 0; rw [b3, sp_eq (c := c) (c' := (ssB c o a most s).s_mat (ldM (tbF (ssB c o a most s).tape a) (ssB c o a most s).mat (s * 30))) b6, ssA_str0 12 i q2]; exact hz i hi q1)) gS (room_ok (d' := d - 1) (by omega) (by decide)) ⟨Nat.le_refl _, Nat.le_refl _⟩ (Nat.le_of_ble_eq_true rfl) ?_
      refine r_iincN (lv' := [(0, _), (1, _), (2, _), (3, _), (5, _)]) d_S_sendShadows_105 4 rfl (by decide) rfl ?_
      refine r_goto (tgt := 72) d_S_sendShadows_108 (by decide) ?_
      exact ih_s
  refine back_ind (n := 12) (G := fun i => RJ l g M_S_sendShadows (RMX d 0 0) (TQ g 0 0 (QE (none) n (hp g (ssB c o a most (stp a)) m))) XT n (hp g (ssA c o a most i) m) 0 0 6 [(0, .ref (aS g)), (1, .int (nI o)), (2, .int (nI a)), (3, .int (nI most)), (4, .int (nI (most - ct c.live i))), (5, .int (nI i))] []) ?_ ?_ 0 (Nat.zero_le _)
  · skip
    have K69 : RJ l g M_S_sendShadows (RMX d 0 0) (TQ g 0 0 (QE (none) n (hp g (ssB c o a most (stp a)) m))) XT n (hp g (ssB c o a most 0) m) 0 0 69 [(0, .ref (aS g)), (1, .int (nI o)), (2, .int (nI a)), (3, .int (nI most))] [] := by
      have h8 := stp_le ha
      have hX12 := CI_ssA (most := most) hc hbg ha hf 12 (Nat.le_refl _)
      refine r_iconst (v := nI 0) d_S_sendShadows_69 (by decide) ?_
      refine r_istore (lv' := [(0, _), (1, _), (2, _), (3, _), (5, _)]) d_S_sendShadows_70 (by decide) rfl ?_
      refine back_ind (n := stp a) (G := fun s => RJ l g M_S_sendShadows (RMX d 0 0) (TQ g 0 0 (QE (none) n (hp g (ssB c o a most (stp a)) m))) XT n (hp g (ssB c o a most s) m) 0 0 72 [(0, .ref (aS g)), (1, .int (nI o)), (2, .int (nI a)), (3, .int (nI most)), (5, .int (nI s))] []) ?_ ?_ 0 (Nat.zero_le _)
      · skip
        refine r_iload d_S_sendShadows_72 4 rfl ?_
        refine r_iload_n d_S_sendShadows_74 2 rfl ?_
        refine rc_S_92 rfl d_S_sendShadows_75 (k_S_stripesOf (by omega) (by omega)) (room_ok (d' := d - 1) (by omega) (by decide)) ⟨Nat.le_refl _, Nat.le_refl _⟩ (Nat.le_of_ble_eq_true rfl) ?_
        refine r_icmp_geN (tgt := 111) d_S_sendShadows_78 (by decide) (by omega) (by omega) (fun c78 => ?_) (fun c78 => ?_)
        rotate_left 1
        · exfalso; first | omega | (revert c78; decide) | cases c78
        refine r_return d_S_sendShadows_111 rfl ⟨rfl, rfl, ?_⟩
        · rfl
      · intro s hb_s ih_s
        obtain ⟨b1, b2, b3, b4, b5, b6, b7, b8⟩ := ssB_keep c o a most s
        have hBM := ssB_BM (o := o) (a := a) (most := most) hT hM s
        have hBT : B1 (tbF (ssB c o a most s).tape a) := tbF_lt (by rw [b8]; exact hT)
        have hBM2 := ldM_BM (a := s * 30) hBT hBM
        refine r_iload d_S_sendShadows_72 4 rfl ?_
        refine r_iload_n d_S_sendShadows_74 2 rfl ?_
        refine rc_S_92 rfl d_S_sendShadows_75 (k_S_stripesOf (by omega) (by omega)) (room_ok (d' := d - 1) (by omega) (by decide)) ⟨Nat.le_refl _, Nat.le_refl _⟩ (Nat.le_of_ble_eq_true rfl) ?_
        refine r_icmp_geN (tgt := 111) d_S_sendShadows_78 (by decide) (by omega) (by omega) (fun c78 => ?_) (fun c78 => ?_)
        · exfalso; first | omega | (revert c78; decide) | cases c78
        refine r_aload_n d_S_sendShadows_81 0 rfl ?_
        refine rg_S_10 rfl d_S_sendShadows_82 gS rfl ?_
        refine r_aload_n d_S_sendShadows_85 0 rfl ?_
        refine rg_S_30 rfl d_S_sendShadows_86 gS rfl ?_
        refine r_iload d_S_sendShadows_89 4 rfl ?_
        refine r_bipush (v := nI 30) d_S_sendShadows_91 (by decide) ?_
        refine r_imulN d_S_sendShadows_93 ?_
        refine r_iload_n d_S_sendShadows_94 2 rfl ?_
        refine rc_S_217 rfl d_S_sendShadows_95 (k_C_load (c := ssB c o a most s) (by omega) (by omega) (by omega)) gC (room_ok (d' := d - 1) (by omega) (by decide)) ⟨Nat.le_refl _, Nat.le_refl _⟩ (Nat.le_of_ble_eq_true rfl) ?_
        refine r_aload_n d_S_sendShadows_98 0 rfl ?_
        refine r_iload_n d_S_sendShadows_99 1 rfl ?_
        refine r_iload d_S_sendShadows_100 4 rfl ?_
        refine rc_S_221 rfl d_S_sendShadows_102 (k_S_fillShadows (c := (ssB c o a most s).s_mat (ldM (tbF (ssB c o a most s).tape a) (ssB c o a most s).mat (s * 30))) (most := most) (by omega) ho (by omega) (CI_eq hX12 b2 b3 b4 b5) hBM2 (fun i hi q1 q2 => by have q3 : ((ssB c o a most s).s_mat (ldM (tbF (ssB c o a most s).tape a) (ssB c o a most s).mat (s * 30))).live = c.live := b1; rw [q3] at q1 q2; show s < (ssB c o a most s).hstr i (sp ((ssB c o a most s).s_mat (ldM (tbF (ssB c o a most s).tape a) (ssB c o a most s).mat (s * 30))) i o); rw [b3, sp_eq (c := c) (c' := (ssB c o a most s).s_mat (ldM (tbF (ssB c o a most s).tape a) (ssB c o a most s).mat (s * 30))) b6, ssA_str 12 i hi q1 q2]; exact hb_s) (fun i hi q1 q2 => by have q3 : ((ssB c o a most s).s_mat (ldM (tbF (ssB c o a most s).tape a) (ssB c o a most s).mat (s * 30))).live = c.live := b1; rw [q3] at q1 q2; show (ssB c o a most s).hstr i (sp ((ssB c o a most s).s_mat (ldM (tbF (ssB c o a most s).tape a) (ssB c o a most s).mat (s * 30))) i o) = 0; rw [b3, sp_eq (c := c) (c' := (ssB c o a most s).s_mat (ldM (tbF (ssB c o a most s).tape a) (ssB c o a most s).mat (s * 30))) b6, ssA_str0 12 i q2]; exact hz i hi q1)) gS (room_ok (d' := d - 1) (by omega) (by decide)) ⟨Nat.le_refl _, Nat.le_refl _⟩ (Nat.le_of_ble_eq_true rfl) ?_
        refine r_iincN (lv' := [(0, _), (1, _), (2, _), (3, _), (5, _)]) d_S_sendShadows_105 4 rfl (by decide) rfl ?_
        refine r_goto (tgt := 72) d_S_sendShadows_108 (by decide) ?_
        exact ih_s
    refine r_iload d_S_sendShadows_6 5 rfl ?_
    refine r_bipush (v := nI 12) d_S_sendShadows_8 (by decide) ?_
    refine r_icmp_geN (tgt := 69) d_S_sendShadows_10 (by decide) (by omega) (by omega) (fun c10 => ?_) (fun c10 => ?_)
    rotate_left 1
    · exfalso; first | omega | (revert c10; decide) | cases c10
    refine r_less (lv' := [(0, .ref (aS g)), (1, .int (nI o)), (2, .int (nI a)), (3, .int (nI most))]) (by simp) ?_
    exact r_at K69 (by first | rfl | (show hp g (ssA c o a most i) m = hp g (ssA c o a most 12) m; rw [ssA_stop (i := i) (by omega) (by omega)])) rfl rfl
  · intro i hb_i ih_i
    obtain ⟨hL, k2, k3, k4, k5, k6⟩ := ssA_keep c o a most i
    have hX := CI_ssA (most := most) hc hbg ha hf i (by omega)
    have hsp : sp (ssA c o a most i) i o < 12 := sp_lt ho
    have K69 : RJ l g M_S_sendShadows (RMX d 0 0) (TQ g 0 0 (QE (none) n (hp g (ssB c o a most (stp a)) m))) XT n (hp g (ssB c o a most 0) m) 0 0 69 [(0, .ref (aS g)), (1, .int (nI o)), (2, .int (nI a)), (3, .int (nI most))] [] := by
      have h8 := stp_le ha
      have hX12 := CI_ssA (most := most) hc hbg ha hf 12 (Nat.le_refl _)
      refine r_iconst (v := nI 0) d_S_sendShadows_69 (by decide) ?_
      refine r_istore (lv' := [(0, _), (1, _), (2, _), (3, _), (5, _)]) d_S_sendShadows_70 (by decide) rfl ?_
      refine back_ind (n := stp a) (G := fun s => RJ l g M_S_sendShadows (RMX d 0 0) (TQ g 0 0 (QE (none) n (hp g (ssB c o a most (stp a)) m))) XT n (hp g (ssB c o a most s) m) 0 0 72 [(0, .ref (aS g)), (1, .int (nI o)), (2, .int (nI a)), (3, .int (nI most)), (5, .int (nI s))] []) ?_ ?_ 0 (Nat.zero_le _)
      · skip
        refine r_iload d_S_sendShadows_72 4 rfl ?_
        refine r_iload_n d_S_sendShadows_74 2 rfl ?_
        refine rc_S_92 rfl d_S_sendShadows_75 (k_S_stripesOf (by omega) (by omega)) (room_ok (d' := d - 1) (by omega) (by decide)) ⟨Nat.le_refl _, Nat.le_refl _⟩ (Nat.le_of_ble_eq_true rfl) ?_
        refine r_icmp_geN (tgt := 111) d_S_sendShadows_78 (by decide) (by omega) (by omega) (fun c78 => ?_) (fun c78 => ?_)
        rotate_left 1
        · exfalso; first | omega | (revert c78; decide) | cases c78
        refine r_return d_S_sendShadows_111 rfl ⟨rfl, rfl, ?_⟩
        · rfl
      · intro s hb_s ih_s
        obtain ⟨b1, b2, b3, b4, b5, b6, b7, b8⟩ := ssB_keep c o a most s
        have hBM := ssB_BM (o := o) (a := a) (most := most) hT hM s
        have hBT : B1 (tbF (ssB c o a most s).tape a) := tbF_lt (by rw [b8]; exact hT)
        have hBM2 := ldM_BM (a := s * 30) hBT hBM
        refine r_iload d_S_sendShadows_72 4 rfl ?_
        refine r_iload_n d_S_sendShadows_74 2 rfl ?_
        refine rc_S_92 rfl d_S_sendShadows_75 (k_S_stripesOf (by omega) (by omega)) (room_ok (d' := d - 1) (by omega) (by decide)) ⟨Nat.le_refl _, Nat.le_refl _⟩ (Nat.le_of_ble_eq_true rfl) ?_
        refine r_icmp_geN (tgt := 111) d_S_sendShadows_78 (by decide) (by omega) (by omega) (fun c78 => ?_) (fun c78 => ?_)
        · exfalso; first | omega | (revert c78; decide) | cases c78
        refine r_aload_n d_S_sendShadows_81 0 rfl ?_
        refine rg_S_10 rfl d_S_sendShadows_82 gS rfl ?_
        refine r_aload_n d_S_sendShadows_85 0 rfl ?_
        refine rg_S_30 rfl d_S_sendShadows_86 gS rfl ?_
        refine r_iload d_S_sendShadows_89 4 rfl ?_
        refine r_bipush (v := nI 30) d_S_sendShadows_91 (by decide) ?_
        refine r_imulN d_S_sendShadows_93 ?_
        refine r_iload_n d_S_sendShadows_94 2 rfl ?_
        refine rc_S_217 rfl d_S_sendShadows_95 (k_C_load (c := ssB c o a most s) (by omega) (by omega) (by omega)) gC (room_ok (d' := d - 1) (by omega) (by decide)) ⟨Nat.le_refl _, Nat.le_refl _⟩ (Nat.le_of_ble_eq_true rfl) ?_
        refine r_aload_n d_S_sendShadows_98 0 rfl ?_
        refine r_iload_n d_S_sendShadows_99 1 rfl ?_
        refine r_iload d_S_sendShadows_100 4 rfl ?_
        refine rc_S_221 rfl d_S_sendShadows_102 (k_S_fillShadows (c := (ssB c o a most s).s_mat (ldM (tbF (ssB c o a most s).tape a) (ssB c o a most s).mat (s * 30))) (most := most) (by omega) ho (by omega) (CI_eq hX12 b2 b3 b4 b5) hBM2 (fun i hi q1 q2 => by have q3 : ((ssB c o a most s).s_mat (ldM (tbF (ssB c o a most s).tape a) (ssB c o a most s).mat (s * 30))).live = c.live := b1; rw [q3] at q1 q2; show s < (ssB c o a most s).hstr i (sp ((ssB c o a most s).s_mat (ldM (tbF (ssB c o a most s).tape a) (ssB c o a most s).mat (s * 30))) i o); rw [b3, sp_eq (c := c) (c' := (ssB c o a most s).s_mat (ldM (tbF (ssB c o a most s).tape a) (ssB c o a most s).mat (s * 30))) b6, ssA_str 12 i hi q1 q2]; exact hb_s) (fun i hi q1 q2 => by have q3 : ((ssB c o a most s).s_mat (ldM (tbF (ssB c o a most s).tape a) (ssB c o a most s).mat (s * 30))).live = c.live := b1; rw [q3] at q1 q2; show (ssB c o a most s).hstr i (sp ((ssB c o a most s).s_mat (ldM (tbF (ssB c o a most s).tape a) (ssB c o a most s).mat (s * 30))) i o) = 0; rw [b3, sp_eq (c := c) (c' := (ssB c o a most s).s_mat (ldM (tbF (ssB c o a most s).tape a) (ssB c o a most s).mat (s * 30))) b6, ssA_str0 12 i q2]; exact hz i hi q1)) gS (room_ok (d' := d - 1) (by omega) (by decide)) ⟨Nat.le_refl _, Nat.le_refl _⟩ (Nat.le_of_ble_eq_true rfl) ?_
        refine r_iincN (lv' := [(0, _), (1, _), (2, _), (3, _), (5, _)]) d_S_sendShadows_105 4 rfl (by decide) rfl ?_
        refine r_goto (tgt := 72) d_S_sendShadows_108 (by decide) ?_
        exact ih_s
    refine r_iload d_S_sendShadows_6 5 rfl ?_
    refine r_bipush (v := nI 12) d_S_sendShadows_8 (by decide) ?_
    refine r_icmp_geN (tgt := 69) d_S_sendShadows_10 (by decide) (by omega) (by omega) (fun c10 => ?_) (fun c10 => ?_)
    · exfalso; first | omega | (revert c10; decide) | cases c10
    refine r_iload d_S_sendShadows_13 4 rfl ?_
    refine r_if_leN (tgt := 69) d_S_sendShadows_15 (by decide) (by omega) (fun c15 => ?_) (fun c15 => ?_)
    · skip
      refine r_less (lv' := [(0, .ref (aS g)), (1, .int (nI o)), (2, .int (nI a)), (3, .int (nI most))]) (by simp) ?_
      exact r_at K69 (by first | rfl | (show hp g (ssA c o a most i) m = hp g (ssA c o a most 12) m; rw [ssA_stop (i := i) (by omega) (by omega)])) rfl rfl
    · skip
      refine r_aload_n d_S_sendShadows_18 0 rfl ?_
      refine rg_S_18 rfl d_S_sendShadows_19 gS rfl ?_
      refine r_iload d_S_sendShadows_22 5 rfl ?_
      refine r_qld (t := 2) rfl d_S_sendShadows_24 gNodes (by omega) (by decide) rfl ?_
      refine rg_S_103 rfl d_S_sendShadows_25 (gN (i := i) (by omega)) rfl ?_
      refine r_if_eqB (tgt := 63) d_S_sendShadows_28 (by decide) (fun c28 => ?_) (fun c28 => ?_)
      · skip
        have hlv : c.live i = false := (by rw [← hL]; exact c28)
        refine r_iincN (lv' := [(0, _), (1, _), (2, _), (3, _), (4, _), (5, _)]) d_S_sendShadows_63 5 rfl (by decide) rfl ?_
        refine r_goto (tgt := 6) d_S_sendShadows_66 (by decide) ?_
        first | (exact r_at ih_i (by show _ = hp g (if _ then _ else _) m; rw [if_neg (fun q => by rw [hlv] at q; exact absurd q.1 (by decide))]) (by rw [ct_f hlv]) rfl) | (exact r_at ih_i (by show _ = hp g (if _ then _ else _) m; rw [if_pos ⟨hlv, by omega⟩]) rfl rfl)
      · skip
        have hlv : c.live i = true := (by rw [← hL]; exact c28)
        refine r_aload_n d_S_sendShadows_31 0 rfl ?_
        refine rg_S_18 rfl d_S_sendShadows_32 gS rfl ?_
        refine r_iload d_S_sendShadows_35 5 rfl ?_
        refine r_qld (t := 2) rfl d_S_sendShadows_37 gNodes (by omega) (by decide) rfl ?_
        refine r_aload_n d_S_sendShadows_38 0 rfl ?_
        refine rg_S_18 rfl d_S_sendShadows_39 gS rfl ?_
        refine r_iload d_S_sendShadows_42 5 rfl ?_
        refine r_qld (t := 2) rfl d_S_sendShadows_44 gNodes (by omega) (by decide) rfl ?_
        refine rg_S_107 rfl d_S_sendShadows_45 (gN (i := i) (by omega)) rfl ?_
        refine r_iload_n d_S_sendShadows_48 1 rfl ?_
        refine r_qld (t := 3) rfl d_S_sendShadows_49 (gSh (i := i) (by omega)) (by omega) (by decide) rfl ?_
        refine r_aload_n d_S_sendShadows_50 0 rfl ?_
        refine rg_S_22 rfl d_S_sendShadows_51 gS rfl ?_
        refine r_iload_n d_S_sendShadows_54 1 rfl ?_
        refine r_aldN d_S_sendShadows_55 gBeg (by omega) (by decide) ?_
        refine r_iload_n d_S_sendShadows_56 2 rfl ?_
        refine rc_S_213 rfl d_S_sendShadows_57 (k_N_take (c := ssA c o a most i) (by omega) hb_i hsp ha (by rw [k6 i (Nat.le_refl _)]; exact hf i hb_i hlv)) (gN (i := i) (by omega)) (room_ok (d' := d - 1) (by omega) (by decide)) ⟨Nat.le_refl _, Nat.le_refl _⟩ (Nat.le_of_ble_eq_true rfl) ?_
        have el : most - ct c.live i = most - ct c.live (i + 1) + 1 := by rw [ct_t hlv]; omega
        refine r_at (lv' := [(0, .ref (aS g)), (1, .int (nI o)), (2, .int (nI a)), (3, .int (nI most)), (4, .int (nI (most - ct c.live (i + 1) + 1))), (5, .int (nI i))]) ?_ rfl (by rw [el]) rfl
        refine r_iincD (lv' := [(0, _), (1, _), (2, _), (3, _), (4, _), (5, _)]) d_S_sendShadows_60 4 rfl (by decide) rfl ?_
        refine r_iincN (lv' := [(0, _), (1, _), (2, _), (3, _), (4, _), (5, _)]) d_S_sendShadows_63 5 rfl (by decide) rfl ?_
        refine r_goto (tgt := 6) d_S_sendShadows_66 (by decide) ?_
        first | (exact r_at ih_i (by show _ = hp g (if _ then _ else _) m; rw [if_neg (fun q => by rw [hlv] at q; exact absurd q.1 (by decide))]) (by rw [ct_f hlv]) rfl) | (exact r_at ih_i (by show _ = hp g (if _ then _ else _) m; rw [if_pos ⟨hlv, by omega⟩]) rfl rfl)
