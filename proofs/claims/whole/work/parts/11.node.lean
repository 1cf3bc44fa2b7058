theorem updH_ne {h : AH} {a q : Nat} {c : AC} (e : q ≠ a) : updH h a c q = h q := if_neg e
theorem up2_ind {α : Type} {Q : α → Prop} {f : Nat → Nat → α} {i p : Nat} {v : α} (h : ∀ i p, Q (f i p)) (hv : Q v) : ∀ i' p', Q (up2 f i p v i' p') := by
  intro i' p'
  unfold up2 upN
  by_cases e : i' = i
  · rw [if_pos e]
    by_cases e2 : p' = p
    · rw [if_pos e2]; exact hv
    · rw [if_neg e2]; exact h _ _
  · rw [if_neg e]; exact h _ _
theorem CI_gu {c : CS} {i p : Nat} (h : CI c) : CI (guC c i p) := fun i' p' =>
  ⟨up2_ind (Q := fun x => x ≤ 8) (fun i p => (h i p).1) (by decide) i' p', up2_ind (Q := fun x => x < 65536) (fun i p => (h i p).2.1) (by decide) i' p', up2_ind (Q := fun x => x < 65536) (fun i p => (h i p).2.2.1) (by decide) i' p', (h i' p').2.2.2⟩
theorem rp_lt {c : CS} {i o : Nat} (h : o < 6) : rp c i o < 12 := by unfold rp; split <;> omega
theorem sp_lt {c : CS} {i o : Nat} (h : o < 6) : sp c i o < 12 := by unfold sp; split <;> omega
def swC (c : CS) (i o : Nat) : CS := c.s_sw (up2 c.sw i o (!c.sw i o))
def flC (c : CS) (i o : Nat) : CS := swC (guC c i (rp c i o)) i o
theorem sw_R (g : GX) (c : CS) (i o : Nat) : upN (qR g c i) o (some (aH g i (sp c i o))) = qR g (swC c i o) i := by
  funext q
  show (if q = o then _ else some (aH g i (2 * q + if c.sw i q then 1 else 0))) = some (aH g i (2 * q + if (up2 c.sw i o (!c.sw i o)) i q then 1 else 0))
  by_cases e : q = o
  · subst e
    rw [if_pos rfl, up2_s]
    unfold sp
    cases c.sw i q <;> rfl
  · rw [if_neg e, up2_n (fun z => e z.2)]
theorem sw_S (g : GX) (c : CS) (i o : Nat) : upN (qS g c i) o (some (aH g i (rp c i o))) = qS g (swC c i o) i := by
  funext q
  show (if q = o then _ else some (aH g i (2 * q + if c.sw i q then 0 else 1))) = some (aH g i (2 * q + if (up2 c.sw i o (!c.sw i o)) i q then 0 else 1))
  by_cases e : q = o
  · subst e
    rw [if_pos rfl, up2_s]
    unfold rp
    cases c.sw i q <;> rfl
  · rw [if_neg e, up2_n (fun z => e z.2)]
theorem sw_Rn {g : GX} {c : CS} {i o j : Nat} (h : j ≠ i) : qR g (swC c i o) j = qR g c j := by
  funext q
  show some (aH g j (2 * q + if (up2 c.sw i o (!c.sw i o)) j q then 1 else 0)) = some (aH g j (2 * q + if c.sw j q then 1 else 0))
  rw [up2_n (fun z => h z.1)]
theorem sw_Sn {g : GX} {c : CS} {i o j : Nat} (h : j ≠ i) : qS g (swC c i o) j = qS g c j := by
  funext q
  show some (aH g j (2 * q + if (up2 c.sw i o (!c.sw i o)) j q then 0 else 1)) = some (aH g j (2 * q + if c.sw j q then 0 else 1))
  rw [up2_n (fun z => h z.1)]
theorem cellK_sw {g : GX} {c : CS} {m : MS} {i o t i' j' : Nat} (h1 : t ≠ 26) (h2 : t ≠ 27) : cellK g c m t i' j' = cellK g (swC c i o) m t i' j' := by
  match t with
  | 0 => rfl
  | 1 => rfl
  | 2 => rfl
  | 3 => rfl
  | 4 => rfl
  | 5 => rfl
  | 6 => rfl
  | 7 => rfl
  | 8 => rfl
  | 9 => rfl
  | 10 => rfl
  | 11 => rfl
  | 12 => rfl
  | 13 => rfl
  | 14 => rfl
  | 15 => rfl
  | 16 => rfl
  | 17 => rfl
  | 18 => rfl
  | 19 => rfl
  | 20 => rfl
  | 21 => rfl
  | 22 => rfl
  | 23 => rfl
  | 24 => rfl
  | 25 => rfl
  | 26 => exact absurd rfl h1
  | 27 => exact absurd rfl h2
  | 28 => rfl
  | 29 => rfl
  | 30 => rfl
  | 31 => rfl
  | 32 => rfl
  | 33 => rfl
  | 34 => rfl
  | 35 => rfl
  | 36 => rfl
  | 37 => rfl
  | 38 => rfl
  | 39 => rfl
  | 40 => rfl
  | 41 => rfl
  | 42 => rfl
  | 43 => rfl
  | 44 => rfl
  | z + 45 => rfl
theorem w_flip {g : GX} {c : CS} {m : MS} {i o : Nat} (hi : i < 12) : updH (updH (hp g c m) (aR g i) (qA 3 6 (upN (qR g c i) o (some (aH g i (sp c i o)))))) (aSh g i) (qA 3 6 (upN (qS g c i) o (some (aH g i (rp c i o))))) = hp g (swC c i o) m := by
  funext a
  unfold updH
  by_cases e : a = aSh g i
  · rw [if_pos e, e, gSh hi, sw_S]
  · rw [if_neg e]
    by_cases e1 : a = aR g i
    · rw [if_pos e1, e1, gR hi, sw_R]
    · rw [if_neg e1]
      unfold hp hz
      by_cases e2 : g.1 ≤ a ∧ a < g.1 + 423
      · rw [if_pos e2, if_pos e2]
        have hok := kok_kd (r := a - g.1) (by omega)
        have n1 : kd (a - g.1) ≠ (27, i, 0) := fun q => e (by have := kd_inj (q.trans (kd_Sh hi).symm); unfold aSh; omega)
        have n2 : kd (a - g.1) ≠ (26, i, 0) := fun q => e1 (by have := kd_inj (q.trans (kd_R hi).symm); unfold aR; omega)
        generalize kd (a - g.1) = K at hok n1 n2 ⊢
        obtain ⟨t, i', j'⟩ := K
        refine congrArg some ?_
        show cellK g c m t i' j' = cellK g (swC c i o) m t i' j'
        by_cases t26 : t = 26
        · subst t26
          have hj0 : j' = 0 := (show kok 26 i' j' from hok).1 (by decide) (by decide)
          show qA 3 6 (qR g c i') = qA 3 6 (qR g (swC c i o) i')
          rw [sw_Rn (fun q => n2 (by rw [q, hj0]))]
        · by_cases t27 : t = 27
          · subst t27
            have hj0 : j' = 0 := (show kok 27 i' j' from hok).1 (by decide) (by decide)
            show qA 3 6 (qS g c i') = qA 3 6 (qS g (swC c i o) i')
            rw [sw_Sn (fun q => n1 (by rw [q, hj0]))]
          · exact cellK_sw t26 t27
      · rw [if_neg e2, if_neg e2]
theorem k_N_flip {l : Launch} {g : GX} {c : CS} {m : MS} {n d : Nat} (hd : 3 ≤ d) {i o : Nat} (hi : i < 12) (ho : o < 6) (hc : CI c) : CE l g M_N_flip d 0 0 [.ref (aN g i), .int (nI o)] n (hp g c m) (none) n (hp g (flC c i o) m) := by
  refine CE.of (by decide +kernel) (lv := [(0, .ref (aN g i)), (1, .int (nI o))]) rfl (Nat.le_of_ble_eq_true rfl) ?_
  refine r_aload_n d_N_flip_0 0 rfl ?_
  refine rg_N_21 rfl d_N_flip_1 (gN (i := i) (by omega)) rfl ?_
  refine r_iload_n d_N_flip_4 1 rfl ?_
  refine r_qld (t := 3) rfl d_N_flip_5 (gR (i := i) (by omega)) (by omega) (by decide) rfl ?_
  refine r_astore_n (lv' := [(0, _), (1, _), (2, _)]) d_N_flip_6 (by decide) rfl ?_
  refine r_aload_n d_N_flip_7 0 rfl ?_
  refine r_aload_n d_N_flip_8 2 rfl ?_
  refine rc_N_66 rfl d_N_flip_9 (k_N_giveUp (by omega) hi (rp_lt ho) hc) (gN (i := i) (by omega)) (room_ok (d' := d - 1) (by omega) (by decide)) ⟨Nat.le_refl _, Nat.le_refl _⟩ (Nat.le_of_ble_eq_true rfl) ?_
  refine r_aload_n d_N_flip_12 0 rfl ?_
  refine rg_N_21 rfl d_N_flip_13 (gN hi) rfl ?_
  refine r_iload_n d_N_flip_16 1 rfl ?_
  refine r_aload_n d_N_flip_17 0 rfl ?_
  refine rg_N_25 rfl d_N_flip_18 (gN hi) rfl ?_
  refine r_iload_n d_N_flip_21 1 rfl ?_
  refine r_qld (t := 3) rfl d_N_flip_22 (gSh hi) ho (by decide) rfl ?_
  refine r_qst (t := 3) (ci := 2) (C := R_H) (T := T_H) (N2 := 4) rfl rfl d_N_flip_23 (gR hi) (gH hi (sp_lt ho)) ho (by decide) rfl rfl ?_
  refine r_aload_n d_N_flip_24 0 rfl ?_
  refine rg_N_25 rfl d_N_flip_25 ((updH_ne (by unfold aN aR; omega)).trans (gN hi)) rfl ?_
  refine r_iload_n d_N_flip_28 1 rfl ?_
  refine r_aload_n d_N_flip_29 2 rfl ?_
  refine r_qst (t := 3) (ci := 2) (C := R_H) (T := T_H) (N2 := 4) rfl rfl d_N_flip_30 ((updH_ne (by unfold aSh aR; omega)).trans (gSh hi)) ((updH_ne (by unfold aH aR; omega)).trans (gH hi (rp_lt ho))) ho (by decide) rfl (w_flip (c := (guC c i (rp c i o))) (o := o) hi) ?_
  exact r_return d_N_flip_31 rfl ⟨rfl, rfl, rfl⟩
/-- the shadows given up, the first k of them; how many there were -/
def gsC (c : CS) (i : Nat) : Nat → CS
  | 0 => c
  | k + 1 => guC (gsC c i k) i (sp (gsC c i k) i k)
def gsN (c : CS) (i : Nat) : Nat → Nat
  | 0 => 0
  | k + 1 => gsN c i k + (if 0 < (gsC c i k).hver i (sp (gsC c i k) i k) then 1 else 0)
theorem CI_gs {c : CS} {i : Nat} (h : CI c) : ∀ k, CI (gsC c i k)
  | 0 => h
  | k + 1 => CI_gu (CI_gs h k)
def gaC (c : CS) (i : Nat) : Nat → CS
  | 0 => gsC c i 6
  | k + 1 => guC (gaC c i k) i (rp (gaC c i k) i k)
theorem CI_ga {c : CS} {i : Nat} (h : CI c) : ∀ k, CI (gaC c i k)
  | 0 => CI_gs h 6
  | k + 1 => CI_gu (CI_ga h k)
theorem k_N_giveUpShadows {l : Launch} {g : GX} {c : CS} {m : MS} {n d : Nat} (hd : 3 ≤ d) {i : Nat} (hi : i < 12) (hc : CI c) : CE l g M_N_giveUpShadows d 0 0 [.ref (aN g i)] n (hp g c m) (some (.int (nI (gsN c i 6)))) n (hp g (gsC c i 6) m) := by
  refine CE.of (by decide +kernel) (lv := [(0, .ref (aN g i))]) rfl (Nat.le_of_ble_eq_true rfl) ?_
  refine r_iconst (v := nI 0) d_N_giveUpShadows_0 (by decide) ?_
  refine r_istore_n (lv' := [(0, _), (1, _)]) d_N_giveUpShadows_1 (by decide) rfl ?_
  refine r_iconst (v := nI 0) d_N_giveUpShadows_2 (by decide) ?_
  refine r_istore_n (lv' := [(0, _), (1, _), (2, _)]) d_N_giveUpShadows_3 (by decide) rfl ?_
  refine back_ind (n := 6) (G := fun b => RJ l g M_N_giveUpShadows (RMX d 0 0) (TQ g 0 0 (QE (some (.int (nI (gsN c i 6)))) n (hp g (gsC c i 6) m))) XT n (hp g (gsC c i b) m) 0 0 4 [(0, .ref (aN g i)), (1, .int (nI (gsN c i b))), (2, .int (nI b))] []) ?_ ?_ 0 (Nat.zero_le _)
  · skip
    refine r_iload_n d_N_giveUpShadows_4 2 rfl ?_
    refine r_bipush (v := nI 6) d_N_giveUpShadows_5 (by decide) ?_
    refine r_icmp_geN (tgt := 41) d_N_giveUpShadows_7 (by decide) (by omega) (by omega) (fun c7 => ?_) (fun c7 => ?_)
    rotate_left 1
    · exfalso; first | omega | (revert c7; decide) | cases c7
    refine r_iload_n d_N_giveUpShadows_41 1 rfl ?_
    refine r_ireturn d_N_giveUpShadows_42 rfl rfl ⟨?_, rfl, ?_⟩
    · rfl
    · rfl
  · intro b hb_b ih_b
    have hb := CI_gs (i := i) hc b
    have h1 := sp_lt (c := gsC c i b) (i := i) hb_b
    have h2 := (hb i (sp (gsC c i b) i b)).2.1
    refine r_iload_n d_N_giveUpShadows_4 2 rfl ?_
    refine r_bipush (v := nI 6) d_N_giveUpShadows_5 (by decide) ?_
    refine r_icmp_geN (tgt := 41) d_N_giveUpShadows_7 (by decide) (by omega) (by omega) (fun c7 => ?_) (fun c7 => ?_)
    · exfalso; first | omega | (revert c7; decide) | cases c7
    refine r_aload_n d_N_giveUpShadows_10 0 rfl ?_
    refine rg_N_25 rfl d_N_giveUpShadows_11 (gN (i := i) (by omega)) rfl ?_
    refine r_iload_n d_N_giveUpShadows_14 2 rfl ?_
    refine r_qld (t := 3) rfl d_N_giveUpShadows_15 (gSh (i := i) (by omega)) (by omega) (by decide) rfl ?_
    refine rg_N_37 rfl d_N_giveUpShadows_16 (gH (i := i) (p := sp (gsC c i b) i b) (by omega) (by omega)) rfl ?_
    refine r_if_leN (tgt := 25) d_N_giveUpShadows_19 (by decide) (by omega) (fun c19 => ?_) (fun c19 => ?_)
    · skip
      have c19 : ¬ 0 < (gsC c i b).hver i (sp (gsC c i b) i b) := by omega
      refine r_aload_n d_N_giveUpShadows_25 0 rfl ?_
      refine r_aload_n d_N_giveUpShadows_26 0 rfl ?_
      refine rg_N_25 rfl d_N_giveUpShadows_27 (gN (i := i) (by omega)) rfl ?_
      refine r_iload_n d_N_giveUpShadows_30 2 rfl ?_
      refine r_qld (t := 3) rfl d_N_giveUpShadows_31 (gSh (i := i) (by omega)) (by omega) (by decide) rfl ?_
      refine rc_N_66 rfl d_N_giveUpShadows_32 (k_N_giveUp (by omega) hi h1 hb) (gN (i := i) (by omega)) (room_ok (d' := d - 1) (by omega) (by decide)) ⟨Nat.le_refl _, Nat.le_refl _⟩ (Nat.le_of_ble_eq_true rfl) ?_
      refine r_iincN (lv' := [(0, _), (1, _), (2, _)]) d_N_giveUpShadows_35 2 rfl (by decide) rfl ?_
      refine r_goto (tgt := 4) d_N_giveUpShadows_38 (by decide) ?_
      exact r_at ih_b rfl (by simp [gsN, c19]) rfl
    · skip
      refine r_iincN (lv' := [(0, _), (1, _), (2, _)]) d_N_giveUpShadows_22 1 rfl (by decide) rfl ?_
      refine r_aload_n d_N_giveUpShadows_25 0 rfl ?_
      refine r_aload_n d_N_giveUpShadows_26 0 rfl ?_
      refine rg_N_25 rfl d_N_giveUpShadows_27 (gN (i := i) (by omega)) rfl ?_
      refine r_iload_n d_N_giveUpShadows_30 2 rfl ?_
      refine r_qld (t := 3) rfl d_N_giveUpShadows_31 (gSh (i := i) (by omega)) (by omega) (by decide) rfl ?_
      refine rc_N_66 rfl d_N_giveUpShadows_32 (k_N_giveUp (by omega) hi h1 hb) (gN (i := i) (by omega)) (room_ok (d' := d - 1) (by omega) (by decide)) ⟨Nat.le_refl _, Nat.le_refl _⟩ (Nat.le_of_ble_eq_true rfl) ?_
      refine r_iincN (lv' := [(0, _), (1, _), (2, _)]) d_N_giveUpShadows_35 2 rfl (by decide) rfl ?_
      refine r_goto (tgt := 4) d_N_giveUpShadows_38 (by decide) ?_
      exact r_at ih_b rfl (by simp [gsN, c19]) rfl
theorem k_N_giveUpAll {l : Launch} {g : GX} {c : CS} {m : MS} {n d : Nat} (hd : 4 ≤ d) {i : Nat} (hi : i < 12) (hc : CI c) : CE l g M_N_giveUpAll d 0 0 [.ref (aN g i)] n (hp g c m) (none) n (hp g (gaC c i 6) m) := by
  refine CE.of (by decide +kernel) (lv := [(0, .ref (aN g i))]) rfl (Nat.le_of_ble_eq_true rfl) ?_
  refine r_aload_n d_N_giveUpAll_0 0 rfl ?_
  refine rc_N_70 rfl d_N_giveUpAll_1 (k_N_giveUpShadows (by omega) hi hc) (gN (i := i) (by omega)) (room_ok (d' := d - 1) (by omega) (by decide)) ⟨Nat.le_refl _, Nat.le_refl _⟩ (Nat.le_of_ble_eq_true rfl) ?_
  refine r_pop d_N_giveUpAll_4 rfl ?_
  refine r_iconst (v := nI 0) d_N_giveUpAll_5 (by decide) ?_
  refine r_istore_n (lv' := [(0, _), (1, _)]) d_N_giveUpAll_6 (by decide) rfl ?_
  refine r_heap (h' := hp g (gaC c i 0) m) rfl ?_
  refine back_ind (n := 6) (G := fun b => RJ l g M_N_giveUpAll (RMX d 0 0) (TQ g 0 0 (QE (none) n (hp g (gaC c i 6) m))) XT n (hp g (gaC c i b) m) 0 0 7 [(0, .ref (aN g i)), (1, .int (nI b))] []) ?_ ?_ 0 (Nat.zero_le _)
  · skip
    refine r_iload_n d_N_giveUpAll_7 1 rfl ?_
    refine r_bipush (v := nI 6) d_N_giveUpAll_8 (by decide) ?_
    refine r_icmp_geN (tgt := 29) d_N_giveUpAll_10 (by decide) (by omega) (by omega) (fun c10 => ?_) (fun c10 => ?_)
    rotate_left 1
    · exfalso; first | omega | (revert c10; decide) | cases c10
    refine r_return d_N_giveUpAll_29 rfl ⟨rfl, rfl, ?_⟩
    · rfl
  · intro b hb_b ih_b
    have hb := CI_ga (i := i) hc b
    have h1 := rp_lt (c := gaC c i b) (i := i) hb_b
    refine r_iload_n d_N_giveUpAll_7 1 rfl ?_
    refine r_bipush (v := nI 6) d_N_giveUpAll_8 (by decide) ?_
    refine r_icmp_geN (tgt := 29) d_N_giveUpAll_10 (by decide) (by omega) (by omega) (fun c10 => ?_) (fun c10 => ?_)
    · exfalso; first | omega | (revert c10; decide) | cases c10
    refine r_aload_n d_N_giveUpAll_13 0 rfl ?_
    refine r_aload_n d_N_giveUpAll_14 0 rfl ?_
    refine rg_N_21 rfl d_N_giveUpAll_15 (gN (i := i) (by omega)) rfl ?_
    refine r_iload_n d_N_giveUpAll_18 1 rfl ?_
    refine r_qld (t := 3) rfl d_N_giveUpAll_19 (gR (i := i) (by omega)) (by omega) (by decide) rfl ?_
    refine rc_N_66 rfl d_N_giveUpAll_20 (k_N_giveUp (by omega) hi h1 hb) (gN (i := i) (by omega)) (room_ok (d' := d - 1) (by omega) (by decide)) ⟨Nat.le_refl _, Nat.le_refl _⟩ (Nat.le_of_ble_eq_true rfl) ?_
    refine r_iincN (lv' := [(0, _), (1, _)]) d_N_giveUpAll_23 1 rfl (by decide) rfl ?_
    refine r_goto (tgt := 7) d_N_giveUpAll_26 (by decide) ?_
    exact ih_b
theorem k_N_byteAt {l : Launch} {g : GX} {c : CS} {m : MS} {n d : Nat} (hd : 0 ≤ d) {i b k : Nat} (hi : i < 12) (hb : b < 40) (hk : k < 8) (ht : c.takn i b = true) : CE l g M_N_byteAt d 0 0 [.ref (aN g i), .int (nI b), .int (nI k)] n (hp g c m) (some (.int (nI (c.data i (b * 8 + k))))) n (hp g c m) := by
  refine CE.of (by decide +kernel) (lv := [(0, .ref (aN g i)), (1, .int (nI b)), (2, .int (nI k))]) rfl (Nat.le_of_ble_eq_true rfl) ?_
  refine r_iload_n d_N_byteAt_0 1 rfl ?_
  refine r_if_ltN (tgt := 29) d_N_byteAt_1 (by decide) (by omega) (fun c1 => ?_) (fun c1 => ?_)
  · exfalso; first | omega | (revert c1; decide) | cases c1
  refine r_iload_n d_N_byteAt_4 1 rfl ?_
  refine r_bipush (v := nI 40) d_N_byteAt_5 (by decide) ?_
  refine r_icmp_geN (tgt := 29) d_N_byteAt_7 (by decide) (by omega) (by omega) (fun c7 => ?_) (fun c7 => ?_)
  · exfalso; first | omega | (revert c7; decide) | cases c7
  refine r_iload_n d_N_byteAt_10 2 rfl ?_
  refine r_if_ltN (tgt := 29) d_N_byteAt_11 (by decide) (by omega) (fun c11 => ?_) (fun c11 => ?_)
  · exfalso; first | omega | (revert c11; decide) | cases c11
  refine r_iload_n d_N_byteAt_14 2 rfl ?_
  refine r_bipush (v := nI 8) d_N_byteAt_15 (by decide) ?_
  refine r_icmp_geN (tgt := 29) d_N_byteAt_17 (by decide) (by omega) (by omega) (fun c17 => ?_) (fun c17 => ?_)
  · exfalso; first | omega | (revert c17; decide) | cases c17
  refine r_aload_n d_N_byteAt_20 0 rfl ?_
  refine rg_N_15 rfl d_N_byteAt_21 (gN (i := i) (by omega)) rfl ?_
  refine r_iload_n d_N_byteAt_24 1 rfl ?_
  refine r_zldB d_N_byteAt_25 (gT (i := i) (by omega)) (by omega) (by decide) ?_
  refine r_if_neB (tgt := 31) d_N_byteAt_26 (by decide) (fun c26 => ?_) (fun c26 => ?_)
  rotate_left 1
  · rw [ht] at c26; cases c26
  refine r_aload_n d_N_byteAt_31 0 rfl ?_
  refine rg_N_9 rfl d_N_byteAt_32 (gN (i := i) (by omega)) rfl ?_
  refine r_iload_n d_N_byteAt_35 1 rfl ?_
  refine r_bipush (v := nI 8) d_N_byteAt_36 (by decide) ?_
  refine r_imulN d_N_byteAt_38 ?_
  refine r_iload_n d_N_byteAt_39 2 rfl ?_
  refine r_iaddN d_N_byteAt_40 ?_
  refine r_aldN d_N_byteAt_41 (gD (i := i) (by omega)) (by omega) (by decide) ?_
  refine r_ireturn d_N_byteAt_42 rfl rfl ⟨?_, rfl, ?_⟩
  · rfl
  · rfl
theorem k_N_byteAtNo {l : Launch} {g : GX} {c : CS} {m : MS} {n d : Nat} (hd : 0 ≤ d) {i b k : Nat} (hi : i < 12) (hb : b < 40) (hk : k < 8) (ht : c.takn i b = false) : CE l g M_N_byteAt d 0 0 [.ref (aN g i), .int (nI b), .int (nI k)] n (hp g c m) (some (.int (-1))) n (hp g c m) := by
  refine CE.of (by decide +kernel) (lv := [(0, .ref (aN g i)), (1, .int (nI b)), (2, .int (nI k))]) rfl (Nat.le_of_ble_eq_true rfl) ?_
  refine r_iload_n d_N_byteAt_0 1 rfl ?_
  refine r_if_ltN (tgt := 29) d_N_byteAt_1 (by decide) (by omega) (fun c1 => ?_) (fun c1 => ?_)
  · exfalso; first | omega | (revert c1; decide) | cases c1
  refine r_iload_n d_N_byteAt_4 1 rfl ?_
  refine r_bipush (v := nI 40) d_N_byteAt_5 (by decide) ?_
  refine r_icmp_geN (tgt := 29) d_N_byteAt_7 (by decide) (by omega) (by omega) (fun c7 => ?_) (fun c7 => ?_)
  · exfalso; first | omega | (revert c7; decide) | cases c7
  refine r_iload_n d_N_byteAt_10 2 rfl ?_
  refine r_if_ltN (tgt := 29) d_N_byteAt_11 (by decide) (by omega) (fun c11 => ?_) (fun c11 => ?_)
  · exfalso; first | omega | (revert c11; decide) | cases c11
  refine r_iload_n d_N_byteAt_14 2 rfl ?_
  refine r_bipush (v := nI 8) d_N_byteAt_15 (by decide) ?_
  refine r_icmp_geN (tgt := 29) d_N_byteAt_17 (by decide) (by omega) (by omega) (fun c17 => ?_) (fun c17 => ?_)
  · exfalso; first | omega | (revert c17; decide) | cases c17
  refine r_aload_n d_N_byteAt_20 0 rfl ?_
  refine rg_N_15 rfl d_N_byteAt_21 (gN (i := i) (by omega)) rfl ?_
  refine r_iload_n d_N_byteAt_24 1 rfl ?_
  refine r_zldB d_N_byteAt_25 (gT (i := i) (by omega)) (by omega) (by decide) ?_
  refine r_if_neB (tgt := 31) d_N_byteAt_26 (by decide) (fun c26 => ?_) (fun c26 => ?_)
  · rw [ht] at c26; cases c26
  refine r_iconst (v := (-1)) d_N_byteAt_29 (by decide) ?_
  refine r_ireturn d_N_byteAt_30 rfl rfl ⟨?_, rfl, ?_⟩
  · rfl
  · rfl
def rdF (D : Nat → Nat) (b : Nat) (V : Nat → Nat) : Nat → Nat → Nat
  | 0 => V
  | k + 1 => upN (rdF D b V k) k (D (b * 8 + k))
def wrF (D : Nat → Nat) (b : Nat) (V : Nat → Nat) : Nat → Nat → Nat
  | 0 => D
  | k + 1 => upN (wrF D b V k) (b * 8 + k) (V k)
def wrC (c : CS) (i b k : Nat) : CS := c.s_data (upN c.data i (wrF (c.data i) b c.wire k))
theorem k_N_read {l : Launch} {g : GX} {c : CS} {m : MS} {n d : Nat} (hd : 2 ≤ d) {i b : Nat} (hi : i < 12) (hb : b < 40) (ht : c.takn i b = true) : CE l g M_N_read d 0 0 [.ref (aN g i), .int (nI b), .ref (aWir g)] n (hp g c m) (none) n (hp g (c.s_wire (rdF (c.data i) b c.wire 8)) m) := by
  refine CE.of (by decide +kernel) (lv := [(0, .ref (aN g i)), (1, .int (nI b)), (2, .ref (aWir g))]) rfl (Nat.le_of_ble_eq_true rfl) ?_
  refine r_iconst (v := nI 0) d_N_read_0 (by decide) ?_
  refine r_istore_n (lv' := [(0, _), (1, _), (2, _), (3, _)]) d_N_read_1 (by decide) rfl ?_
  refine r_heap (h' := hp g (c.s_wire (rdF (c.data i) b c.wire 0)) m) rfl ?_
  refine back_ind (n := 8) (G := fun k => RJ l g M_N_read (RMX d 0 0) (TQ g 0 0 (QE (none) n (hp g (c.s_wire (rdF (c.data i) b c.wire 8)) m))) XT n (hp g (c.s_wire (rdF (c.data i) b c.wire k)) m) 0 0 2 [(0, .ref (aN g i)), (1, .int (nI b)), (2, .ref (aWir g)), (3, .int (nI k))] []) ?_ ?_ 0 (Nat.zero_le _)
  · skip
    refine r_iload_n d_N_read_2 3 rfl ?_
    refine r_bipush (v := nI 8) d_N_read_3 (by decide) ?_
    refine r_icmp_geN (tgt := 29) d_N_read_5 (by decide) (by omega) (by omega) (fun c5 => ?_) (fun c5 => ?_)
    rotate_left 1
    · exfalso; first | omega | (revert c5; decide) | cases c5
    refine r_return d_N_read_29 rfl ⟨rfl, rfl, ?_⟩
    · rfl
  · intro k hb_k ih_k
    refine r_iload_n d_N_read_2 3 rfl ?_
    refine r_bipush (v := nI 8) d_N_read_3 (by decide) ?_
    refine r_icmp_geN (tgt := 29) d_N_read_5 (by decide) (by omega) (by omega) (fun c5 => ?_) (fun c5 => ?_)
    · exfalso; first | omega | (revert c5; decide) | cases c5
    refine r_iload_n d_N_read_8 3 rfl ?_
    refine r_aload_n d_N_read_9 2 rfl ?_
    refine r_alen (t := 0) (v := nI 8) rfl d_N_read_10 gWir rfl ?_
    refine r_icmp_geN (tgt := 29) d_N_read_11 (by decide) (by omega) (by omega) (fun c11 => ?_) (fun c11 => ?_)
    · exfalso; first | omega | (revert c11; decide) | cases c11
    refine r_aload_n d_N_read_14 2 rfl ?_
    refine r_iload_n d_N_read_15 3 rfl ?_
    refine r_aload_n d_N_read_16 0 rfl ?_
    refine r_iload_n d_N_read_17 1 rfl ?_
    refine r_iload_n d_N_read_18 3 rfl ?_
    refine rc_N_73 rfl d_N_read_19 (k_N_byteAt (c := c.s_wire (rdF (c.data i) b c.wire k)) (by omega) hi hb hb_k ht) (gN (i := i) (by omega)) (room_ok (d' := d - 1) (by omega) (by decide)) ⟨Nat.le_refl _, Nat.le_refl _⟩ (Nat.le_of_ble_eq_true rfl) ?_
    refine r_astN d_N_read_22 gWir (by omega) (by decide) (wwire) ?_
    refine r_iincN (lv' := [(0, _), (1, _), (2, _), (3, _)]) d_N_read_23 3 rfl (by decide) rfl ?_
    refine r_goto (tgt := 2) d_N_read_26 (by decide) ?_
    exact r_at ih_k rfl rfl rfl
theorem k_N_write {l : Launch} {g : GX} {c : CS} {m : MS} {n d : Nat} (hd : 2 ≤ d) {i b : Nat} (hi : i < 12) (hb : b < 40) : CE l g M_N_write d 0 0 [.ref (aN g i), .int (nI b), .ref (aWir g)] n (hp g c m) (none) n (hp g (wrC c i b 8) m) := by
  refine CE.of (by decide +kernel) (lv := [(0, .ref (aN g i)), (1, .int (nI b)), (2, .ref (aWir g))]) rfl (Nat.le_of_ble_eq_true rfl) ?_
  refine r_iload_n d_N_write_0 1 rfl ?_
  refine r_if_ltN (tgt := 10) d_N_write_1 (by decide) (by omega) (fun c1 => ?_) (fun c1 => ?_)
  · exfalso; first | omega | (revert c1; decide) | cases c1
  refine r_iload_n d_N_write_4 1 rfl ?_
  refine r_bipush (v := nI 40) d_N_write_5 (by decide) ?_
  refine r_icmp_ltN (tgt := 11) d_N_write_7 (by decide) (by omega) (by omega) (fun c7 => ?_) (fun c7 => ?_)
  rotate_left 1
  · exfalso; first | omega | (revert c7; decide) | cases c7
  refine r_iconst (v := nI 0) d_N_write_11 (by decide) ?_
  refine r_istore_n (lv' := [(0, _), (1, _), (2, _), (3, _)]) d_N_write_12 (by decide) rfl ?_
  refine r_heap (h' := hp g (wrC c i b 0) m) (congrArg (fun z => hp g z m) (CS.ext2 (data := (upN_self _ _).symm))) ?_
  refine back_ind (n := 8) (G := fun k => RJ l g M_N_write (RMX d 0 0) (TQ g 0 0 (QE (none) n (hp g (wrC c i b 8) m))) XT n (hp g (wrC c i b k) m) 0 0 13 [(0, .ref (aN g i)), (1, .int (nI b)), (2, .ref (aWir g)), (3, .int (nI k))] []) ?_ ?_ 0 (Nat.zero_le _)
  · skip
    refine r_iload_n d_N_write_13 3 rfl ?_
    refine r_bipush (v := nI 8) d_N_write_14 (by decide) ?_
    refine r_icmp_geN (tgt := 45) d_N_write_16 (by decide) (by omega) (by omega) (fun c16 => ?_) (fun c16 => ?_)
    rotate_left 1
    · exfalso; first | omega | (revert c16; decide) | cases c16
    refine r_return d_N_write_45 rfl ⟨rfl, rfl, ?_⟩
    · rfl
  · intro k hb_k ih_k
    refine r_iload_n d_N_write_13 3 rfl ?_
    refine r_bipush (v := nI 8) d_N_write_14 (by decide) ?_
    refine r_icmp_geN (tgt := 45) d_N_write_16 (by decide) (by omega) (by omega) (fun c16 => ?_) (fun c16 => ?_)
    · exfalso; first | omega | (revert c16; decide) | cases c16
    refine r_iload_n d_N_write_19 3 rfl ?_
    refine r_aload_n d_N_write_20 2 rfl ?_
    refine r_alen (t := 0) (v := nI 8) rfl d_N_write_21 gWir rfl ?_
    refine r_icmp_geN (tgt := 45) d_N_write_22 (by decide) (by omega) (by omega) (fun c22 => ?_) (fun c22 => ?_)
    · exfalso; first | omega | (revert c22; decide) | cases c22
    refine r_aload_n d_N_write_25 0 rfl ?_
    refine rg_N_9 rfl d_N_write_26 (gN (i := i) (by omega)) rfl ?_
    refine r_iload_n d_N_write_29 1 rfl ?_
    refine r_bipush (v := nI 8) d_N_write_30 (by decide) ?_
    refine r_imulN d_N_write_32 ?_
    refine r_iload_n d_N_write_33 3 rfl ?_
    refine r_iaddN d_N_write_34 ?_
    refine r_aload_n d_N_write_35 2 rfl ?_
    refine r_iload_n d_N_write_36 3 rfl ?_
    refine r_aldN d_N_write_37 gWir (by omega) (by decide) ?_
    refine r_astN d_N_write_38 (gD (i := i) (by omega)) (by omega) (by decide) (wdata (i := i) (by omega)) ?_
    refine r_iincN (lv' := [(0, _), (1, _), (2, _), (3, _)]) d_N_write_39 3 rfl (by decide) rfl ?_
    refine r_goto (tgt := 13) d_N_write_42 (by decide) ?_
    exact r_at ih_k (congrArg (fun z => hp g z m) (CS.ext2 (data := by
          show upN (upN c.data i _) i (upN ((upN c.data i _) i) _ _) = upN c.data i _
          rw [upN_step]
          rfl))) rfl rfl
