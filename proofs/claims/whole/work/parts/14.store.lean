def rver (c : CS) (i o : Nat) : Nat := c.hver i (rp c i o)
def rbyt (c : CS) (i o : Nat) : Nat := c.hbyt i (rp c i o)
def rstr (c : CS) (i o : Nat) : Nat := c.hstr i (rp c i o)
theorem CI_rver {c : CS} (h : CI c) (i o : Nat) : rver c i o < 65536 := (h i _).2.1
theorem CI_rbyt {c : CS} (h : CI c) (i o : Nat) : rbyt c i o < 65536 := (h i _).2.2.1
theorem CI_rstr {c : CS} (h : CI c) (i o : Nat) : rstr c i o ≤ 8 := (h i _).1
def frs (c : CS) (o v i : Nat) : Bool := decide (0 < v) && c.live i && decide (rver c i o = v)
/-- newest of the first nodes -/
def nwL (c : CS) (o : Nat) : Nat → Nat
  | 0 => 0
  | b + 1 => if nwL c o b < rver c b o ∧ 5 ≤ ct (frs c o (rver c b o)) 12 then rver c b o else nwL c o b
def nw (c : CS) (o : Nat) : Nat := nwL c o 12
theorem nwL_lt {c : CS} {o : Nat} (h : CI c) : ∀ b, nwL c o b < 65536
  | 0 => show 0 < 65536 by decide
  | b + 1 => by
    unfold nwL
    split
    · exact CI_rver h b o
    · exact nwL_lt h b
theorem nw_lt {c : CS} {o : Nat} (h : CI c) : nw c o < 65536 := nwL_lt h 12
def ffr (c : CS) (o : Nat) : Nat := lfF (fun i => !frs c o (nw c o) i) 12 0
def nbS (c : CS) (o : Nat) : Nat := if ffr c o < 12 then rbyt c (ffr c o) o else 0
theorem nbS_lt {c : CS} {o : Nat} (h : CI c) : nbS c o < 65536 := by
  unfold nbS
  split
  · exact CI_rbyt h _ o
  · decide
def snr (c : CS) (o v : Nat) : Bool := decide (0 < ct (fun i => decide (rver c i o = v)) 12)
def lfl (c : CS) : Nat → Nat
  | 0 => 40
  | b + 1 => if c.live b = true then (if frN c b < lfl c b then frN c b else lfl c b) else lfl c b
theorem lfl_le (c : CS) : ∀ b, lfl c b ≤ 40
  | 0 => Nat.le_refl _
  | b + 1 => by
    have := lfl_le c b
    unfold lfl
    split
    · split <;> omega
    · exact this
theorem min_nI {x y : Nat} (hx : x < 2 ^ 31) (hy : y < 2 ^ 31) : (if nI y < nI x then nI y else nI x) = nI (if y < x then y else x) := by
  by_cases h : y < x
  · rw [if_pos h, if_pos (nI_lt h hx)]
  · rw [if_neg h, if_neg (nI_nlt (by omega) hy)]
theorem k_S_liveNodes {l : Launch} {g : GX} {c : CS} {m : MS} {n d : Nat} (hd : 0 ≤ d)  : CE l g M_S_liveNodes d 0 0 [.ref (aS g)] n (hp g c m) (some (.int (nI (ct c.live 12)))) n (hp g c m) := by
  refine CE.of (by decide +kernel) (lv := [(0, .ref (aS g))]) rfl (Nat.le_of_ble_eq_true rfl) ?_
  refine r_iconst (v := nI 0) d_S_liveNodes_0 (by decide) ?_
  refine r_istore_n (lv' := [(0, _), (1, _)]) d_S_liveNodes_1 (by decide) rfl ?_
  refine r_iconst (v := nI 0) d_S_liveNodes_2 (by decide) ?_
  refine r_istore_n (lv' := [(0, _), (1, _), (2, _)]) d_S_liveNodes_3 (by decide) rfl ?_
  refine back_ind (n := 12) (G := fun b => RJ l g M_S_liveNodes (RMX d 0 0) (TQ g 0 0 (QE (some (.int (nI (ct c.live 12)))) n (hp g c m))) XT n (hp g c m) 0 0 4 [(0, .ref (aS g)), (1, .int (nI (ct c.live b))), (2, .int (nI b))] []) ?_ ?_ 0 (Nat.zero_le _)
  · skip
    refine r_iload_n d_S_liveNodes_4 2 rfl ?_
    refine r_bipush (v := nI 12) d_S_liveNodes_5 (by decide) ?_
    refine r_icmp_geN (tgt := 31) d_S_liveNodes_7 (by decide) (by omega) (by omega) (fun c7 => ?_) (fun c7 => ?_)
    rotate_left 1
    · exfalso; first | omega | (revert c7; decide) | cases c7
    refine r_iload_n d_S_liveNodes_31 1 rfl ?_
    refine r_ireturn d_S_liveNodes_32 rfl rfl ⟨?_, rfl, ?_⟩
    · rfl
    · rfl
  · intro b hb_b ih_b
    refine r_iload_n d_S_liveNodes_4 2 rfl ?_
    refine r_bipush (v := nI 12) d_S_liveNodes_5 (by decide) ?_
    refine r_icmp_geN (tgt := 31) d_S_liveNodes_7 (by decide) (by omega) (by omega) (fun c7 => ?_) (fun c7 => ?_)
    · exfalso; first | omega | (revert c7; decide) | cases c7
    refine r_aload_n d_S_liveNodes_10 0 rfl ?_
    refine rg_S_18 rfl d_S_liveNodes_11 gS rfl ?_
    refine r_iload_n d_S_liveNodes_14 2 rfl ?_
    refine r_qld (t := 2) rfl d_S_liveNodes_15 gNodes (by omega) (by decide) rfl ?_
    refine rg_S_103 rfl d_S_liveNodes_16 (gN (i := b) (by omega)) rfl ?_
    refine r_if_eqB (tgt := 25) d_S_liveNodes_19 (by decide) (fun c19 => ?_) (fun c19 => ?_)
    · skip
      refine r_iincN (lv' := [(0, _), (1, _), (2, _)]) d_S_liveNodes_25 2 rfl (by decide) rfl ?_
      refine r_goto (tgt := 4) d_S_liveNodes_28 (by decide) ?_
      exact r_at ih_b rfl (by simp [ct, c19]) rfl
    · skip
      refine r_iincN (lv' := [(0, _), (1, _), (2, _)]) d_S_liveNodes_22 1 rfl (by decide) rfl ?_
      refine r_iincN (lv' := [(0, _), (1, _), (2, _)]) d_S_liveNodes_25 2 rfl (by decide) rfl ?_
      refine r_goto (tgt := 4) d_S_liveNodes_28 (by decide) ?_
      exact r_at ih_b rfl (by simp [ct, c19]) rfl
theorem k_S_openObjects {l : Launch} {g : GX} {c : CS} {m : MS} {n d : Nat} (hd : 0 ≤ d)  : CE l g M_S_openObjects d 0 0 [.ref (aS g)] n (hp g c m) (some (.int (nI (ct c.unst 6)))) n (hp g c m) := by
  refine CE.of (by decide +kernel) (lv := [(0, .ref (aS g))]) rfl (Nat.le_of_ble_eq_true rfl) ?_
  refine r_iconst (v := nI 0) d_S_openObjects_0 (by decide) ?_
  refine r_istore_n (lv' := [(0, _), (1, _)]) d_S_openObjects_1 (by decide) rfl ?_
  refine r_iconst (v := nI 0) d_S_openObjects_2 (by decide) ?_
  refine r_istore_n (lv' := [(0, _), (1, _), (2, _)]) d_S_openObjects_3 (by decide) rfl ?_
  refine back_ind (n := 6) (G := fun b => RJ l g M_S_openObjects (RMX d 0 0) (TQ g 0 0 (QE (some (.int (nI (ct c.unst 6)))) n (hp g c m))) XT n (hp g c m) 0 0 4 [(0, .ref (aS g)), (1, .int (nI (ct c.unst b))), (2, .int (nI b))] []) ?_ ?_ 0 (Nat.zero_le _)
  · skip
    refine r_iload_n d_S_openObjects_4 2 rfl ?_
    refine r_bipush (v := nI 6) d_S_openObjects_5 (by decide) ?_
    refine r_icmp_geN (tgt := 28) d_S_openObjects_7 (by decide) (by omega) (by omega) (fun c7 => ?_) (fun c7 => ?_)
    rotate_left 1
    · exfalso; first | omega | (revert c7; decide) | cases c7
    refine r_iload_n d_S_openObjects_28 1 rfl ?_
    refine r_ireturn d_S_openObjects_29 rfl rfl ⟨?_, rfl, ?_⟩
    · rfl
    · rfl
  · intro b hb_b ih_b
    refine r_iload_n d_S_openObjects_4 2 rfl ?_
    refine r_bipush (v := nI 6) d_S_openObjects_5 (by decide) ?_
    refine r_icmp_geN (tgt := 28) d_S_openObjects_7 (by decide) (by omega) (by omega) (fun c7 => ?_) (fun c7 => ?_)
    · exfalso; first | omega | (revert c7; decide) | cases c7
    refine r_aload_n d_S_openObjects_10 0 rfl ?_
    refine rg_S_26 rfl d_S_openObjects_11 gS rfl ?_
    refine r_iload_n d_S_openObjects_14 2 rfl ?_
    refine r_zldB d_S_openObjects_15 gUns (by omega) (by decide) ?_
    refine r_if_eqB (tgt := 22) d_S_openObjects_16 (by decide) (fun c16 => ?_) (fun c16 => ?_)
    · skip
      refine r_iincN (lv' := [(0, _), (1, _), (2, _)]) d_S_openObjects_22 2 rfl (by decide) rfl ?_
      refine r_goto (tgt := 4) d_S_openObjects_25 (by decide) ?_
      exact r_at ih_b rfl (by simp [ct, c16]) rfl
    · skip
      refine r_iincN (lv' := [(0, _), (1, _), (2, _)]) d_S_openObjects_19 1 rfl (by decide) rfl ?_
      refine r_iincN (lv' := [(0, _), (1, _), (2, _)]) d_S_openObjects_22 2 rfl (by decide) rfl ?_
      refine r_goto (tgt := 4) d_S_openObjects_25 (by decide) ?_
      exact r_at ih_b rfl (by simp [ct, c16]) rfl
theorem k_S_leastFreeOfLive {l : Launch} {g : GX} {c : CS} {m : MS} {n d : Nat} (hd : 2 ≤ d)  : CE l g M_S_leastFreeOfLive d 0 0 [.ref (aS g)] n (hp g c m) (some (.int (nI (lfl c 12)))) n (hp g c m) := by
  refine CE.of (by decide +kernel) (lv := [(0, .ref (aS g))]) rfl (Nat.le_of_ble_eq_true rfl) ?_
  refine r_bipush (v := nI 40) d_S_leastFreeOfLive_0 (by decide) ?_
  refine r_istore_n (lv' := [(0, _), (1, _)]) d_S_leastFreeOfLive_2 (by decide) rfl ?_
  refine r_iconst (v := nI 0) d_S_leastFreeOfLive_3 (by decide) ?_
  refine r_istore_n (lv' := [(0, _), (1, _), (2, _)]) d_S_leastFreeOfLive_4 (by decide) rfl ?_
  refine back_ind (n := 12) (G := fun b => RJ l g M_S_leastFreeOfLive (RMX d 0 0) (TQ g 0 0 (QE (some (.int (nI (lfl c 12)))) n (hp g c m))) XT n (hp g c m) 0 0 5 [(0, .ref (aS g)), (1, .int (nI (lfl c b))), (2, .int (nI b))] []) ?_ ?_ 0 (Nat.zero_le _)
  · skip
    refine r_iload_n d_S_leastFreeOfLive_5 2 rfl ?_
    refine r_bipush (v := nI 12) d_S_leastFreeOfLive_6 (by decide) ?_
    refine r_icmp_geN (tgt := 43) d_S_leastFreeOfLive_8 (by decide) (by omega) (by omega) (fun c8 => ?_) (fun c8 => ?_)
    rotate_left 1
    · exfalso; first | omega | (revert c8; decide) | cases c8
    refine r_iload_n d_S_leastFreeOfLive_43 1 rfl ?_
    refine r_ireturn d_S_leastFreeOfLive_44 rfl rfl ⟨?_, rfl, ?_⟩
    · rfl
    · rfl
  · intro b hb_b ih_b
    have hb1 := lfl_le c b
    have hb2 : frN c b ≤ 40 := ct_le _ 40
    refine r_iload_n d_S_leastFreeOfLive_5 2 rfl ?_
    refine r_bipush (v := nI 12) d_S_leastFreeOfLive_6 (by decide) ?_
    refine r_icmp_geN (tgt := 43) d_S_leastFreeOfLive_8 (by decide) (by omega) (by omega) (fun c8 => ?_) (fun c8 => ?_)
    · exfalso; first | omega | (revert c8; decide) | cases c8
    refine r_aload_n d_S_leastFreeOfLive_11 0 rfl ?_
    refine rg_S_18 rfl d_S_leastFreeOfLive_12 gS rfl ?_
    refine r_iload_n d_S_leastFreeOfLive_15 2 rfl ?_
    refine r_qld (t := 2) rfl d_S_leastFreeOfLive_16 gNodes (by omega) (by decide) rfl ?_
    refine rg_S_103 rfl d_S_leastFreeOfLive_17 (gN (i := b) (by omega)) rfl ?_
    refine r_if_eqB (tgt := 37) d_S_leastFreeOfLive_20 (by decide) (fun c20 => ?_) (fun c20 => ?_)
    · skip
      refine r_iincN (lv' := [(0, _), (1, _), (2, _)]) d_S_leastFreeOfLive_37 2 rfl (by decide) rfl ?_
      refine r_goto (tgt := 5) d_S_leastFreeOfLive_40 (by decide) ?_
      exact r_at ih_b rfl (by simp [lfl, c20]) rfl
    · skip
      refine r_iload_n d_S_leastFreeOfLive_23 1 rfl ?_
      refine r_aload_n d_S_leastFreeOfLive_24 0 rfl ?_
      refine rg_S_18 rfl d_S_leastFreeOfLive_25 gS rfl ?_
      refine r_iload_n d_S_leastFreeOfLive_28 2 rfl ?_
      refine r_qld (t := 2) rfl d_S_leastFreeOfLive_29 gNodes (by omega) (by decide) rfl ?_
      refine rc_S_140 rfl d_S_leastFreeOfLive_30 (k_N_freeBlocks (by omega) hb_b) (gN (i := b) (by omega)) (room_ok (d' := d - 1) (by omega) (by decide)) ⟨Nat.le_refl _, Nat.le_refl _⟩ (Nat.le_of_ble_eq_true rfl) ?_
      refine r_min d_S_leastFreeOfLive_33 (by decide +kernel) (by decide +kernel) (by decide +kernel) (by decide +kernel) ⟨by show 1 ≤ d; omega, by show _ ≤ 36 * d; simp [Value.category]; omega⟩ ⟨Nat.le_refl _, Nat.le_refl _⟩ ?_
      refine r_top (y := (nI (if frN c b < lfl c b then frN c b else lfl c b))) (min_nI (by omega) (by omega)) ?_
      refine r_istore_n (lv' := [(0, _), (1, _), (2, _)]) d_S_leastFreeOfLive_36 (by decide) rfl ?_
      refine r_iincN (lv' := [(0, _), (1, _), (2, _)]) d_S_leastFreeOfLive_37 2 rfl (by decide) rfl ?_
      refine r_goto (tgt := 5) d_S_leastFreeOfLive_40 (by decide) ?_
      exact r_at ih_b rfl (by simp [lfl, c20]) rfl
theorem k_S_isFresh {l : Launch} {g : GX} {c : CS} {m : MS} {n d : Nat} (hd : 0 ≤ d) {i o v : Nat} (hi : i < 12) (ho : o < 6) (hv : v < 65536) (hc : CI c) : CE l g M_S_isFresh d 0 0 [.ref (aS g), .int (nI i), .int (nI o), .int (nI v)] n (hp g c m) (some (.int (b2 (frs c o v i)))) n (hp g c m) := by
  have hq := rp_lt (c := c) (i := i) ho
  have h2 : c.hver i (rp c i o) < 65536 := (hc i _).2.1
  refine CE.of (by decide +kernel) (lv := [(0, .ref (aS g)), (1, .int (nI i)), (2, .int (nI o)), (3, .int (nI v))]) rfl (Nat.le_of_ble_eq_true rfl) ?_
  refine r_iload_n d_S_isFresh_0 3 rfl ?_
  refine r_if_leN (tgt := 38) d_S_isFresh_1 (by decide) (by omega) (fun c1 => ?_) (fun c1 => ?_)
  · skip
    refine r_iconst (v := nI 0) d_S_isFresh_38 (by decide) ?_
    refine r_ireturn d_S_isFresh_39 rfl rfl ⟨?_, rfl, ?_⟩
    · first | exact vb0 (by simp [frs, rver, *]) | exact vb1 (by simp [frs, rver, *]) | exact vb0 (by have q : v = 0 := (by omega); simp [frs, q])
    · rfl
  · skip
    refine r_aload_n d_S_isFresh_4 0 rfl ?_
    refine rg_S_18 rfl d_S_isFresh_5 gS rfl ?_
    refine r_iload_n d_S_isFresh_8 1 rfl ?_
    refine r_qld (t := 2) rfl d_S_isFresh_9 gNodes (by omega) (by decide) rfl ?_
    refine rg_S_103 rfl d_S_isFresh_10 (gN (i := i) (by omega)) rfl ?_
    refine r_if_eqB (tgt := 38) d_S_isFresh_13 (by decide) (fun c13 => ?_) (fun c13 => ?_)
    · skip
      refine r_iconst (v := nI 0) d_S_isFresh_38 (by decide) ?_
      refine r_ireturn d_S_isFresh_39 rfl rfl ⟨?_, rfl, ?_⟩
      · first | exact vb0 (by simp [frs, rver, *]) | exact vb1 (by simp [frs, rver, *]) | exact vb0 (by have q : v = 0 := (by omega); simp [frs, q])
      · rfl
    · skip
      refine r_aload_n d_S_isFresh_16 0 rfl ?_
      refine rg_S_18 rfl d_S_isFresh_17 gS rfl ?_
      refine r_iload_n d_S_isFresh_20 1 rfl ?_
      refine r_qld (t := 2) rfl d_S_isFresh_21 gNodes (by omega) (by decide) rfl ?_
      refine rg_S_173 rfl d_S_isFresh_22 (gN (i := i) (by omega)) rfl ?_
      refine r_iload_n d_S_isFresh_25 2 rfl ?_
      refine r_qld (t := 3) rfl d_S_isFresh_26 (gR (i := i) (by omega)) (by omega) (by decide) rfl ?_
      refine rg_S_111 rfl d_S_isFresh_27 (gH (i := i) (p := rp c i o) (by omega) (by omega)) rfl ?_
      refine r_iload_n d_S_isFresh_30 3 rfl ?_
      refine r_icmp_neN (tgt := 38) d_S_isFresh_31 (by decide) (by omega) (by omega) (fun c31 => ?_) (fun c31 => ?_)
      · skip
        refine r_iconst (v := nI 0) d_S_isFresh_38 (by decide) ?_
        refine r_ireturn d_S_isFresh_39 rfl rfl ⟨?_, rfl, ?_⟩
        · first | exact vb0 (by simp [frs, rver, *]) | exact vb1 (by simp [frs, rver, *]) | exact vb0 (by have q : v = 0 := (by omega); simp [frs, q])
        · rfl
      · skip
        refine r_iconst (v := nI 1) d_S_isFresh_34 (by decide) ?_
        refine r_goto (tgt := 39) d_S_isFresh_35 (by decide) ?_
        refine r_ireturn d_S_isFresh_39 rfl rfl ⟨?_, rfl, ?_⟩
        · first | exact vb0 (by simp [frs, rver, *]) | exact vb1 (by simp [frs, rver, *]) | exact vb0 (by have q : v = 0 := (by omega); simp [frs, q])
        · rfl
theorem k_S_liveHolders {l : Launch} {g : GX} {c : CS} {m : MS} {n d : Nat} (hd : 1 ≤ d) {o v : Nat} (ho : o < 6) (hv : v < 65536) (hc : CI c) : CE l g M_S_liveHolders d 0 0 [.ref (aS g), .int (nI o), .int (nI v)] n (hp g c m) (some (.int (nI (ct (frs c o v) 12)))) n (hp g c m) := by
  refine CE.of (by decide +kernel) (lv := [(0, .ref (aS g)), (1, .int (nI o)), (2, .int (nI v))]) rfl (Nat.le_of_ble_eq_true rfl) ?_
  refine r_iconst (v := nI 0) d_S_liveHolders_0 (by decide) ?_
  refine r_istore_n (lv' := [(0, _), (1, _), (2, _), (3, _)]) d_S_liveHolders_1 (by decide) rfl ?_
  refine r_iconst (v := nI 0) d_S_liveHolders_2 (by decide) ?_
  refine r_istore (lv' := [(0, _), (1, _), (2, _), (3, _), (4, _)]) d_S_liveHolders_3 (by decide) rfl ?_
  refine back_ind (n := 12) (G := fun b => RJ l g M_S_liveHolders (RMX d 0 0) (TQ g 0 0 (QE (some (.int (nI (ct (frs c o v) 12)))) n (hp g c m))) XT n (hp g c m) 0 0 5 [(0, .ref (aS g)), (1, .int (nI o)), (2, .int (nI v)), (3, .int (nI (ct (frs c o v) b))), (4, .int (nI b))] []) ?_ ?_ 0 (Nat.zero_le _)
  · skip
    refine r_iload d_S_liveHolders_5 4 rfl ?_
    refine r_bipush (v := nI 12) d_S_liveHolders_7 (by decide) ?_
    refine r_icmp_geN (tgt := 32) d_S_liveHolders_9 (by decide) (by omega) (by omega) (fun c9 => ?_) (fun c9 => ?_)
    rotate_left 1
    · exfalso; first | omega | (revert c9; decide) | cases c9
    refine r_iload_n d_S_liveHolders_32 3 rfl ?_
    refine r_ireturn d_S_liveHolders_33 rfl rfl ⟨?_, rfl, ?_⟩
    · rfl
    · rfl
  · intro b hb_b ih_b
    refine r_iload d_S_liveHolders_5 4 rfl ?_
    refine r_bipush (v := nI 12) d_S_liveHolders_7 (by decide) ?_
    refine r_icmp_geN (tgt := 32) d_S_liveHolders_9 (by decide) (by omega) (by omega) (fun c9 => ?_) (fun c9 => ?_)
    · exfalso; first | omega | (revert c9; decide) | cases c9
    refine r_aload_n d_S_liveHolders_12 0 rfl ?_
    refine r_iload d_S_liveHolders_13 4 rfl ?_
    refine r_iload_n d_S_liveHolders_15 1 rfl ?_
    refine r_iload_n d_S_liveHolders_16 2 rfl ?_
    refine rc_S_159 rfl d_S_liveHolders_17 (k_S_isFresh (by omega) hb_b ho hv hc) gS (room_ok (d' := d - 1) (by omega) (by decide)) ⟨Nat.le_refl _, Nat.le_refl _⟩ (Nat.le_of_ble_eq_true rfl) ?_
    refine r_if_eqB (tgt := 26) d_S_liveHolders_20 (by decide) (fun c20 => ?_) (fun c20 => ?_)
    · skip
      refine r_iincN (lv' := [(0, _), (1, _), (2, _), (3, _), (4, _)]) d_S_liveHolders_26 4 rfl (by decide) rfl ?_
      refine r_goto (tgt := 5) d_S_liveHolders_29 (by decide) ?_
      exact r_at ih_b rfl (by simp [ct, c20]) rfl
    · skip
      refine r_iincN (lv' := [(0, _), (1, _), (2, _), (3, _), (4, _)]) d_S_liveHolders_23 3 rfl (by decide) rfl ?_
      refine r_iincN (lv' := [(0, _), (1, _), (2, _), (3, _), (4, _)]) d_S_liveHolders_26 4 rfl (by decide) rfl ?_
      refine r_goto (tgt := 5) d_S_liveHolders_29 (by decide) ?_
      exact r_at ih_b rfl (by simp [ct, c20]) rfl
theorem k_S_newestOf {l : Launch} {g : GX} {c : CS} {m : MS} {n d : Nat} (hd : 2 ≤ d) {o : Nat} (ho : o < 6) (hc : CI c) : CE l g M_S_newestOf d 0 0 [.ref (aS g), .int (nI o)] n (hp g c m) (some (.int (nI (nw c o)))) n (hp g c m) := by
  refine CE.of (by decide +kernel) (lv := [(0, .ref (aS g)), (1, .int (nI o))]) rfl (Nat.le_of_ble_eq_true rfl) ?_
  refine r_iconst (v := nI 0) d_S_newestOf_0 (by decide) ?_
  refine r_istore_n (lv' := [(0, _), (1, _), (2, _)]) d_S_newestOf_1 (by decide) rfl ?_
  refine r_iconst (v := nI 0) d_S_newestOf_2 (by decide) ?_
  refine r_istore_n (lv' := [(0, _), (1, _), (2, _), (3, _)]) d_S_newestOf_3 (by decide) rfl ?_
  refine r_less (lv' := [(0, .ref (aS g)), (1, .int (nI o)), (2, .int (nI 0)), (3, .int (nI 0))]) (by simp) ?_
  refine back_ind (n := 12) (G := fun b => RJ l g M_S_newestOf (RMX d 0 0) (TQ g 0 0 (QE (some (.int (nI (nw c o)))) n (hp g c m))) XT n (hp g c m) 0 0 4 [(0, .ref (aS g)), (1, .int (nI o)), (2, .int (nI (nwL c o b))), (3, .int (nI b))] []) ?_ ?_ 0 (Nat.zero_le _)
  · skip
    refine r_iload_n d_S_newestOf_4 3 rfl ?_
    refine r_bipush (v := nI 12) d_S_newestOf_5 (by decide) ?_
    refine r_icmp_geN (tgt := 52) d_S_newestOf_7 (by decide) (by omega) (by omega) (fun c7 => ?_) (fun c7 => ?_)
    rotate_left 1
    · exfalso; first | omega | (revert c7; decide) | cases c7
    refine r_iload_n d_S_newestOf_52 2 rfl ?_
    refine r_ireturn d_S_newestOf_53 rfl rfl ⟨?_, rfl, ?_⟩
    · rfl
    · rfl
  · intro b hb_b ih_b
    have hq := rp_lt (c := c) (i := b) ho
    have h1 := nwL_lt (o := o) hc b
    have h2 := CI_rver hc b o
    have h3 := ct_le (frs c o (rver c b o)) 12
    refine r_iload_n d_S_newestOf_4 3 rfl ?_
    refine r_bipush (v := nI 12) d_S_newestOf_5 (by decide) ?_
    refine r_icmp_geN (tgt := 52) d_S_newestOf_7 (by decide) (by omega) (by omega) (fun c7 => ?_) (fun c7 => ?_)
    · exfalso; first | omega | (revert c7; decide) | cases c7
    refine r_aload_n d_S_newestOf_10 0 rfl ?_
    refine rg_S_18 rfl d_S_newestOf_11 gS rfl ?_
    refine r_iload_n d_S_newestOf_14 3 rfl ?_
    refine r_qld (t := 2) rfl d_S_newestOf_15 gNodes (by omega) (by decide) rfl ?_
    refine rg_S_173 rfl d_S_newestOf_16 (gN (i := b) (by omega)) rfl ?_
    refine r_iload_n d_S_newestOf_19 1 rfl ?_
    refine r_qld (t := 3) rfl d_S_newestOf_20 (gR (i := b) (by omega)) (by omega) (by decide) rfl ?_
    refine rg_S_111 rfl d_S_newestOf_21 (gH (i := b) (p := rp c b o) (by omega) (by omega)) rfl ?_
    refine r_top (y := nI (rver c b o)) rfl ?_
    refine r_istore (lv' := [(0, _), (1, _), (2, _), (3, _), (4, _)]) d_S_newestOf_24 (by decide) rfl ?_
    refine r_iload d_S_newestOf_26 4 rfl ?_
    refine r_iload_n d_S_newestOf_28 2 rfl ?_
    refine r_icmp_leN (tgt := 46) d_S_newestOf_29 (by decide) (by omega) (by omega) (fun c29 => ?_) (fun c29 => ?_)
    · skip
      refine r_iincN (lv' := [(0, _), (1, _), (2, _), (3, _), (4, _)]) d_S_newestOf_46 3 rfl (by decide) rfl ?_
      refine r_goto (tgt := 4) d_S_newestOf_49 (by decide) ?_
      refine r_less (lv' := [(0, .ref (aS g)), (1, .int (nI o)), (2, .int (nI (nwL c o b))), (3, .int (nI (b + 1)))]) (by simp) ?_
      exact r_at ih_b rfl (by first | (simp only [nwL, if_pos (show nwL c o b < rver c b o ∧ 5 ≤ ct (frs c o (rver c b o)) 12 from ⟨by omega, by omega⟩)]; done) | (simp only [nwL, if_neg (show ¬ (nwL c o b < rver c b o ∧ 5 ≤ ct (frs c o (rver c b o)) 12) by omega)])) rfl
    · skip
      refine r_aload_n d_S_newestOf_32 0 rfl ?_
      refine r_iload_n d_S_newestOf_33 1 rfl ?_
      refine r_iload d_S_newestOf_34 4 rfl ?_
      refine rc_S_198 rfl d_S_newestOf_36 (k_S_liveHolders (by omega) ho h2 hc) gS (room_ok (d' := d - 1) (by omega) (by decide)) ⟨Nat.le_refl _, Nat.le_refl _⟩ (Nat.le_of_ble_eq_true rfl) ?_
      refine r_iconst (v := nI 5) d_S_newestOf_39 (by decide) ?_
      refine r_icmp_ltN (tgt := 46) d_S_newestOf_40 (by decide) (by omega) (by omega) (fun c40 => ?_) (fun c40 => ?_)
      · skip
        refine r_iincN (lv' := [(0, _), (1, _), (2, _), (3, _), (4, _)]) d_S_newestOf_46 3 rfl (by decide) rfl ?_
        refine r_goto (tgt := 4) d_S_newestOf_49 (by decide) ?_
        refine r_less (lv' := [(0, .ref (aS g)), (1, .int (nI o)), (2, .int (nI (nwL c o b))), (3, .int (nI (b + 1)))]) (by simp) ?_
        exact r_at ih_b rfl (by first | (simp only [nwL, if_pos (show nwL c o b < rver c b o ∧ 5 ≤ ct (frs c o (rver c b o)) 12 from ⟨by omega, by omega⟩)]; done) | (simp only [nwL, if_neg (show ¬ (nwL c o b < rver c b o ∧ 5 ≤ ct (frs c o (rver c b o)) 12) by omega)])) rfl
      · skip
        refine r_iload d_S_newestOf_43 4 rfl ?_
        refine r_istore_n (lv' := [(0, _), (1, _), (2, _), (3, _), (4, _)]) d_S_newestOf_45 (by decide) rfl ?_
        refine r_iincN (lv' := [(0, _), (1, _), (2, _), (3, _), (4, _)]) d_S_newestOf_46 3 rfl (by decide) rfl ?_
        refine r_goto (tgt := 4) d_S_newestOf_49 (by decide) ?_
        refine r_less (lv' := [(0, .ref (aS g)), (1, .int (nI o)), (2, .int (nI (rver c b o))), (3, .int (nI (b + 1)))]) (by simp) ?_
        exact r_at ih_b rfl (by first | (simp only [nwL, if_pos (show nwL c o b < rver c b o ∧ 5 ≤ ct (frs c o (rver c b o)) 12 from ⟨by omega, by omega⟩)]; done) | (simp only [nwL, if_neg (show ¬ (nwL c o b < rver c b o ∧ 5 ≤ ct (frs c o (rver c b o)) 12) by omega)])) rfl
theorem k_S_newestBytes {l : Launch} {g : GX} {c : CS} {m : MS} {n d : Nat} (hd : 3 ≤ d) {o : Nat} (ho : o < 6) (hc : CI c) : CE l g M_S_newestBytes d 0 0 [.ref (aS g), .int (nI o)] n (hp g c m) (some (.int (nI (nbS c o)))) n (hp g c m) := by
  have hw := nw_lt (o := o) hc
  refine CE.of (by decide +kernel) (lv := [(0, .ref (aS g)), (1, .int (nI o))]) rfl (Nat.le_of_ble_eq_true rfl) ?_
  refine r_aload_n d_S_newestBytes_0 0 rfl ?_
  refine r_iload_n d_S_newestBytes_1 1 rfl ?_
  refine rc_S_134 rfl d_S_newestBytes_2 (k_S_newestOf (by omega) ho hc) gS (room_ok (d' := d - 1) (by omega) (by decide)) ⟨Nat.le_refl _, Nat.le_refl _⟩ (Nat.le_of_ble_eq_true rfl) ?_
  refine r_istore_n (lv' := [(0, _), (1, _), (2, _)]) d_S_newestBytes_5 (by decide) rfl ?_
  refine r_iconst (v := nI 0) d_S_newestBytes_6 (by decide) ?_
  refine r_istore_n (lv' := [(0, _), (1, _), (2, _), (3, _)]) d_S_newestBytes_7 (by decide) rfl ?_
  refine back_ind (n := 12) (G := fun b => (∀ i, i < b → frs c o (nw c o) i = false) → RJ l g M_S_newestBytes (RMX d 0 0) (TQ g 0 0 (QE (some (.int (nI (nbS c o)))) n (hp g c m))) XT n (hp g c m) 0 0 8 [(0, .ref (aS g)), (1, .int (nI o)), (2, .int (nI (nw c o))), (3, .int (nI b))] []) ?_ ?_ 0 (Nat.zero_le _) (fun i hi => absurd hi (by omega))
  · skip
    intro hv_b
    have e : ffr c o = 12 := lfF_all (f := 12) (k := 0) (fun b _ hb => by rw [hv_b b (by omega)]; rfl)
    refine r_iload_n d_S_newestBytes_8 3 rfl ?_
    refine r_bipush (v := nI 12) d_S_newestBytes_9 (by decide) ?_
    refine r_icmp_geN (tgt := 45) d_S_newestBytes_11 (by decide) (by omega) (by omega) (fun c11 => ?_) (fun c11 => ?_)
    rotate_left 1
    · exfalso; first | omega | (revert c11; decide) | cases c11
    refine r_iconst (v := nI 0) d_S_newestBytes_45 (by decide) ?_
    refine r_ireturn d_S_newestBytes_46 rfl rfl ⟨?_, rfl, ?_⟩
    · (unfold nbS; rw [e, if_neg (by decide)])
    · rfl
  · intro b hb_b ih_b hv_b
    refine r_iload_n d_S_newestBytes_8 3 rfl ?_
    refine r_bipush (v := nI 12) d_S_newestBytes_9 (by decide) ?_
    refine r_icmp_geN (tgt := 45) d_S_newestBytes_11 (by decide) (by omega) (by omega) (fun c11 => ?_) (fun c11 => ?_)
    · exfalso; first | omega | (revert c11; decide) | cases c11
    refine r_aload_n d_S_newestBytes_14 0 rfl ?_
    refine r_iload_n d_S_newestBytes_15 3 rfl ?_
    refine r_iload_n d_S_newestBytes_16 1 rfl ?_
    refine r_iload_n d_S_newestBytes_17 2 rfl ?_
    refine rc_S_159 rfl d_S_newestBytes_18 (k_S_isFresh (by omega) hb_b ho hw hc) gS (room_ok (d' := d - 1) (by omega) (by decide)) ⟨Nat.le_refl _, Nat.le_refl _⟩ (Nat.le_of_ble_eq_true rfl) ?_
    refine r_if_eqB (tgt := 39) d_S_newestBytes_21 (by decide) (fun c21 => ?_) (fun c21 => ?_)
    · skip
      refine r_iincN (lv' := [(0, _), (1, _), (2, _), (3, _)]) d_S_newestBytes_39 3 rfl (by decide) rfl ?_
      refine r_goto (tgt := 8) d_S_newestBytes_42 (by decide) ?_
      exact ih_b (fun i hi => by rcases Nat.lt_or_ge i b with q | q; exact hv_b i q; rw [show i = b by omega]; exact c21)
    · skip
      have hq := rp_lt (c := c) (i := b) ho
      have e : ffr c o = b := lfF_at (j := b) (f := 12) (k := 0) (fun i _ hi => by rw [hv_b i hi]; rfl) (by rw [c21]; rfl) (Nat.zero_le _) (by omega)
      refine r_aload_n d_S_newestBytes_24 0 rfl ?_
      refine rg_S_18 rfl d_S_newestBytes_25 gS rfl ?_
      refine r_iload_n d_S_newestBytes_28 3 rfl ?_
      refine r_qld (t := 2) rfl d_S_newestBytes_29 gNodes (by omega) (by decide) rfl ?_
      refine rg_S_173 rfl d_S_newestBytes_30 (gN (i := b) (by omega)) rfl ?_
      refine r_iload_n d_S_newestBytes_33 1 rfl ?_
      refine r_qld (t := 3) rfl d_S_newestBytes_34 (gR (i := b) (by omega)) (by omega) (by decide) rfl ?_
      refine rg_S_201 rfl d_S_newestBytes_35 (gH (i := b) (p := rp c b o) (by omega) (by omega)) rfl ?_
      refine r_ireturn d_S_newestBytes_38 rfl rfl ⟨?_, rfl, ?_⟩
      · (unfold nbS; rw [e, if_pos hb_b]; rfl)
      · rfl
theorem k_S_someNodeRecords {l : Launch} {g : GX} {c : CS} {m : MS} {n d : Nat} (hd : 0 ≤ d) {o v : Nat} (ho : o < 6) (hv : v < 65536) (hc : CI c) : CE l g M_S_someNodeRecords d 0 0 [.ref (aS g), .int (nI o), .int (nI v)] n (hp g c m) (some (.int (b2 (snr c o v)))) n (hp g c m) := by
  refine CE.of (by decide +kernel) (lv := [(0, .ref (aS g)), (1, .int (nI o)), (2, .int (nI v))]) rfl (Nat.le_of_ble_eq_true rfl) ?_
  refine r_iconst (v := nI 0) d_S_someNodeRecords_0 (by decide) ?_
  refine r_istore_n (lv' := [(0, _), (1, _), (2, _), (3, _)]) d_S_someNodeRecords_1 (by decide) rfl ?_
  refine back_ind (n := 12) (G := fun b => (ct (fun i => decide (rver c i o = v)) b = 0) → RJ l g M_S_someNodeRecords (RMX d 0 0) (TQ g 0 0 (QE (some (.int (b2 (snr c o v)))) n (hp g c m))) XT n (hp g c m) 0 0 2 [(0, .ref (aS g)), (1, .int (nI o)), (2, .int (nI v)), (3, .int (nI b))] []) ?_ ?_ 0 (Nat.zero_le _) rfl
  · skip
    intro hv_b
    refine r_iload_n d_S_someNodeRecords_2 3 rfl ?_
    refine r_bipush (v := nI 12) d_S_someNodeRecords_3 (by decide) ?_
    refine r_icmp_geN (tgt := 34) d_S_someNodeRecords_5 (by decide) (by omega) (by omega) (fun c5 => ?_) (fun c5 => ?_)
    rotate_left 1
    · exfalso; first | omega | (revert c5; decide) | cases c5
    refine r_iconst (v := nI 0) d_S_someNodeRecords_34 (by decide) ?_
    refine r_ireturn d_S_someNodeRecords_35 rfl rfl ⟨?_, rfl, ?_⟩
    · exact vb0 (by unfold snr; rw [hv_b]; rfl)
    · rfl
  · intro b hb_b ih_b hv_b
    have hq := rp_lt (c := c) (i := b) ho
    have h2 := CI_rver hc b o
    refine r_iload_n d_S_someNodeRecords_2 3 rfl ?_
    refine r_bipush (v := nI 12) d_S_someNodeRecords_3 (by decide) ?_
    refine r_icmp_geN (tgt := 34) d_S_someNodeRecords_5 (by decide) (by omega) (by omega) (fun c5 => ?_) (fun c5 => ?_)
    · exfalso; first | omega | (revert c5; decide) | cases c5
    refine r_aload_n d_S_someNodeRecords_8 0 rfl ?_
    refine rg_S_18 rfl d_S_someNodeRecords_9 gS rfl ?_
    refine r_iload_n d_S_someNodeRecords_12 3 rfl ?_
    refine r_qld (t := 2) rfl d_S_someNodeRecords_13 gNodes (by omega) (by decide) rfl ?_
    refine rg_S_173 rfl d_S_someNodeRecords_14 (gN (i := b) (by omega)) rfl ?_
    refine r_iload_n d_S_someNodeRecords_17 1 rfl ?_
    refine r_qld (t := 3) rfl d_S_someNodeRecords_18 (gR (i := b) (by omega)) (by omega) (by decide) rfl ?_
    refine rg_S_111 rfl d_S_someNodeRecords_19 (gH (i := b) (p := rp c b o) (by omega) (by omega)) rfl ?_
    refine r_top (y := nI (rver c b o)) rfl ?_
    refine r_iload_n d_S_someNodeRecords_22 2 rfl ?_
    refine r_icmp_neN (tgt := 28) d_S_someNodeRecords_23 (by decide) (by omega) (by omega) (fun c23 => ?_) (fun c23 => ?_)
    · skip
      refine r_iincN (lv' := [(0, _), (1, _), (2, _), (3, _)]) d_S_someNodeRecords_28 3 rfl (by decide) rfl ?_
      refine r_goto (tgt := 2) d_S_someNodeRecords_31 (by decide) ?_
      exact ih_b (by rw [ct_f (by simp [c23]), hv_b])
    · skip
      refine r_iconst (v := nI 1) d_S_someNodeRecords_26 (by decide) ?_
      refine r_ireturn d_S_someNodeRecords_27 rfl rfl ⟨?_, rfl, ?_⟩
      · exact vb1 (by unfold snr; exact decide_eq_true (Nat.lt_of_lt_of_le (show 0 < ct (fun i => decide (rver c i o = v)) (b + 1) by rw [ct_t (by simp [c23])]; omega) (by have q := ct_mono (fun i => decide (rver c i o = v)) (b + 1) (12 - (b + 1)); rwa [show b + 1 + (12 - (b + 1)) = 12 by omega] at q)))
      · rfl
def recN (c : CS) (i o w : Nat) : Int32 :=
  if w < 3 then (if c.hver i (rp c i o) = 0 then (-1) else nI (if w = 0 then c.hver i (rp c i o) else if w = 1 then c.hbyt i (rp c i o) else c.hstr i (rp c i o)))
  else (if c.hver i (sp c i o) = 0 then (-1) else nI (if w = 3 then c.hver i (sp c i o) else if w = 4 then c.hbyt i (sp c i o) else c.hstr i (sp c i o)))
theorem k_S_recordNumber {l : Launch} {g : GX} {c : CS} {m : MS} {n d : Nat} (hd : 0 ≤ d) {i o w : Nat} (hi : i < 12) (ho : o < 6) (hw : w < 6) (hc : CI c) : CE l g M_S_recordNumber d 0 0 [.ref (aN g i), .int (nI o), .int (nI w)] n (hp g c m) (some (.int (recN c i o w))) n (hp g c m) := by
  have hq := rp_lt (c := c) (i := i) ho
  have hq2 := sp_lt (c := c) (i := i) ho
  obtain ⟨a1, a2, a3, -⟩ := hc i (rp c i o)
  obtain ⟨b1, b2, b3, -⟩ := hc i (sp c i o)
  refine CE.of (by decide +kernel) (lv := [(0, .ref (aN g i)), (1, .int (nI o)), (2, .int (nI w))]) rfl (Nat.le_of_ble_eq_true rfl) ?_
  refine r_iload_n d_S_recordNumber_0 2 rfl ?_
  refine r_iconst (v := nI 3) d_S_recordNumber_1 (by decide) ?_
  refine r_icmp_ltN (tgt := 9) d_S_recordNumber_2 (by decide) (by omega) (by omega) (fun c2 => ?_) (fun c2 => ?_)
  · skip
    refine r_iconst (v := nI 0) d_S_recordNumber_9 (by decide) ?_
    refine r_istore_n (lv' := [(0, _), (1, _), (2, _), (3, _)]) d_S_recordNumber_10 (by decide) rfl ?_
    refine r_iload_n d_S_recordNumber_11 3 rfl ?_
    refine r_if_eqN (tgt := 24) d_S_recordNumber_12 (by decide) (by omega) (fun c12 => ?_) (fun c12 => ?_)
    rotate_left 1
    · exfalso; first | omega | (revert c12; decide) | cases c12
    refine r_aload_n d_S_recordNumber_24 0 rfl ?_
    refine rg_S_173 rfl d_S_recordNumber_25 (gN (i := i) (by omega)) rfl ?_
    refine r_iload_n d_S_recordNumber_28 1 rfl ?_
    refine r_qld (t := 3) rfl d_S_recordNumber_29 (gR (i := i) (by omega)) (by omega) (by decide) rfl ?_
    refine r_astore (lv' := [(0, _), (1, _), (2, _), (3, _), (4, _)]) d_S_recordNumber_30 (by decide) rfl ?_
    refine r_aload d_S_recordNumber_32 4 rfl ?_
    refine rg_S_111 rfl d_S_recordNumber_34 (gH (i := i) (p := rp c i o) (by omega) (by omega)) rfl ?_
    refine r_if_neN (tgt := 42) d_S_recordNumber_37 (by decide) (by omega) (fun c37 => ?_) (fun c37 => ?_)
    · skip
      refine r_iload_n d_S_recordNumber_42 3 rfl ?_
      refine r_if_eqN (tgt := 52) d_S_recordNumber_43 (by decide) (by omega) (fun c43 => ?_) (fun c43 => ?_)
      rotate_left 1
      · exfalso; first | omega | (revert c43; decide) | cases c43
      refine r_iload_n d_S_recordNumber_52 2 rfl ?_
      refine r_istore (lv' := [(0, _), (1, _), (2, _), (3, _), (4, _), (5, _)]) d_S_recordNumber_53 (by decide) rfl ?_
      refine r_iload d_S_recordNumber_55 5 rfl ?_
      refine r_if_neN (tgt := 66) d_S_recordNumber_57 (by decide) (by omega) (fun c57 => ?_) (fun c57 => ?_)
      · skip
        refine r_iload d_S_recordNumber_66 5 rfl ?_
        refine r_iconst (v := nI 1) d_S_recordNumber_68 (by decide) ?_
        refine r_icmp_neN (tgt := 80) d_S_recordNumber_69 (by decide) (by omega) (by omega) (fun c69 => ?_) (fun c69 => ?_)
        · skip
          refine r_aload d_S_recordNumber_80 4 rfl ?_
          refine rg_S_204 rfl d_S_recordNumber_82 (gH (i := i) (p := rp c i o) (by omega) (by omega)) rfl ?_
          refine r_ireturn d_S_recordNumber_85 rfl rfl ⟨?_, rfl, ?_⟩
          · first | (unfold recN; rw [if_neg (by omega), if_pos (by assumption)]; done) | (unfold recN; rw [if_pos (by omega), if_pos (by assumption)]; done) | (simp [recN, *]; done) | (have q1 : w = 3 := (by omega); subst q1; simp [recN, *]; done) | (have q1 : w = 4 := (by omega); subst q1; simp [recN, *]; done) | (have q1 : w = 5 := (by omega); subst q1; simp [recN, *]; done) | (have q1 : w = 0 := (by omega); subst q1; simp [recN, *]; done) | (have q1 : w = 1 := (by omega); subst q1; simp [recN, *]; done) | (have q1 : w = 2 := (by omega); subst q1; simp [recN, *]; done)
          · rfl
        · skip
          refine r_aload d_S_recordNumber_72 4 rfl ?_
          refine rg_S_201 rfl d_S_recordNumber_74 (gH (i := i) (p := rp c i o) (by omega) (by omega)) rfl ?_
          refine r_goto (tgt := 85) d_S_recordNumber_77 (by decide) ?_
          refine r_ireturn d_S_recordNumber_85 rfl rfl ⟨?_, rfl, ?_⟩
          · first | (unfold recN; rw [if_neg (by omega), if_pos (by assumption)]; done) | (unfold recN; rw [if_pos (by omega), if_pos (by assumption)]; done) | (simp [recN, *]; done) | (have q1 : w = 3 := (by omega); subst q1; simp [recN, *]; done) | (have q1 : w = 4 := (by omega); subst q1; simp [recN, *]; done) | (have q1 : w = 5 := (by omega); subst q1; simp [recN, *]; done) | (have q1 : w = 0 := (by omega); subst q1; simp [recN, *]; done) | (have q1 : w = 1 := (by omega); subst q1; simp [recN, *]; done) | (have q1 : w = 2 := (by omega); subst q1; simp [recN, *]; done)
          · rfl
      · skip
        refine r_aload d_S_recordNumber_60 4 rfl ?_
        refine rg_S_111 rfl d_S_recordNumber_62 (gH (i := i) (p := rp c i o) (by omega) (by omega)) rfl ?_
        refine r_ireturn d_S_recordNumber_65 rfl rfl ⟨?_, rfl, ?_⟩
        · first | (unfold recN; rw [if_neg (by omega), if_pos (by assumption)]; done) | (unfold recN; rw [if_pos (by omega), if_pos (by assumption)]; done) | (simp [recN, *]; done) | (have q1 : w = 3 := (by omega); subst q1; simp [recN, *]; done) | (have q1 : w = 4 := (by omega); subst q1; simp [recN, *]; done) | (have q1 : w = 5 := (by omega); subst q1; simp [recN, *]; done) | (have q1 : w = 0 := (by omega); subst q1; simp [recN, *]; done) | (have q1 : w = 1 := (by omega); subst q1; simp [recN, *]; done) | (have q1 : w = 2 := (by omega); subst q1; simp [recN, *]; done)
        · rfl
    · skip
      refine r_iconst (v := (-1)) d_S_recordNumber_40 (by decide) ?_
      refine r_ireturn d_S_recordNumber_41 rfl rfl ⟨?_, rfl, ?_⟩
      · first | (unfold recN; rw [if_neg (by omega), if_pos (by assumption)]; done) | (unfold recN; rw [if_pos (by omega), if_pos (by assumption)]; done) | (simp [recN, *]; done) | (have q1 : w = 3 := (by omega); subst q1; simp [recN, *]; done) | (have q1 : w = 4 := (by omega); subst q1; simp [recN, *]; done) | (have q1 : w = 5 := (by omega); subst q1; simp [recN, *]; done) | (have q1 : w = 0 := (by omega); subst q1; simp [recN, *]; done) | (have q1 : w = 1 := (by omega); subst q1; simp [recN, *]; done) | (have q1 : w = 2 := (by omega); subst q1; simp [recN, *]; done)
      · rfl
  · skip
    refine r_iconst (v := nI 1) d_S_recordNumber_5 (by decide) ?_
    refine r_goto (tgt := 10) d_S_recordNumber_6 (by decide) ?_
    refine r_istore_n (lv' := [(0, _), (1, _), (2, _), (3, _)]) d_S_recordNumber_10 (by decide) rfl ?_
    refine r_iload_n d_S_recordNumber_11 3 rfl ?_
    refine r_if_eqN (tgt := 24) d_S_recordNumber_12 (by decide) (by omega) (fun c12 => ?_) (fun c12 => ?_)
    · exfalso; first | omega | (revert c12; decide) | cases c12
    refine r_aload_n d_S_recordNumber_15 0 rfl ?_
    refine rg_S_107 rfl d_S_recordNumber_16 (gN (i := i) (by omega)) rfl ?_
    refine r_iload_n d_S_recordNumber_19 1 rfl ?_
    refine r_qld (t := 3) rfl d_S_recordNumber_20 (gSh (i := i) (by omega)) (by omega) (by decide) rfl ?_
    refine r_goto (tgt := 30) d_S_recordNumber_21 (by decide) ?_
    refine r_astore (lv' := [(0, _), (1, _), (2, _), (3, _), (4, _)]) d_S_recordNumber_30 (by decide) rfl ?_
    refine r_aload d_S_recordNumber_32 4 rfl ?_
    refine rg_S_111 rfl d_S_recordNumber_34 (gH (i := i) (p := sp c i o) (by omega) (by omega)) rfl ?_
    refine r_if_neN (tgt := 42) d_S_recordNumber_37 (by decide) (by omega) (fun c37 => ?_) (fun c37 => ?_)
    · skip
      refine r_iload_n d_S_recordNumber_42 3 rfl ?_
      refine r_if_eqN (tgt := 52) d_S_recordNumber_43 (by decide) (by omega) (fun c43 => ?_) (fun c43 => ?_)
      · exfalso; first | omega | (revert c43; decide) | cases c43
      refine r_iload_n d_S_recordNumber_46 2 rfl ?_
      refine r_iconst (v := nI 3) d_S_recordNumber_47 (by decide) ?_
      refine r_isubN d_S_recordNumber_48 (by omega) ?_
      refine r_goto (tgt := 53) d_S_recordNumber_49 (by decide) ?_
      refine r_istore (lv' := [(0, _), (1, _), (2, _), (3, _), (4, _), (5, _)]) d_S_recordNumber_53 (by decide) rfl ?_
      refine r_iload d_S_recordNumber_55 5 rfl ?_
      refine r_if_neN (tgt := 66) d_S_recordNumber_57 (by decide) (by omega) (fun c57 => ?_) (fun c57 => ?_)
      · skip
        refine r_iload d_S_recordNumber_66 5 rfl ?_
        refine r_iconst (v := nI 1) d_S_recordNumber_68 (by decide) ?_
        refine r_icmp_neN (tgt := 80) d_S_recordNumber_69 (by decide) (by omega) (by omega) (fun c69 => ?_) (fun c69 => ?_)
        · skip
          refine r_aload d_S_recordNumber_80 4 rfl ?_
          refine rg_S_204 rfl d_S_recordNumber_82 (gH (i := i) (p := sp c i o) (by omega) (by omega)) rfl ?_
          refine r_ireturn d_S_recordNumber_85 rfl rfl ⟨?_, rfl, ?_⟩
          · first | (unfold recN; rw [if_neg (by omega), if_pos (by assumption)]; done) | (unfold recN; rw [if_pos (by omega), if_pos (by assumption)]; done) | (simp [recN, *]; done) | (have q1 : w = 3 := (by omega); subst q1; simp [recN, *]; done) | (have q1 : w = 4 := (by omega); subst q1; simp [recN, *]; done) | (have q1 : w = 5 := (by omega); subst q1; simp [recN, *]; done) | (have q1 : w = 0 := (by omega); subst q1; simp [recN, *]; done) | (have q1 : w = 1 := (by omega); subst q1; simp [recN, *]; done) | (have q1 : w = 2 := (by omega); subst q1; simp [recN, *]; done)
          · rfl
        · skip
          refine r_aload d_S_recordNumber_72 4 rfl ?_
          refine rg_S_201 rfl d_S_recordNumber_74 (gH (i := i) (p := sp c i o) (by omega) (by omega)) rfl ?_
          refine r_goto (tgt := 85) d_S_recordNumber_77 (by decide) ?_
          refine r_ireturn d_S_recordNumber_85 rfl rfl ⟨?_, rfl, ?_⟩
          · first | (unfold recN; rw [if_neg (by omega), if_pos (by assumption)]; done) | (unfold recN; rw [if_pos (by omega), if_pos (by assumption)]; done) | (simp [recN, *]; done) | (have q1 : w = 3 := (by omega); subst q1; simp [recN, *]; done) | (have q1 : w = 4 := (by omega); subst q1; simp [recN, *]; done) | (have q1 : w = 5 := (by omega); subst q1; simp [recN, *]; done) | (have q1 : w = 0 := (by omega); subst q1; simp [recN, *]; done) | (have q1 : w = 1 := (by omega); subst q1; simp [recN, *]; done) | (have q1 : w = 2 := (by omega); subst q1; simp [recN, *]; done)
          · rfl
      · skip
        refine r_aload d_S_recordNumber_60 4 rfl ?_
        refine rg_S_111 rfl d_S_recordNumber_62 (gH (i := i) (p := sp c i o) (by omega) (by omega)) rfl ?_
        refine r_ireturn d_S_recordNumber_65 rfl rfl ⟨?_, rfl, ?_⟩
        · first | (unfold recN; rw [if_neg (by omega), if_pos (by assumption)]; done) | (unfold recN; rw [if_pos (by omega), if_pos (by assumption)]; done) | (simp [recN, *]; done) | (have q1 : w = 3 := (by omega); subst q1; simp [recN, *]; done) | (have q1 : w = 4 := (by omega); subst q1; simp [recN, *]; done) | (have q1 : w = 5 := (by omega); subst q1; simp [recN, *]; done) | (have q1 : w = 0 := (by omega); subst q1; simp [recN, *]; done) | (have q1 : w = 1 := (by omega); subst q1; simp [recN, *]; done) | (have q1 : w = 2 := (by omega); subst q1; simp [recN, *]; done)
        · rfl
    · skip
      refine r_iconst (v := (-1)) d_S_recordNumber_40 (by decide) ?_
      refine r_ireturn d_S_recordNumber_41 rfl rfl ⟨?_, rfl, ?_⟩
      · first | (unfold recN; rw [if_neg (by omega), if_pos (by assumption)]; done) | (unfold recN; rw [if_pos (by omega), if_pos (by assumption)]; done) | (simp [recN, *]; done) | (have q1 : w = 3 := (by omega); subst q1; simp [recN, *]; done) | (have q1 : w = 4 := (by omega); subst q1; simp [recN, *]; done) | (have q1 : w = 5 := (by omega); subst q1; simp [recN, *]; done) | (have q1 : w = 0 := (by omega); subst q1; simp [recN, *]; done) | (have q1 : w = 1 := (by omega); subst q1; simp [recN, *]; done) | (have q1 : w = 2 := (by omega); subst q1; simp [recN, *]; done)
      · rfl
