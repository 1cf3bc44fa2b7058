theorem k_H_init {l : Launch} {g : GX} {z : Nat} {F : Nat → AC} {d : Nat} (hd : 1 ≤ d) : CE l g M_H_init d 1 8 [.ref (g.1 + z)] (z + 1) (hF (z + 1) g (upN F z (.inr (2, [.null, .int 0, .int 0, .int 0])))) none (z + 2) (hF (z + 2) g (upN (upN F z (.inr (2, [.ref (g.1 + (z + 1)), .int (nI 0), .int (nI 0), .int (nI 0)]))) (z + 1) (iA 8 (fun _ => 0)))) := by
  refine CE.of (by decide +kernel) (lv := [(0, .ref (g.1 + z))]) rfl (Nat.le_of_ble_eq_true rfl) ?_
  refine r_aload_n d_H_init_0 0 rfl ?_
  refine r_objInit d_H_init_1 (by decide +kernel) (by decide +kernel) (by decide +kernel) ⟨by show 1 ≤ d; omega, by show _ ≤ 36 * d; simp [Value.category]; omega⟩ ?_
  refine r_aload_n d_H_init_4 0 rfl ?_
  refine r_bipush (v := nI 8) d_H_init_5 (by decide) ?_
  refine f_newi (N := 8) d_H_init_7 (by decide) ⟨by show _ ≤ 1; omega, by show _ ≤ 8; omega⟩ ?_
  refine r_cnt (n' := z + 2) (h' := hF (z + 2) g (upN (upN F z (.inr (2, [.null, .int 0, .int 0, .int 0]))) (z + 1) (iA 8 (fun _ => 0)))) (k' := 1) (sl' := 8) (by omega) rfl (by omega) (by omega) ?_
  refine rp_H_9 rfl rfl d_H_init_9 (hF_getE (r := z) (by omega) (upN_g (by omega) upN_s)) (Nat.le_of_ble_eq_true rfl) rfl (hF_setE (r := z) (by omega) (upN_in (by omega) upN_same)) ?_
  refine r_aload_n d_H_init_12 0 rfl ?_
  refine r_iconst (v := nI 0) d_H_init_13 (by decide) ?_
  refine rp_H_15 rfl d_H_init_14 (hF_getE (r := z) (by omega) (upN_g (by omega) upN_s)) (Nat.le_of_ble_eq_true rfl) rfl (hF_setE (r := z) (by omega) (upN_in (by omega) upN_same)) ?_
  refine r_aload_n d_H_init_17 0 rfl ?_
  refine r_iconst (v := nI 0) d_H_init_18 (by decide) ?_
  refine rp_H_19 rfl d_H_init_19 (hF_getE (r := z) (by omega) (upN_g (by omega) upN_s)) (Nat.le_of_ble_eq_true rfl) rfl (hF_setE (r := z) (by omega) (upN_in (by omega) upN_same)) ?_
  refine r_aload_n d_H_init_22 0 rfl ?_
  refine r_iconst (v := nI 0) d_H_init_23 (by decide) ?_
  refine rp_H_22 rfl d_H_init_24 (hF_getE (r := z) (by omega) (upN_g (by omega) upN_s)) (Nat.le_of_ble_eq_true rfl) rfl (hF_setE (r := z) (by omega) (upN_in (by omega) upN_same)) ?_
  refine r_cnt (n' := z + 2) (h' := hF (z + 2) g (upN (upN F z (.inr (2, [.ref (g.1 + (z + 1)), .int (nI 0), .int (nI 0), .int (nI 0)]))) (z + 1) (iA 8 (fun _ => 0)))) (k' := 1) (sl' := 8) (by omega) (rfl) (by omega) (by omega) ?_
  refine r_return d_H_init_27 rfl ⟨rfl, rfl, rfl⟩
def nodX (z i : Nat) (g : GX) (F : Nat → AC) : Nat → AC := fun r => if r < z then F r else if r = z then .inr (3, [.ref (g.1 + (z + 1)), .ref (g.1 + (z + 2)), .ref (g.1 + (z + 3)), .ref (g.1 + (z + 4)), .int (b2 true), .int (nI 0)]) else if r = z + 1 then iA 320 (fun _ => 0) else if r = z + 2 then zA 40 (fun _ => false) else if r = z + 3 then qA 3 6 (fun o => if o < i then some (g.1 + (z + 5 + 4 * o)) else none) else if r = z + 4 then qA 3 6 (fun o => if o < i then some (g.1 + (z + 7 + 4 * o)) else none) else if r < z + 5 + 4 * i then (if (r - z - 5) % 2 = 0 then .inr (2, [.ref (g.1 + (r + 1)), .int (nI 0), .int (nI 0), .int (nI 0)]) else iA 8 (fun _ => 0)) else F r
theorem nodX_0 {z i : Nat} {g : GX} {F : Nat → AC} : nodX z i g F z = .inr (3, [.ref (g.1 + (z + 1)), .ref (g.1 + (z + 2)), .ref (g.1 + (z + 3)), .ref (g.1 + (z + 4)), .int (b2 true), .int (nI 0)]) := by
  unfold nodX
  rw [if_neg (Nat.lt_irrefl _), if_pos rfl]
theorem nodX_3 {z i : Nat} {g : GX} {F : Nat → AC} : nodX z i g F (z + 3) = qA 3 6 (fun o => if o < i then some (g.1 + (z + 5 + 4 * o)) else none) := by
  unfold nodX
  rw [if_neg (by omega), if_neg (by omega), if_neg (by omega), if_neg (by omega), if_pos rfl]
theorem nodX_4 {z i : Nat} {g : GX} {F : Nat → AC} : nodX z i g F (z + 4) = qA 3 6 (fun o => if o < i then some (g.1 + (z + 7 + 4 * o)) else none) := by
  unfold nodX
  rw [if_neg (by omega), if_neg (by omega), if_neg (by omega), if_neg (by omega), if_neg (by omega), if_pos rfl]
theorem qA_up {t N i v : Nat} {f f' : Nat → Option Nat} (h : ∀ o, (if o = i then some v else f o) = f' o) : qA t N (upN f i (some v)) = qA t N f' := congrArg (qA t N) (funext h)
theorem nodX_step {z i : Nat} {g : GX} {F : Nat → AC} {rr ss h1 p1 h2 p2 : AC} (hr : rr = qA 3 6 (fun o => if o < i + 1 then some (g.1 + (z + 5 + 4 * o)) else none)) (hs : ss = qA 3 6 (fun o => if o < i + 1 then some (g.1 + (z + 7 + 4 * o)) else none))
    (e1 : h1 = .inr (2, [.ref (g.1 + (z + 5 + 4 * i + 1)), .int (nI 0), .int (nI 0), .int (nI 0)])) (e2 : p1 = iA 8 (fun _ => 0)) (e3 : h2 = .inr (2, [.ref (g.1 + (z + 5 + 4 * i + 3)), .int (nI 0), .int (nI 0), .int (nI 0)])) (e4 : p2 = iA 8 (fun _ => 0)) :
    ∀ r, r < z + 5 + 4 * i + 4 → upN (upN (upN (upN (upN (upN (nodX z i g F) (z + 5 + 4 * i) h1) (z + 5 + 4 * i + 1) p1) (z + 3) rr) (z + 5 + 4 * i + 2) h2) (z + 5 + 4 * i + 3) p2) (z + 4) ss r = nodX z (i + 1) g F r := by
  intro r hlt
  subst hr hs e1 e2 e3 e4
  by_cases q1 : r < z
  · unfold upN nodX
    rw [if_neg (by omega), if_neg (by omega), if_neg (by omega), if_neg (by omega), if_neg (by omega), if_neg (by omega), if_pos q1, if_pos q1]
  by_cases q2 : r = z
  · subst q2
    unfold upN nodX
    rw [if_neg (by omega), if_neg (by omega), if_neg (by omega), if_neg (by omega), if_neg (by omega), if_neg (by omega), if_neg q1, if_neg q1, if_pos rfl, if_pos rfl]
  by_cases q3 : r = z + 1
  · subst q3
    unfold upN nodX
    rw [if_neg (by omega), if_neg (by omega), if_neg (by omega), if_neg (by omega), if_neg (by omega), if_neg (by omega), if_neg q1, if_neg q1, if_neg q2, if_neg q2, if_pos rfl, if_pos rfl]
  by_cases q4 : r = z + 2
  · subst q4
    unfold upN nodX
    rw [if_neg (by omega), if_neg (by omega), if_neg (by omega), if_neg (by omega), if_neg (by omega), if_neg (by omega), if_neg q1, if_neg q1, if_neg q2, if_neg q2, if_neg q3, if_neg q3, if_pos rfl, if_pos rfl]
  by_cases q5 : r = z + 3
  · subst q5
    rw [nodX_3]
    exact (if_neg (by omega)).trans ((if_neg (by omega)).trans ((if_neg (by omega)).trans (if_pos rfl)))
  by_cases q6 : r = z + 4
  · subst q6
    rw [nodX_4]
    exact if_pos rfl
  have en : nodX z (i + 1) g F r = (if (r - z - 5) % 2 = 0 then .inr (2, [.ref (g.1 + (r + 1)), .int (nI 0), .int (nI 0), .int (nI 0)]) else iA 8 (fun _ => 0)) := by
    unfold nodX
    rw [if_neg q1, if_neg q2, if_neg q3, if_neg q4, if_neg q5, if_neg q6, if_pos (by omega)]
  rw [en]
  by_cases q7 : r = z + 5 + 4 * i
  · subst q7
    rw [if_pos (by omega)]
    exact (if_neg (by omega)).trans ((if_neg (by omega)).trans ((if_neg (by omega)).trans ((if_neg (by omega)).trans ((if_neg (by omega)).trans (if_pos rfl)))))
  by_cases q8 : r = z + 5 + 4 * i + 1
  · subst q8
    rw [if_neg (c := (z + 5 + 4 * i + 1 - z - 5) % 2 = 0) (by omega)]
    exact (if_neg (by omega)).trans ((if_neg (by omega)).trans ((if_neg (by omega)).trans ((if_neg (by omega)).trans (if_pos rfl))))
  by_cases q9 : r = z + 5 + 4 * i + 2
  · subst q9
    rw [if_pos (by omega)]
    exact (if_neg (by omega)).trans ((if_neg (by omega)).trans (if_pos rfl))
  by_cases qa : r = z + 5 + 4 * i + 3
  · subst qa
    rw [if_neg (c := (z + 5 + 4 * i + 3 - z - 5) % 2 = 0) (by omega)]
    exact (if_neg (by omega)).trans (if_pos rfl)
  have eo : nodX z i g F r = (if (r - z - 5) % 2 = 0 then .inr (2, [.ref (g.1 + (r + 1)), .int (nI 0), .int (nI 0), .int (nI 0)]) else iA 8 (fun _ => 0)) := by
    unfold nodX
    rw [if_neg q1, if_neg q2, if_neg q3, if_neg q4, if_neg q5, if_neg q6, if_pos (by omega)]
  refine Eq.trans ?_ eo
  unfold upN
  rw [if_neg q6, if_neg qa, if_neg q9, if_neg q5, if_neg q8, if_neg q7]
theorem nodX_start {z : Nat} {g : GX} {F : Nat → AC} {a b c e f : AC} (h0 : a = .inr (3, [.ref (g.1 + (z + 1)), .ref (g.1 + (z + 2)), .ref (g.1 + (z + 3)), .ref (g.1 + (z + 4)), .int (b2 true), .int (nI 0)])) (h1 : b = iA 320 (fun _ => 0)) (h2 : c = zA 40 (fun _ => false)) (h3 : e = qA 3 6 (fun _ => none)) (h4 : f = qA 3 6 (fun _ => none)) : ∀ r, r < z + 5 → upN (upN (upN (upN (upN F z a) (z + 1) b) (z + 2) c) (z + 3) e) (z + 4) f r = nodX z 0 g F r := by
  intro r hlt
  subst h0 h1 h2 h3 h4
  by_cases q1 : r < z
  · unfold upN nodX
    rw [if_neg (by omega), if_neg (by omega), if_neg (by omega), if_neg (by omega), if_neg (by omega), if_pos q1]
  by_cases q2 : r = z
  · subst q2
    unfold upN nodX
    rw [if_neg (by omega), if_neg (by omega), if_neg (by omega), if_neg (by omega), if_pos rfl, if_neg q1, if_pos rfl]
  by_cases q3 : r = z + 1
  · subst q3
    unfold upN nodX
    rw [if_neg (by omega), if_neg (by omega), if_neg (by omega), if_pos rfl, if_neg q1, if_neg q2, if_pos rfl]
  by_cases q4 : r = z + 2
  · subst q4
    unfold upN nodX
    rw [if_neg (by omega), if_neg (by omega), if_pos rfl, if_neg q1, if_neg q2, if_neg q3, if_pos rfl]
  by_cases q5 : r = z + 3
  · subst q5
    rw [nodX_3]
    refine ((if_neg (by omega)).trans (if_pos rfl)).trans (congrArg (qA 3 6) (funext fun o => ?_))
    rw [if_neg (Nat.not_lt_zero _)]
  have q6 : r = z + 4 := by omega
  subst q6
  rw [nodX_4]
  refine (if_pos rfl).trans (congrArg (qA 3 6) (funext fun o => ?_))
  rw [if_neg (Nat.not_lt_zero _)]
theorem k_N_init {l : Launch} {g : GX} {z : Nat} {F : Nat → AC} {d : Nat} (hd : 2 ≤ d) : CE l g M_N_init d 28 516 [.ref (g.1 + z)] (z + 1) (hF (z + 1) g (upN F z (.inr (3, [.null, .null, .null, .null, .int 0, .int 0])))) none (z + 29) (hF (z + 29) g (nodX z 6 g F)) := by
  refine CE.of (by decide +kernel) (lv := [(0, .ref (g.1 + z))]) rfl (Nat.le_of_ble_eq_true rfl) ?_
  refine r_aload_n d_N_init_0 0 rfl ?_
  refine r_objInit d_N_init_1 (by decide +kernel) (by decide +kernel) (by decide +kernel) ⟨by show 1 ≤ d; omega, by show _ ≤ 36 * d; simp [Value.category]; omega⟩ ?_
  refine r_aload_n d_N_init_4 0 rfl ?_
  refine r_sipush (v := nI 320) d_N_init_5 (by decide) ?_
  refine f_newi (N := 320) d_N_init_8 (by decide) ⟨by show _ ≤ 28; omega, by show _ ≤ 516; omega⟩ ?_
  refine r_cnt (n' := z + 2) (h' := hF (z + 2) g (upN (upN F z (.inr (3, [.null, .null, .null, .null, .int 0, .int 0]))) (z + 1) (iA 320 (fun _ => 0)))) (k' := 1) (sl' := 320) (by omega) rfl (by omega) (by omega) ?_
  refine rp_N_9 rfl rfl d_N_init_10 (hF_getE (r := z) (by omega) (upN_g (by omega) upN_s)) (Nat.le_of_ble_eq_true rfl) rfl (hF_setE (r := z) (by omega) (upN_in (by omega) upN_same)) ?_
  refine r_aload_n d_N_init_13 0 rfl ?_
  refine r_bipush (v := nI 40) d_N_init_14 (by decide) ?_
  refine f_newz (N := 40) d_N_init_16 (by decide) ⟨by show _ ≤ 28; omega, by show _ ≤ 516; omega⟩ ?_
  refine r_cnt (n' := z + 3) (h' := hF (z + 3) g (upN (upN (upN F z (.inr (3, [.ref (g.1 + (z + 1)), .null, .null, .null, .int 0, .int 0]))) (z + 1) (iA 320 (fun _ => 0))) (z + 2) (zA 40 (fun _ => false)))) (k' := 2) (sl' := 360) (by omega) rfl (by omega) (by omega) ?_
  refine rp_N_15 rfl rfl d_N_init_18 (hF_getE (r := z) (by omega) (upN_g (by omega) (upN_g (by omega) upN_s))) (Nat.le_of_ble_eq_true rfl) rfl (hF_setE (r := z) (by omega) (upN_in (by omega) (upN_in (by omega) upN_same))) ?_
  refine r_aload_n d_N_init_21 0 rfl ?_
  refine r_bipush (v := nI 6) d_N_init_22 (by decide) ?_
  refine f_anew (t := 3) (N := 6) (C := "ShareStore$Holding") rfl (by decide +kernel) (by decide +kernel) d_N_init_24 (by decide) ⟨by show _ ≤ 28; omega, by show _ ≤ 516; omega⟩ ?_
  refine r_cnt (n' := z + 4) (h' := hF (z + 4) g (upN (upN (upN (upN F z (.inr (3, [.ref (g.1 + (z + 1)), .ref (g.1 + (z + 2)), .null, .null, .int 0, .int 0]))) (z + 1) (iA 320 (fun _ => 0))) (z + 2) (zA 40 (fun _ => false))) (z + 3) (qA 3 6 (fun _ => none)))) (k' := 3) (sl' := 366) (by omega) rfl (by omega) (by omega) ?_
  refine rp_N_21 rfl rfl d_N_init_27 (hF_getE (r := z) (by omega) (upN_g (by omega) (upN_g (by omega) (upN_g (by omega) upN_s)))) (Nat.le_of_ble_eq_true rfl) rfl (hF_setE (r := z) (by omega) (upN_in (by omega) (upN_in (by omega) (upN_in (by omega) upN_same)))) ?_
  refine r_aload_n d_N_init_30 0 rfl ?_
  refine r_bipush (v := nI 6) d_N_init_31 (by decide) ?_
  refine f_anew (t := 3) (N := 6) (C := "ShareStore$Holding") rfl (by decide +kernel) (by decide +kernel) d_N_init_33 (by decide) ⟨by show _ ≤ 28; omega, by show _ ≤ 516; omega⟩ ?_
  refine r_cnt (n' := z + 5) (h' := hF (z + 5) g (upN (upN (upN (upN (upN F z (.inr (3, [.ref (g.1 + (z + 1)), .ref (g.1 + (z + 2)), .ref (g.1 + (z + 3)), .null, .int 0, .int 0]))) (z + 1) (iA 320 (fun _ => 0))) (z + 2) (zA 40 (fun _ => false))) (z + 3) (qA 3 6 (fun _ => none))) (z + 4) (qA 3 6 (fun _ => none)))) (k' := 4) (sl' := 372) (by omega) rfl (by omega) (by omega) ?_
  refine rp_N_25 rfl rfl d_N_init_36 (hF_getE (r := z) (by omega) (upN_g (by omega) (upN_g (by omega) (upN_g (by omega) (upN_g (by omega) upN_s))))) (Nat.le_of_ble_eq_true rfl) rfl (hF_setE (r := z) (by omega) (upN_in (by omega) (upN_in (by omega) (upN_in (by omega) (upN_in (by omega) upN_same))))) ?_
  refine r_aload_n d_N_init_39 0 rfl ?_
  refine r_iconst (v := nI 1) d_N_init_40 (by decide) ?_
  refine r_at (st' := .int (b2 true) :: _) ?_ rfl rfl rfl
  refine rp_N_28 rfl d_N_init_41 (hF_getE (r := z) (by omega) (upN_g (by omega) (upN_g (by omega) (upN_g (by omega) (upN_g (by omega) upN_s))))) (Nat.le_of_ble_eq_true rfl) rfl (hF_setE (r := z) (by omega) (upN_in (by omega) (upN_in (by omega) (upN_in (by omega) (upN_in (by omega) upN_same))))) ?_
  refine r_aload_n d_N_init_44 0 rfl ?_
  refine r_iconst (v := nI 0) d_N_init_45 (by decide) ?_
  refine rp_N_32 rfl d_N_init_46 (hF_getE (r := z) (by omega) (upN_g (by omega) (upN_g (by omega) (upN_g (by omega) (upN_g (by omega) upN_s))))) (Nat.le_of_ble_eq_true rfl) rfl (hF_setE (r := z) (by omega) (upN_in (by omega) (upN_in (by omega) (upN_in (by omega) (upN_in (by omega) upN_same))))) ?_
  refine r_iconst (v := nI 0) d_N_init_49 (by decide) ?_
  refine r_istore_n (lv' := [(0, _), (1, _)]) d_N_init_50 (by decide) rfl ?_
  refine r_cnt (n' := z + 5) (h' := hF (z + 5) g (nodX z 0 g F)) (k' := 4) (sl' := 372) (by omega) (hF_cong rfl (nodX_start rfl rfl rfl rfl rfl)) (by omega) (by omega) ?_
  refine back_ind (n := 6) (G := fun v => RJ l g M_N_init (RMX d 28 516) (TQ g 28 516 (QE none (z + 29) (hF (z + 29) g (nodX z 6 g F)))) XT (z + 5 + 4 * v) (hF (z + 5 + 4 * v) g (nodX z v g F)) (4 + 4 * v) (372 + 24 * v) 51 [(0, .ref (g.1 + z)), (1, .int (nI v))] []) ?_ ?_ 0 (Nat.zero_le _)
  · skip
    refine r_iload_n d_N_init_51 1 rfl ?_
    refine r_bipush (v := nI 6) d_N_init_52 (by decide) ?_
    refine r_icmp_geN (tgt := 89) d_N_init_54 (by decide) (by omega) (by omega) (fun c54 => ?_) (fun c54 => ?_)
    rotate_left 1
    · exfalso; omega
    refine r_cnt (n' := z + 29) (h' := hF (z + 29) g (nodX z 6 g F)) (k' := 28) (sl' := 516) (by omega) (rfl) (by omega) (by omega) ?_
    refine r_return d_N_init_89 rfl ⟨rfl, rfl, rfl⟩
  · intro v hb_v ih_v
    refine r_iload_n d_N_init_51 1 rfl ?_
    refine r_bipush (v := nI 6) d_N_init_52 (by decide) ?_
    refine r_icmp_geN (tgt := 89) d_N_init_54 (by decide) (by omega) (by omega) (fun c54 => ?_) (fun c54 => ?_)
    · exfalso; omega
    refine r_aload_n d_N_init_57 0 rfl ?_
    refine rg_N_21 rfl d_N_init_58 (hF_getE (r := z) (by omega) nodX_0) rfl ?_
    refine r_iload_n d_N_init_61 1 rfl ?_
    refine f_new (ci := 2) (N := 4) (fs := [.null, .int 0, .int 0, .int 0]) rfl iw_H ty_H ty_H_ok (by decide +kernel) (by decide +kernel) (by decide +kernel) (by decide) d_N_init_62 ⟨by show _ ≤ 28; omega, by show _ ≤ 516; omega⟩ ?_
    refine r_cnt (n' := z + 5 + 4 * v + 1) (h' := hF (z + 5 + 4 * v + 1) g (upN (nodX z v g F) (z + 5 + 4 * v) (.inr (2, [.null, .int 0, .int 0, .int 0])))) (k' := 4 + 4 * v + 1) (sl' := 372 + 24 * v + 4) (by omega) rfl (by omega) (by omega) ?_
    refine r_dup d_N_init_65 rfl ?_
    refine r_cIN (M' := M_H_init) (host := "ShareStore") (np := 0) (b := g.1 + (z + 5 + 4 * v)) (As := []) (k_H_init (z := z + 5 + 4 * v) (F := nodX z v g F) (d := d - 1) (by omega)) rfl rfl (by decide +kernel) (by decide +kernel) (by decide +kernel) (by decide +kernel) (by decide +kernel) rfl d_N_init_66 (room_ok (d' := d - 1) (by omega) (by decide)) ⟨by show _ ≤ 28; omega, by show _ ≤ 516; omega⟩ rfl (Nat.le_of_ble_eq_true rfl) ?_
    refine r_cnt (n' := z + 5 + 4 * v + 2) (h' := hF (z + 5 + 4 * v + 2) g (upN (upN (nodX z v g F) (z + 5 + 4 * v) (.inr (2, [.ref (g.1 + (z + 5 + 4 * v + 1)), .int (nI 0), .int (nI 0), .int (nI 0)]))) (z + 5 + 4 * v + 1) (iA 8 (fun _ => 0)))) (k' := 4 + 4 * v + 2) (sl' := 372 + 24 * v + 12) (by omega) rfl (by omega) (by omega) ?_
    refine r_qst (t := 3) rfl (ci := 2) rfl d_N_init_69 (hF_getE (r := z + 3) (by omega) (upN_g (by omega) (upN_g (by omega) nodX_3))) (hF_getE (r := z + 5 + 4 * v) (by omega) (upN_g (by omega) upN_s)) (by omega) (by decide) rfl (hF_setE (r := z + 3) (by omega) rfl) ?_
    refine r_aload_n d_N_init_70 0 rfl ?_
    refine rg_N_25 rfl d_N_init_71 (hF_getE (r := z) (by omega) (upN_g (by omega) (upN_g (by omega) (upN_g (by omega) nodX_0)))) rfl ?_
    refine r_iload_n d_N_init_74 1 rfl ?_
    refine f_new (ci := 2) (N := 4) (fs := [.null, .int 0, .int 0, .int 0]) rfl iw_H ty_H ty_H_ok (by decide +kernel) (by decide +kernel) (by decide +kernel) (by decide) d_N_init_75 ⟨by show _ ≤ 28; omega, by show _ ≤ 516; omega⟩ ?_
    refine r_cnt (n' := z + 5 + 4 * v + 3) (h' := hF (z + 5 + 4 * v + 3) g (upN (upN (upN (upN (nodX z v g F) (z + 5 + 4 * v) (.inr (2, [.ref (g.1 + (z + 5 + 4 * v + 1)), .int (nI 0), .int (nI 0), .int (nI 0)]))) (z + 5 + 4 * v + 1) (iA 8 (fun _ => 0))) (z + 3) (qA 3 6 (upN (fun o => if o < v then some (g.1 + (z + 5 + 4 * o)) else none) v (some (g.1 + (z + 5 + 4 * v)))))) (z + 5 + 4 * v + 2) (.inr (2, [.null, .int 0, .int 0, .int 0])))) (k' := 4 + 4 * v + 3) (sl' := 372 + 24 * v + 16) (by omega) rfl (by omega) (by omega) ?_
    refine r_dup d_N_init_78 rfl ?_
    refine r_cIN (M' := M_H_init) (host := "ShareStore") (np := 0) (b := g.1 + (z + 5 + 4 * v + 2)) (As := []) (k_H_init (z := z + 5 + 4 * v + 2) (F := upN (upN (upN (nodX z v g F) (z + 5 + 4 * v) (.inr (2, [.ref (g.1 + (z + 5 + 4 * v + 1)), .int (nI 0), .int (nI 0), .int (nI 0)]))) (z + 5 + 4 * v + 1) (iA 8 (fun _ => 0))) (z + 3) (qA 3 6 (upN (fun o => if o < v then some (g.1 + (z + 5 + 4 * o)) else none) v (some (g.1 + (z + 5 + 4 * v)))))) (d := d - 1) (by omega)) rfl rfl (by decide +kernel) (by decide +kernel) (by decide +kernel) (by decide +kernel) (by decide +kernel) rfl d_N_init_79 (room_ok (d' := d - 1) (by omega) (by decide)) ⟨by show _ ≤ 28; omega, by show _ ≤ 516; omega⟩ rfl (Nat.le_of_ble_eq_true rfl) ?_
    refine r_cnt (n' := z + 5 + 4 * v + 4) (h' := hF (z + 5 + 4 * v + 4) g (upN (upN (upN (upN (upN (nodX z v g F) (z + 5 + 4 * v) (.inr (2, [.ref (g.1 + (z + 5 + 4 * v + 1)), .int (nI 0), .int (nI 0), .int (nI 0)]))) (z + 5 + 4 * v + 1) (iA 8 (fun _ => 0))) (z + 3) (qA 3 6 (upN (fun o => if o < v then some (g.1 + (z + 5 + 4 * o)) else none) v (some (g.1 + (z + 5 + 4 * v)))))) (z + 5 + 4 * v + 2) (.inr (2, [.ref (g.1 + (z + 5 + 4 * v + 3)), .int (nI 0), .int (nI 0), .int (nI 0)]))) (z + 5 + 4 * v + 3) (iA 8 (fun _ => 0)))) (k' := 4 + 4 * v + 4) (sl' := 372 + 24 * v + 24) (by omega) rfl (by omega) (by omega) ?_
    refine r_qst (t := 3) rfl (ci := 2) rfl d_N_init_82 (hF_getE (r := z + 4) (by omega) (upN_g (by omega) (upN_g (by omega) (upN_g (by omega) (upN_g (by omega) (upN_g (by omega) nodX_4)))))) (hF_getE (r := z + 5 + 4 * v + 2) (by omega) (upN_g (by omega) upN_s)) (by omega) (by decide) rfl (hF_setE (r := z + 4) (by omega) rfl) ?_
    refine r_iincN (lv' := [(0, _), (1, _)]) d_N_init_83 1 rfl (by decide) rfl ?_
    refine r_goto (tgt := 51) d_N_init_86 (by decide) ?_
    refine r_cnt (n' := z + 5 + 4 * (v + 1)) (h' := hF (z + 5 + 4 * (v + 1)) g (nodX z (v + 1) g F)) (k' := 4 + 4 * (v + 1)) (sl' := 372 + 24 * (v + 1)) (by omega) (hF_cong (by omega) ?_) (by omega) (by omega) ih_v
    refine nodX_step (qA_up fun o => ?_) (qA_up fun o => ?_) rfl rfl rfl rfl
    · by_cases e : o = v
      · subst e
        rw [if_pos rfl, if_pos (Nat.lt_succ_self _)]
      · rw [if_neg e]
        by_cases e2 : o < v
        · rw [if_pos e2, if_pos (by omega)]
        · rw [if_neg e2, if_neg (by omega)]
    · by_cases e : o = v
      · subst e
        rw [if_pos rfl, if_pos (Nat.lt_succ_self _), show z + 5 + 4 * o + 2 = z + 7 + 4 * o by omega]
      · rw [if_neg e]
        by_cases e2 : o < v
        · rw [if_pos e2, if_pos (by omega)]
        · rw [if_neg e2, if_neg (by omega)]
