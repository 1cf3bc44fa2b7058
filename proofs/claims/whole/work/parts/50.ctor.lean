theorem k_C_init {l : Launch} {g : GX} (hmna : MNA) {F : Nat → AC} {q : Nat × List Value} {d : Nat} (hd : 2 ≤ d) : CE l g M_C_init d 50 1147 [.ref (g.1 + 1)] 2 (hF 2 g (upN (upN F 0 (.inr q)) 1 (.inr (0, [.null, .null, .null, .null, .null, .null, .null])))) none 52 (hF 52 g (upN (Zf g) 0 (.inr q))) := by
  refine CE.of (by decide +kernel) (lv := [(0, .ref (g.1 + 1))]) rfl (Nat.le_of_ble_eq_true rfl) ?_
  refine r_aload_n d_C_init_0 0 rfl ?_
  refine r_objInit d_C_init_1 (by decide +kernel) (by decide +kernel) (by decide +kernel) ⟨by show 1 ≤ d; omega, by show _ ≤ 36 * d; simp [Value.category]; omega⟩ ?_
  refine r_aload_n d_C_init_4 0 rfl ?_
  refine f_new (ci := 1) (N := 2) (fs := [.null, .null]) rfl iw_F ty_F ty_F_ok (by decide +kernel) (by decide +kernel) (by decide +kernel) (by decide) d_C_init_5 ⟨by show _ ≤ 50; omega, by show _ ≤ 1147; omega⟩ ?_
  refine r_cnt (n' := 3) (h' := hF 3 g (upN (upN (upN F 0 (.inr q)) 1 (.inr (0, [.null, .null, .null, .null, .null, .null, .null]))) 2 (.inr (1, [.null, .null])))) (k' := 1) (sl' := 2) (by omega) rfl (by omega) (by omega) ?_
  refine r_dup d_C_init_8 rfl ?_
  refine r_cI (M' := M_F_init) (np := 0) (b := g.1 + 2) (As := []) (k_F_init (z := 2) (F := upN (upN F 0 (.inr q)) 1 (.inr (0, [.null, .null, .null, .null, .null, .null, .null]))) (d := d - 1) (by omega)) rfl rfl (by decide +kernel) (by decide +kernel) (by decide +kernel) (by decide +kernel) (by decide +kernel) rfl d_C_init_9 (room_ok (d' := d - 1) (by omega) (by decide)) ⟨by show _ ≤ 50; omega, by show _ ≤ 1147; omega⟩ rfl (Nat.le_of_ble_eq_true rfl) ?_
  refine r_cnt (n' := 5) (h' := hF 5 g (upN (upN (upN (upN (upN F 0 (.inr q)) 1 (.inr (0, [.null, .null, .null, .null, .null, .null, .null]))) 2 (.inr (1, [.ref (g.1 + 3), .ref (g.1 + 4)]))) 3 (iA 512 pwT)) 4 (iA 256 exT))) (k' := 3) (sl' := 770) (by omega) rfl (by omega) (by omega) ?_
  refine rp_C_12 rfl rfl d_C_init_12 (hF_getE (r := 1) (by omega) (upN_g (by omega) (upN_g (by omega) (upN_g (by omega) upN_s)))) (Nat.le_of_ble_eq_true rfl) rfl (hF_setE (r := 1) (by omega) (upN_in (by omega) (upN_in (by omega) (upN_in (by omega) upN_same)))) ?_
  refine r_aload_n d_C_init_15 0 rfl ?_
  refine r_bipush (v := nI 12) d_C_init_16 (by decide) ?_
  refine r_bipush (v := nI 8) d_C_init_18 (by decide) ?_
  refine hmna _ _ _ _ _ _ _ _ _ _ _ _ _ _ _ 12 8 (by decide +kernel) (by decide +kernel) (by decide +kernel) d_C_init_20 (by decide) (by decide) ⟨by show _ ≤ 50; omega, by show _ ≤ 1147; omega⟩ hF_mna ?_
  refine r_cnt (n' := 18) (h' := hF 18 g (mnF g (upN (upN (upN (upN (upN F 0 (.inr q)) 1 (.inr (0, [.ref (g.1 + 2), .null, .null, .null, .null, .null, .null]))) 2 (.inr (1, [.ref (g.1 + 3), .ref (g.1 + 4)]))) 3 (iA 512 pwT)) 4 (iA 256 exT)) 5 12 8)) (k' := 16) (sl' := 878) (by omega) rfl (by omega) (by omega) ?_
  refine rp_C_20 rfl rfl d_C_init_24 (hF_getE (r := 1) (by omega) (mnF_o (by omega) (by omega) (upN_g (by omega) (upN_g (by omega) (upN_g (by omega) upN_s))))) (Nat.le_of_ble_eq_true rfl) rfl (hF_setE (r := 1) (by omega) rfl) ?_
  refine r_aload_n d_C_init_27 0 rfl ?_
  refine r_bipush (v := nI 8) d_C_init_28 (by decide) ?_
  refine r_bipush (v := nI 8) d_C_init_30 (by decide) ?_
  refine hmna _ _ _ _ _ _ _ _ _ _ _ _ _ _ _ 8 8 (by decide +kernel) (by decide +kernel) (by decide +kernel) d_C_init_32 (by decide) (by decide) ⟨by show _ ≤ 50; omega, by show _ ≤ 1147; omega⟩ hF_mna ?_
  refine r_cnt (n' := 27) (h' := hF 27 g (mnF g (upN (mnF g (upN (upN (upN (upN (upN F 0 (.inr q)) 1 (.inr (0, [.ref (g.1 + 2), .null, .null, .null, .null, .null, .null]))) 2 (.inr (1, [.ref (g.1 + 3), .ref (g.1 + 4)]))) 3 (iA 512 pwT)) 4 (iA 256 exT)) 5 12 8) 1 (.inr (0, [.ref (g.1 + 2), .ref (g.1 + 5), .null, .null, .null, .null, .null]))) 18 8 8)) (k' := 25) (sl' := 950) (by omega) rfl (by omega) (by omega) ?_
  refine rp_C_23 rfl rfl d_C_init_36 (hF_getE (r := 1) (by omega) (mnF_o (by omega) (by omega) upN_s)) (Nat.le_of_ble_eq_true rfl) rfl (hF_setE (r := 1) (by omega) rfl) ?_
  refine r_aload_n d_C_init_39 0 rfl ?_
  refine r_iconst (v := nI 5) d_C_init_40 (by decide) ?_
  refine r_bipush (v := nI 8) d_C_init_41 (by decide) ?_
  refine hmna _ _ _ _ _ _ _ _ _ _ _ _ _ _ _ 5 8 (by decide +kernel) (by decide +kernel) (by decide +kernel) d_C_init_43 (by decide) (by decide) ⟨by show _ ≤ 50; omega, by show _ ≤ 1147; omega⟩ hF_mna ?_
  refine r_cnt (n' := 33) (h' := hF 33 g (mnF g (upN (mnF g (upN (mnF g (upN (upN (upN (upN (upN F 0 (.inr q)) 1 (.inr (0, [.ref (g.1 + 2), .null, .null, .null, .null, .null, .null]))) 2 (.inr (1, [.ref (g.1 + 3), .ref (g.1 + 4)]))) 3 (iA 512 pwT)) 4 (iA 256 exT)) 5 12 8) 1 (.inr (0, [.ref (g.1 + 2), .ref (g.1 + 5), .null, .null, .null, .null, .null]))) 18 8 8) 1 (.inr (0, [.ref (g.1 + 2), .ref (g.1 + 5), .ref (g.1 + 18), .null, .null, .null, .null]))) 27 5 8)) (k' := 31) (sl' := 995) (by omega) rfl (by omega) (by omega) ?_
  refine rp_C_26 rfl rfl d_C_init_47 (hF_getE (r := 1) (by omega) (mnF_o (by omega) (by omega) upN_s)) (Nat.le_of_ble_eq_true rfl) rfl (hF_setE (r := 1) (by omega) rfl) ?_
  refine r_aload_n d_C_init_50 0 rfl ?_
  refine r_bipush (v := nI 8) d_C_init_51 (by decide) ?_
  refine r_bipush (v := nI 8) d_C_init_53 (by decide) ?_
  refine hmna _ _ _ _ _ _ _ _ _ _ _ _ _ _ _ 8 8 (by decide +kernel) (by decide +kernel) (by decide +kernel) d_C_init_55 (by decide) (by decide) ⟨by show _ ≤ 50; omega, by show _ ≤ 1147; omega⟩ hF_mna ?_
  refine r_cnt (n' := 42) (h' := hF 42 g (mnF g (upN (mnF g (upN (mnF g (upN (mnF g (upN (upN (upN (upN (upN F 0 (.inr q)) 1 (.inr (0, [.ref (g.1 + 2), .null, .null, .null, .null, .null, .null]))) 2 (.inr (1, [.ref (g.1 + 3), .ref (g.1 + 4)]))) 3 (iA 512 pwT)) 4 (iA 256 exT)) 5 12 8) 1 (.inr (0, [.ref (g.1 + 2), .ref (g.1 + 5), .null, .null, .null, .null, .null]))) 18 8 8) 1 (.inr (0, [.ref (g.1 + 2), .ref (g.1 + 5), .ref (g.1 + 18), .null, .null, .null, .null]))) 27 5 8) 1 (.inr (0, [.ref (g.1 + 2), .ref (g.1 + 5), .ref (g.1 + 18), .ref (g.1 + 27), .null, .null, .null]))) 33 8 8)) (k' := 40) (sl' := 1067) (by omega) rfl (by omega) (by omega) ?_
  refine rp_C_29 rfl rfl d_C_init_59 (hF_getE (r := 1) (by omega) (mnF_o (by omega) (by omega) upN_s)) (Nat.le_of_ble_eq_true rfl) rfl (hF_setE (r := 1) (by omega) rfl) ?_
  refine r_aload_n d_C_init_62 0 rfl ?_
  refine r_bipush (v := nI 8) d_C_init_63 (by decide) ?_
  refine r_bipush (v := nI 8) d_C_init_65 (by decide) ?_
  refine hmna _ _ _ _ _ _ _ _ _ _ _ _ _ _ _ 8 8 (by decide +kernel) (by decide +kernel) (by decide +kernel) d_C_init_67 (by decide) (by decide) ⟨by show _ ≤ 50; omega, by show _ ≤ 1147; omega⟩ hF_mna ?_
  refine r_cnt (n' := 51) (h' := hF 51 g (mnF g (upN (mnF g (upN (mnF g (upN (mnF g (upN (mnF g (upN (upN (upN (upN (upN F 0 (.inr q)) 1 (.inr (0, [.ref (g.1 + 2), .null, .null, .null, .null, .null, .null]))) 2 (.inr (1, [.ref (g.1 + 3), .ref (g.1 + 4)]))) 3 (iA 512 pwT)) 4 (iA 256 exT)) 5 12 8) 1 (.inr (0, [.ref (g.1 + 2), .ref (g.1 + 5), .null, .null, .null, .null, .null]))) 18 8 8) 1 (.inr (0, [.ref (g.1 + 2), .ref (g.1 + 5), .ref (g.1 + 18), .null, .null, .null, .null]))) 27 5 8) 1 (.inr (0, [.ref (g.1 + 2), .ref (g.1 + 5), .ref (g.1 + 18), .ref (g.1 + 27), .null, .null, .null]))) 33 8 8) 1 (.inr (0, [.ref (g.1 + 2), .ref (g.1 + 5), .ref (g.1 + 18), .ref (g.1 + 27), .ref (g.1 + 33), .null, .null]))) 42 8 8)) (k' := 49) (sl' := 1139) (by omega) rfl (by omega) (by omega) ?_
  refine rp_C_32 rfl rfl d_C_init_71 (hF_getE (r := 1) (by omega) (mnF_o (by omega) (by omega) upN_s)) (Nat.le_of_ble_eq_true rfl) rfl (hF_setE (r := 1) (by omega) rfl) ?_
  refine r_aload_n d_C_init_74 0 rfl ?_
  refine r_bipush (v := nI 8) d_C_init_75 (by decide) ?_
  refine f_newi (N := 8) d_C_init_77 (by decide) ⟨by show _ ≤ 50; omega, by show _ ≤ 1147; omega⟩ ?_
  refine r_cnt (n' := 52) (h' := hF 52 g (upN (upN (mnF g (upN (mnF g (upN (mnF g (upN (mnF g (upN (mnF g (upN (upN (upN (upN (upN F 0 (.inr q)) 1 (.inr (0, [.ref (g.1 + 2), .null, .null, .null, .null, .null, .null]))) 2 (.inr (1, [.ref (g.1 + 3), .ref (g.1 + 4)]))) 3 (iA 512 pwT)) 4 (iA 256 exT)) 5 12 8) 1 (.inr (0, [.ref (g.1 + 2), .ref (g.1 + 5), .null, .null, .null, .null, .null]))) 18 8 8) 1 (.inr (0, [.ref (g.1 + 2), .ref (g.1 + 5), .ref (g.1 + 18), .null, .null, .null, .null]))) 27 5 8) 1 (.inr (0, [.ref (g.1 + 2), .ref (g.1 + 5), .ref (g.1 + 18), .ref (g.1 + 27), .null, .null, .null]))) 33 8 8) 1 (.inr (0, [.ref (g.1 + 2), .ref (g.1 + 5), .ref (g.1 + 18), .ref (g.1 + 27), .ref (g.1 + 33), .null, .null]))) 42 8 8) 1 (.inr (0, [.ref (g.1 + 2), .ref (g.1 + 5), .ref (g.1 + 18), .ref (g.1 + 27), .ref (g.1 + 33), .ref (g.1 + 42), .null]))) 51 (iA 8 (fun _ => 0)))) (k' := 50) (sl' := 1147) (by omega) rfl (by omega) (by omega) ?_
  refine rp_C_35 rfl rfl d_C_init_79 (hF_getE (r := 1) (by omega) (upN_g (by omega) upN_s)) (Nat.le_of_ble_eq_true rfl) rfl (hF_setE (r := 1) (by omega) (upN_in (by omega) upN_same)) ?_
  refine C_init_rows (by omega) (upN_g (by omega) upN_s) (upN_g (by omega) (upN_g (by omega) (mnF_o (by omega) (by omega) (upN_g (by omega) (mnF_o (by omega) (by omega) (upN_g (by omega) (mnF_o (by omega) (by omega) (upN_g (by omega) (mnF_o (by omega) (by omega) (upN_g (by omega) (mnF_o (by omega) (by omega) (upN_g (by omega) (upN_g (by omega) upN_s))))))))))))) (upN_g (by omega) (upN_g (by omega) (mnF_o (by omega) (by omega) (upN_g (by omega) (mnF_o (by omega) (by omega) (upN_g (by omega) (mnF_o (by omega) (by omega) (upN_g (by omega) (mnF_o (by omega) (by omega) (upN_g (by omega) (mnF_o (by omega) (by omega) (upN_g (by omega) upN_s)))))))))))) (upN_g (by omega) (upN_g (by omega) (mnF_o (by omega) (by omega) (upN_g (by omega) (mnF_o (by omega) (by omega) (upN_g (by omega) (mnF_o (by omega) (by omega) (upN_g (by omega) (mnF_o (by omega) (by omega) (upN_g (by omega) (mnF_o (by omega) (by omega) upN_s))))))))))) (upN_g (by omega) (upN_g (by omega) (mnF_o (by omega) (by omega) (upN_g (by omega) (mnF_o (by omega) (by omega) (upN_g (by omega) (mnF_o (by omega) (by omega) (upN_g (by omega) (mnF_o (by omega) (by omega) (upN_g (by omega) mnF_z)))))))))) (fun r h1 h2 => (upN_g (by omega) (upN_g (by omega) (mnF_o (by omega) (by omega) (upN_g (by omega) (mnF_o (by omega) (by omega) (upN_g (by omega) (mnF_o (by omega) (by omega) (upN_g (by omega) (mnF_o (by omega) (by omega) (upN_g (by omega) (mnF_r (by omega))))))))))))) (fun r hr he => ?_)
  by_cases e0 : r = 0
  · subst e0
    exact AEQ_o (upN_g (by omega) (upN_g (by omega) (mnF_o (by omega) (by omega) (upN_g (by omega) (mnF_o (by omega) (by omega) (upN_g (by omega) (mnF_o (by omega) (by omega) (upN_g (by omega) (mnF_o (by omega) (by omega) (upN_g (by omega) (mnF_o (by omega) (by omega) (upN_g (by omega) (upN_g (by omega) (upN_g (by omega) (upN_g (by omega) upN_s))))))))))))))) upN_s rfl
  by_cases e1 : r = 1
  · subst e1
    exact AEQ_o (upN_g (by omega) upN_s) (upN_g (by omega) (Zf_of (r := 1) (t := 1) (i := 0) (j := 0) rfl rfl)) rfl
  by_cases e2 : r = 2
  · subst e2
    exact AEQ_o (upN_g (by omega) (upN_g (by omega) (mnF_o (by omega) (by omega) (upN_g (by omega) (mnF_o (by omega) (by omega) (upN_g (by omega) (mnF_o (by omega) (by omega) (upN_g (by omega) (mnF_o (by omega) (by omega) (upN_g (by omega) (mnF_o (by omega) (by omega) (upN_g (by omega) (upN_g (by omega) upN_s))))))))))))) (upN_g (by omega) (Zf_of (r := 2) (t := 2) (i := 0) (j := 0) rfl rfl)) rfl
  by_cases e3 : r = 3
  · subst e3
    exact AEQ_i (upN_g (by omega) (upN_g (by omega) (mnF_o (by omega) (by omega) (upN_g (by omega) (mnF_o (by omega) (by omega) (upN_g (by omega) (mnF_o (by omega) (by omega) (upN_g (by omega) (mnF_o (by omega) (by omega) (upN_g (by omega) (mnF_o (by omega) (by omega) (upN_g (by omega) upN_s)))))))))))) (upN_g (by omega) (Zf_of (r := 3) (t := 3) (i := 0) (j := 0) rfl rfl)) (fun _ _ => rfl)
  by_cases e4 : r = 4
  · subst e4
    exact AEQ_i (upN_g (by omega) (upN_g (by omega) (mnF_o (by omega) (by omega) (upN_g (by omega) (mnF_o (by omega) (by omega) (upN_g (by omega) (mnF_o (by omega) (by omega) (upN_g (by omega) (mnF_o (by omega) (by omega) (upN_g (by omega) (mnF_o (by omega) (by omega) upN_s))))))))))) (upN_g (by omega) (Zf_of (r := 4) (t := 4) (i := 0) (j := 0) rfl rfl)) (fun _ _ => rfl)
  by_cases e5 : r = 5
  · subst e5
    exact AEQ_q (upN_g (by omega) (upN_g (by omega) (mnF_o (by omega) (by omega) (upN_g (by omega) (mnF_o (by omega) (by omega) (upN_g (by omega) (mnF_o (by omega) (by omega) (upN_g (by omega) (mnF_o (by omega) (by omega) (upN_g (by omega) mnF_z)))))))))) (upN_g (by omega) (Zf_of (r := 5) (t := 5) (i := 0) (j := 0) rfl rfl)) (fun _ _ => rfl)
  by_cases e18 : r = 18
  · subst e18
    exact AEQ_q (upN_g (by omega) (upN_g (by omega) (mnF_o (by omega) (by omega) (upN_g (by omega) (mnF_o (by omega) (by omega) (upN_g (by omega) (mnF_o (by omega) (by omega) (upN_g (by omega) mnF_z)))))))) (upN_g (by omega) (Zf_of (r := 18) (t := 7) (i := 0) (j := 0) rfl rfl)) (fun _ _ => rfl)
  by_cases e27 : r = 27
  · subst e27
    exact AEQ_q (upN_g (by omega) (upN_g (by omega) (mnF_o (by omega) (by omega) (upN_g (by omega) (mnF_o (by omega) (by omega) (upN_g (by omega) mnF_z)))))) (upN_g (by omega) (Zf_of (r := 27) (t := 9) (i := 0) (j := 0) rfl rfl)) (fun _ _ => rfl)
  by_cases e33 : r = 33
  · subst e33
    exact AEQ_q (upN_g (by omega) (upN_g (by omega) (mnF_o (by omega) (by omega) (upN_g (by omega) mnF_z)))) (upN_g (by omega) (Zf_of (r := 33) (t := 11) (i := 0) (j := 0) rfl rfl)) (fun _ _ => rfl)
  by_cases e42 : r = 42
  · subst e42
    exact AEQ_q (upN_g (by omega) (upN_g (by omega) mnF_z)) (upN_g (by omega) (Zf_of (r := 42) (t := 13) (i := 0) (j := 0) rfl rfl)) (fun _ _ => rfl)
  by_cases e51 : r = 51
  · subst e51
    exact AEQ_i upN_s (upN_g (by omega) (Zf_of (r := 51) (t := 15) (i := 0) (j := 0) rfl rfl)) (fun _ _ => rfl)
  by_cases ea : 19 ≤ r ∧ r < 27
  · obtain ⟨i, rfl⟩ : ∃ i, r = 19 + i := ⟨r - 19, by omega⟩
    exact AEQ_i (upN_g (by omega) (upN_g (by omega) (mnF_o (by omega) (by omega) (upN_g (by omega) (mnF_o (by omega) (by omega) (upN_g (by omega) (mnF_o (by omega) (by omega) (upN_g (by omega) (mnF_r (by omega)))))))))) (upN_g (by omega) (Zf_of (kd_MatR (by omega)) rfl)) (fun _ _ => rfl)
  by_cases eb : 28 ≤ r ∧ r < 33
  · obtain ⟨i, rfl⟩ : ∃ i, r = 28 + i := ⟨r - 28, by omega⟩
    exact AEQ_i (upN_g (by omega) (upN_g (by omega) (mnF_o (by omega) (by omega) (upN_g (by omega) (mnF_o (by omega) (by omega) (upN_g (by omega) (mnF_r (by omega)))))))) (upN_g (by omega) (Zf_of (kd_GivR (by omega)) rfl)) (fun _ _ => rfl)
  by_cases ec : 34 ≤ r ∧ r < 42
  · obtain ⟨i, rfl⟩ : ∃ i, r = 34 + i := ⟨r - 34, by omega⟩
    exact AEQ_i (upN_g (by omega) (upN_g (by omega) (mnF_o (by omega) (by omega) (upN_g (by omega) (mnF_r (by omega)))))) (upN_g (by omega) (Zf_of (kd_SquR (by omega)) rfl)) (fun _ _ => rfl)
  by_cases ed : 43 ≤ r ∧ r < 51
  · obtain ⟨i, rfl⟩ : ∃ i, r = 43 + i := ⟨r - 43, by omega⟩
    exact AEQ_i (upN_g (by omega) (upN_g (by omega) (mnF_r (by omega)))) (upN_g (by omega) (Zf_of (kd_InvR (by omega)) rfl)) (fun _ _ => rfl)
  exfalso
  omega
theorem AEQ_cell {g : GX} {c : CS} {m : MS} {t i j : Nat} : AEQ (cellK g c m t i j) (cellK g c m t i j) := by
  unfold cellK
  split <;> first | exact ⟨rfl, rfl, fun _ _ => rfl⟩ | exact (rfl : ((_ : Nat × List Value)) = _)
theorem AEQ_Z {g : GX} {r : Nat} : AEQ (Zf g r) (Zf g r) := AEQ_cell
theorem Zf_at {g : GX} {r r' t i j : Nat} {x : AC} (e : r = r') (hk : kd r' = (t, i, j)) (hx : cellK g cIni mIni t i j = x) : Zf g r = x := by
  subst e
  exact Zf_of hk hx
theorem AEQ_to {x x' y y' : AC} (h : AEQ x y) (hx : x' = x) (hy : y' = y) : AEQ x' y' := by
  subst hx hy
  exact h
def ndq (g : GX) (i : Nat) : Nat → Option Nat := fun o => if o < i then some (g.1 + (59 + 29 * o)) else none
theorem ndq_s {g : GX} {i : Nat} : upN (ndq g i) i (some (g.1 + (59 + 29 * i))) = ndq g (i + 1) := by
  funext q
  unfold upN ndq
  by_cases h : q = i
  · rw [if_pos h, if_pos (by omega), h]
  · rw [if_neg h]
    by_cases h2 : q < i
    · rw [if_pos h2, if_pos (by omega)]
    · rw [if_neg h2, if_neg (by omega)]
theorem nodX_lo {z i r : Nat} {g : GX} {F : Nat → AC} {x : AC} (h : r < z) (hx : F r = x) : nodX z i g F r = x := by
  unfold nodX
  rw [if_pos h, hx]
theorem nodX_1 {z i : Nat} {g : GX} {F : Nat → AC} : nodX z i g F (z + 1) = iA 320 (fun _ => 0) := by
  unfold nodX
  rw [if_neg (by omega), if_neg (by omega), if_pos rfl]
theorem nodX_2 {z i : Nat} {g : GX} {F : Nat → AC} : nodX z i g F (z + 2) = zA 40 (fun _ => false) := by
  unfold nodX
  rw [if_neg (by omega), if_neg (by omega), if_neg (by omega), if_pos rfl]
theorem nodX_h {z i p : Nat} {g : GX} {F : Nat → AC} (h : p < 2 * i) : nodX z i g F (z + 5 + 2 * p) = .inr (2, [.ref (g.1 + (z + 5 + 2 * p + 1)), .int (nI 0), .int (nI 0), .int (nI 0)]) := by
  unfold nodX
  rw [if_neg (by omega), if_neg (by omega), if_neg (by omega), if_neg (by omega), if_neg (by omega), if_neg (by omega), if_pos (by omega), if_pos (by omega)]
theorem nodX_p {z i p : Nat} {g : GX} {F : Nat → AC} (h : p < 2 * i) : nodX z i g F (z + 6 + 2 * p) = iA 8 (fun _ => 0) := by
  unfold nodX
  rw [if_neg (by omega), if_neg (by omega), if_neg (by omega), if_neg (by omega), if_neg (by omega), if_neg (by omega), if_pos (by omega), if_neg (by omega)]
theorem nodX_Zf {g : GX} {i r : Nat} {F : Nat → AC} (hi : i < 12) (h1 : 59 + 29 * i ≤ r) (h2 : r < 59 + 29 * i + 29) : AEQ (nodX (59 + 29 * i) 6 g F r) (Zf g r) := by
  obtain ⟨q, rfl⟩ : ∃ q, r = 59 + 29 * i + q := ⟨r - (59 + 29 * i), by omega⟩
  have hq : q < 29 := by omega
  by_cases e0 : q = 0
  · subst e0
    exact AEQ_o nodX_0 (Zf_of (kd_N hi) rfl) (by
      show [Value.ref (g.1 + (59 + 29 * i + 1)), .ref (g.1 + (59 + 29 * i + 2)), .ref (g.1 + (59 + 29 * i + 3)), .ref (g.1 + (59 + 29 * i + 4)), .int (b2 true), .int (nI 0)] = [Value.ref (g.1 + (60 + 29 * i)), .ref (g.1 + (61 + 29 * i)), .ref (g.1 + (62 + 29 * i)), .ref (g.1 + (63 + 29 * i)), .int (b2 true), .int 0]
      rw [show 59 + 29 * i + 1 = 60 + 29 * i by omega, show 59 + 29 * i + 2 = 61 + 29 * i by omega, show 59 + 29 * i + 3 = 62 + 29 * i by omega, show 59 + 29 * i + 4 = 63 + 29 * i by omega]
      rfl)
  by_cases e1 : q = 1
  · subst e1
    exact AEQ_i nodX_1 (Zf_at (show 59 + 29 * i + 1 = 60 + 29 * i by omega) (kd_D hi) rfl) (fun _ _ => rfl)
  by_cases e2 : q = 2
  · subst e2
    exact AEQ_z nodX_2 (Zf_at (show 59 + 29 * i + 2 = 61 + 29 * i by omega) (kd_T hi) rfl) (fun _ _ => rfl)
  by_cases e3 : q = 3
  · subst e3
    refine AEQ_q nodX_3 (Zf_at (show 59 + 29 * i + 3 = 62 + 29 * i by omega) (kd_R hi) rfl) (fun o ho => ?_)
    rw [if_pos ho]
    show some (g.1 + (59 + 29 * i + 5 + 4 * o)) = some (g.1 + (64 + 29 * i + 2 * (2 * o + 0)))
    rw [show 59 + 29 * i + 5 + 4 * o = 64 + 29 * i + 2 * (2 * o + 0) by omega]
  by_cases e4 : q = 4
  · subst e4
    refine AEQ_q nodX_4 (Zf_at (show 59 + 29 * i + 4 = 63 + 29 * i by omega) (kd_Sh hi) rfl) (fun o ho => ?_)
    rw [if_pos ho]
    show some (g.1 + (59 + 29 * i + 7 + 4 * o)) = some (g.1 + (64 + 29 * i + 2 * (2 * o + 1)))
    rw [show 59 + 29 * i + 7 + 4 * o = 64 + 29 * i + 2 * (2 * o + 1) by omega]
  by_cases e5 : (q - 5) % 2 = 0
  · obtain ⟨p, rfl⟩ : ∃ p, q = 5 + 2 * p := ⟨(q - 5) / 2, by omega⟩
    have ep : 59 + 29 * i + (5 + 2 * p) = 59 + 29 * i + 5 + 2 * p := by omega
    rw [ep]
    refine AEQ_o (nodX_h (by omega)) (Zf_at (show 59 + 29 * i + 5 + 2 * p = 64 + 29 * i + 2 * p by omega) (kd_H hi (by omega)) rfl) ?_
    show _ = [Value.ref (g.1 + (65 + 29 * i + 2 * p)), .int (nI 0), .int (nI 0), .int (nI 0)]
    rw [show 59 + 29 * i + 5 + 2 * p + 1 = 65 + 29 * i + 2 * p by omega]
  · obtain ⟨p, rfl⟩ : ∃ p, q = 6 + 2 * p := ⟨(q - 6) / 2, by omega⟩
    have ep : 59 + 29 * i + (6 + 2 * p) = 59 + 29 * i + 6 + 2 * p := by omega
    rw [ep]
    exact AEQ_i (nodX_p (by omega)) (Zf_at (show 59 + 29 * i + 6 + 2 * p = 65 + 29 * i + 2 * p by omega) (kd_Pl hi (by omega)) rfl) (fun _ _ => rfl)
theorem AEQ_ndq {g : GX} : AEQ (qA 2 12 (ndq g 12)) (Zf g 52) := AEQ_q rfl (Zf_of (r := 52) (t := 16) (i := 0) (j := 0) rfl rfl) (fun o ho => if_pos ho)
theorem Zf_0 {g : GX} : Zf g 0 = .inr (4, [.ref (g.1 + 1), .ref (g.1 + 52), .ref (g.1 + 53), .ref (g.1 + 54), .ref (g.1 + 55), .int (nI 0), .ref (g.1 + 56), .int (nI 0), .int (-1), .int (nI 0), .int (nI 0), .ref (g.1 + 57), .ref (g.1 + 58)]) := rfl
theorem k_S_init {l : Launch} {g : GX} (hmna : MNA) {F : Nat → AC} {d : Nat} (hd : 3 ≤ d) : CE l g M_S_init d 406 7938 [.ref (g.1 + 0)] 1 (hF 1 g (upN F 0 (.inr (4, [.null, .null, .null, .null, .null, .int 0, .null, .int 0, .int 0, .int 0, .int 0, .null, .null])))) none 407 (hF 407 g (Zf g)) := by
  refine CE.of (by decide +kernel) (lv := [(0, .ref (g.1 + 0))]) rfl (Nat.le_of_ble_eq_true rfl) ?_
  refine r_aload_n d_S_init_0 0 rfl ?_
  refine r_objInit d_S_init_1 (by decide +kernel) (by decide +kernel) (by decide +kernel) ⟨by show 1 ≤ d; omega, by show _ ≤ 36 * d; simp [Value.category]; omega⟩ ?_
  refine r_aload_n d_S_init_4 0 rfl ?_
  refine f_new (ci := 0) (N := 7) (fs := [.null, .null, .null, .null, .null, .null, .null]) rfl iw_C ty_C ty_C_ok (by decide +kernel) (by decide +kernel) (by decide +kernel) (by decide) d_S_init_5 ⟨by show _ ≤ 406; omega, by show _ ≤ 7938; omega⟩ ?_
  refine r_cnt (n' := 2) (h' := hF 2 g (upN (upN F 0 (.inr (4, [.null, .null, .null, .null, .null, .int 0, .null, .int 0, .int 0, .int 0, .int 0, .null, .null]))) 1 (.inr (0, [.null, .null, .null, .null, .null, .null, .null])))) (k' := 1) (sl' := 7) (by omega) rfl (by omega) (by omega) ?_
  refine r_dup d_S_init_8 rfl ?_
  refine r_cI (M' := M_C_init) (np := 0) (b := g.1 + 1) (As := []) (k_C_init hmna (F := F) (q := (4, [.null, .null, .null, .null, .null, .int 0, .null, .int 0, .int 0, .int 0, .int 0, .null, .null])) (d := d - 1) (by omega)) rfl rfl (by decide +kernel) (by decide +kernel) (by decide +kernel) (by decide +kernel) (by decide +kernel) rfl d_S_init_9 (room_ok (d' := d - 1) (by omega) (by decide)) ⟨by show _ ≤ 406; omega, by show _ ≤ 7938; omega⟩ rfl (Nat.le_of_ble_eq_true rfl) ?_
  refine r_cnt (n' := 52) (h' := hF 52 g (upN (Zf g) 0 (.inr (4, [.null, .null, .null, .null, .null, .int 0, .null, .int 0, .int 0, .int 0, .int 0, .null, .null])))) (k' := 51) (sl' := 1154) (by omega) rfl (by omega) (by omega) ?_
  refine rp_S_10 rfl rfl d_S_init_12 (hF_getE (r := 0) (by omega) upN_s) (Nat.le_of_ble_eq_true rfl) rfl (hF_setE (r := 0) (by omega) (upN_same)) ?_
  refine r_aload_n d_S_init_15 0 rfl ?_
  refine r_bipush (v := nI 12) d_S_init_16 (by decide) ?_
  refine f_anew (t := 2) (N := 12) (C := "ShareStore$Node") rfl (by decide +kernel) (by decide +kernel) d_S_init_18 (by decide) ⟨by show _ ≤ 406; omega, by show _ ≤ 7938; omega⟩ ?_
  refine r_cnt (n' := 53) (h' := hF 53 g (upN (upN (Zf g) 0 (.inr (4, [.ref (g.1 + 1), .null, .null, .null, .null, .int 0, .null, .int 0, .int 0, .int 0, .int 0, .null, .null]))) 52 (qA 2 12 (fun _ => none)))) (k' := 52) (sl' := 1166) (by omega) rfl (by omega) (by omega) ?_
  refine rp_S_18 rfl rfl d_S_init_21 (hF_getE (r := 0) (by omega) (upN_g (by omega) upN_s)) (Nat.le_of_ble_eq_true rfl) rfl (hF_setE (r := 0) (by omega) (upN_in (by omega) upN_same)) ?_
  refine r_aload_n d_S_init_24 0 rfl ?_
  refine r_bipush (v := nI 6) d_S_init_25 (by decide) ?_
  refine f_newi (N := 6) d_S_init_27 (by decide) ⟨by show _ ≤ 406; omega, by show _ ≤ 7938; omega⟩ ?_
  refine r_cnt (n' := 54) (h' := hF 54 g (upN (upN (upN (Zf g) 0 (.inr (4, [.ref (g.1 + 1), .ref (g.1 + 52), .null, .null, .null, .int 0, .null, .int 0, .int 0, .int 0, .int 0, .null, .null]))) 52 (qA 2 12 (fun _ => none))) 53 (iA 6 (fun _ => 0)))) (k' := 53) (sl' := 1172) (by omega) rfl (by omega) (by omega) ?_
  refine rp_S_22 rfl rfl d_S_init_29 (hF_getE (r := 0) (by omega) (upN_g (by omega) (upN_g (by omega) upN_s))) (Nat.le_of_ble_eq_true rfl) rfl (hF_setE (r := 0) (by omega) (upN_in (by omega) (upN_in (by omega) upN_same))) ?_
  refine r_aload_n d_S_init_32 0 rfl ?_
  refine r_bipush (v := nI 6) d_S_init_33 (by decide) ?_
  refine f_newz (N := 6) d_S_init_35 (by decide) ⟨by show _ ≤ 406; omega, by show _ ≤ 7938; omega⟩ ?_
  refine r_cnt (n' := 55) (h' := hF 55 g (upN (upN (upN (upN (Zf g) 0 (.inr (4, [.ref (g.1 + 1), .ref (g.1 + 52), .ref (g.1 + 53), .null, .null, .int 0, .null, .int 0, .int 0, .int 0, .int 0, .null, .null]))) 52 (qA 2 12 (fun _ => none))) 53 (iA 6 (fun _ => 0))) 54 (zA 6 (fun _ => false)))) (k' := 54) (sl' := 1178) (by omega) rfl (by omega) (by omega) ?_
  refine rp_S_26 rfl rfl d_S_init_37 (hF_getE (r := 0) (by omega) (upN_g (by omega) (upN_g (by omega) (upN_g (by omega) upN_s)))) (Nat.le_of_ble_eq_true rfl) rfl (hF_setE (r := 0) (by omega) (upN_in (by omega) (upN_in (by omega) (upN_in (by omega) upN_same)))) ?_
  refine r_aload_n d_S_init_40 0 rfl ?_
  refine r_sipush (v := nI 240) d_S_init_41 (by decide) ?_
  refine f_newi (N := 240) d_S_init_44 (by decide) ⟨by show _ ≤ 406; omega, by show _ ≤ 7938; omega⟩ ?_
  refine r_cnt (n' := 56) (h' := hF 56 g (upN (upN (upN (upN (upN (Zf g) 0 (.inr (4, [.ref (g.1 + 1), .ref (g.1 + 52), .ref (g.1 + 53), .ref (g.1 + 54), .null, .int 0, .null, .int 0, .int 0, .int 0, .int 0, .null, .null]))) 52 (qA 2 12 (fun _ => none))) 53 (iA 6 (fun _ => 0))) 54 (zA 6 (fun _ => false))) 55 (iA 240 (fun _ => 0)))) (k' := 55) (sl' := 1418) (by omega) rfl (by omega) (by omega) ?_
  refine rp_S_30 rfl rfl d_S_init_46 (hF_getE (r := 0) (by omega) (upN_g (by omega) (upN_g (by omega) (upN_g (by omega) (upN_g (by omega) upN_s))))) (Nat.le_of_ble_eq_true rfl) rfl (hF_setE (r := 0) (by omega) (upN_in (by omega) (upN_in (by omega) (upN_in (by omega) (upN_in (by omega) upN_same))))) ?_
  refine r_aload_n d_S_init_49 0 rfl ?_
  refine r_iconst (v := nI 0) d_S_init_50 (by decide) ?_
  refine rp_S_33 rfl d_S_init_51 (hF_getE (r := 0) (by omega) (upN_g (by omega) (upN_g (by omega) (upN_g (by omega) (upN_g (by omega) upN_s))))) (Nat.le_of_ble_eq_true rfl) rfl (hF_setE (r := 0) (by omega) (upN_in (by omega) (upN_in (by omega) (upN_in (by omega) (upN_in (by omega) upN_same))))) ?_
  refine r_aload_n d_S_init_54 0 rfl ?_
  refine r_sipush (v := nI 240) d_S_init_55 (by decide) ?_
  refine f_newi (N := 240) d_S_init_58 (by decide) ⟨by show _ ≤ 406; omega, by show _ ≤ 7938; omega⟩ ?_
  refine r_cnt (n' := 57) (h' := hF 57 g (upN (upN (upN (upN (upN (upN (Zf g) 0 (.inr (4, [.ref (g.1 + 1), .ref (g.1 + 52), .ref (g.1 + 53), .ref (g.1 + 54), .ref (g.1 + 55), .int (nI 0), .null, .int 0, .int 0, .int 0, .int 0, .null, .null]))) 52 (qA 2 12 (fun _ => none))) 53 (iA 6 (fun _ => 0))) 54 (zA 6 (fun _ => false))) 55 (iA 240 (fun _ => 0))) 56 (iA 240 (fun _ => 0)))) (k' := 56) (sl' := 1658) (by omega) rfl (by omega) (by omega) ?_
  refine rp_S_37 rfl rfl d_S_init_60 (hF_getE (r := 0) (by omega) (upN_g (by omega) (upN_g (by omega) (upN_g (by omega) (upN_g (by omega) (upN_g (by omega) upN_s)))))) (Nat.le_of_ble_eq_true rfl) rfl (hF_setE (r := 0) (by omega) (upN_in (by omega) (upN_in (by omega) (upN_in (by omega) (upN_in (by omega) (upN_in (by omega) upN_same)))))) ?_
  refine r_aload_n d_S_init_63 0 rfl ?_
  refine r_iconst (v := nI 0) d_S_init_64 (by decide) ?_
  refine rp_S_40 rfl d_S_init_65 (hF_getE (r := 0) (by omega) (upN_g (by omega) (upN_g (by omega) (upN_g (by omega) (upN_g (by omega) (upN_g (by omega) upN_s)))))) (Nat.le_of_ble_eq_true rfl) rfl (hF_setE (r := 0) (by omega) (upN_in (by omega) (upN_in (by omega) (upN_in (by omega) (upN_in (by omega) (upN_in (by omega) upN_same)))))) ?_
  refine r_aload_n d_S_init_68 0 rfl ?_
  refine r_iconst (v := (-1)) d_S_init_69 (by decide) ?_
  refine rp_S_43 rfl d_S_init_70 (hF_getE (r := 0) (by omega) (upN_g (by omega) (upN_g (by omega) (upN_g (by omega) (upN_g (by omega) (upN_g (by omega) upN_s)))))) (Nat.le_of_ble_eq_true rfl) rfl (hF_setE (r := 0) (by omega) (upN_in (by omega) (upN_in (by omega) (upN_in (by omega) (upN_in (by omega) (upN_in (by omega) upN_same)))))) ?_
  refine r_aload_n d_S_init_73 0 rfl ?_
  refine r_iconst (v := nI 0) d_S_init_74 (by decide) ?_
  refine rp_S_46 rfl d_S_init_75 (hF_getE (r := 0) (by omega) (upN_g (by omega) (upN_g (by omega) (upN_g (by omega) (upN_g (by omega) (upN_g (by omega) upN_s)))))) (Nat.le_of_ble_eq_true rfl) rfl (hF_setE (r := 0) (by omega) (upN_in (by omega) (upN_in (by omega) (upN_in (by omega) (upN_in (by omega) (upN_in (by omega) upN_same)))))) ?_
  refine r_aload_n d_S_init_78 0 rfl ?_
  refine r_iconst (v := nI 0) d_S_init_79 (by decide) ?_
  refine rp_S_49 rfl d_S_init_80 (hF_getE (r := 0) (by omega) (upN_g (by omega) (upN_g (by omega) (upN_g (by omega) (upN_g (by omega) (upN_g (by omega) upN_s)))))) (Nat.le_of_ble_eq_true rfl) rfl (hF_setE (r := 0) (by omega) (upN_in (by omega) (upN_in (by omega) (upN_in (by omega) (upN_in (by omega) (upN_in (by omega) upN_same)))))) ?_
  refine r_aload_n d_S_init_83 0 rfl ?_
  refine r_bipush (v := nI 8) d_S_init_84 (by decide) ?_
  refine f_newi (N := 8) d_S_init_86 (by decide) ⟨by show _ ≤ 406; omega, by show _ ≤ 7938; omega⟩ ?_
  refine r_cnt (n' := 58) (h' := hF 58 g (upN (upN (upN (upN (upN (upN (upN (Zf g) 0 (.inr (4, [.ref (g.1 + 1), .ref (g.1 + 52), .ref (g.1 + 53), .ref (g.1 + 54), .ref (g.1 + 55), .int (nI 0), .ref (g.1 + 56), .int (nI 0), .int (-1), .int (nI 0), .int (nI 0), .null, .null]))) 52 (qA 2 12 (fun _ => none))) 53 (iA 6 (fun _ => 0))) 54 (zA 6 (fun _ => false))) 55 (iA 240 (fun _ => 0))) 56 (iA 240 (fun _ => 0))) 57 (iA 8 (fun _ => 0)))) (k' := 57) (sl' := 1666) (by omega) rfl (by omega) (by omega) ?_
  refine rp_S_52 rfl rfl d_S_init_88 (hF_getE (r := 0) (by omega) (upN_g (by omega) (upN_g (by omega) (upN_g (by omega) (upN_g (by omega) (upN_g (by omega) (upN_g (by omega) upN_s))))))) (Nat.le_of_ble_eq_true rfl) rfl (hF_setE (r := 0) (by omega) (upN_in (by omega) (upN_in (by omega) (upN_in (by omega) (upN_in (by omega) (upN_in (by omega) (upN_in (by omega) upN_same))))))) ?_
  refine r_aload_n d_S_init_91 0 rfl ?_
  refine r_bipush (v := nI 8) d_S_init_92 (by decide) ?_
  refine f_newi (N := 8) d_S_init_94 (by decide) ⟨by show _ ≤ 406; omega, by show _ ≤ 7938; omega⟩ ?_
  refine r_cnt (n' := 59) (h' := hF 59 g (upN (upN (upN (upN (upN (upN (upN (upN (Zf g) 0 (.inr (4, [.ref (g.1 + 1), .ref (g.1 + 52), .ref (g.1 + 53), .ref (g.1 + 54), .ref (g.1 + 55), .int (nI 0), .ref (g.1 + 56), .int (nI 0), .int (-1), .int (nI 0), .int (nI 0), .ref (g.1 + 57), .null]))) 52 (qA 2 12 (fun _ => none))) 53 (iA 6 (fun _ => 0))) 54 (zA 6 (fun _ => false))) 55 (iA 240 (fun _ => 0))) 56 (iA 240 (fun _ => 0))) 57 (iA 8 (fun _ => 0))) 58 (iA 8 (fun _ => 0)))) (k' := 58) (sl' := 1674) (by omega) rfl (by omega) (by omega) ?_
  refine rp_S_55 rfl rfl d_S_init_96 (hF_getE (r := 0) (by omega) (upN_g (by omega) (upN_g (by omega) (upN_g (by omega) (upN_g (by omega) (upN_g (by omega) (upN_g (by omega) (upN_g (by omega) upN_s)))))))) (Nat.le_of_ble_eq_true rfl) rfl (hF_setE (r := 0) (by omega) (upN_in (by omega) (upN_in (by omega) (upN_in (by omega) (upN_in (by omega) (upN_in (by omega) (upN_in (by omega) (upN_in (by omega) upN_same)))))))) ?_
  refine r_iconst (v := nI 0) d_S_init_99 (by decide) ?_
  refine r_istore_n (lv' := [(0, _), (1, _)]) d_S_init_100 (by decide) rfl ?_
  refine r_aeq (F' := upN (Zf g) 52 (qA 2 12 (ndq g 0))) (fun r hr => ?_) ?_
  · by_cases e0 : r = 0
    · subst e0
      exact AEQ_o (upN_g (by omega) (upN_g (by omega) (upN_g (by omega) (upN_g (by omega) (upN_g (by omega) (upN_g (by omega) (upN_g (by omega) upN_s))))))) (upN_g (by omega) Zf_0) rfl
    by_cases e52 : r = 52
    · subst e52
      exact AEQ_q (upN_g (by omega) (upN_g (by omega) (upN_g (by omega) (upN_g (by omega) (upN_g (by omega) (upN_g (by omega) upN_s)))))) upN_s (fun o _ => (if_neg (Nat.not_lt_zero _)).symm)
    by_cases e53 : r = 53
    · subst e53
      exact AEQ_i (upN_g (by omega) (upN_g (by omega) (upN_g (by omega) (upN_g (by omega) (upN_g (by omega) upN_s))))) (upN_g (by omega) (Zf_of (r := 53) (t := 17) (i := 0) (j := 0) rfl rfl)) (fun _ _ => rfl)
    by_cases e54 : r = 54
    · subst e54
      exact AEQ_z (upN_g (by omega) (upN_g (by omega) (upN_g (by omega) (upN_g (by omega) upN_s)))) (upN_g (by omega) (Zf_of (r := 54) (t := 18) (i := 0) (j := 0) rfl rfl)) (fun _ _ => rfl)
    by_cases e55 : r = 55
    · subst e55
      exact AEQ_i (upN_g (by omega) (upN_g (by omega) (upN_g (by omega) upN_s))) (upN_g (by omega) (Zf_of (r := 55) (t := 19) (i := 0) (j := 0) rfl rfl)) (fun _ _ => rfl)
    by_cases e56 : r = 56
    · subst e56
      exact AEQ_i (upN_g (by omega) (upN_g (by omega) upN_s)) (upN_g (by omega) (Zf_of (r := 56) (t := 20) (i := 0) (j := 0) rfl rfl)) (fun _ _ => rfl)
    by_cases e57 : r = 57
    · subst e57
      exact AEQ_i (upN_g (by omega) upN_s) (upN_g (by omega) (Zf_of (r := 57) (t := 21) (i := 0) (j := 0) rfl rfl)) (fun _ _ => rfl)
    by_cases e58 : r = 58
    · subst e58
      exact AEQ_i upN_s (upN_g (by omega) (Zf_of (r := 58) (t := 22) (i := 0) (j := 0) rfl rfl)) (fun _ _ => rfl)
    exact AEQ_to AEQ_Z (upN_g (by omega) (upN_g (by omega) (upN_g (by omega) (upN_g (by omega) (upN_g (by omega) (upN_g (by omega) (upN_g (by omega) (upN_g (by omega) (rfl))))))))) (upN_g (by omega) rfl)
  refine r_cnt (n' := 59) (h' := hF 59 g (upN (Zf g) 52 (qA 2 12 (ndq g 0)))) (k' := 58) (sl' := 1674) (by omega) rfl (by omega) (by omega) ?_
  refine back_ind (n := 12) (G := fun v => RJ l g M_S_init (RMX d 406 7938) (TQ g 406 7938 (QE none 407 (hF 407 g (Zf g)))) XT (59 + 29 * v) (hF (59 + 29 * v) g (upN (Zf g) 52 (qA 2 12 (ndq g v)))) (58 + 29 * v) (1674 + 522 * v) 101 [(0, .ref (g.1 + 0)), (1, .int (nI v))] []) ?_ ?_ 0 (Nat.zero_le _)
  · skip
    refine r_iload_n d_S_init_101 1 rfl ?_
    refine r_bipush (v := nI 12) d_S_init_102 (by decide) ?_
    refine r_icmp_geN (tgt := 126) d_S_init_104 (by decide) (by omega) (by omega) (fun c104 => ?_) (fun c104 => ?_)
    rotate_left 1
    · exfalso; omega
    refine r_aeq (F' := Zf g) (fun r hr => ?_) ?_
    · by_cases e52 : r = 52
      · subst e52
        exact AEQ_to AEQ_ndq upN_s rfl
      · exact AEQ_to AEQ_Z (upN_g e52 rfl) rfl
    refine r_cnt (n' := 407) (h' := hF 407 g (Zf g)) (k' := 406) (sl' := 7938) (by omega) (rfl) (by omega) (by omega) ?_
    refine r_return d_S_init_126 rfl ⟨rfl, rfl, rfl⟩
  · intro v hb_v ih_v
    refine r_iload_n d_S_init_101 1 rfl ?_
    refine r_bipush (v := nI 12) d_S_init_102 (by decide) ?_
    refine r_icmp_geN (tgt := 126) d_S_init_104 (by decide) (by omega) (by omega) (fun c104 => ?_) (fun c104 => ?_)
    · exfalso; omega
    refine r_aload_n d_S_init_107 0 rfl ?_
    refine rg_S_18 rfl d_S_init_108 (hF_getE (r := 0) (by omega) (upN_g (by omega) Zf_0)) rfl ?_
    refine r_iload_n d_S_init_111 1 rfl ?_
    refine f_new (ci := 3) (N := 6) (fs := [.null, .null, .null, .null, .int 0, .int 0]) rfl iw_N ty_N ty_N_ok (by decide +kernel) (by decide +kernel) (by decide +kernel) (by decide) d_S_init_112 ⟨by show _ ≤ 406; omega, by show _ ≤ 7938; omega⟩ ?_
    refine r_cnt (n' := 59 + 29 * v + 1) (h' := hF (59 + 29 * v + 1) g (upN (upN (Zf g) 52 (qA 2 12 (ndq g v))) (59 + 29 * v) (.inr (3, [.null, .null, .null, .null, .int 0, .int 0])))) (k' := 58 + 29 * v + 1) (sl' := 1674 + 522 * v + 6) (by omega) rfl (by omega) (by omega) ?_
    refine r_dup d_S_init_115 rfl ?_
    refine r_cI (M' := M_N_init) (np := 0) (b := g.1 + (59 + 29 * v)) (As := []) (k_N_init (z := 59 + 29 * v) (F := upN (Zf g) 52 (qA 2 12 (ndq g v))) (d := d - 1) (by omega)) rfl rfl (by decide +kernel) (by decide +kernel) (by decide +kernel) (by decide +kernel) (by decide +kernel) rfl d_S_init_116 (room_ok (d' := d - 1) (by omega) (by decide)) ⟨by show _ ≤ 406; omega, by show _ ≤ 7938; omega⟩ rfl (Nat.le_of_ble_eq_true rfl) ?_
    refine r_cnt (n' := 59 + 29 * v + 29) (h' := hF (59 + 29 * v + 29) g (nodX (59 + 29 * v) 6 g (upN (Zf g) 52 (qA 2 12 (ndq g v))))) (k' := 58 + 29 * v + 29) (sl' := 1674 + 522 * v + 522) (by omega) rfl (by omega) (by omega) ?_
    refine r_qst (t := 2) rfl (ci := 3) rfl d_S_init_119 (hF_getE (r := 52) (by omega) (nodX_lo (by omega) upN_s)) (hF_getE (r := 59 + 29 * v) (by omega) nodX_0) (by omega) (by decide) rfl (hF_setE (r := 52) (by omega) rfl) ?_
    refine r_iincN (lv' := [(0, _), (1, _)]) d_S_init_120 1 rfl (by decide) rfl ?_
    refine r_goto (tgt := 101) d_S_init_123 (by decide) ?_
    refine r_aeq (F' := upN (Zf g) 52 (qA 2 12 (ndq g (v + 1)))) (fun r hr => ?_) ?_
    · by_cases e52 : r = 52
      · subst e52
        exact AEQ_q upN_s upN_s (fun o _ => congrFun ndq_s o)
      · by_cases e1 : r < 59 + 29 * v
        · exact AEQ_to AEQ_Z (upN_g e52 (nodX_lo e1 (upN_g e52 rfl))) (upN_g e52 rfl)
        · exact AEQ_to (nodX_Zf (F := upN (Zf g) 52 (qA 2 12 (ndq g v))) hb_v (by omega) hr) (upN_g e52 rfl) (upN_g e52 rfl)
    refine r_cnt (n' := 59 + 29 * (v + 1)) (h' := hF (59 + 29 * (v + 1)) g (upN (Zf g) 52 (qA 2 12 (ndq g (v + 1))))) (k' := 58 + 29 * (v + 1)) (sl' := 1674 + 522 * (v + 1)) (by omega) (hF_cong (by omega) (fun _ _ => rfl)) (by omega) (by omega) ih_v
