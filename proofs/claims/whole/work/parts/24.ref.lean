/-- from place a on, k values of V -/
def wrB (Y : Nat → Nat) (a : Nat) (V : Nat → Nat) : Nat → Nat → Nat
  | 0 => Y
  | k + 1 => upN (wrB Y a V k) (a + k) (V k)
theorem wrB_lt {Y : Nat → Nat} {a : Nat} {V : Nat → Nat} (h1 : B1 Y) (h2 : ∀ k, V k < 256) : ∀ k, B1 (wrB Y a V k)
  | 0 => h1
  | k + 1 => upN_ind (Q := fun x => x < 256) (wrB_lt h1 h2 k) (h2 k)
def nmE (E : Nat → Nat) (q v : Nat) : Nat → Nat → Nat
  | 0 => E
  | k + 1 => upN (nmE E q v k) (16 * q + k) (mulT ((nmE E q v k) (16 * q + k)) v)
theorem nmE_lt {E : Nat → Nat} {q v : Nat} (h : B1 E) : ∀ k, B1 (nmE E q v k)
  | 0 => h
  | k + 1 => upN_ind (Q := fun x => x < 256) (nmE_lt h k) (mulT_lt _ _)
def ckE (E : Nat → Nat) (i q v : Nat) : Nat → Nat → Nat
  | 0 => E
  | k + 1 => upN (ckE E i q v k) (16 * i + k) ((ckE E i q v k) (16 * i + k) ^^^ mulT v ((ckE E i q v k) (16 * q + k)))
theorem ckE_lt {E : Nat → Nat} {i q v : Nat} (h : B1 E) : ∀ k, B1 (ckE E i q v k)
  | 0 => h
  | k + 1 => upN_ind (Q := fun x => x < 256) (ckE_lt h k) (xor_lt (ckE_lt h k _) (mulT_lt _ _))
def byE (E : Nat → Nat) (q i : Nat) : Nat := if i = q then 0 else E (16 * i + q)
theorem byE_lt {E : Nat → Nat} {q i : Nat} (h : B1 E) : byE E q i < 256 := by
  unfold byE
  split
  · decide
  · exact h _
def crE (E : Nat → Nat) (q z : Nat) : Nat → Nat → Nat
  | 0 => E
  | i + 1 => if byE (crE E q z i) q i = 0 then crE E q z i else ckE (crE E q z i) i q (byE (crE E q z i) q i) z
theorem crE_z {E : Nat → Nat} {q z i : Nat} (h : byE (crE E q z i) q i = 0) : crE E q z (i + 1) = crE E q z i := if_pos h
theorem crE_p {E : Nat → Nat} {q z i : Nat} (h : 0 < byE (crE E q z i) q i) : crE E q z (i + 1) = ckE (crE E q z i) i q (byE (crE E q z i) q i) z := if_neg (by omega)
theorem crE_lt {E : Nat → Nat} {q z : Nat} (h : B1 E) : ∀ i, B1 (crE E q z i)
  | 0 => h
  | i + 1 => by
    unfold crE
    split
    · exact crE_lt h i
    · exact ckE_lt (crE_lt h i) z
/-- the elimination, its pivots standing where they are looked for -/
def stE (E : Nat → Nat) (w z : Nat) : Nat → Nat → Nat
  | 0 => E
  | q + 1 => crE (nmE (stE E w z q) q (ivT (stE E w z q (16 * q + q))) z) q z w
theorem stE_lt {E : Nat → Nat} {w z : Nat} (h : B1 E) : ∀ q, B1 (stE E w z q)
  | 0 => h
  | q + 1 => crE_lt (nmE_lt (stE_lt h q) z) w
theorem k_M_solve {l : Launch} {g : GX} {c : CS} {m : MS} {n d : Nat} (hd : 2 ≤ d) {w r : Nat} (hw : w ≤ 8) (hw0 : 0 < w) (hr : w + r ≤ 16) (hE : B1 m.eqs) (hpv : ∀ q, q < w → stE m.eqs w (w + r) q (16 * q + q) ≠ 0) : CE l g M_M_solve d 0 0 [.ref (aM g), .int (nI w), .int (nI r)] n (hp g c m) (none) n (hp g c (m.s_eqs (stE m.eqs w (w + r) w))) := by
  refine CE.of (by decide +kernel) (lv := [(0, .ref (aM g)), (1, .int (nI w)), (2, .int (nI r))]) rfl (Nat.le_of_ble_eq_true rfl) ?_
  refine r_iconst (v := nI 0) d_M_solve_0 (by decide) ?_
  refine r_istore_n (lv' := [(0, _), (1, _), (2, _), (3, _)]) d_M_solve_1 (by decide) rfl ?_
  refine r_heap (h' := hp g c (m.s_eqs (stE m.eqs w (w + r) 0))) rfl ?_
  refine r_less (lv' := [(0, .ref (aM g)), (1, .int (nI w)), (2, .int (nI r)), (3, .int (nI 0))]) (by simp) ?_
  refine back_ind (n := w) (G := fun q => RJ l g M_M_solve (RMX d 0 0) (TQ g 0 0 (QE (none) n (hp g c (m.s_eqs (stE m.eqs w (w + r) w))))) XT n (hp g c (m.s_eqs (stE m.eqs w (w + r) q))) 0 0 2 [(0, .ref (aM g)), (1, .int (nI w)), (2, .int (nI r)), (3, .int (nI q))] []) ?_ ?_ 0 (Nat.zero_le _)
  · skip
    refine r_iload_n d_M_solve_2 3 rfl ?_
    refine r_iload_n d_M_solve_3 1 rfl ?_
    refine r_icmp_geN (tgt := 224) d_M_solve_4 (by decide) (by omega) (by omega) (fun c4 => ?_) (fun c4 => ?_)
    rotate_left 1
    · exfalso; first | omega | (revert c4; decide) | cases c4
    refine r_return d_M_solve_224 rfl ⟨rfl, rfl, ?_⟩
    · rfl
  · intro q hb_q ih_q
    have hq0 := hpv q hb_q
    have hS : B1 (stE m.eqs w (w + r) q) := stE_lt hE q
    have hSq := hS (16 * q + q)
    refine r_iload_n d_M_solve_2 3 rfl ?_
    refine r_iload_n d_M_solve_3 1 rfl ?_
    refine r_icmp_geN (tgt := 224) d_M_solve_4 (by decide) (by omega) (by omega) (fun c4 => ?_) (fun c4 => ?_)
    · exfalso; first | omega | (revert c4; decide) | cases c4
    refine r_iload_n d_M_solve_7 3 rfl ?_
    refine r_istore (lv' := [(0, _), (1, _), (2, _), (3, _), (4, _)]) d_M_solve_8 (by decide) rfl ?_
    refine r_aload_n d_M_solve_10 0 rfl ?_
    refine rg_M_51 rfl d_M_solve_11 gM rfl ?_
    refine r_bipush (v := nI 16) d_M_solve_14 (by decide) ?_
    refine r_iload d_M_solve_16 4 rfl ?_
    refine r_imulN d_M_solve_18 ?_
    refine r_iload_n d_M_solve_19 3 rfl ?_
    refine r_iaddN d_M_solve_20 ?_
    refine r_aldN d_M_solve_21 gmEqs (by omega) (by decide) ?_
    refine r_top (y := nI (stE m.eqs w (w + r) q (16 * q + q))) rfl ?_
    refine r_if_neN (tgt := 31) d_M_solve_22 (by decide) (by omega) (fun c22 => ?_) (fun c22 => ?_)
    rotate_left 1
    · exact absurd c22 hq0
    refine r_aload_n d_M_solve_31 0 rfl ?_
    refine rg_M_51 rfl d_M_solve_32 gM rfl ?_
    refine r_bipush (v := nI 16) d_M_solve_35 (by decide) ?_
    refine r_iload d_M_solve_37 4 rfl ?_
    refine r_imulN d_M_solve_39 ?_
    refine r_iload_n d_M_solve_40 3 rfl ?_
    refine r_iaddN d_M_solve_41 ?_
    refine r_aldN d_M_solve_42 gmEqs (by omega) (by decide) ?_
    refine r_top (y := nI (stE m.eqs w (w + r) q (16 * q + q))) rfl ?_
    refine rc_M_68 rfl d_M_solve_43 (k_M_inverse (m := m.s_eqs (stE m.eqs w (w + r) q)) (by omega) (hS _)) (room_ok (d' := d - 1) (by omega) (by decide)) ⟨Nat.le_refl _, Nat.le_refl _⟩ (Nat.le_of_ble_eq_true rfl) ?_
    refine r_istore (lv' := [(0, _), (1, _), (2, _), (3, _), (4, _), (5, _)]) d_M_solve_46 (by decide) rfl ?_
    refine r_iconst (v := nI 0) d_M_solve_48 (by decide) ?_
    refine r_istore (lv' := [(0, _), (1, _), (2, _), (3, _), (4, _), (5, _), (6, _)]) d_M_solve_49 (by decide) rfl ?_
    refine r_heap (h' := hp g c (m.s_eqs (nmE (stE m.eqs w (w + r) q) q (ivT (stE m.eqs w (w + r) q (16 * q + q))) 0))) rfl ?_
    refine r_less (lv' := [(0, .ref (aM g)), (1, .int (nI w)), (2, .int (nI r)), (3, .int (nI q)), (4, .int (nI q)), (5, .int (nI (ivT (stE m.eqs w (w + r) q (16 * q + q))))), (6, .int (nI 0))]) (by simp) ?_
    refine back_ind (n := w + r) (G := fun k => RJ l g M_M_solve (RMX d 0 0) (TQ g 0 0 (QE (none) n (hp g c (m.s_eqs (stE m.eqs w (w + r) w))))) XT n (hp g c (m.s_eqs (nmE (stE m.eqs w (w + r) q) q (ivT (stE m.eqs w (w + r) q (16 * q + q))) k))) 0 0 51 [(0, .ref (aM g)), (1, .int (nI w)), (2, .int (nI r)), (3, .int (nI q)), (4, .int (nI q)), (5, .int (nI (ivT (stE m.eqs w (w + r) q (16 * q + q))))), (6, .int (nI k))] []) ?_ ?_ 0 (Nat.zero_le _)
    · skip
      refine r_iload d_M_solve_51 6 rfl ?_
      refine r_iload_n d_M_solve_53 1 rfl ?_
      refine r_iload_n d_M_solve_54 2 rfl ?_
      refine r_iaddN d_M_solve_55 ?_
      refine r_icmp_geN (tgt := 124) d_M_solve_56 (by decide) (by omega) (by omega) (fun c56 => ?_) (fun c56 => ?_)
      rotate_left 1
      · exfalso; first | omega | (revert c56; decide) | cases c56
      refine r_iconst (v := nI 0) d_M_solve_124 (by decide) ?_
      refine r_istore (lv' := [(0, _), (1, _), (2, _), (3, _), (4, _), (5, _), (6, _)]) d_M_solve_125 (by decide) rfl ?_
      have hN1 : B1 (nmE (stE m.eqs w (w + r) q) q (ivT (stE m.eqs w (w + r) q (16 * q + q))) (w + r)) := nmE_lt hS _
      refine r_heap (h' := hp g c (m.s_eqs (crE (nmE (stE m.eqs w (w + r) q) q (ivT (stE m.eqs w (w + r) q (16 * q + q))) (w + r)) q (w + r) 0))) rfl ?_
      refine r_less (lv' := [(0, .ref (aM g)), (1, .int (nI w)), (2, .int (nI r)), (3, .int (nI q)), (4, .int (nI q)), (5, .int (nI (ivT (stE m.eqs w (w + r) q (16 * q + q))))), (6, .int (nI 0))]) (by simp) ?_
      refine back_ind (n := w) (G := fun i => RJ l g M_M_solve (RMX d 0 0) (TQ g 0 0 (QE (none) n (hp g c (m.s_eqs (stE m.eqs w (w + r) w))))) XT n (hp g c (m.s_eqs (crE (nmE (stE m.eqs w (w + r) q) q (ivT (stE m.eqs w (w + r) q (16 * q + q))) (w + r)) q (w + r) i))) 0 0 127 [(0, .ref (aM g)), (1, .int (nI w)), (2, .int (nI r)), (3, .int (nI q)), (4, .int (nI q)), (5, .int (nI (ivT (stE m.eqs w (w + r) q (16 * q + q))))), (6, .int (nI i))] []) ?_ ?_ 0 (Nat.zero_le _)
      · skip
        refine r_iload d_M_solve_127 6 rfl ?_
        refine r_iload_n d_M_solve_129 1 rfl ?_
        refine r_icmp_geN (tgt := 218) d_M_solve_130 (by decide) (by omega) (by omega) (fun c130 => ?_) (fun c130 => ?_)
        rotate_left 1
        · exfalso; first | omega | (revert c130; decide) | cases c130
        refine r_iincN (lv' := [(0, _), (1, _), (2, _), (3, _), (4, _), (5, _), (6, _)]) d_M_solve_218 3 rfl (by decide) rfl ?_
        refine r_goto (tgt := 2) d_M_solve_221 (by decide) ?_
        refine r_less (lv' := [(0, .ref (aM g)), (1, .int (nI w)), (2, .int (nI r)), (3, .int (nI (q + 1)))]) (by simp) ?_
        exact r_at ih_q rfl rfl rfl
      · intro i hb_i ih_i
        have hX : B1 (crE (nmE (stE m.eqs w (w + r) q) q (ivT (stE m.eqs w (w + r) q (16 * q + q))) (w + r)) q (w + r) i) := crE_lt hN1 i
        have hby : (byE (crE (nmE (stE m.eqs w (w + r) q) q (ivT (stE m.eqs w (w + r) q (16 * q + q))) (w + r)) q (w + r) i) q i) < 256 := byE_lt hX
        refine r_iload d_M_solve_127 6 rfl ?_
        refine r_iload_n d_M_solve_129 1 rfl ?_
        refine r_icmp_geN (tgt := 218) d_M_solve_130 (by decide) (by omega) (by omega) (fun c130 => ?_) (fun c130 => ?_)
        · exfalso; first | omega | (revert c130; decide) | cases c130
        refine r_iload d_M_solve_133 6 rfl ?_
        refine r_iload_n d_M_solve_135 3 rfl ?_
        refine r_icmp_neN (tgt := 143) d_M_solve_136 (by decide) (by omega) (by omega) (fun c136 => ?_) (fun c136 => ?_)
        · skip
          refine r_aload_n d_M_solve_143 0 rfl ?_
          refine rg_M_51 rfl d_M_solve_144 gM rfl ?_
          refine r_bipush (v := nI 16) d_M_solve_147 (by decide) ?_
          refine r_iload d_M_solve_149 6 rfl ?_
          refine r_imulN d_M_solve_151 ?_
          refine r_iload_n d_M_solve_152 3 rfl ?_
          refine r_iaddN d_M_solve_153 ?_
          refine r_aldN d_M_solve_154 gmEqs (by omega) (by decide) ?_
          refine r_top (y := nI (byE (crE (nmE (stE m.eqs w (w + r) q) q (ivT (stE m.eqs w (w + r) q (16 * q + q))) (w + r)) q (w + r) i) q i)) (congrArg nI (show _ = (byE (crE (nmE (stE m.eqs w (w + r) q) q (ivT (stE m.eqs w (w + r) q (16 * q + q))) (w + r)) q (w + r) i) q i) from (if_neg c136).symm)) ?_
          refine r_istore (lv' := [(0, _), (1, _), (2, _), (3, _), (4, _), (5, _), (6, _), (7, _)]) d_M_solve_155 (by decide) rfl ?_
          rcases Nat.eq_zero_or_pos (byE (crE (nmE (stE m.eqs w (w + r) q) q (ivT (stE m.eqs w (w + r) q (16 * q + q))) (w + r)) q (w + r) i) q i) with hf | hf
          · skip
            refine r_iconst (v := nI 0) d_M_solve_157 (by decide) ?_
            refine r_istore (lv' := [(0, _), (1, _), (2, _), (3, _), (4, _), (5, _), (6, _), (7, _), (8, _)]) d_M_solve_158 (by decide) rfl ?_
            refine r_iload d_M_solve_160 8 rfl ?_
            refine r_iload_n d_M_solve_162 1 rfl ?_
            refine r_iload_n d_M_solve_163 2 rfl ?_
            refine r_iaddN d_M_solve_164 ?_
            refine r_icmp_geN (tgt := 212) d_M_solve_165 (by decide) (by omega) (by omega) (fun c165 => ?_) (fun c165 => ?_)
            · exfalso; first | omega | (revert c165; decide) | cases c165
            refine r_iload d_M_solve_168 7 rfl ?_
            refine r_if_eqN (tgt := 212) d_M_solve_170 (by decide) (by omega) (fun c170 => ?_) (fun c170 => ?_)
            rotate_left 1
            · exfalso; first | omega | (revert c170; decide) | cases c170
            refine r_iincN (lv' := [(0, _), (1, _), (2, _), (3, _), (4, _), (5, _), (6, _), (7, _), (8, _)]) d_M_solve_212 6 rfl (by decide) rfl ?_
            refine r_goto (tgt := 127) d_M_solve_215 (by decide) ?_
            refine r_less (lv' := [(0, .ref (aM g)), (1, .int (nI w)), (2, .int (nI r)), (3, .int (nI q)), (4, .int (nI q)), (5, .int (nI (ivT (stE m.eqs w (w + r) q (16 * q + q))))), (6, .int (nI (i + 1)))]) (by simp) ?_
            exact r_at ih_i (congrArg (fun z => hp g c (m.s_eqs z)) (crE_z hf).symm) rfl rfl
          · skip
            refine r_iconst (v := nI 0) d_M_solve_157 (by decide) ?_
            refine r_istore (lv' := [(0, _), (1, _), (2, _), (3, _), (4, _), (5, _), (6, _), (7, _), (8, _)]) d_M_solve_158 (by decide) rfl ?_
            refine r_heap (h' := hp g c (m.s_eqs (ckE (crE (nmE (stE m.eqs w (w + r) q) q (ivT (stE m.eqs w (w + r) q (16 * q + q))) (w + r)) q (w + r) i) i q (byE (crE (nmE (stE m.eqs w (w + r) q) q (ivT (stE m.eqs w (w + r) q (16 * q + q))) (w + r)) q (w + r) i) q i) 0))) rfl ?_
            refine back_ind (n := w + r) (G := fun k => RJ l g M_M_solve (RMX d 0 0) (TQ g 0 0 (QE (none) n (hp g c (m.s_eqs (stE m.eqs w (w + r) w))))) XT n (hp g c (m.s_eqs (ckE (crE (nmE (stE m.eqs w (w + r) q) q (ivT (stE m.eqs w (w + r) q (16 * q + q))) (w + r)) q (w + r) i) i q (byE (crE (nmE (stE m.eqs w (w + r) q) q (ivT (stE m.eqs w (w + r) q (16 * q + q))) (w + r)) q (w + r) i) q i) k))) 0 0 160 [(0, .ref (aM g)), (1, .int (nI w)), (2, .int (nI r)), (3, .int (nI q)), (4, .int (nI q)), (5, .int (nI (ivT (stE m.eqs w (w + r) q (16 * q + q))))), (6, .int (nI i)), (7, .int (nI (byE (crE (nmE (stE m.eqs w (w + r) q) q (ivT (stE m.eqs w (w + r) q (16 * q + q))) (w + r)) q (w + r) i) q i))), (8, .int (nI k))] []) ?_ ?_ 0 (Nat.zero_le _)
            · skip
              refine r_iload d_M_solve_160 8 rfl ?_
              refine r_iload_n d_M_solve_162 1 rfl ?_
              refine r_iload_n d_M_solve_163 2 rfl ?_
              refine r_iaddN d_M_solve_164 ?_
              refine r_icmp_geN (tgt := 212) d_M_solve_165 (by decide) (by omega) (by omega) (fun c165 => ?_) (fun c165 => ?_)
              rotate_left 1
              · exfalso; first | omega | (revert c165; decide) | cases c165
              refine r_iincN (lv' := [(0, _), (1, _), (2, _), (3, _), (4, _), (5, _), (6, _), (7, _), (8, _)]) d_M_solve_212 6 rfl (by decide) rfl ?_
              refine r_goto (tgt := 127) d_M_solve_215 (by decide) ?_
              refine r_less (lv' := [(0, .ref (aM g)), (1, .int (nI w)), (2, .int (nI r)), (3, .int (nI q)), (4, .int (nI q)), (5, .int (nI (ivT (stE m.eqs w (w + r) q (16 * q + q))))), (6, .int (nI (i + 1)))]) (by simp) ?_
              exact r_at ih_i (congrArg (fun z => hp g c (m.s_eqs z)) (crE_p hf).symm) rfl rfl
            · intro k hb_k ih_k
              have hC : B1 (ckE (crE (nmE (stE m.eqs w (w + r) q) q (ivT (stE m.eqs w (w + r) q (16 * q + q))) (w + r)) q (w + r) i) i q (byE (crE (nmE (stE m.eqs w (w + r) q) q (ivT (stE m.eqs w (w + r) q (16 * q + q))) (w + r)) q (w + r) i) q i) k) := ckE_lt hX k
              refine r_iload d_M_solve_160 8 rfl ?_
              refine r_iload_n d_M_solve_162 1 rfl ?_
              refine r_iload_n d_M_solve_163 2 rfl ?_
              refine r_iaddN d_M_solve_164 ?_
              refine r_icmp_geN (tgt := 212) d_M_solve_165 (by decide) (by omega) (by omega) (fun c165 => ?_) (fun c165 => ?_)
              · exfalso; first | omega | (revert c165; decide) | cases c165
              refine r_iload d_M_solve_168 7 rfl ?_
              refine r_if_eqN (tgt := 212) d_M_solve_170 (by decide) (by omega) (fun c170 => ?_) (fun c170 => ?_)
              · exfalso; first | omega | (revert c170; decide) | cases c170
              refine r_aload_n d_M_solve_173 0 rfl ?_
              refine rg_M_51 rfl d_M_solve_174 gM rfl ?_
              refine r_bipush (v := nI 16) d_M_solve_177 (by decide) ?_
              refine r_iload d_M_solve_179 6 rfl ?_
              refine r_imulN d_M_solve_181 ?_
              refine r_iload d_M_solve_182 8 rfl ?_
              refine r_iaddN d_M_solve_184 ?_
              refine r_dup2 d_M_solve_185 rfl rfl ?_
              refine r_aldN d_M_solve_186 gmEqs (by omega) (by decide) ?_
              refine r_iload d_M_solve_187 7 rfl ?_
              refine r_aload_n d_M_solve_189 0 rfl ?_
              refine rg_M_51 rfl d_M_solve_190 gM rfl ?_
              refine r_bipush (v := nI 16) d_M_solve_193 (by decide) ?_
              refine r_iload_n d_M_solve_195 3 rfl ?_
              refine r_imulN d_M_solve_196 ?_
              refine r_iload d_M_solve_197 8 rfl ?_
              refine r_iaddN d_M_solve_199 ?_
              refine r_aldN d_M_solve_200 gmEqs (by omega) (by decide) ?_
              refine rc_M_64 rfl d_M_solve_201 (k_M_product (m := m.s_eqs (ckE (crE (nmE (stE m.eqs w (w + r) q) q (ivT (stE m.eqs w (w + r) q (16 * q + q))) (w + r)) q (w + r) i) i q (byE (crE (nmE (stE m.eqs w (w + r) q) q (ivT (stE m.eqs w (w + r) q (16 * q + q))) (w + r)) q (w + r) i) q i) k)) (by omega) hby (hC _)) (room_ok (d' := d - 1) (by omega) (by decide)) ⟨Nat.le_refl _, Nat.le_refl _⟩ (Nat.le_of_ble_eq_true rfl) ?_
              refine r_ixorN d_M_solve_204 ?_
              refine r_astN d_M_solve_205 gmEqs (by omega) (by decide) (wm_eqs) ?_
              refine r_iincN (lv' := [(0, _), (1, _), (2, _), (3, _), (4, _), (5, _), (6, _), (7, _), (8, _)]) d_M_solve_206 8 rfl (by decide) rfl ?_
              refine r_goto (tgt := 160) d_M_solve_209 (by decide) ?_
              exact r_at ih_k rfl rfl rfl
        · skip
          refine r_iconst (v := nI 0) d_M_solve_139 (by decide) ?_
          refine r_goto (tgt := 155) d_M_solve_140 (by decide) ?_
          refine r_top (y := nI (byE (crE (nmE (stE m.eqs w (w + r) q) q (ivT (stE m.eqs w (w + r) q (16 * q + q))) (w + r)) q (w + r) i) q i)) (congrArg nI (show (0 : Nat) = (byE (crE (nmE (stE m.eqs w (w + r) q) q (ivT (stE m.eqs w (w + r) q (16 * q + q))) (w + r)) q (w + r) i) q i) from (if_pos c136).symm)) ?_
          refine r_istore (lv' := [(0, _), (1, _), (2, _), (3, _), (4, _), (5, _), (6, _), (7, _)]) d_M_solve_155 (by decide) rfl ?_
          rcases Nat.eq_zero_or_pos (byE (crE (nmE (stE m.eqs w (w + r) q) q (ivT (stE m.eqs w (w + r) q (16 * q + q))) (w + r)) q (w + r) i) q i) with hf | hf
          · skip
            refine r_iconst (v := nI 0) d_M_solve_157 (by decide) ?_
            refine r_istore (lv' := [(0, _), (1, _), (2, _), (3, _), (4, _), (5, _), (6, _), (7, _), (8, _)]) d_M_solve_158 (by decide) rfl ?_
            refine r_iload d_M_solve_160 8 rfl ?_
            refine r_iload_n d_M_solve_162 1 rfl ?_
            refine r_iload_n d_M_solve_163 2 rfl ?_
            refine r_iaddN d_M_solve_164 ?_
            refine r_icmp_geN (tgt := 212) d_M_solve_165 (by decide) (by omega) (by omega) (fun c165 => ?_) (fun c165 => ?_)
            · exfalso; first | omega | (revert c165; decide) | cases c165
            refine r_iload d_M_solve_168 7 rfl ?_
            refine r_if_eqN (tgt := 212) d_M_solve_170 (by decide) (by omega) (fun c170 => ?_) (fun c170 => ?_)
            rotate_left 1
            · exfalso; first | omega | (revert c170; decide) | cases c170
            refine r_iincN (lv' := [(0, _), (1, _), (2, _), (3, _), (4, _), (5, _), (6, _), (7, _), (8, _)]) d_M_solve_212 6 rfl (by decide) rfl ?_
            refine r_goto (tgt := 127) d_M_solve_215 (by decide) ?_
            refine r_less (lv' := [(0, .ref (aM g)), (1, .int (nI w)), (2, .int (nI r)), (3, .int (nI q)), (4, .int (nI q)), (5, .int (nI (ivT (stE m.eqs w (w + r) q (16 * q + q))))), (6, .int (nI (i + 1)))]) (by simp) ?_
            exact r_at ih_i (congrArg (fun z => hp g c (m.s_eqs z)) (crE_z hf).symm) rfl rfl
          · skip
            refine r_iconst (v := nI 0) d_M_solve_157 (by decide) ?_
            refine r_istore (lv' := [(0, _), (1, _), (2, _), (3, _), (4, _), (5, _), (6, _), (7, _), (8, _)]) d_M_solve_158 (by decide) rfl ?_
            refine r_heap (h' := hp g c (m.s_eqs (ckE (crE (nmE (stE m.eqs w (w + r) q) q (ivT (stE m.eqs w (w + r) q (16 * q + q))) (w + r)) q (w + r) i) i q (byE (crE (nmE (stE m.eqs w (w + r) q) q (ivT (stE m.eqs w (w + r) q (16 * q + q))) (w + r)) q (w + r) i) q i) 0))) rfl ?_
            refine back_ind (n := w + r) (G := fun k => RJ l g M_M_solve (RMX d 0 0) (TQ g 0 0 (QE (none) n (hp g c (m.s_eqs (stE m.eqs w (w + r) w))))) XT n (hp g c (m.s_eqs (ckE (crE (nmE (stE m.eqs w (w + r) q) q (ivT (stE m.eqs w (w + r) q (16 * q + q))) (w + r)) q (w + r) i) i q (byE (crE (nmE (stE m.eqs w (w + r) q) q (ivT (stE m.eqs w (w + r) q (16 * q + q))) (w + r)) q (w + r) i) q i) k))) 0 0 160 [(0, .ref (aM g)), (1, .int (nI w)), (2, .int (nI r)), (3, .int (nI q)), (4, .int (nI q)), (5, .int (nI (ivT (stE m.eqs w (w + r) q (16 * q + q))))), (6, .int (nI i)), (7, .int (nI (byE (crE (nmE (stE m.eqs w (w + r) q) q (ivT (stE m.eqs w (w + r) q (16 * q + q))) (w + r)) q (w + r) i) q i))), (8, .int (nI k))] []) ?_ ?_ 0 (Nat.zero_le _)
            · skip
              refine r_iload d_M_solve_160 8 rfl ?_
              refine r_iload_n d_M_solve_162 1 rfl ?_
              refine r_iload_n d_M_solve_163 2 rfl ?_
              refine r_iaddN d_M_solve_164 ?_
              refine r_icmp_geN (tgt := 212) d_M_solve_165 (by decide) (by omega) (by omega) (fun c165 => ?_) (fun c165 => ?_)
              rotate_left 1
              · exfalso; first | omega | (revert c165; decide) | cases c165
              refine r_iincN (lv' := [(0, _), (1, _), (2, _), (3, _), (4, _), (5, _), (6, _), (7, _), (8, _)]) d_M_solve_212 6 rfl (by decide) rfl ?_
              refine r_goto (tgt := 127) d_M_solve_215 (by decide) ?_
              refine r_less (lv' := [(0, .ref (aM g)), (1, .int (nI w)), (2, .int (nI r)), (3, .int (nI q)), (4, .int (nI q)), (5, .int (nI (ivT (stE m.eqs w (w + r) q (16 * q + q))))), (6, .int (nI (i + 1)))]) (by simp) ?_
              exact r_at ih_i (congrArg (fun z => hp g c (m.s_eqs z)) (crE_p hf).symm) rfl rfl
            · intro k hb_k ih_k
              have hC : B1 (ckE (crE (nmE (stE m.eqs w (w + r) q) q (ivT (stE m.eqs w (w + r) q (16 * q + q))) (w + r)) q (w + r) i) i q (byE (crE (nmE (stE m.eqs w (w + r) q) q (ivT (stE m.eqs w (w + r) q (16 * q + q))) (w + r)) q (w + r) i) q i) k) := ckE_lt hX k
              refine r_iload d_M_solve_160 8 rfl ?_
              refine r_iload_n d_M_solve_162 1 rfl ?_
              refine r_iload_n d_M_solve_163 2 rfl ?_
              refine r_iaddN d_M_solve_164 ?_
              refine r_icmp_geN (tgt := 212) d_M_solve_165 (by decide) (by omega) (by omega) (fun c165 => ?_) (fun c165 => ?_)
              · exfalso; first | omega | (revert c165; decide) | cases c165
              refine r_iload d_M_solve_168 7 rfl ?_
              refine r_if_eqN (tgt := 212) d_M_solve_170 (by decide) (by omega) (fun c170 => ?_) (fun c170 => ?_)
              · exfalso; first | omega | (revert c170; decide) | cases c170
              refine r_aload_n d_M_solve_173 0 rfl ?_
              refine rg_M_51 rfl d_M_solve_174 gM rfl ?_
              refine r_bipush (v := nI 16) d_M_solve_177 (by decide) ?_
              refine r_iload d_M_solve_179 6 rfl ?_
              refine r_imulN d_M_solve_181 ?_
              refine r_iload d_M_solve_182 8 rfl ?_
              refine r_iaddN d_M_solve_184 ?_
              refine r_dup2 d_M_solve_185 rfl rfl ?_
              refine r_aldN d_M_solve_186 gmEqs (by omega) (by decide) ?_
              refine r_iload d_M_solve_187 7 rfl ?_
              refine r_aload_n d_M_solve_189 0 rfl ?_
              refine rg_M_51 rfl d_M_solve_190 gM rfl ?_
              refine r_bipush (v := nI 16) d_M_solve_193 (by decide) ?_
              refine r_iload_n d_M_solve_195 3 rfl ?_
              refine r_imulN d_M_solve_196 ?_
              refine r_iload d_M_solve_197 8 rfl ?_
              refine r_iaddN d_M_solve_199 ?_
              refine r_aldN d_M_solve_200 gmEqs (by omega) (by decide) ?_
              refine rc_M_64 rfl d_M_solve_201 (k_M_product (m := m.s_eqs (ckE (crE (nmE (stE m.eqs w (w + r) q) q (ivT (stE m.eqs w (w + r) q (16 * q + q))) (w + r)) q (w + r) i) i q (byE (crE (nmE (stE m.eqs w (w + r) q) q (ivT (stE m.eqs w (w + r) q (16 * q + q))) (w + r)) q (w + r) i) q i) k)) (by omega) hby (hC _)) (room_ok (d' := d - 1) (by omega) (by decide)) ⟨Nat.le_refl _, Nat.le_refl _⟩ (Nat.le_of_ble_eq_true rfl) ?_
              refine r_ixorN d_M_solve_204 ?_
              refine r_astN d_M_solve_205 gmEqs (by omega) (by decide) (wm_eqs) ?_
              refine r_iincN (lv' := [(0, _), (1, _), (2, _), (3, _), (4, _), (5, _), (6, _), (7, _), (8, _)]) d_M_solve_206 8 rfl (by decide) rfl ?_
              refine r_goto (tgt := 160) d_M_solve_209 (by decide) ?_
              exact r_at ih_k rfl rfl rfl
    · intro k hb_k ih_k
      have hN : B1 (nmE (stE m.eqs w (w + r) q) q (ivT (stE m.eqs w (w + r) q (16 * q + q))) k) := nmE_lt hS k
      refine r_iload d_M_solve_51 6 rfl ?_
      refine r_iload_n d_M_solve_53 1 rfl ?_
      refine r_iload_n d_M_solve_54 2 rfl ?_
      refine r_iaddN d_M_solve_55 ?_
      refine r_icmp_geN (tgt := 124) d_M_solve_56 (by decide) (by omega) (by omega) (fun c56 => ?_) (fun c56 => ?_)
      · exfalso; first | omega | (revert c56; decide) | cases c56
      refine r_aload_n d_M_solve_59 0 rfl ?_
      refine rg_M_51 rfl d_M_solve_60 gM rfl ?_
      refine r_bipush (v := nI 16) d_M_solve_63 (by decide) ?_
      refine r_iload d_M_solve_65 4 rfl ?_
      refine r_imulN d_M_solve_67 ?_
      refine r_iload d_M_solve_68 6 rfl ?_
      refine r_iaddN d_M_solve_70 ?_
      refine r_aldN d_M_solve_71 gmEqs (by omega) (by decide) ?_
      refine r_iload d_M_solve_72 5 rfl ?_
      refine rc_M_64 rfl d_M_solve_74 (k_M_product (m := m.s_eqs (nmE (stE m.eqs w (w + r) q) q (ivT (stE m.eqs w (w + r) q (16 * q + q))) k)) (by omega) (hN _) (ivT_lt _)) (room_ok (d' := d - 1) (by omega) (by decide)) ⟨Nat.le_refl _, Nat.le_refl _⟩ (Nat.le_of_ble_eq_true rfl) ?_
      refine r_istore (lv' := [(0, _), (1, _), (2, _), (3, _), (4, _), (5, _), (6, _), (7, _)]) d_M_solve_77 (by decide) rfl ?_
      refine r_aload_n d_M_solve_79 0 rfl ?_
      refine rg_M_51 rfl d_M_solve_80 gM rfl ?_
      refine r_bipush (v := nI 16) d_M_solve_83 (by decide) ?_
      refine r_iload d_M_solve_85 4 rfl ?_
      refine r_imulN d_M_solve_87 ?_
      refine r_iload d_M_solve_88 6 rfl ?_
      refine r_iaddN d_M_solve_90 ?_
      refine r_aload_n d_M_solve_91 0 rfl ?_
      refine rg_M_51 rfl d_M_solve_92 gM rfl ?_
      refine r_bipush (v := nI 16) d_M_solve_95 (by decide) ?_
      refine r_iload_n d_M_solve_97 3 rfl ?_
      refine r_imulN d_M_solve_98 ?_
      refine r_iload d_M_solve_99 6 rfl ?_
      refine r_iaddN d_M_solve_101 ?_
      refine r_aldN d_M_solve_102 gmEqs (by omega) (by decide) ?_
      refine r_astN d_M_solve_103 gmEqs (by omega) (by decide) (wm_eqs) ?_
      refine r_heap (h' := hp g c (m.s_eqs (nmE (stE m.eqs w (w + r) q) q (ivT (stE m.eqs w (w + r) q (16 * q + q))) k))) (congrArg (fun z => hp g c (m.s_eqs z)) (upN_self _ _)) ?_
      refine r_aload_n d_M_solve_104 0 rfl ?_
      refine rg_M_51 rfl d_M_solve_105 gM rfl ?_
      refine r_bipush (v := nI 16) d_M_solve_108 (by decide) ?_
      refine r_iload_n d_M_solve_110 3 rfl ?_
      refine r_imulN d_M_solve_111 ?_
      refine r_iload d_M_solve_112 6 rfl ?_
      refine r_iaddN d_M_solve_114 ?_
      refine r_iload d_M_solve_115 7 rfl ?_
      refine r_astN d_M_solve_117 gmEqs (by omega) (by decide) (wm_eqs) ?_
      refine r_iincN (lv' := [(0, _), (1, _), (2, _), (3, _), (4, _), (5, _), (6, _), (7, _)]) d_M_solve_118 6 rfl (by decide) rfl ?_
      refine r_goto (tgt := 51) d_M_solve_121 (by decide) ?_
      refine r_less (lv' := [(0, .ref (aM g)), (1, .int (nI w)), (2, .int (nI r)), (3, .int (nI q)), (4, .int (nI q)), (5, .int (nI (ivT (stE m.eqs w (w + r) q (16 * q + q))))), (6, .int (nI (k + 1)))]) (by simp) ?_
      exact r_at ih_k rfl rfl rfl
def tri (r k : Nat) : Nat := 5 * r - r * (r - 1) / 2 + k - r
theorem tri_eq : ∀ r, r < 5 → ∀ k, k < 8 → r ≤ k → nI (5 * r) - nI r * (nI r - nI 1) / nI 2 + nI k - nI r = nI (tri r k) := by decide +kernel
theorem tri_lt : ∀ r, r < 5 → ∀ k, k < 5 → r ≤ k → tri r k < 15 := by decide +kernel
def mxJ (r k : Nat) : Nat := if k < 5 then tri r k else 15 + 3 * r + k - 5
def mxG (t : Nat → Nat) (T s r k : Nat) : Nat := if 4 < r then 0 else if 30 * s + mxJ r k < T then t (30 * s + mxJ r k) else 0
def mxF (t : Nat → Nat) (T s r k : Nat) : Nat := if r < k then mxG t T s r k else mxG t T s k r
theorem mxG_lt {t : Nat → Nat} {T s r k : Nat} (h : B1 t) : mxG t T s r k < 256 := by
  unfold mxG
  split
  · decide
  · split
    · exact h _
    · decide
theorem mxF_lt {t : Nat → Nat} {T s r k : Nat} (h : B1 t) : mxF t T s r k < 256 := by
  unfold mxF
  split
  · exact mxG_lt h
  · exact mxG_lt h
theorem k_M_matrix1 {l : Launch} {g : GX} {c : CS} {m : MS} {n d : Nat} (hd : 0 ≤ d) {s r k : Nat} (hs : s < 60000) (hr : r < 8) (hk : k < 8) (hT : m.taped ≤ 240) (h : r < k) : CE l g M_M_matrix d 0 0 [.ref (aM g), .int (nI s), .int (nI r), .int (nI k)] n (hp g c m) (some (.int (nI (mxG m.tape m.taped s r k)))) n (hp g c m) := by
  refine CE.of (by decide +kernel) (lv := [(0, .ref (aM g)), (1, .int (nI s)), (2, .int (nI r)), (3, .int (nI k))]) rfl (Nat.le_of_ble_eq_true rfl) ?_
  refine r_iload_n d_M_matrix_0 2 rfl ?_
  refine r_iload_n d_M_matrix_1 3 rfl ?_
  refine r_icmp_geN (tgt := 9) d_M_matrix_2 (by decide) (by omega) (by omega) (fun c2 => ?_) (fun c2 => ?_)
  · exfalso; first | omega | (revert c2; decide) | cases c2
  refine r_iload_n d_M_matrix_5 2 rfl ?_
  refine r_goto (tgt := 10) d_M_matrix_6 (by decide) ?_
  refine r_istore (lv' := [(0, _), (1, _), (2, _), (3, _), (4, _)]) d_M_matrix_10 (by decide) rfl ?_
  refine r_iload_n d_M_matrix_12 2 rfl ?_
  refine r_iload_n d_M_matrix_13 3 rfl ?_
  refine r_icmp_geN (tgt := 21) d_M_matrix_14 (by decide) (by omega) (by omega) (fun c14 => ?_) (fun c14 => ?_)
  · exfalso; first | omega | (revert c14; decide) | cases c14
  refine r_iload_n d_M_matrix_17 3 rfl ?_
  refine r_goto (tgt := 22) d_M_matrix_18 (by decide) ?_
  refine r_istore (lv' := [(0, _), (1, _), (2, _), (3, _), (4, _), (5, _)]) d_M_matrix_22 (by decide) rfl ?_
  refine r_iload d_M_matrix_24 4 rfl ?_
  refine r_iconst (v := nI 4) d_M_matrix_26 (by decide) ?_
  refine r_icmp_leN (tgt := 32) d_M_matrix_27 (by decide) (by omega) (by omega) (fun c27 => ?_) (fun c27 => ?_)
  · skip
    refine r_iload d_M_matrix_32 5 rfl ?_
    refine r_iconst (v := nI 5) d_M_matrix_34 (by decide) ?_
    refine r_icmp_geN (tgt := 61) d_M_matrix_35 (by decide) (by omega) (by omega) (fun c35 => ?_) (fun c35 => ?_)
    · skip
      have hJ : mxJ r k = 15 + 3 * r + k - 5 := if_neg (by omega)
      refine r_bipush (v := nI 15) d_M_matrix_61 (by decide) ?_
      refine r_iconst (v := nI 3) d_M_matrix_63 (by decide) ?_
      refine r_iload d_M_matrix_64 4 rfl ?_
      refine r_imulN d_M_matrix_66 ?_
      refine r_iaddN d_M_matrix_67 ?_
      refine r_iload d_M_matrix_68 5 rfl ?_
      refine r_iaddN d_M_matrix_70 ?_
      refine r_iconst (v := nI 5) d_M_matrix_71 (by decide) ?_
      refine r_isubN d_M_matrix_72 (by omega) ?_
      refine r_istore (lv' := [(0, _), (1, _), (2, _), (3, _), (4, _), (5, _), (6, _)]) d_M_matrix_73 (by decide) rfl ?_
      refine r_bipush (v := nI 30) d_M_matrix_75 (by decide) ?_
      refine r_iload_n d_M_matrix_77 1 rfl ?_
      refine r_imulN d_M_matrix_78 ?_
      refine r_iload d_M_matrix_79 6 rfl ?_
      refine r_iaddN d_M_matrix_81 ?_
      refine r_istore (lv' := [(0, _), (1, _), (2, _), (3, _), (4, _), (5, _), (6, _), (7, _)]) d_M_matrix_82 (by decide) rfl ?_
      refine r_iload d_M_matrix_84 7 rfl ?_
      refine r_aload_n d_M_matrix_86 0 rfl ?_
      refine rg_M_96 rfl d_M_matrix_87 gM rfl ?_
      refine r_icmp_geN (tgt := 103) d_M_matrix_90 (by decide) (by omega) (by omega) (fun c90 => ?_) (fun c90 => ?_)
      · skip
        refine r_iconst (v := nI 0) d_M_matrix_103 (by decide) ?_
        refine r_ireturn d_M_matrix_104 rfl rfl ⟨?_, rfl, ?_⟩
        · refine congrArg (fun z => some (Value.int (nI z))) ?_
          show _ = (if 4 < r then 0 else if 30 * s + mxJ r k < m.taped then m.tape (30 * s + mxJ r k) else 0)
          rw [hJ, if_neg (by omega)]
          first | rw [if_pos (by omega)] | rw [if_neg (by omega)]
        · rfl
      · skip
        refine r_aload_n d_M_matrix_93 0 rfl ?_
        refine rg_M_7 rfl d_M_matrix_94 gM rfl ?_
        refine r_iload d_M_matrix_97 7 rfl ?_
        refine r_aldN d_M_matrix_99 gmTape (by omega) (by decide) ?_
        refine r_goto (tgt := 104) d_M_matrix_100 (by decide) ?_
        refine r_ireturn d_M_matrix_104 rfl rfl ⟨?_, rfl, ?_⟩
        · refine congrArg (fun z => some (Value.int (nI z))) ?_
          show _ = (if 4 < r then 0 else if 30 * s + mxJ r k < m.taped then m.tape (30 * s + mxJ r k) else 0)
          rw [hJ, if_neg (by omega)]
          first | rw [if_pos (by omega)] | rw [if_neg (by omega)]
        · rfl
    · skip
      have hJ : mxJ r k = tri r k := if_pos (by omega)
      have hJ2 := tri_lt r (by omega) k (by omega) (by omega)
      refine r_iconst (v := nI 5) d_M_matrix_38 (by decide) ?_
      refine r_iload d_M_matrix_39 4 rfl ?_
      refine r_imulN d_M_matrix_41 ?_
      refine r_iload d_M_matrix_42 4 rfl ?_
      refine r_iload d_M_matrix_44 4 rfl ?_
      refine r_iconst (v := nI 1) d_M_matrix_46 (by decide) ?_
      refine r_isub d_M_matrix_47 ?_
      refine r_imul d_M_matrix_48 ?_
      refine r_iconst (v := nI 2) d_M_matrix_49 (by decide) ?_
      refine r_idiv d_M_matrix_50 (by decide) ?_
      refine r_isub d_M_matrix_51 ?_
      refine r_iload d_M_matrix_52 5 rfl ?_
      refine r_iadd d_M_matrix_54 ?_
      refine r_iload d_M_matrix_55 4 rfl ?_
      refine r_isub d_M_matrix_57 ?_
      refine r_top (y := (nI (tri r k))) (tri_eq r (by omega) k (by omega) (by omega)) ?_
      refine r_goto (tgt := 73) d_M_matrix_58 (by decide) ?_
      refine r_istore (lv' := [(0, _), (1, _), (2, _), (3, _), (4, _), (5, _), (6, _)]) d_M_matrix_73 (by decide) rfl ?_
      refine r_bipush (v := nI 30) d_M_matrix_75 (by decide) ?_
      refine r_iload_n d_M_matrix_77 1 rfl ?_
      refine r_imulN d_M_matrix_78 ?_
      refine r_iload d_M_matrix_79 6 rfl ?_
      refine r_iaddN d_M_matrix_81 ?_
      refine r_istore (lv' := [(0, _), (1, _), (2, _), (3, _), (4, _), (5, _), (6, _), (7, _)]) d_M_matrix_82 (by decide) rfl ?_
      refine r_iload d_M_matrix_84 7 rfl ?_
      refine r_aload_n d_M_matrix_86 0 rfl ?_
      refine rg_M_96 rfl d_M_matrix_87 gM rfl ?_
      refine r_icmp_geN (tgt := 103) d_M_matrix_90 (by decide) (by omega) (by omega) (fun c90 => ?_) (fun c90 => ?_)
      · skip
        refine r_iconst (v := nI 0) d_M_matrix_103 (by decide) ?_
        refine r_ireturn d_M_matrix_104 rfl rfl ⟨?_, rfl, ?_⟩
        · refine congrArg (fun z => some (Value.int (nI z))) ?_
          show _ = (if 4 < r then 0 else if 30 * s + mxJ r k < m.taped then m.tape (30 * s + mxJ r k) else 0)
          rw [hJ, if_neg (by omega)]
          first | rw [if_pos (by omega)] | rw [if_neg (by omega)]
        · rfl
      · skip
        refine r_aload_n d_M_matrix_93 0 rfl ?_
        refine rg_M_7 rfl d_M_matrix_94 gM rfl ?_
        refine r_iload d_M_matrix_97 7 rfl ?_
        refine r_aldN d_M_matrix_99 gmTape (by omega) (by decide) ?_
        refine r_goto (tgt := 104) d_M_matrix_100 (by decide) ?_
        refine r_ireturn d_M_matrix_104 rfl rfl ⟨?_, rfl, ?_⟩
        · refine congrArg (fun z => some (Value.int (nI z))) ?_
          show _ = (if 4 < r then 0 else if 30 * s + mxJ r k < m.taped then m.tape (30 * s + mxJ r k) else 0)
          rw [hJ, if_neg (by omega)]
          first | rw [if_pos (by omega)] | rw [if_neg (by omega)]
        · rfl
  · skip
    refine r_iconst (v := nI 0) d_M_matrix_30 (by decide) ?_
    refine r_ireturn d_M_matrix_31 rfl rfl ⟨?_, rfl, ?_⟩
    · exact congrArg (fun z => some (Value.int (nI z))) (show (0 : Nat) = mxG m.tape m.taped s r k from (if_pos (by omega)).symm)
    · rfl
theorem k_M_matrix2 {l : Launch} {g : GX} {c : CS} {m : MS} {n d : Nat} (hd : 0 ≤ d) {s r k : Nat} (hs : s < 60000) (hr : r < 8) (hk : k < 8) (hT : m.taped ≤ 240) (h : k ≤ r) : CE l g M_M_matrix d 0 0 [.ref (aM g), .int (nI s), .int (nI r), .int (nI k)] n (hp g c m) (some (.int (nI (mxG m.tape m.taped s k r)))) n (hp g c m) := by
  refine CE.of (by decide +kernel) (lv := [(0, .ref (aM g)), (1, .int (nI s)), (2, .int (nI r)), (3, .int (nI k))]) rfl (Nat.le_of_ble_eq_true rfl) ?_
  refine r_iload_n d_M_matrix_0 2 rfl ?_
  refine r_iload_n d_M_matrix_1 3 rfl ?_
  refine r_icmp_geN (tgt := 9) d_M_matrix_2 (by decide) (by omega) (by omega) (fun c2 => ?_) (fun c2 => ?_)
  rotate_left 1
  · exfalso; first | omega | (revert c2; decide) | cases c2
  refine r_iload_n d_M_matrix_9 3 rfl ?_
  refine r_istore (lv' := [(0, _), (1, _), (2, _), (3, _), (4, _)]) d_M_matrix_10 (by decide) rfl ?_
  refine r_iload_n d_M_matrix_12 2 rfl ?_
  refine r_iload_n d_M_matrix_13 3 rfl ?_
  refine r_icmp_geN (tgt := 21) d_M_matrix_14 (by decide) (by omega) (by omega) (fun c14 => ?_) (fun c14 => ?_)
  rotate_left 1
  · exfalso; first | omega | (revert c14; decide) | cases c14
  refine r_iload_n d_M_matrix_21 2 rfl ?_
  refine r_istore (lv' := [(0, _), (1, _), (2, _), (3, _), (4, _), (5, _)]) d_M_matrix_22 (by decide) rfl ?_
  refine r_iload d_M_matrix_24 4 rfl ?_
  refine r_iconst (v := nI 4) d_M_matrix_26 (by decide) ?_
  refine r_icmp_leN (tgt := 32) d_M_matrix_27 (by decide) (by omega) (by omega) (fun c27 => ?_) (fun c27 => ?_)
  · skip
    refine r_iload d_M_matrix_32 5 rfl ?_
    refine r_iconst (v := nI 5) d_M_matrix_34 (by decide) ?_
    refine r_icmp_geN (tgt := 61) d_M_matrix_35 (by decide) (by omega) (by omega) (fun c35 => ?_) (fun c35 => ?_)
    · skip
      have hJ : mxJ k r = 15 + 3 * k + r - 5 := if_neg (by omega)
      refine r_bipush (v := nI 15) d_M_matrix_61 (by decide) ?_
      refine r_iconst (v := nI 3) d_M_matrix_63 (by decide) ?_
      refine r_iload d_M_matrix_64 4 rfl ?_
      refine r_imulN d_M_matrix_66 ?_
      refine r_iaddN d_M_matrix_67 ?_
      refine r_iload d_M_matrix_68 5 rfl ?_
      refine r_iaddN d_M_matrix_70 ?_
      refine r_iconst (v := nI 5) d_M_matrix_71 (by decide) ?_
      refine r_isubN d_M_matrix_72 (by omega) ?_
      refine r_istore (lv' := [(0, _), (1, _), (2, _), (3, _), (4, _), (5, _), (6, _)]) d_M_matrix_73 (by decide) rfl ?_
      refine r_bipush (v := nI 30) d_M_matrix_75 (by decide) ?_
      refine r_iload_n d_M_matrix_77 1 rfl ?_
      refine r_imulN d_M_matrix_78 ?_
      refine r_iload d_M_matrix_79 6 rfl ?_
      refine r_iaddN d_M_matrix_81 ?_
      refine r_istore (lv' := [(0, _), (1, _), (2, _), (3, _), (4, _), (5, _), (6, _), (7, _)]) d_M_matrix_82 (by decide) rfl ?_
      refine r_iload d_M_matrix_84 7 rfl ?_
      refine r_aload_n d_M_matrix_86 0 rfl ?_
      refine rg_M_96 rfl d_M_matrix_87 gM rfl ?_
      refine r_icmp_geN (tgt := 103) d_M_matrix_90 (by decide) (by omega) (by omega) (fun c90 => ?_) (fun c90 => ?_)
      · skip
        refine r_iconst (v := nI 0) d_M_matrix_103 (by decide) ?_
        refine r_ireturn d_M_matrix_104 rfl rfl ⟨?_, rfl, ?_⟩
        · refine congrArg (fun z => some (Value.int (nI z))) ?_
          show _ = (if 4 < k then 0 else if 30 * s + mxJ k r < m.taped then m.tape (30 * s + mxJ k r) else 0)
          rw [hJ, if_neg (by omega)]
          first | rw [if_pos (by omega)] | rw [if_neg (by omega)]
        · rfl
      · skip
        refine r_aload_n d_M_matrix_93 0 rfl ?_
        refine rg_M_7 rfl d_M_matrix_94 gM rfl ?_
        refine r_iload d_M_matrix_97 7 rfl ?_
        refine r_aldN d_M_matrix_99 gmTape (by omega) (by decide) ?_
        refine r_goto (tgt := 104) d_M_matrix_100 (by decide) ?_
        refine r_ireturn d_M_matrix_104 rfl rfl ⟨?_, rfl, ?_⟩
        · refine congrArg (fun z => some (Value.int (nI z))) ?_
          show _ = (if 4 < k then 0 else if 30 * s + mxJ k r < m.taped then m.tape (30 * s + mxJ k r) else 0)
          rw [hJ, if_neg (by omega)]
          first | rw [if_pos (by omega)] | rw [if_neg (by omega)]
        · rfl
    · skip
      have hJ : mxJ k r = tri k r := if_pos (by omega)
      have hJ2 := tri_lt k (by omega) r (by omega) (by omega)
      refine r_iconst (v := nI 5) d_M_matrix_38 (by decide) ?_
      refine r_iload d_M_matrix_39 4 rfl ?_
      refine r_imulN d_M_matrix_41 ?_
      refine r_iload d_M_matrix_42 4 rfl ?_
      refine r_iload d_M_matrix_44 4 rfl ?_
      refine r_iconst (v := nI 1) d_M_matrix_46 (by decide) ?_
      refine r_isub d_M_matrix_47 ?_
      refine r_imul d_M_matrix_48 ?_
      refine r_iconst (v := nI 2) d_M_matrix_49 (by decide) ?_
      refine r_idiv d_M_matrix_50 (by decide) ?_
      refine r_isub d_M_matrix_51 ?_
      refine r_iload d_M_matrix_52 5 rfl ?_
      refine r_iadd d_M_matrix_54 ?_
      refine r_iload d_M_matrix_55 4 rfl ?_
      refine r_isub d_M_matrix_57 ?_
      refine r_top (y := (nI (tri k r))) (tri_eq k (by omega) r (by omega) (by omega)) ?_
      refine r_goto (tgt := 73) d_M_matrix_58 (by decide) ?_
      refine r_istore (lv' := [(0, _), (1, _), (2, _), (3, _), (4, _), (5, _), (6, _)]) d_M_matrix_73 (by decide) rfl ?_
      refine r_bipush (v := nI 30) d_M_matrix_75 (by decide) ?_
      refine r_iload_n d_M_matrix_77 1 rfl ?_
      refine r_imulN d_M_matrix_78 ?_
      refine r_iload d_M_matrix_79 6 rfl ?_
      refine r_iaddN d_M_matrix_81 ?_
      refine r_istore (lv' := [(0, _), (1, _), (2, _), (3, _), (4, _), (5, _), (6, _), (7, _)]) d_M_matrix_82 (by decide) rfl ?_
      refine r_iload d_M_matrix_84 7 rfl ?_
      refine r_aload_n d_M_matrix_86 0 rfl ?_
      refine rg_M_96 rfl d_M_matrix_87 gM rfl ?_
      refine r_icmp_geN (tgt := 103) d_M_matrix_90 (by decide) (by omega) (by omega) (fun c90 => ?_) (fun c90 => ?_)
      · skip
        refine r_iconst (v := nI 0) d_M_matrix_103 (by decide) ?_
        refine r_ireturn d_M_matrix_104 rfl rfl ⟨?_, rfl, ?_⟩
        · refine congrArg (fun z => some (Value.int (nI z))) ?_
          show _ = (if 4 < k then 0 else if 30 * s + mxJ k r < m.taped then m.tape (30 * s + mxJ k r) else 0)
          rw [hJ, if_neg (by omega)]
          first | rw [if_pos (by omega)] | rw [if_neg (by omega)]
        · rfl
      · skip
        refine r_aload_n d_M_matrix_93 0 rfl ?_
        refine rg_M_7 rfl d_M_matrix_94 gM rfl ?_
        refine r_iload d_M_matrix_97 7 rfl ?_
        refine r_aldN d_M_matrix_99 gmTape (by omega) (by decide) ?_
        refine r_goto (tgt := 104) d_M_matrix_100 (by decide) ?_
        refine r_ireturn d_M_matrix_104 rfl rfl ⟨?_, rfl, ?_⟩
        · refine congrArg (fun z => some (Value.int (nI z))) ?_
          show _ = (if 4 < k then 0 else if 30 * s + mxJ k r < m.taped then m.tape (30 * s + mxJ k r) else 0)
          rw [hJ, if_neg (by omega)]
          first | rw [if_pos (by omega)] | rw [if_neg (by omega)]
        · rfl
  · skip
    refine r_iconst (v := nI 0) d_M_matrix_30 (by decide) ?_
    refine r_ireturn d_M_matrix_31 rfl rfl ⟨?_, rfl, ?_⟩
    · exact congrArg (fun z => some (Value.int (nI z))) (show (0 : Nat) = mxG m.tape m.taped s k r from (if_pos (by omega)).symm)
    · rfl
theorem k_M_matrix {l : Launch} {g : GX} {c : CS} {m : MS} {n d : Nat} (hd : 0 ≤ d) {s r k : Nat} (hs : s < 60000) (hr : r < 8) (hk : k < 8) (hT : m.taped ≤ 240) : CE l g M_M_matrix d 0 0 [.ref (aM g), .int (nI s), .int (nI r), .int (nI k)] n (hp g c m) (some (.int (nI (mxF m.tape m.taped s r k)))) n (hp g c m) := by
  by_cases q : r < k
  · rw [show mxF m.tape m.taped s r k = mxG m.tape m.taped s r k from if_pos q]
    exact k_M_matrix1 hd hs hr hk hT q
  · rw [show mxF m.tape m.taped s r k = mxG m.tape m.taped s k r from if_neg q]
    exact k_M_matrix2 hd hs hr hk hT (by omega)
def shV (m : MS) (i s k : Nat) : Nat := xs (fun q => mulT (rowT i q) (mxF m.tape m.taped s q k)) 8
theorem shV_lt (m : MS) (i s k : Nat) : shV m i s k < 256 := xs_lt (fun q => mulT_lt _ _) 8
def mshS (m : MS) (i r : Nat) : Nat → Nat → Nat
  | 0 => m.byts
  | s + 1 => wrB (mshS m i r s) (8 * (40 * i + m.blk (8 * r + s))) (shV m i s) 8
def msh (m : MS) (i r : Nat) : MS := m.s_byts (mshS m i r (stp (m.size r)))
theorem k_M_shares {l : Launch} {g : GX} {c : CS} {m : MS} {n d : Nat} (hd : 3 ≤ d) {i o : Nat} (hi : i < 12) (ho : o < 6) (hm : MI m) (hT : m.taped ≤ 240) (hB : B1 m.tape) : CE l g M_M_shares d 0 0 [.ref (aM g), .int (nI i), .int (nI o)] n (hp g c m) (none) n (hp g c (msh m i (rx i o true))) := by
  have hr := rx_lt (z := true) hi ho
  have h8 := stp_le (hm.1 (rx i o true))
  have h24 := hm.1 (rx i o true)
  refine CE.of (by decide +kernel) (lv := [(0, .ref (aM g)), (1, .int (nI i)), (2, .int (nI o))]) rfl (Nat.le_of_ble_eq_true rfl) ?_
  refine r_iload_n d_M_shares_0 1 rfl ?_
  refine r_iload_n d_M_shares_1 2 rfl ?_
  refine r_iconst (v := nI 1) d_M_shares_2 (by decide) ?_
  refine rc_M_79 rfl d_M_shares_3 (k_M_at (i := i) (o := o) (z := true) (by omega)) (room_ok (d' := d - 1) (by omega) (by decide)) ⟨Nat.le_refl _, Nat.le_refl _⟩ (Nat.le_of_ble_eq_true rfl) ?_
  refine r_istore_n (lv' := [(0, _), (1, _), (2, _), (3, _)]) d_M_shares_6 (by decide) rfl ?_
  refine r_iconst (v := nI 0) d_M_shares_7 (by decide) ?_
  refine r_istore (lv' := [(0, _), (1, _), (2, _), (3, _), (4, _)]) d_M_shares_8 (by decide) rfl ?_
  refine r_heap (h' := hp g c (m.s_byts (mshS m i (rx i o true) 0))) rfl ?_
  refine r_less (lv' := [(0, .ref (aM g)), (1, .int (nI i)), (2, .int (nI o)), (3, .int (nI (rx i o true))), (4, .int (nI 0))]) (by simp) ?_
  refine back_ind (n := stp (m.size (rx i o true))) (G := fun s => RJ l g M_M_shares (RMX d 0 0) (TQ g 0 0 (QE (none) n (hp g c (msh m i (rx i o true))))) XT n (hp g c (m.s_byts (mshS m i (rx i o true) s))) 0 0 10 [(0, .ref (aM g)), (1, .int (nI i)), (2, .int (nI o)), (3, .int (nI (rx i o true))), (4, .int (nI s))] []) ?_ ?_ 0 (Nat.zero_le _)
  · skip
    refine r_iload d_M_shares_10 4 rfl ?_
    refine r_aload_n d_M_shares_12 0 rfl ?_
    refine rg_M_36 rfl d_M_shares_13 gM rfl ?_
    refine r_iload_n d_M_shares_16 3 rfl ?_
    refine r_aldN d_M_shares_17 gmSize (by omega) (by decide) ?_
    refine r_top (y := nI (m.size (rx i o true))) rfl ?_
    refine rc_M_83 rfl d_M_shares_18 (k_M_stripes (by omega) (by omega)) (room_ok (d' := d - 1) (by omega) (by decide)) ⟨Nat.le_refl _, Nat.le_refl _⟩ (Nat.le_of_ble_eq_true rfl) ?_
    refine r_icmp_geN (tgt := 106) d_M_shares_21 (by decide) (by omega) (by omega) (fun c21 => ?_) (fun c21 => ?_)
    rotate_left 1
    · exfalso; first | omega | (revert c21; decide) | cases c21
    refine r_return d_M_shares_106 rfl ⟨rfl, rfl, ?_⟩
    · rfl
  · intro s hb_s ih_s
    have hb40 := hm.2.2 (8 * rx i o true + s)
    refine r_iload d_M_shares_10 4 rfl ?_
    refine r_aload_n d_M_shares_12 0 rfl ?_
    refine rg_M_36 rfl d_M_shares_13 gM rfl ?_
    refine r_iload_n d_M_shares_16 3 rfl ?_
    refine r_aldN d_M_shares_17 gmSize (by omega) (by decide) ?_
    refine r_top (y := nI (m.size (rx i o true))) rfl ?_
    refine rc_M_83 rfl d_M_shares_18 (k_M_stripes (by omega) (by omega)) (room_ok (d' := d - 1) (by omega) (by decide)) ⟨Nat.le_refl _, Nat.le_refl _⟩ (Nat.le_of_ble_eq_true rfl) ?_
    refine r_icmp_geN (tgt := 106) d_M_shares_21 (by decide) (by omega) (by omega) (fun c21 => ?_) (fun c21 => ?_)
    · exfalso; first | omega | (revert c21; decide) | cases c21
    refine r_iconst (v := nI 0) d_M_shares_24 (by decide) ?_
    refine r_istore (lv' := [(0, _), (1, _), (2, _), (3, _), (4, _), (5, _)]) d_M_shares_25 (by decide) rfl ?_
    refine r_heap (h' := hp g c (m.s_byts (wrB (mshS m i (rx i o true) s) (8 * (40 * i + m.blk (8 * (rx i o true) + s))) (shV m i s) 0))) rfl ?_
    refine r_less (lv' := [(0, .ref (aM g)), (1, .int (nI i)), (2, .int (nI o)), (3, .int (nI (rx i o true))), (4, .int (nI s)), (5, .int (nI 0))]) (by simp) ?_
    refine back_ind (n := 8) (G := fun k => RJ l g M_M_shares (RMX d 0 0) (TQ g 0 0 (QE (none) n (hp g c (msh m i (rx i o true))))) XT n (hp g c (m.s_byts (wrB (mshS m i (rx i o true) s) (8 * (40 * i + m.blk (8 * (rx i o true) + s))) (shV m i s) k))) 0 0 27 [(0, .ref (aM g)), (1, .int (nI i)), (2, .int (nI o)), (3, .int (nI (rx i o true))), (4, .int (nI s)), (5, .int (nI k))] []) ?_ ?_ 0 (Nat.zero_le _)
    · skip
      refine r_iload d_M_shares_27 5 rfl ?_
      refine r_bipush (v := nI 8) d_M_shares_29 (by decide) ?_
      refine r_icmp_geN (tgt := 100) d_M_shares_31 (by decide) (by omega) (by omega) (fun c31 => ?_) (fun c31 => ?_)
      rotate_left 1
      · exfalso; first | omega | (revert c31; decide) | cases c31
      refine r_iincN (lv' := [(0, _), (1, _), (2, _), (3, _), (4, _), (5, _)]) d_M_shares_100 4 rfl (by decide) rfl ?_
      refine r_goto (tgt := 10) d_M_shares_103 (by decide) ?_
      refine r_less (lv' := [(0, .ref (aM g)), (1, .int (nI i)), (2, .int (nI o)), (3, .int (nI (rx i o true))), (4, .int (nI (s + 1)))]) (by simp) ?_
      exact r_at ih_s rfl rfl rfl
    · intro k hb_k ih_k
      refine r_iload d_M_shares_27 5 rfl ?_
      refine r_bipush (v := nI 8) d_M_shares_29 (by decide) ?_
      refine r_icmp_geN (tgt := 100) d_M_shares_31 (by decide) (by omega) (by omega) (fun c31 => ?_) (fun c31 => ?_)
      · exfalso; first | omega | (revert c31; decide) | cases c31
      refine r_iconst (v := nI 0) d_M_shares_34 (by decide) ?_
      refine r_istore (lv' := [(0, _), (1, _), (2, _), (3, _), (4, _), (5, _), (6, _)]) d_M_shares_35 (by decide) rfl ?_
      refine r_iconst (v := nI 0) d_M_shares_37 (by decide) ?_
      refine r_istore (lv' := [(0, _), (1, _), (2, _), (3, _), (4, _), (5, _), (6, _), (7, _)]) d_M_shares_38 (by decide) rfl ?_
      refine back_ind (n := 8) (G := fun q => RJ l g M_M_shares (RMX d 0 0) (TQ g 0 0 (QE (none) n (hp g c (msh m i (rx i o true))))) XT n (hp g c (m.s_byts (wrB (mshS m i (rx i o true) s) (8 * (40 * i + m.blk (8 * (rx i o true) + s))) (shV m i s) k))) 0 0 40 [(0, .ref (aM g)), (1, .int (nI i)), (2, .int (nI o)), (3, .int (nI (rx i o true))), (4, .int (nI s)), (5, .int (nI k)), (6, .int (nI (xs (fun q => mulT (rowT i q) (mxF m.tape m.taped s q k)) q))), (7, .int (nI q))] []) ?_ ?_ 0 (Nat.zero_le _)
      · skip
        refine r_iload d_M_shares_40 7 rfl ?_
        refine r_bipush (v := nI 8) d_M_shares_42 (by decide) ?_
        refine r_icmp_geN (tgt := 77) d_M_shares_44 (by decide) (by omega) (by omega) (fun c44 => ?_) (fun c44 => ?_)
        rotate_left 1
        · exfalso; first | omega | (revert c44; decide) | cases c44
        refine r_aload_n d_M_shares_77 0 rfl ?_
        refine rg_M_27 rfl d_M_shares_78 gM rfl ?_
        refine r_aload_n d_M_shares_81 0 rfl ?_
        refine r_iload_n d_M_shares_82 1 rfl ?_
        refine r_iload_n d_M_shares_83 3 rfl ?_
        refine r_iload d_M_shares_84 4 rfl ?_
        refine r_iload d_M_shares_86 5 rfl ?_
        refine rc_M_103 rfl d_M_shares_88 (k_M_byteAt (m := m.s_byts (wrB (mshS m i (rx i o true) s) (8 * (40 * i + m.blk (8 * (rx i o true) + s))) (shV m i s) k)) (r := rx i o true) (s := s) (by omega) (by omega)) gM (room_ok (d' := d - 1) (by omega) (by decide)) ⟨Nat.le_refl _, Nat.le_refl _⟩ (Nat.le_of_ble_eq_true rfl) ?_
        refine r_top (y := nI ((8 * (40 * i + m.blk (8 * (rx i o true) + s))) + k)) rfl ?_
        refine r_iload d_M_shares_91 6 rfl ?_
        refine r_astN d_M_shares_93 gmByts (by omega) (by decide) (wm_byts) ?_
        refine r_iincN (lv' := [(0, _), (1, _), (2, _), (3, _), (4, _), (5, _), (6, _), (7, _)]) d_M_shares_94 5 rfl (by decide) rfl ?_
        refine r_goto (tgt := 27) d_M_shares_97 (by decide) ?_
        refine r_less (lv' := [(0, .ref (aM g)), (1, .int (nI i)), (2, .int (nI o)), (3, .int (nI (rx i o true))), (4, .int (nI s)), (5, .int (nI (k + 1)))]) (by simp) ?_
        exact r_at ih_k rfl rfl rfl
      · intro q hb_q ih_q
        refine r_iload d_M_shares_40 7 rfl ?_
        refine r_bipush (v := nI 8) d_M_shares_42 (by decide) ?_
        refine r_icmp_geN (tgt := 77) d_M_shares_44 (by decide) (by omega) (by omega) (fun c44 => ?_) (fun c44 => ?_)
        · exfalso; first | omega | (revert c44; decide) | cases c44
        refine r_iload d_M_shares_47 6 rfl ?_
        refine r_iload_n d_M_shares_49 1 rfl ?_
        refine r_iload d_M_shares_50 7 rfl ?_
        refine rc_M_76 rfl d_M_shares_52 (k_M_row (m := m.s_byts (wrB (mshS m i (rx i o true) s) (8 * (40 * i + m.blk (8 * (rx i o true) + s))) (shV m i s) k)) (by omega) hi (by omega)) (room_ok (d' := d - 1) (by omega) (by decide)) ⟨Nat.le_refl _, Nat.le_refl _⟩ (Nat.le_of_ble_eq_true rfl) ?_
        refine r_aload_n d_M_shares_55 0 rfl ?_
        refine r_iload d_M_shares_56 4 rfl ?_
        refine r_iload d_M_shares_58 7 rfl ?_
        refine r_iload d_M_shares_60 5 rfl ?_
        refine rc_M_99 rfl d_M_shares_62 (k_M_matrix (m := m.s_byts (wrB (mshS m i (rx i o true) s) (8 * (40 * i + m.blk (8 * (rx i o true) + s))) (shV m i s) k)) (by omega) (by omega) (by omega) (by omega) hT) gM (room_ok (d' := d - 1) (by omega) (by decide)) ⟨Nat.le_refl _, Nat.le_refl _⟩ (Nat.le_of_ble_eq_true rfl) ?_
        refine rc_M_64 rfl d_M_shares_65 (k_M_product (m := m.s_byts (wrB (mshS m i (rx i o true) s) (8 * (40 * i + m.blk (8 * (rx i o true) + s))) (shV m i s) k)) (by omega) (rowT_lt _ _) (mxF_lt hB)) (room_ok (d' := d - 1) (by omega) (by decide)) ⟨Nat.le_refl _, Nat.le_refl _⟩ (Nat.le_of_ble_eq_true rfl) ?_
        refine r_ixorN d_M_shares_68 ?_
        refine r_istore (lv' := [(0, _), (1, _), (2, _), (3, _), (4, _), (5, _), (6, _), (7, _)]) d_M_shares_69 (by decide) rfl ?_
        refine r_iincN (lv' := [(0, _), (1, _), (2, _), (3, _), (4, _), (5, _), (6, _), (7, _)]) d_M_shares_71 7 rfl (by decide) rfl ?_
        refine r_goto (tgt := 40) d_M_shares_74 (by decide) ?_
        exact r_at ih_q rfl rfl rfl
