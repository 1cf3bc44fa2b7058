def MNA : Prop := ∀ (l : Launch) (g : GX) (M : MT) (R : Room) (TG : TGT) (XP : XPT) (n : Nat) (h h' : AH) (k sl pc : Nat) (lv : List (Nat × Value)) (st : List Value) (index N K : Nat), Cond.classLink M.1.cls index "[[I" ∈ tblG → Cond.arrayOver (.array .int) ∈ SPW → Cond.arrayClass .int ∈ tblG → decode M.2.1 pc = .ok (.multianewarray index 2, 4) → N < 256 → K < 256 → (k + (1 + N) ≤ R.cells ∧ sl + (N + N * K) ≤ R.slots) →
    mnaH h (g.1 + n) N K = h' → RJ l g M R TG XP (n + 1 + N) h' (k + 1 + N) (sl + N + N * K) (pc + 4) lv (.ref (g.1 + n) :: st) → RJ l g M R TG XP n h k sl pc lv (.int (nI K) :: .int (nI N) :: st)
theorem mnF_z {g : GX} {F : Nat → AC} {z N K : Nat} : mnF g F z N K z = qA 4 N (fun i => some (g.1 + (z + 1 + i))) := if_pos rfl
theorem mnF_r {g : GX} {F : Nat → AC} {z N K r : Nat} (h : z < r ∧ r ≤ z + N) : mnF g F z N K r = iA K (fun _ => 0) := by
  unfold mnF
  rw [if_neg (by omega), if_pos h]
theorem mnF_o {g : GX} {F : Nat → AC} {z N K r : Nat} {x : AC} (h1 : r ≠ z) (h : ¬ (z < r ∧ r ≤ z + N)) (hF : F r = x) : mnF g F z N K r = x := by
  unfold mnF
  rw [if_neg h1, if_neg h, hF]
def cIni : CS := (((((fun _ => 0), ((fun _ => false), (fun _ => 0))), (0, ((fun _ => 0), 0))), ((-1, (0, 0)), ((fun _ => 0), ((fun _ => 0), fun _ _ => 0)))), ((((fun _ _ => 0), ((fun _ _ => 0), (fun _ _ => 0))), ((fun _ => 0), ((fun _ => true), fun _ => 0))), (((fun _ _ => 0), ((fun _ _ => false), (fun _ _ => false))), (((fun _ _ => 0), (fun _ _ => 0)), ((fun _ _ => 0), fun _ _ _ => 0)))))
def mIni : MS := (((((fun _ => 0), 0), (-1, ((fun _ => false), (fun _ => 0)))), (((fun _ => false), (fun _ => 0)), ((fun _ => false), ((fun _ => 0), (fun _ => 0))))), ((((fun _ => 0), (fun _ => 0)), ((fun _ => false), ((fun _ => 0), 0))), ((0, 0), ((fun _ => 0), ((fun _ => 0), (fun _ => 0))))))
/-- the cells of the first state -/
def Zf (g : GX) : Nat → AC := fun r => cellK g cIni mIni (kd r).1 (kd r).2.1 (kd r).2.2
theorem Zf_of {g : GX} {r t i j : Nat} {x : AC} (hk : kd r = (t, i, j)) (hx : cellK g cIni mIni t i j = x) : Zf g r = x := by
  unfold Zf
  rw [hk]
  exact hx
theorem AEQ_of {x y : AC} (h : x = y) (hx : (∃ t N f, x = .inl (t, N, .inl f)) ∨ (∃ t N f, x = qA t N f) ∨ (∃ o, x = .inr o)) : AEQ x y := by
  subst h
  rcases hx with ⟨t, N, f, rfl⟩ | ⟨t, N, f, rfl⟩ | ⟨o, rfl⟩
  · exact ⟨rfl, rfl, fun _ _ => rfl⟩
  · exact ⟨rfl, rfl, fun _ _ => rfl⟩
  · exact (rfl : o = o)
theorem AEQ_i {N : Nat} {f f' : Nat → Nat} {x y : AC} (hx : x = iA N f) (hy : y = iA N f') (h : ∀ j, j < N → f j = f' j) : AEQ x y := by
  subst hx hy
  exact ⟨rfl, rfl, fun j hj => congrArg nI (h j hj)⟩
theorem AEQ_z {N : Nat} {f f' : Nat → Bool} {x y : AC} (hx : x = zA N f) (hy : y = zA N f') (h : ∀ j, j < N → f j = f' j) : AEQ x y := by
  subst hx hy
  exact ⟨rfl, rfl, fun j hj => congrArg b2 (h j hj)⟩
theorem AEQ_q {t N : Nat} {f f' : Nat → Option Nat} {x y : AC} (hx : x = qA t N f) (hy : y = qA t N f') (h : ∀ j, j < N → f j = f' j) : AEQ x y := by
  subst hx hy
  exact ⟨rfl, rfl, fun j hj => h j hj⟩
theorem AEQ_o {ci : Nat} {fs fs' : List Value} {x y : AC} (hx : x = .inr (ci, fs)) (hy : y = .inr (ci, fs')) (h : fs = fs') : AEQ x y := by
  subst hx hy h
  exact (rfl : (ci, fs) = (ci, fs))
def rw8 (i k : Nat) : Nat → Nat := fun q => if q < k then rowT i q else 0
theorem rw8_0 {i : Nat} : rw8 i 0 = fun _ => 0 := by
  funext q
  exact if_neg (Nat.not_lt_zero _)
theorem rw8_s {i k : Nat} : upN (rw8 i k) k (rowT i k) = rw8 i (k + 1) := by
  funext q
  unfold upN rw8
  by_cases h : q = k
  · rw [if_pos h, if_pos (by omega), h]
  · rw [if_neg h]
    by_cases h2 : q < k
    · rw [if_pos h2, if_pos (by omega)]
    · rw [if_neg h2, if_neg (by omega)]
def rowX (B : Nat → AC) (i k : Nat) : Nat → AC := fun r => if 6 ≤ r ∧ r < 6 + i then iA 8 (rw8 (r - 6) 8) else if r = 6 + i ∧ i < 12 then iA 8 (rw8 i k) else B r
theorem rowX_l {B : Nat → AC} {i k r : Nat} {x : AC} (h : r < 6) (hx : B r = x) : rowX B i k r = x := by
  unfold rowX
  rw [if_neg (by omega), if_neg (by omega), hx]
theorem rowX_i {B : Nat → AC} {i k : Nat} (h : i < 12) : rowX B i k (6 + i) = iA 8 (rw8 i k) := by
  unfold rowX
  rw [if_neg (by omega), if_pos ⟨rfl, h⟩]
theorem rowX_0 {B : Nat → AC} (h6 : ∀ r, 6 ≤ r → r < 18 → B r = iA 8 (fun _ => 0)) : B = rowX B 0 0 := by
  funext r
  unfold rowX
  rw [if_neg (by omega)]
  by_cases e : r = 6 + 0 ∧ 0 < 12
  · rw [if_pos e, rw8_0, h6 r (by omega) (by omega)]
  · rw [if_neg e]
theorem rowX_s {B : Nat → AC} {i k : Nat} (h : i < 12) : upN (rowX B i k) (6 + i) (iA 8 (rw8 i (k + 1))) = rowX B i (k + 1) := by
  funext r
  unfold upN rowX
  by_cases e : r = 6 + i
  · subst e
    rw [if_pos rfl, if_neg (by omega), if_pos ⟨rfl, h⟩]
  · rw [if_neg e, if_neg (c := r = 6 + i ∧ i < 12) (fun q => e q.1), if_neg (c := r = 6 + i ∧ i < 12) (fun q => e q.1)]
theorem rowX_n {B : Nat → AC} {i : Nat} (h6 : ∀ r, 6 ≤ r → r < 18 → B r = iA 8 (fun _ => 0)) (h : i < 12) : rowX B i 8 = rowX B (i + 1) 0 := by
  funext r
  unfold rowX
  by_cases e1 : 6 ≤ r ∧ r < 6 + i
  · rw [if_pos e1, if_pos ⟨e1.1, by omega⟩]
  · rw [if_neg e1]
    by_cases e2 : r = 6 + i
    · subst e2
      rw [if_pos ⟨rfl, h⟩, if_pos ⟨by omega, by omega⟩, Nat.add_sub_cancel_left]
    · rw [if_neg (c := r = 6 + i ∧ i < 12) (fun q => e2 q.1), if_neg (by omega)]
      by_cases e3 : r = 6 + (i + 1) ∧ i + 1 < 12
      · rw [if_pos e3, rw8_0, h6 r (by omega) (by omega)]
      · rw [if_neg e3]
theorem C_init_rows {l : Launch} {g : GX} {B : Nat → AC} {x : AC} {d : Nat} (hd : 1 ≤ d) (hB1 : B 1 = .inr (0, [.ref (g.1 + 2), .ref (g.1 + 5), .ref (g.1 + 18), .ref (g.1 + 27), .ref (g.1 + 33), .ref (g.1 + 42), .ref (g.1 + 51)])) (hB2 : B 2 = .inr (1, [.ref (g.1 + 3), .ref (g.1 + 4)])) (hB3 : B 3 = iA 512 pwT) (hB4 : B 4 = iA 256 exT) (hB5 : B 5 = qA 4 12 (fun i => some (g.1 + (5 + 1 + i)))) (hB6 : ∀ r, 6 ≤ r → r < 18 → B r = iA 8 (fun _ => 0))
    (hZ : ∀ r, r < 52 → ¬ (6 ≤ r ∧ r < 18) → AEQ (B r) (upN (Zf g) 0 x r)) : RJ l g M_C_init (RMX d 50 1147) (TQ g 50 1147 (QE none 52 (hF 52 g (upN (Zf g) 0 (x))))) XT 52 (hF 52 g B) 50 1147 82 [(0, .ref (g.1 + 1))] [] := by
  refine r_iconst (v := nI 0) d_C_init_82 (by decide) ?_
  refine r_istore_n (lv' := [(0, _), (1, _)]) d_C_init_83 (by decide) rfl ?_
  refine r_less (lv' := [(0, .ref (g.1 + 1)), (1, .int (nI 0))]) (by simp) ?_
  refine r_cnt (n' := 52) (h' := hF 52 g (rowX B 0 0)) (k' := 50) (sl' := 1147) (by omega) (by rw [← rowX_0 hB6]) (by omega) (by omega) ?_
  refine back_ind (n := 12) (G := fun v => RJ l g M_C_init (RMX d 50 1147) (TQ g 50 1147 (QE none 52 (hF 52 g (upN (Zf g) 0 (x))))) XT 52 (hF 52 g (rowX B v 0)) 50 1147 84 [(0, .ref (g.1 + 1)), (1, .int (nI v))] []) ?_ ?_ 0 (Nat.zero_le _)
  · skip
    refine r_iload_n d_C_init_84 1 rfl ?_
    refine r_bipush (v := nI 12) d_C_init_85 (by decide) ?_
    refine r_icmp_geN (tgt := 133) d_C_init_87 (by decide) (by omega) (by omega) (fun c87 => ?_) (fun c87 => ?_)
    rotate_left 1
    · exfalso; omega
    refine r_aeq (F' := upN (Zf g) 0 x) (fun r hr => ?_) ?_
    · by_cases e : 6 ≤ r ∧ r < 18
      · obtain ⟨i, rfl⟩ : ∃ i, r = 6 + i := ⟨r - 6, by omega⟩
        refine AEQ_i (f := rw8 i 8) ?_ (upN_g (by omega) (Zf_of (kd_Row (by omega)) rfl)) (fun j hj => if_pos hj)
        unfold rowX
        rw [if_pos ⟨by omega, by omega⟩, Nat.add_sub_cancel_left]
      · have eB : rowX B 12 0 r = B r := by
          unfold rowX
          rw [if_neg e, if_neg (by omega)]
        rw [eB]
        exact hZ r hr e
    refine r_cnt (n' := 52) (h' := hF 52 g (upN (Zf g) 0 (x))) (k' := 50) (sl' := 1147) (by omega) (rfl) (by omega) (by omega) ?_
    refine r_return d_C_init_133 rfl ⟨rfl, rfl, rfl⟩
  · intro v hb_v ih_v
    refine r_iload_n d_C_init_84 1 rfl ?_
    refine r_bipush (v := nI 12) d_C_init_85 (by decide) ?_
    refine r_icmp_geN (tgt := 133) d_C_init_87 (by decide) (by omega) (by omega) (fun c87 => ?_) (fun c87 => ?_)
    · exfalso; omega
    refine r_iconst (v := nI 1) d_C_init_90 (by decide) ?_
    refine r_istore_n (lv' := [(0, _), (1, _), (2, _)]) d_C_init_91 (by decide) rfl ?_
    refine r_iconst (v := nI 0) d_C_init_92 (by decide) ?_
    refine r_istore_n (lv' := [(0, _), (1, _), (2, _), (3, _)]) d_C_init_93 (by decide) rfl ?_
    refine r_cnt (n' := 52) (h' := hF 52 g (rowX B v 0)) (k' := 50) (sl' := 1147) (by omega) rfl (by omega) (by omega) ?_
    refine back_ind (n := 8) (G := fun w => RJ l g M_C_init (RMX d 50 1147) (TQ g 50 1147 (QE none 52 (hF 52 g (upN (Zf g) 0 (x))))) XT 52 (hF 52 g (rowX B v w)) 50 1147 94 [(0, .ref (g.1 + 1)), (1, .int (nI v)), (2, .int (nI (rowT v w))), (3, .int (nI w))] []) ?_ ?_ 0 (Nat.zero_le _)
    · skip
      refine r_iload_n d_C_init_94 3 rfl ?_
      refine r_bipush (v := nI 8) d_C_init_95 (by decide) ?_
      refine r_icmp_geN (tgt := 127) d_C_init_97 (by decide) (by omega) (by omega) (fun c97 => ?_) (fun c97 => ?_)
      rotate_left 1
      · exfalso; omega
      refine r_iincN (lv' := [(0, _), (1, _), (2, _), (3, _)]) d_C_init_127 1 rfl (by decide) rfl ?_
      refine r_goto (tgt := 84) d_C_init_130 (by decide) ?_
      refine r_less (lv' := [(0, .ref (g.1 + 1)), (1, .int (nI (v + 1)))]) (by simp) ?_
      refine r_at ih_v (by rw [rowX_n hB6 hb_v]) rfl rfl
    · intro w hb_w ih_w
      refine r_iload_n d_C_init_94 3 rfl ?_
      refine r_bipush (v := nI 8) d_C_init_95 (by decide) ?_
      refine r_icmp_geN (tgt := 127) d_C_init_97 (by decide) (by omega) (by omega) (fun c97 => ?_) (fun c97 => ?_)
      · exfalso; omega
      refine r_aload_n d_C_init_100 0 rfl ?_
      refine rg_C_20 rfl d_C_init_101 (hF_getE (r := 1) (by omega) (rowX_l (by omega) hB1)) rfl ?_
      refine r_iload_n d_C_init_104 1 rfl ?_
      refine r_gld d_C_init_105 (hF_getE (r := 5) (by omega) (rowX_l (by omega) hB5)) (by omega) (by decide) rfl ?_
      refine r_iload_n d_C_init_106 3 rfl ?_
      refine r_iload_n d_C_init_107 2 rfl ?_
      refine r_astN d_C_init_108 (hF_getE (r := 6 + v) (by omega) (rowX_i (by omega))) (by omega) (by decide) (hF_setE (r := 6 + v) (by omega) rfl) ?_
      refine r_aload_n d_C_init_109 0 rfl ?_
      refine rg_C_12 rfl d_C_init_110 (hF_getE (r := 1) (by omega) (upN_g (by omega) (rowX_l (by omega) hB1))) rfl ?_
      refine r_iload_n d_C_init_113 2 rfl ?_
      refine r_iload_n d_C_init_114 1 rfl ?_
      refine r_iconst (v := nI 1) d_C_init_115 (by decide) ?_
      refine r_iaddN d_C_init_116 ?_
      refine rc_C_39 rfl d_C_init_117 (k_F_productH (l := l) (g := g) (n := 52) (h := hF 52 g (upN (rowX B v w) (6 + v) (iA 8 (upN (rw8 v w) w (rowT v w))))) (d := d - 1) (hF_getE (r := 2) (by omega) (upN_g (by omega) (rowX_l (by omega) hB2))) (hF_getE (r := 3) (by omega) (upN_g (by omega) (rowX_l (by omega) hB3))) (hF_getE (r := 4) (by omega) (upN_g (by omega) (rowX_l (by omega) hB4))) (by omega) (rowT_lt v w) (by omega)) (hF_getE (r := 2) (by omega) (upN_g (by omega) (rowX_l (by omega) hB2))) (room_ok (d' := d - 1) (by omega) (by decide)) ⟨by show _ ≤ 50; omega, by show _ ≤ 1147; omega⟩ (Nat.le_of_ble_eq_true rfl) ?_
      refine r_istore_n (lv' := [(0, _), (1, _), (2, _), (3, _)]) d_C_init_120 (by decide) rfl ?_
      refine r_iincN (lv' := [(0, _), (1, _), (2, _), (3, _)]) d_C_init_121 3 rfl (by decide) rfl ?_
      refine r_goto (tgt := 94) d_C_init_124 (by decide) ?_
      refine r_at ih_w (by rw [rw8_s, rowX_s hb_v]) rfl rfl
