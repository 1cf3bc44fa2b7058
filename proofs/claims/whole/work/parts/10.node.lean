theorem back_ind {n : Nat} {G : Nat → Prop} (hn : G n) (hs : ∀ k, k < n → G (k + 1) → G k) : ∀ k, k ≤ n → G k := by
  intro k hk
  obtain ⟨j, hj⟩ : ∃ j, n - k = j := ⟨_, rfl⟩
  induction j generalizing k with
  | zero =>
    have : k = n := by omega
    rw [this]; exact hn
  | succ j ih => exact hs k (by omega) (ih (k + 1) (by omega) (by omega))
/-- how many below n -/
def ct (p : Nat → Bool) : Nat → Nat
  | 0 => 0
  | n + 1 => ct p n + (if p n then 1 else 0)
theorem ct_le (p : Nat → Bool) : ∀ n, ct p n ≤ n
  | 0 => Nat.le_refl _
  | n + 1 => by
    have := ct_le p n
    unfold ct
    by_cases h : p n = true <;> simp [h] <;> omega
theorem ct_mono (p : Nat → Bool) : ∀ n k, ct p n ≤ ct p (n + k)
  | n, 0 => Nat.le_refl _
  | n, k + 1 => by
    have := ct_mono p n k
    rw [← Nat.add_assoc]
    show _ ≤ ct p (n + k) + _
    omega
theorem ct_t {p : Nat → Bool} {n : Nat} (h : p n = true) : ct p (n + 1) = ct p n + 1 := by simp [ct, h]
theorem ct_f {p : Nat → Bool} {n : Nat} (h : p n = false) : ct p (n + 1) = ct p n := by simp [ct, h]
/-- the least b from k on, of f places, with T b = false, else k + f -/
def lfF (T : Nat → Bool) : Nat → Nat → Nat
  | 0, k => k
  | f + 1, k => if T k = true then lfF T f (k + 1) else k
def lf (T : Nat → Bool) : Nat := lfF T 40 0
theorem lfF_ge (T : Nat → Bool) : ∀ f k, k ≤ lfF T f k ∧ lfF T f k ≤ k + f
  | 0, k => ⟨Nat.le_refl _, Nat.le_refl _⟩
  | f + 1, k => by
    have := lfF_ge T f (k + 1)
    unfold lfF
    split <;> omega
theorem lfF_all {T : Nat → Bool} : ∀ {f k : Nat}, (∀ b, k ≤ b → b < k + f → T b = true) → lfF T f k = k + f
  | 0, _, _ => rfl
  | f + 1, k, h => by
    unfold lfF
    rw [if_pos (h k (by omega) (by omega)), lfF_all (fun b h1 h2 => h b (by omega) (by omega))]
    omega
theorem lfF_at {T : Nat → Bool} {j : Nat} : ∀ {f k : Nat}, (∀ b, k ≤ b → b < j → T b = true) → T j = false → k ≤ j → j < k + f → lfF T f k = j
  | 0, _, _, _, h3, h4 => by omega
  | f + 1, k, h1, h2, h3, h4 => by
    unfold lfF
    by_cases e : k = j
    · subst e
      rw [if_neg (by rw [h2]; decide)]
    · rw [if_pos (h1 k (by omega) (by omega)), lfF_at (fun b q1 q2 => h1 b (by omega) q2) h2 (by omega) (by omega)]
theorem lfF_spec {T : Nat → Bool} : ∀ {f k : Nat}, lfF T f k < k + f → T (lfF T f k) = false ∧ ∀ b, k ≤ b → b < lfF T f k → T b = true
  | 0, k, q => by unfold lfF at q; omega
  | f + 1, k, q => by
    unfold lfF at q ⊢
    by_cases e : T k = true
    · rw [if_pos e] at q ⊢
      obtain ⟨h1, h2⟩ := lfF_spec (T := T) (f := f) (k := k + 1) (by omega)
      refine ⟨h1, fun b q1 q2 => ?_⟩
      by_cases z : b = k
      · rw [z]; exact e
      · exact h2 b (by omega) q2
    · rw [if_neg e]
      exact ⟨by simpa using e, fun b q1 q2 => by omega⟩
theorem lf_full {T : Nat → Bool} (h : ∀ b, b < 40 → T b = true) : lf T = 40 := lfF_all (f := 40) (k := 0) (fun b _ hb => h b (by omega))
theorem lf_eq {T : Nat → Bool} {k : Nat} (hk : k < 40) (h : ∀ b, b < k → T b = true) (h2 : T k = false) : lf T = k := lfF_at (fun b _ hb => h b hb) h2 (Nat.zero_le _) (by omega)
theorem lf_spec {T : Nat → Bool} (h : lf T < 40) : T (lf T) = false ∧ ∀ b, b < lf T → T b = true := by
  obtain ⟨h1, h2⟩ := lfF_spec (T := T) (f := 40) (k := 0) (by have q : lf T < 40 := h; exact (by unfold lf at q; omega))
  exact ⟨h1, fun b hb => h2 b (Nat.zero_le _) hb⟩
theorem vb1 {b : Bool} (h : b = true) : some (Value.int (nI 1)) = some (Value.int (b2 b)) := by rw [h]; rfl
theorem vb0 {b : Bool} (h : b = false) : some (Value.int (nI 0)) = some (Value.int (b2 b)) := by rw [h]; rfl
def inR (x : Int32) (K : Nat) : Bool := decide (¬ x < 0 ∧ x < nI K)
theorem inR_of {x : Int32} {K : Nat} (h : inR x K = true) (hK : K < 2 ^ 31) : ∃ j : Nat, j < K ∧ x = nI j := by
  unfold inR at h
  obtain ⟨h1, h2⟩ := of_decide_eq_true h
  obtain ⟨j, hj, rfl⟩ := nI_of h1
  exact ⟨j, (nI_ltI hj hK).mp h2, rfl⟩
theorem inR_n {j K : Nat} (hj : j < 2 ^ 31) (hK : K < 2 ^ 31) : inR (nI j) K = decide (j < K) := by
  unfold inR
  by_cases h : j < K
  · simp [h, nI_pos hj, nI_lt h hK]
  · have : ¬ nI j < nI K := nI_nlt (by omega) hj
    simp [h, this]
def told (x : Int32) (i : Nat) : Bool := decide ((x >>> (nI i &&& 31)) &&& nI 1 = nI 1)
def stp (n : Nat) : Nat := (n + 30 - 1) / 30
theorem stp_le {n : Nat} (h : n ≤ 240) : stp n ≤ 8 := by unfold stp; omega
theorem upN_self {α : Type} (f : Nat → α) (i : Nat) : upN f i (f i) = f := by
  funext j
  unfold upN
  by_cases h : j = i
  · rw [if_pos h, h]
  · rw [if_neg h]
theorem upN_up {α : Type} (f : Nat → α) (i : Nat) (a b : α) : upN (upN f i a) i b = upN f i b := by
  funext j
  unfold upN
  by_cases h : j = i <;> simp [h]
theorem upN_step {α : Type} (f : Nat → Nat → α) (i : Nat) (T : Nat → α) (q : Nat) (b : α) : upN (upN f i T) i (upN ((upN f i T) i) q b) = upN f i (upN T q b) := by rw [upN_up, upN_s]
theorem up2_up {α : Type} (f : Nat → Nat → α) (i p : Nat) (a b : α) : up2 (up2 f i p a) i p b = up2 f i p b := by
  unfold up2
  rw [upN_up, upN_s, upN_up]
theorem up2_self {α : Type} (f : Nat → Nat → α) (i p : Nat) : up2 f i p (f i p) = f := by
  unfold up2
  rw [upN_self (f i) p, upN_self]
/-- what the candidate's state keeps, whatever is called -/
def CI (c : CS) : Prop := ∀ i p, c.hstr i p ≤ 8 ∧ c.hver i p < 65536 ∧ c.hbyt i p < 65536 ∧ ∀ s, c.hpl i p s < 40
theorem k_S_isNode {l : Launch} {g : GX} {c : CS} {m : MS} {n d : Nat} (hd : 0 ≤ d) {x : Int32} : CE l g M_S_isNode d 0 0 [.int x] n (hp g c m) (some (.int (b2 (inR x 12)))) n (hp g c m) := by
  refine CE.of (by decide +kernel) (lv := [(0, .int x)]) rfl (Nat.le_of_ble_eq_true rfl) ?_
  refine r_iload_n d_S_isNode_0 0 rfl ?_
  refine r_if_lt (tgt := 14) d_S_isNode_1 (by decide) (fun c1 => ?_) (fun c1 => ?_)
  · skip
    refine r_iconst (v := nI 0) d_S_isNode_14 (by decide) ?_
    refine r_ireturn d_S_isNode_15 rfl rfl ⟨?_, rfl, ?_⟩
    · first | exact vb0 (by simp [inR, *]) | exact vb1 (by simp_all [inR, Int32.not_le])
    · rfl
  · skip
    refine r_iload_n d_S_isNode_4 0 rfl ?_
    refine r_bipush (v := nI 12) d_S_isNode_5 (by decide) ?_
    refine r_icmp_ge (tgt := 14) d_S_isNode_7 (by decide) (fun c7 => ?_) (fun c7 => ?_)
    · skip
      refine r_iconst (v := nI 0) d_S_isNode_14 (by decide) ?_
      refine r_ireturn d_S_isNode_15 rfl rfl ⟨?_, rfl, ?_⟩
      · first | exact vb0 (by simp [inR, *]) | exact vb1 (by simp_all [inR, Int32.not_le])
      · rfl
    · skip
      refine r_iconst (v := nI 1) d_S_isNode_10 (by decide) ?_
      refine r_goto (tgt := 15) d_S_isNode_11 (by decide) ?_
      refine r_ireturn d_S_isNode_15 rfl rfl ⟨?_, rfl, ?_⟩
      · first | exact vb0 (by simp [inR, *]) | exact vb1 (by simp_all [inR, Int32.not_le])
      · rfl
theorem k_S_isObject {l : Launch} {g : GX} {c : CS} {m : MS} {n d : Nat} (hd : 0 ≤ d) {x : Int32} : CE l g M_S_isObject d 0 0 [.int x] n (hp g c m) (some (.int (b2 (inR x 6)))) n (hp g c m) := by
  refine CE.of (by decide +kernel) (lv := [(0, .int x)]) rfl (Nat.le_of_ble_eq_true rfl) ?_
  refine r_iload_n d_S_isObject_0 0 rfl ?_
  refine r_if_lt (tgt := 14) d_S_isObject_1 (by decide) (fun c1 => ?_) (fun c1 => ?_)
  · skip
    refine r_iconst (v := nI 0) d_S_isObject_14 (by decide) ?_
    refine r_ireturn d_S_isObject_15 rfl rfl ⟨?_, rfl, ?_⟩
    · first | exact vb0 (by simp [inR, *]) | exact vb1 (by simp_all [inR, Int32.not_le])
    · rfl
  · skip
    refine r_iload_n d_S_isObject_4 0 rfl ?_
    refine r_bipush (v := nI 6) d_S_isObject_5 (by decide) ?_
    refine r_icmp_ge (tgt := 14) d_S_isObject_7 (by decide) (fun c7 => ?_) (fun c7 => ?_)
    · skip
      refine r_iconst (v := nI 0) d_S_isObject_14 (by decide) ?_
      refine r_ireturn d_S_isObject_15 rfl rfl ⟨?_, rfl, ?_⟩
      · first | exact vb0 (by simp [inR, *]) | exact vb1 (by simp_all [inR, Int32.not_le])
      · rfl
    · skip
      refine r_iconst (v := nI 1) d_S_isObject_10 (by decide) ?_
      refine r_goto (tgt := 15) d_S_isObject_11 (by decide) ?_
      refine r_ireturn d_S_isObject_15 rfl rfl ⟨?_, rfl, ?_⟩
      · first | exact vb0 (by simp [inR, *]) | exact vb1 (by simp_all [inR, Int32.not_le])
      · rfl
theorem k_S_isElement {l : Launch} {g : GX} {c : CS} {m : MS} {n d : Nat} (hd : 0 ≤ d) {x : Int32} : CE l g M_S_isElement d 0 0 [.int x] n (hp g c m) (some (.int (b2 (inR x 256)))) n (hp g c m) := by
  refine CE.of (by decide +kernel) (lv := [(0, .int x)]) rfl (Nat.le_of_ble_eq_true rfl) ?_
  refine r_iload_n d_S_isElement_0 0 rfl ?_
  refine r_if_lt (tgt := 15) d_S_isElement_1 (by decide) (fun c1 => ?_) (fun c1 => ?_)
  · skip
    refine r_iconst (v := nI 0) d_S_isElement_15 (by decide) ?_
    refine r_ireturn d_S_isElement_16 rfl rfl ⟨?_, rfl, ?_⟩
    · first | exact vb0 (by simp [inR, *]) | exact vb1 (by simp_all [inR, Int32.not_le])
    · rfl
  · skip
    refine r_iload_n d_S_isElement_4 0 rfl ?_
    refine r_sipush (v := nI 256) d_S_isElement_5 (by decide) ?_
    refine r_icmp_ge (tgt := 15) d_S_isElement_8 (by decide) (fun c8 => ?_) (fun c8 => ?_)
    · skip
      refine r_iconst (v := nI 0) d_S_isElement_15 (by decide) ?_
      refine r_ireturn d_S_isElement_16 rfl rfl ⟨?_, rfl, ?_⟩
      · first | exact vb0 (by simp [inR, *]) | exact vb1 (by simp_all [inR, Int32.not_le])
      · rfl
    · skip
      refine r_iconst (v := nI 1) d_S_isElement_11 (by decide) ?_
      refine r_goto (tgt := 16) d_S_isElement_12 (by decide) ?_
      refine r_ireturn d_S_isElement_16 rfl rfl ⟨?_, rfl, ?_⟩
      · first | exact vb0 (by simp [inR, *]) | exact vb1 (by simp_all [inR, Int32.not_le])
      · rfl
theorem k_S_isTold {l : Launch} {g : GX} {c : CS} {m : MS} {n d : Nat} (hd : 0 ≤ d) {x : Int32} {i : Nat} : CE l g M_S_isTold d 0 0 [.int x, .int (nI i)] n (hp g c m) (some (.int (b2 (told x i)))) n (hp g c m) := by
  refine CE.of (by decide +kernel) (lv := [(0, .int x), (1, .int (nI i))]) rfl (Nat.le_of_ble_eq_true rfl) ?_
  refine r_iload_n d_S_isTold_0 0 rfl ?_
  refine r_iload_n d_S_isTold_1 1 rfl ?_
  refine r_ishr d_S_isTold_2 ?_
  refine r_iconst (v := nI 1) d_S_isTold_3 (by decide) ?_
  refine r_iand d_S_isTold_4 ?_
  refine r_iconst (v := nI 1) d_S_isTold_5 (by decide) ?_
  refine r_icmp_ne (tgt := 13) d_S_isTold_6 (by decide) (fun c6 => ?_) (fun c6 => ?_)
  · skip
    refine r_iconst (v := nI 0) d_S_isTold_13 (by decide) ?_
    refine r_ireturn d_S_isTold_14 rfl rfl ⟨?_, rfl, ?_⟩
    · first | exact vb0 (by simp [told, *]) | exact vb1 (by simp [told, *])
    · rfl
  · skip
    refine r_iconst (v := nI 1) d_S_isTold_9 (by decide) ?_
    refine r_goto (tgt := 14) d_S_isTold_10 (by decide) ?_
    refine r_ireturn d_S_isTold_14 rfl rfl ⟨?_, rfl, ?_⟩
    · first | exact vb0 (by simp [told, *]) | exact vb1 (by simp [told, *])
    · rfl
theorem k_S_stripesOf {l : Launch} {g : GX} {c : CS} {m : MS} {n d : Nat} (hd : 0 ≤ d) {a : Nat} (ha : a < 65536) : CE l g M_S_stripesOf d 0 0 [.int (nI a)] n (hp g c m) (some (.int (nI (stp a)))) n (hp g c m) := by
  refine CE.of (by decide +kernel) (lv := [(0, .int (nI a))]) rfl (Nat.le_of_ble_eq_true rfl) ?_
  refine r_iload_n d_S_stripesOf_0 0 rfl ?_
  refine r_bipush (v := nI 30) d_S_stripesOf_1 (by decide) ?_
  refine r_iaddN d_S_stripesOf_3 ?_
  refine r_iconst (v := nI 1) d_S_stripesOf_4 (by decide) ?_
  refine r_isubN d_S_stripesOf_5 (by omega) ?_
  refine r_bipush (v := nI 30) d_S_stripesOf_6 (by decide) ?_
  refine r_idivN d_S_stripesOf_8 (by omega) (by decide) (by decide) ?_
  refine r_ireturn d_S_stripesOf_9 rfl rfl ⟨?_, rfl, ?_⟩
  · rfl
  · rfl
theorem k_H_placeOf {l : Launch} {g : GX} {c : CS} {m : MS} {n d : Nat} (hd : 0 ≤ d) {i p s : Nat} (hi : i < 12) (hq : p < 12) (h1 : s < c.hstr i p) (h2 : s < 8) (h3 : c.hstr i p < 65536) : CE l g M_H_placeOf d 0 0 [.ref (aH g i p), .int (nI s)] n (hp g c m) (some (.int (nI (c.hpl i p s)))) n (hp g c m) := by
  refine CE.of (by decide +kernel) (lv := [(0, .ref (aH g i p)), (1, .int (nI s))]) rfl (Nat.le_of_ble_eq_true rfl) ?_
  refine r_iload_n d_H_placeOf_0 1 rfl ?_
  refine r_if_ltN (tgt := 27) d_H_placeOf_1 (by decide) (by omega) (fun c1 => ?_) (fun c1 => ?_)
  · exfalso; first | omega | (revert c1; decide) | cases c1
  refine r_iload_n d_H_placeOf_4 1 rfl ?_
  refine r_aload_n d_H_placeOf_5 0 rfl ?_
  refine rg_H_22 rfl d_H_placeOf_6 (gH (i := i) (p := p) (by omega) (by omega)) rfl ?_
  refine r_icmp_geN (tgt := 27) d_H_placeOf_9 (by decide) (by omega) (by omega) (fun c9 => ?_) (fun c9 => ?_)
  · exfalso; first | omega | (revert c9; decide) | cases c9
  refine r_iload_n d_H_placeOf_12 1 rfl ?_
  refine r_bipush (v := nI 8) d_H_placeOf_13 (by decide) ?_
  refine r_icmp_geN (tgt := 27) d_H_placeOf_15 (by decide) (by omega) (by omega) (fun c15 => ?_) (fun c15 => ?_)
  · exfalso; first | omega | (revert c15; decide) | cases c15
  refine r_aload_n d_H_placeOf_18 0 rfl ?_
  refine rg_H_9 rfl d_H_placeOf_19 (gH (i := i) (p := p) (by omega) (by omega)) rfl ?_
  refine r_iload_n d_H_placeOf_22 1 rfl ?_
  refine r_aldN d_H_placeOf_23 (gPl (i := i) (p := p) (by omega) (by omega)) (by omega) (by decide) ?_
  refine r_goto (tgt := 28) d_H_placeOf_24 (by decide) ?_
  refine r_ireturn d_H_placeOf_28 rfl rfl ⟨?_, rfl, ?_⟩
  · rfl
  · rfl
theorem k_H_placeOfNo {l : Launch} {g : GX} {c : CS} {m : MS} {n d : Nat} (hd : 0 ≤ d) {i p : Nat} {x : Int32} (hi : i < 12) (hq : p < 12) (h : inR x (c.hstr i p) = false) : CE l g M_H_placeOf d 0 0 [.ref (aH g i p), .int x] n (hp g c m) (some (.int (-1))) n (hp g c m) := by
  refine CE.of (by decide +kernel) (lv := [(0, .ref (aH g i p)), (1, .int x)]) rfl (Nat.le_of_ble_eq_true rfl) ?_
  refine r_iload_n d_H_placeOf_0 1 rfl ?_
  refine r_if_lt (tgt := 27) d_H_placeOf_1 (by decide) (fun c1 => ?_) (fun c1 => ?_)
  · skip
    refine r_iconst (v := (-1)) d_H_placeOf_27 (by decide) ?_
    refine r_ireturn d_H_placeOf_28 rfl rfl ⟨?_, rfl, ?_⟩
    · rfl
    · rfl
  · skip
    refine r_iload_n d_H_placeOf_4 1 rfl ?_
    refine r_aload_n d_H_placeOf_5 0 rfl ?_
    refine rg_H_22 rfl d_H_placeOf_6 (gH (i := i) (p := p) (by omega) (by omega)) rfl ?_
    refine r_icmp_ge (tgt := 27) d_H_placeOf_9 (by decide) (fun c9 => ?_) (fun c9 => ?_)
    rotate_left 1
    · exact absurd (show inR x (c.hstr i p) = true by simp [inR, c1, Int32.not_le.mp c9]) (by rw [h]; decide)
    refine r_iconst (v := (-1)) d_H_placeOf_27 (by decide) ?_
    refine r_ireturn d_H_placeOf_28 rfl rfl ⟨?_, rfl, ?_⟩
    · rfl
    · rfl
def frN (c : CS) (i : Nat) : Nat := ct (fun b => !c.takn i b) 40
theorem k_N_freeBlocks {l : Launch} {g : GX} {c : CS} {m : MS} {n d : Nat} (hd : 0 ≤ d) {i : Nat} (hi : i < 12) : CE l g M_N_freeBlocks d 0 0 [.ref (aN g i)] n (hp g c m) (some (.int (nI (frN c i)))) n (hp g c m) := by
  refine CE.of (by decide +kernel) (lv := [(0, .ref (aN g i))]) rfl (Nat.le_of_ble_eq_true rfl) ?_
  refine r_iconst (v := nI 0) d_N_freeBlocks_0 (by decide) ?_
  refine r_istore_n (lv' := [(0, _), (1, _)]) d_N_freeBlocks_1 (by decide) rfl ?_
  refine r_iconst (v := nI 0) d_N_freeBlocks_2 (by decide) ?_
  refine r_istore_n (lv' := [(0, _), (1, _), (2, _)]) d_N_freeBlocks_3 (by decide) rfl ?_
  refine back_ind (n := 40) (G := fun b => RJ l g M_N_freeBlocks (RMX d 0 0) (TQ g 0 0 (QE (some (.int (nI (frN c i)))) n (hp g c m))) XT n (hp g c m) 0 0 4 [(0, .ref (aN g i)), (1, .int (nI (ct (fun b => !c.takn i b) b))), (2, .int (nI b))] []) ?_ ?_ 0 (Nat.zero_le _)
  · skip
    refine r_iload_n d_N_freeBlocks_4 2 rfl ?_
    refine r_bipush (v := nI 40) d_N_freeBlocks_5 (by decide) ?_
    refine r_icmp_geN (tgt := 28) d_N_freeBlocks_7 (by decide) (by omega) (by omega) (fun c7 => ?_) (fun c7 => ?_)
    rotate_left 1
    · exfalso; first | omega | (revert c7; decide) | cases c7
    refine r_iload_n d_N_freeBlocks_28 1 rfl ?_
    refine r_ireturn d_N_freeBlocks_29 rfl rfl ⟨?_, rfl, ?_⟩
    · rfl
    · rfl
  · intro b hb_b ih_b
    refine r_iload_n d_N_freeBlocks_4 2 rfl ?_
    refine r_bipush (v := nI 40) d_N_freeBlocks_5 (by decide) ?_
    refine r_icmp_geN (tgt := 28) d_N_freeBlocks_7 (by decide) (by omega) (by omega) (fun c7 => ?_) (fun c7 => ?_)
    · exfalso; first | omega | (revert c7; decide) | cases c7
    refine r_aload_n d_N_freeBlocks_10 0 rfl ?_
    refine rg_N_15 rfl d_N_freeBlocks_11 (gN (i := i) (by omega)) rfl ?_
    refine r_iload_n d_N_freeBlocks_14 2 rfl ?_
    refine r_zldB d_N_freeBlocks_15 (gT (i := i) (by omega)) (by omega) (by decide) ?_
    refine r_if_neB (tgt := 22) d_N_freeBlocks_16 (by decide) (fun c16 => ?_) (fun c16 => ?_)
    · skip
      refine r_iincN (lv' := [(0, _), (1, _), (2, _)]) d_N_freeBlocks_22 2 rfl (by decide) rfl ?_
      refine r_goto (tgt := 4) d_N_freeBlocks_25 (by decide) ?_
      exact r_at ih_b rfl (by simp [ct, c16]) rfl
    · skip
      refine r_iincN (lv' := [(0, _), (1, _), (2, _)]) d_N_freeBlocks_19 1 rfl (by decide) rfl ?_
      refine r_iincN (lv' := [(0, _), (1, _), (2, _)]) d_N_freeBlocks_22 2 rfl (by decide) rfl ?_
      refine r_goto (tgt := 4) d_N_freeBlocks_25 (by decide) ?_
      exact r_at ih_b rfl (by simp [ct, c16]) rfl
def tkOne (c : CS) (i : Nat) : CS := c.s_takn (upN c.takn i (upN (c.takn i) (lf (c.takn i)) true))
theorem k_N_takeLeastFree {l : Launch} {g : GX} {c : CS} {m : MS} {n d : Nat} (hd : 0 ≤ d) {i : Nat} (hi : i < 12) (hf : lf (c.takn i) < 40) : CE l g M_N_takeLeastFree d 0 0 [.ref (aN g i)] n (hp g c m) (some (.int (nI (lf (c.takn i))))) n (hp g (tkOne c i) m) := by
  refine CE.of (by decide +kernel) (lv := [(0, .ref (aN g i))]) rfl (Nat.le_of_ble_eq_true rfl) ?_
  refine r_iconst (v := nI 0) d_N_takeLeastFree_0 (by decide) ?_
  refine r_istore_n (lv' := [(0, _), (1, _)]) d_N_takeLeastFree_1 (by decide) rfl ?_
  refine back_ind (n := 40) (G := fun b => (∀ j, j < b → c.takn i j = true) → RJ l g M_N_takeLeastFree (RMX d 0 0) (TQ g 0 0 (QE (some (.int (nI (lf (c.takn i))))) n (hp g (tkOne c i) m))) XT n (hp g c m) 0 0 2 [(0, .ref (aN g i)), (1, .int (nI b))] []) ?_ ?_ 0 (Nat.zero_le _) (fun j hj => absurd hj (by omega))
  · skip
    intro hv_b
    exact absurd (lf_full hv_b) (by omega)
  · intro b hb_b ih_b hv_b
    refine r_iload_n d_N_takeLeastFree_2 1 rfl ?_
    refine r_bipush (v := nI 40) d_N_takeLeastFree_3 (by decide) ?_
    refine r_icmp_geN (tgt := 32) d_N_takeLeastFree_5 (by decide) (by omega) (by omega) (fun c5 => ?_) (fun c5 => ?_)
    · exfalso; first | omega | (revert c5; decide) | cases c5
    refine r_aload_n d_N_takeLeastFree_8 0 rfl ?_
    refine rg_N_15 rfl d_N_takeLeastFree_9 (gN (i := i) (by omega)) rfl ?_
    refine r_iload_n d_N_takeLeastFree_12 1 rfl ?_
    refine r_zldB d_N_takeLeastFree_13 (gT (i := i) (by omega)) (by omega) (by decide) ?_
    refine r_if_neB (tgt := 26) d_N_takeLeastFree_14 (by decide) (fun c14 => ?_) (fun c14 => ?_)
    · skip
      refine r_iincN (lv' := [(0, _), (1, _)]) d_N_takeLeastFree_26 1 rfl (by decide) rfl ?_
      refine r_goto (tgt := 2) d_N_takeLeastFree_29 (by decide) ?_
      exact ih_b (fun j hj => by rcases Nat.lt_or_ge j b with q | q; exact hv_b j q; rw [show j = b by omega]; exact c14)
    · skip
      have e := lf_eq hb_b hv_b c14
      refine r_aload_n d_N_takeLeastFree_17 0 rfl ?_
      refine rg_N_15 rfl d_N_takeLeastFree_18 (gN (i := i) (by omega)) rfl ?_
      refine r_iload_n d_N_takeLeastFree_21 1 rfl ?_
      refine r_iconst (v := nI 1) d_N_takeLeastFree_22 (by decide) ?_
      refine r_zast (b := true) d_N_takeLeastFree_23 rfl (gT (i := i) (by omega)) (by omega) (by decide) (wtakn (i := i) (by omega)) ?_
      refine r_iload_n d_N_takeLeastFree_24 1 rfl ?_
      refine r_ireturn d_N_takeLeastFree_25 rfl rfl ⟨?_, rfl, ?_⟩
      · rw [e]
      · unfold tkOne; rw [e]
def takB (c : CS) (i p v a : Nat) : CS := ((c.s_hver (up2 c.hver i p v)).s_hbyt (up2 c.hbyt i p a)).s_hstr (up2 c.hstr i p (stp a))
def TK (T : Nat → Bool) : Nat → Nat → Bool
  | 0 => T
  | k + 1 => upN (TK T k) (lf (TK T k)) true
def PLs (T : Nat → Bool) (P : Nat → Nat) : Nat → Nat → Nat
  | 0 => P
  | k + 1 => upN (PLs T P k) k (lf (TK T k))
/-- the first k of the stripes' blocks taken -/
def takK (c : CS) (i p k : Nat) : CS := (c.s_takn (upN c.takn i (TK (c.takn i) k))).s_hpl (up2 c.hpl i p (PLs (c.takn i) (c.hpl i p) k))
def takC (c : CS) (i p v a : Nat) : CS := takK (takB c i p v a) i p (stp a)
theorem takK_0 (c : CS) (i p : Nat) : takK c i p 0 = c := CS.ext2 (takn := upN_self _ _) (hpl := up2_self _ _ _)
theorem takK_s (c : CS) (i p k : Nat) : takK c i p (k + 1) = (tkOne (takK c i p k) i).s_hpl (up2 (takK c i p k).hpl i p (upN ((takK c i p k).hpl i p) k (lf ((takK c i p k).takn i)))) := by
  have e : (takK c i p k).takn = upN c.takn i (TK (c.takn i) k) := rfl
  have e2 : (takK c i p k).hpl = up2 c.hpl i p (PLs (c.takn i) (c.hpl i p) k) := rfl
  refine CS.ext2 (takn := ?_) (hpl := ?_)
  · show upN c.takn i (upN (TK (c.takn i) k) (lf (TK (c.takn i) k)) true) = upN (takK c i p k).takn i (upN ((takK c i p k).takn i) (lf ((takK c i p k).takn i)) true)
    rw [e, upN_s, upN_up]
  · show up2 c.hpl i p (upN (PLs (c.takn i) (c.hpl i p) k) k (lf (TK (c.takn i) k))) = up2 (takK c i p k).hpl i p (upN ((takK c i p k).hpl i p) k (lf ((takK c i p k).takn i)))
    rw [e, e2, upN_s, up2_s, up2_up]
theorem k_N_take {l : Launch} {g : GX} {c : CS} {m : MS} {n d : Nat} (hd : 3 ≤ d) {i p v a : Nat} (hi : i < 12) (hq : p < 12) (ha : a ≤ 240) (hf : ∀ k, k < stp a → lf (TK (c.takn i) k) < 40) : CE l g M_N_take d 0 0 [.ref (aN g i), .ref (aH g i p), .int (nI v), .int (nI a)] n (hp g c m) (none) n (hp g (takC c i p v a) m) := by
  refine CE.of (by decide +kernel) (lv := [(0, .ref (aN g i)), (1, .ref (aH g i p)), (2, .int (nI v)), (3, .int (nI a))]) rfl (Nat.le_of_ble_eq_true rfl) ?_
  refine r_aload_n d_N_take_0 1 rfl ?_
  refine r_iload_n d_N_take_1 2 rfl ?_
  refine rp_N_37 rfl d_N_take_2 (gH (i := i) (p := p) (by omega) (by omega)) (Nat.le_of_ble_eq_true rfl) rfl (wH_hver (i := i) (p := p) (by omega) (by omega) (v := v)) ?_
  refine r_aload_n d_N_take_5 1 rfl ?_
  refine r_iload_n d_N_take_6 3 rfl ?_
  refine rp_N_40 rfl d_N_take_7 (gH (i := i) (p := p) (by omega) (by omega)) (Nat.le_of_ble_eq_true rfl) rfl (wH_hbyt (i := i) (p := p) (by omega) (by omega) (v := a)) ?_
  refine r_aload_n d_N_take_10 1 rfl ?_
  refine r_iload_n d_N_take_11 3 rfl ?_
  refine rc_N_43 rfl d_N_take_12 (k_S_stripesOf (by omega) (by omega)) (room_ok (d' := d - 1) (by omega) (by decide)) ⟨Nat.le_refl _, Nat.le_refl _⟩ (Nat.le_of_ble_eq_true rfl) ?_
  refine r_bipush (v := nI 8) d_N_take_15 (by decide) ?_
  refine r_min d_N_take_17 (by decide +kernel) (by decide +kernel) (by decide +kernel) (by decide +kernel) ⟨by show 1 ≤ d; omega, by show _ ≤ 36 * d; simp [Value.category]; omega⟩ ⟨Nat.le_refl _, Nat.le_refl _⟩ ?_
  refine r_top (y := (nI (stp a))) (if_neg (nI_nlt (stp_le ha) (by have := stp_le ha; omega))) ?_
  refine rp_N_53 rfl d_N_take_20 (gH (i := i) (p := p) (by omega) (by omega)) (Nat.le_of_ble_eq_true rfl) rfl (wH_hstr (i := i) (p := p) (by omega) (by omega) (v := stp a)) ?_
  refine r_heap (h' := hp g (takB c i p v a) m) rfl ?_
  refine r_iconst (v := nI 0) d_N_take_23 (by decide) ?_
  refine r_istore (lv' := [(0, _), (1, _), (2, _), (3, _), (4, _)]) d_N_take_24 (by decide) rfl ?_
  refine r_heap (h' := hp g (takK (takB c i p v a) i p 0) m) (by rw [takK_0]) ?_
  have h8 := stp_le ha
  refine back_ind (n := stp a) (G := fun b => RJ l g M_N_take (RMX d 0 0) (TQ g 0 0 (QE (none) n (hp g (takC c i p v a) m))) XT n (hp g (takK (takB c i p v a) i p b) m) 0 0 26 [(0, .ref (aN g i)), (1, .ref (aH g i p)), (2, .int (nI v)), (3, .int (nI a)), (4, .int (nI b))] []) ?_ ?_ 0 (Nat.zero_le _)
  · skip
    refine r_iload d_N_take_26 4 rfl ?_
    refine r_aload_n d_N_take_28 1 rfl ?_
    refine rg_N_53 rfl d_N_take_29 (gH (i := i) (p := p) (by omega) (by omega)) rfl ?_
    refine r_top (y := nI (stp a)) (congrArg nI up2_s) ?_
    refine r_icmp_geN (tgt := 52) d_N_take_32 (by decide) (by omega) (by omega) (fun c32 => ?_) (fun c32 => ?_)
    rotate_left 1
    · exfalso; first | omega | (revert c32; decide) | cases c32
    refine r_return d_N_take_52 rfl ⟨rfl, rfl, ?_⟩
    · rfl
  · intro b hb_b ih_b
    refine r_iload d_N_take_26 4 rfl ?_
    refine r_aload_n d_N_take_28 1 rfl ?_
    refine rg_N_53 rfl d_N_take_29 (gH (i := i) (p := p) (by omega) (by omega)) rfl ?_
    refine r_top (y := nI (stp a)) (congrArg nI up2_s) ?_
    refine r_icmp_geN (tgt := 52) d_N_take_32 (by decide) (by omega) (by omega) (fun c32 => ?_) (fun c32 => ?_)
    · exfalso; first | omega | (revert c32; decide) | cases c32
    refine r_aload_n d_N_take_35 1 rfl ?_
    refine rg_N_56 rfl d_N_take_36 (gH (i := i) (p := p) (by omega) (by omega)) rfl ?_
    refine r_iload d_N_take_39 4 rfl ?_
    refine r_aload_n d_N_take_41 0 rfl ?_
    refine rc_N_59 rfl d_N_take_42 (k_N_takeLeastFree (by omega) (by omega) (by have q := hf b hb_b; have e : (takK (takB c i p v a) i p b).takn i = TK (c.takn i) b := upN_s; rw [e]; exact q)) (gN (i := i) (by omega)) (room_ok (d' := d - 1) (by omega) (by decide)) ⟨Nat.le_refl _, Nat.le_refl _⟩ (Nat.le_of_ble_eq_true rfl) ?_
    refine r_astN d_N_take_45 (gPl (i := i) (p := p) (by omega) (by omega)) (by omega) (by decide) (whpl (i := i) (p := p) (by omega) (by omega)) ?_
    refine r_iincN (lv' := [(0, _), (1, _), (2, _), (3, _), (4, _)]) d_N_take_46 4 rfl (by decide) rfl ?_
    refine r_goto (tgt := 26) d_N_take_49 (by decide) ?_
    exact r_at ih_b (by rw [takK_s]; rfl) rfl rfl
def guT (T : Nat → Bool) (P : Nat → Nat) : Nat → Nat → Bool
  | 0 => T
  | k + 1 => upN (guT T P k) (P k) false
def guK (c : CS) (i p k : Nat) : CS := c.s_takn (upN c.takn i (guT (c.takn i) (c.hpl i p) k))
def guC (c : CS) (i p : Nat) : CS := (((guK c i p (c.hstr i p)).s_hver (up2 c.hver i p 0)).s_hbyt (up2 c.hbyt i p 0)).s_hstr (up2 c.hstr i p 0)
theorem guK_0 (c : CS) (i p : Nat) : guK c i p 0 = c := CS.ext2 (takn := upN_self _ _)
theorem guK_s (c : CS) (i p k : Nat) : guK c i p (k + 1) = (guK c i p k).s_takn (upN (guK c i p k).takn i (upN ((guK c i p k).takn i) (c.hpl i p k) false)) := by
  have e : (guK c i p k).takn = upN c.takn i (guT (c.takn i) (c.hpl i p) k) := rfl
  refine CS.ext2 (takn := ?_)
  show upN c.takn i (upN (guT (c.takn i) (c.hpl i p) k) (c.hpl i p k) false) = upN (guK c i p k).takn i (upN ((guK c i p k).takn i) (c.hpl i p k) false)
  rw [e, upN_s, upN_up]
theorem k_N_giveUp {l : Launch} {g : GX} {c : CS} {m : MS} {n d : Nat} (hd : 2 ≤ d) {i p : Nat} (hi : i < 12) (hq : p < 12) (hc : CI c) : CE l g M_N_giveUp d 0 0 [.ref (aN g i), .ref (aH g i p)] n (hp g c m) (none) n (hp g (guC c i p) m) := by
  obtain ⟨h1, h2, h3, h4⟩ := hc i p
  refine CE.of (by decide +kernel) (lv := [(0, .ref (aN g i)), (1, .ref (aH g i p))]) rfl (Nat.le_of_ble_eq_true rfl) ?_
  refine r_iconst (v := nI 0) d_N_giveUp_0 (by decide) ?_
  refine r_istore_n (lv' := [(0, _), (1, _), (2, _)]) d_N_giveUp_1 (by decide) rfl ?_
  refine r_heap (h' := hp g (guK c i p 0) m) (by rw [guK_0]) ?_
  refine back_ind (n := c.hstr i p) (G := fun b => RJ l g M_N_giveUp (RMX d 0 0) (TQ g 0 0 (QE (none) n (hp g (guC c i p) m))) XT n (hp g (guK c i p b) m) 0 0 2 [(0, .ref (aN g i)), (1, .ref (aH g i p)), (2, .int (nI b))] []) ?_ ?_ 0 (Nat.zero_le _)
  · skip
    refine r_iload_n d_N_giveUp_2 2 rfl ?_
    refine r_aload_n d_N_giveUp_3 1 rfl ?_
    refine rg_N_53 rfl d_N_giveUp_4 (gH (i := i) (p := p) (by omega) (by omega)) rfl ?_
    refine r_top (y := nI (c.hstr i p)) rfl ?_
    refine r_icmp_geN (tgt := 39) d_N_giveUp_7 (by decide) (by omega) (by omega) (fun c7 => ?_) (fun c7 => ?_)
    rotate_left 1
    · exfalso; first | omega | (revert c7; decide) | cases c7
    refine r_aload_n d_N_giveUp_39 1 rfl ?_
    refine r_iconst (v := nI 0) d_N_giveUp_40 (by decide) ?_
    refine rp_N_37 rfl d_N_giveUp_41 (gH (i := i) (p := p) (by omega) (by omega)) (Nat.le_of_ble_eq_true rfl) rfl (wH_hver (i := i) (p := p) (by omega) (by omega) (v := 0)) ?_
    refine r_aload_n d_N_giveUp_44 1 rfl ?_
    refine r_iconst (v := nI 0) d_N_giveUp_45 (by decide) ?_
    refine rp_N_40 rfl d_N_giveUp_46 (gH (i := i) (p := p) (by omega) (by omega)) (Nat.le_of_ble_eq_true rfl) rfl (wH_hbyt (i := i) (p := p) (by omega) (by omega) (v := 0)) ?_
    refine r_aload_n d_N_giveUp_49 1 rfl ?_
    refine r_iconst (v := nI 0) d_N_giveUp_50 (by decide) ?_
    refine rp_N_53 rfl d_N_giveUp_51 (gH (i := i) (p := p) (by omega) (by omega)) (Nat.le_of_ble_eq_true rfl) rfl (wH_hstr (i := i) (p := p) (by omega) (by omega) (v := 0)) ?_
    refine r_return d_N_giveUp_54 rfl ⟨rfl, rfl, ?_⟩
    · rfl
  · intro b hb_b ih_b
    refine r_iload_n d_N_giveUp_2 2 rfl ?_
    refine r_aload_n d_N_giveUp_3 1 rfl ?_
    refine rg_N_53 rfl d_N_giveUp_4 (gH (i := i) (p := p) (by omega) (by omega)) rfl ?_
    refine r_top (y := nI (c.hstr i p)) rfl ?_
    refine r_icmp_geN (tgt := 39) d_N_giveUp_7 (by decide) (by omega) (by omega) (fun c7 => ?_) (fun c7 => ?_)
    · exfalso; first | omega | (revert c7; decide) | cases c7
    refine r_aload_n d_N_giveUp_10 1 rfl ?_
    refine r_iload_n d_N_giveUp_11 2 rfl ?_
    refine rc_N_63 rfl d_N_giveUp_12 (k_H_placeOf (c := guK c i p b) (by omega) hi hq hb_b (by omega) (by show c.hstr i p < _; omega)) (gH (i := i) (p := p) (by omega) (by omega)) (room_ok (d' := d - 1) (by omega) (by decide)) ⟨Nat.le_refl _, Nat.le_refl _⟩ (Nat.le_of_ble_eq_true rfl) ?_
    refine r_top (y := nI (c.hpl i p b)) rfl ?_
    have h5 := h4 b
    refine r_istore_n (lv' := [(0, _), (1, _), (2, _), (3, _)]) d_N_giveUp_15 (by decide) rfl ?_
    refine r_iload_n d_N_giveUp_16 3 rfl ?_
    refine r_if_ltN (tgt := 33) d_N_giveUp_17 (by decide) (by omega) (fun c17 => ?_) (fun c17 => ?_)
    · exfalso; first | omega | (revert c17; decide) | cases c17
    refine r_iload_n d_N_giveUp_20 3 rfl ?_
    refine r_bipush (v := nI 40) d_N_giveUp_21 (by decide) ?_
    refine r_icmp_geN (tgt := 33) d_N_giveUp_23 (by decide) (by omega) (by omega) (fun c23 => ?_) (fun c23 => ?_)
    · exfalso; first | omega | (revert c23; decide) | cases c23
    refine r_aload_n d_N_giveUp_26 0 rfl ?_
    refine rg_N_15 rfl d_N_giveUp_27 (gN (i := i) (by omega)) rfl ?_
    refine r_iload_n d_N_giveUp_30 3 rfl ?_
    refine r_iconst (v := nI 0) d_N_giveUp_31 (by decide) ?_
    refine r_zast (b := false) d_N_giveUp_32 rfl (gT (i := i) (by omega)) (by omega) (by decide) (wtakn (i := i) (by omega)) ?_
    refine r_iincN (lv' := [(0, _), (1, _), (2, _), (3, _)]) d_N_giveUp_33 2 rfl (by decide) rfl ?_
    refine r_goto (tgt := 2) d_N_giveUp_36 (by decide) ?_
    refine r_less (lv' := [(0, .ref (aN g i)), (1, .ref (aH g i p)), (2, .int (nI (b + 1)))]) (by simp) ?_
    exact r_at ih_b (by rw [guK_s]) rfl rfl
