-- ===== clear =====
section CLR
variable {K : Nat} {c : CS} {m : MS}
theorem Nd_sent {i j : Nat} (h : Nd c m j) (v : Int32) : Nd (c.s_sent (upN c.sent i v)) (m.s_sent (upN m.sent i v)) j := by
  obtain ⟨h1, h2, h3⟩ := h
  refine ⟨h1, ?_, h3⟩
  show upN c.sent i v j = upN m.sent i v j
  by_cases e : j = i
  · subst e; rw [upN_s, upN_s]
  · rw [upN_n e, upN_n e]; exact h2
theorem ga_facts (X : CS) (i : Nat) : eqC X (gaC X i 6) ∧ (gaC X i 6).data = X.data ∧ (∀ p, p < 12 → (gaC X i 6).hver i p = 0) ∧ ∀ j, j ≠ i → (gaC X i 6).hver j = X.hver j := by
  refine ⟨?_, ?_, fun p hp => ga_0 hp, fun j hj => ?_⟩
  · rw [ga_ls]; exact eqC_ls X i _
  · rw [ga_ls]; exact (ls_keep X i _).2.1
  · rw [ga_ls]; exact (sC_lsn (c := X) hj _).2.2.2.2.1
theorem clO_facts (X : CS) (i : Nat) : eqC X (clO X i) ∧ (clO X i).data = X.data ∧ (∀ p, p < 12 → (clO X i).hver i p = 0) ∧ ∀ j, j ≠ i → (clO X i).hver j = X.hver j := by
  have h := ga_facts X i
  unfold clO
  generalize gaC X i 6 = Z at *
  exact ⟨h.1.tr rfl, h.2.1, h.2.2.1, h.2.2.2⟩
theorem cmO_facts (Y : MS) (i : Nat) : eqM Y ((wpM Y i).s_sent (upN (wpM Y i).sent i (nI 0))) ∧ ((wpM Y i).s_sent (upN (wpM Y i).sent i (nI 0))).byts = Y.byts := by
  have h1 := eqM_ga Y i 6
  have h2 := by_ga Y i 6
  unfold wpM
  generalize mga Y i 6 = Z at *
  exact ⟨h1.tr rfl, h2⟩
theorem clO_nd {X : CS} {Y : MS} {i j : Nat} (hc : CI X) (hm : MI Y) (h : Nd X Y j) (hi : i < 12) : Nd (clO X i) ((wpM Y i).s_sent (upN (wpM Y i).sent i (nI 0))) j := by
  have a := Nd_wp hc hm h hi
  unfold clO
  generalize lvC (gaC X i 6) i = Z at *
  generalize wpM Y i = W at *
  exact Nd_sent a _
theorem Nd_clL (hc : CI c) (hm : MI m) (hn : ∀ j, j < 12 → Nd c m j) : ∀ k, k ≤ 12 → (∀ j, j < 12 → Nd (clL c k) (cmL m k) j) ∧ (∀ j, j < k → ∀ p, p < 12 → (clL c k).hver j p = 0) ∧ eqC c (clL c k) ∧ (clL c k).data = c.data ∧ eqM m (cmL m k) ∧ (cmL m k).byts = m.byts
  | 0, _ => ⟨hn, fun j hj => by omega, rfl, rfl, rfl, rfl⟩
  | k + 1, hk => by
    obtain ⟨i1, i2, i3, i4, i5, i6⟩ := Nd_clL hc hm hn k (by omega)
    have hX := clL_CI hc k
    have hY := cmL_MI hm k
    have e1 : clL c (k + 1) = clO (clL c k) k := rfl
    have e2 : cmL m (k + 1) = (wpM (cmL m k) k).s_sent (upN (wpM (cmL m k) k).sent k (nI 0)) := rfl
    rw [e1, e2]
    generalize clL c k = X at *
    generalize cmL m k = Y at *
    obtain ⟨f1, f2, f3, f4⟩ := clO_facts X k
    obtain ⟨f5, f6⟩ := cmO_facts Y k
    refine ⟨fun j hj => clO_nd hX hY (i1 j hj) (by omega), fun j hj p hp => ?_, i3.tr f1, f2.trans i4, i5.tr f5, f6.trans i6⟩
    by_cases e : j = k
    · rw [e]; exact f3 p hp
    · rw [f4 j e]; exact i2 j (by omega) p hp
theorem clB_is (X : CS) : ∀ k, ∃ (B : Nat → Nat) (U : Nat → Bool), clB X k = (X.s_begun B).s_unst U ∧ ∀ o, o < k → B o = 0 ∧ U o = false
  | 0 => ⟨X.begun, X.unst, rfl, fun o ho => by omega⟩
  | k + 1 => by
    obtain ⟨B, U, h1, h2⟩ := clB_is X k
    refine ⟨upN B k 0, upN U k false, ?_, fun o ho => ?_⟩
    · show ((clB X k).s_begun (upN (clB X k).begun k 0)).s_unst (upN (clB X k).unst k false) = _
      rw [h1]
      rfl
    · by_cases e : o = k
      · subst e; exact ⟨upN_s, upN_s⟩
      · rw [upN_n e, upN_n e]; exact h2 o (by omega)
theorem cmB_is (X : MS) : ∀ k, ∃ (B : Nat → Nat) (U : Nat → Bool), cmB X k = (X.s_latest B).s_opn U ∧ ∀ o, o < k → B o = 0 ∧ U o = false
  | 0 => ⟨X.latest, X.opn, rfl, fun o ho => by omega⟩
  | k + 1 => by
    obtain ⟨B, U, h1, h2⟩ := cmB_is X k
    refine ⟨upN B k 0, upN U k false, ?_, fun o ho => ?_⟩
    · show ((cmB X k).s_latest (upN (cmB X k).latest k 0)).s_opn (upN (cmB X k).opn k false) = _
      rw [h1]
      rfl
    · by_cases e : o = k
      · subst e; exact ⟨upN_s, upN_s⟩
      · rw [upN_n e, upN_n e]; exact h2 o (by omega)
theorem Rel_clear (h : Rel K c m) : Rel (K + 1) (clrC c) (clrM m) := by
  obtain ⟨h1, -, hL, hI⟩ := id h
  obtain ⟨i1, i2, i3, i4, i5, i6⟩ := Nd_clL h.ci h.mi h1 12 (Nat.le_refl _)
  have hX := clL_CI h.ci 12
  have hY := cmL_MI h.mi 12
  obtain ⟨B, U, b1, b2⟩ := clB_is (clL c 12) 6
  obtain ⟨B', U', b3, b4⟩ := cmB_is (cmL m 12) 6
  unfold clrC clrM
  rw [b1, b3]
  clear b1 b3
  generalize clL c 12 = X at *
  generalize cmL m 12 = Y at *
  have hl := Lk_g hL i3 i5
  have hv := Iv_g hI i3 i5 hX hY (by rw [i4]; exact h.bc.2.2.2.2) (by rw [i6]; exact h.by)
  obtain ⟨l1, l2, l3, l4, l5, l6, l7, l8, l9⟩ := hl
  obtain ⟨a1, a2, a3, a4, a5, a6, a7, a8, a9, c1, c2, c3, c4⟩ := hv
  refine ⟨fun j hj => i1 j hj, ⟨fun i p hi hp => ?_, fun i j p q hi hj hp hq e hv => ?_, fun i o hi ho hl hv => ?_, fun o ho hu => ?_⟩, ⟨l1, rfl, fun o ho => ?_, fun o ho => ?_, rfl, l6, l7, l8, l9⟩, a1, a2, a3, Nat.zero_le _, a5, Or.inl rfl, a7, a8, a9, c1, c2, c3, fun o ho => ?_⟩
  · show X.hver i p ≤ _
    rw [i2 i hi p hp]
    exact Nat.zero_le _
  · have hv' : 0 < X.hver i p := hv
    rw [i2 i hi p hp] at hv'
    omega
  · have hv' : 0 < X.hver i (sp X i o) := hv
    rw [i2 i hi _ (sp_lt ho)] at hv'
    omega
  · have hu' : U o = true := hu
    rw [(b2 o ho).2] at hu'
    cases hu'
  · show B o = B' o
    rw [(b2 o ho).1, (b4 o ho).1]
  · show U o = U' o
    rw [(b2 o ho).2, (b4 o ho).2]
  · show B o ≤ K + 1
    rw [(b2 o ho).1]
    exact Nat.zero_le _
theorem ag_clear (h : Rel K c m) : Ag K c m M_S_clear M_M_clear [] := by
  refine ⟨_, clrC c, clrM m, fun l g n d hd => k_S_clear (by omega) h.ci, fun l g n d hd => ?_, Rel_clear h⟩
  rw [ct_congr (p := fun o => decide (0 < nw c o)) (q := fun o => decide (0 < mnw m o)) 6 (fun o ho => by rw [h.nwE ho])]
  exact k_M_clear (by omega) h.mi
end CLR
