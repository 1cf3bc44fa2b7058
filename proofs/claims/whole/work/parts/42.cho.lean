-- ===== rebuilding: the eight that sent least =====
theorem sh_mod : ∀ n, n < 12 → ((nI n &&& 31).toBitVec.smod 32).toNat = n := by decide +kernel
theorem msk_bit : ∀ b, b < 13 → ∀ n, n < 12 → (((nI 1) <<< (nI b &&& 31)) ^^^ (-1)).toBitVec.getLsbD n = decide (n ≠ b) := by decide +kernel
theorem told_bit (x : Int32) {n : Nat} (hn : n < 12) : told x n = x.toBitVec.getLsbD n := by
  unfold told
  rw [pk_and (x >>> (nI n &&& 31)) 1 rfl]
  have e1 : (x >>> (nI n &&& 31)).toBitVec = x.toBitVec.sshiftRight n := by
    rw [Int32.toBitVec_shiftRight]
    show x.toBitVec.sshiftRight ((nI n &&& 31).toBitVec.smod 32).toNat = _
    rw [sh_mod n hn]
  have e2 : (x.toBitVec.sshiftRight n).getLsbD 0 = x.toBitVec.getLsbD n := by
    rw [BitVec.getLsbD_sshiftRight]
    rw [if_pos (by omega)]
    simp
  rw [e1, ← e2]
  have e3 : (x.toBitVec.sshiftRight n).getLsbD 0 = decide ((x.toBitVec.sshiftRight n).toNat % 2 = 1) := by
    rw [BitVec.getLsbD, Nat.testBit_zero]
  rw [e3]
  have h2 := Nat.mod_lt (x.toBitVec.sshiftRight n).toNat (show 0 < 2 by decide)
  have e4 : (nI ((x.toBitVec.sshiftRight n).toNat % 2 ^ 1) = nI 1) ↔ (x.toBitVec.sshiftRight n).toNat % 2 = 1 := nI_eq (by omega) (by decide)
  rw [decide_eq_decide]
  exact e4
theorem told_clr (y : Int32) {b n : Nat} (hb : b < 13) (hn : n < 12) : told (y &&& (((nI 1) <<< (nI b &&& 31)) ^^^ (-1))) n = (told y n && decide (n ≠ b)) := by
  rw [told_bit _ hn, told_bit y hn, Int32.toBitVec_and, BitVec.getLsbD_and, msk_bit b hb n hn]
theorem ct_rm {p : Nat → Bool} {b : Nat} (h : p b = true) : ∀ n, b < n → ct (fun k => p k && decide (k ≠ b)) n + 1 = ct p n
  | 0, hb => by omega
  | n + 1, hb => by
    by_cases e : b = n
    · subst e
      have a : ct (fun k => p k && decide (k ≠ b)) b = ct p b := ct_congr b (fun k hk => by rw [decide_eq_true (by omega), Bool.and_true])
      rw [ct_f (p := fun k => p k && decide (k ≠ b)) (n := b) (by simp), ct_t h, a]
    · have ih := ct_rm h n (by omega)
      by_cases q : p n = true
      · rw [ct_t (p := fun k => p k && decide (k ≠ b)) (n := n) (by rw [q, decide_eq_true (show n ≠ b from fun z => e z.symm)]; rfl), ct_t q, ← ih]
      · have q' : p n = false := by simpa using q
        rw [ct_f (p := fun k => p k && decide (k ≠ b)) (n := n) (by rw [q']; rfl), ct_f q', ih]
section LQ
variable {m : MS} {o v : Nat}
/-- one that may be chosen -/
def cnd (m : MS) (o v : Nat) (x : Int32) (n : Nat) : Bool := told x n && mfr m o v n
theorem bsM_spec (x : Int32) : ∀ n, (bsM m o v x n = 12 ∧ ∀ k, k < n → cnd m o v x k = false) ∨ (bsM m o v x n < n ∧ cnd m o v x (bsM m o v x n) = true)
  | 0 => Or.inl ⟨rfl, fun k hk => by omega⟩
  | n + 1 => by
    have ih := bsM_spec x n
    have e : bsM m o v x (n + 1) = if told x n = true ∧ mfr m o v n = true ∧ (bsM m o v x n = 12 ∨ m.sent n < m.sent (bsM m o v x n)) then n else bsM m o v x n := rfl
    by_cases q : told x n = true ∧ mfr m o v n = true ∧ (bsM m o v x n = 12 ∨ m.sent n < m.sent (bsM m o v x n))
    · rw [if_pos q] at e
      right
      rw [e]
      exact ⟨by omega, by unfold cnd; rw [q.1, q.2.1]; rfl⟩
    · rw [if_neg q] at e
      rw [e]
      rcases ih with ⟨h1, h2⟩ | ⟨h1, h2⟩
      · left
        refine ⟨h1, fun k hk => ?_⟩
        rcases Nat.lt_or_ge k n with z | z
        · exact h2 k z
        · have ek : k = n := by omega
          subst ek
          unfold cnd
          rw [Bool.eq_false_iff]
          intro y
          rw [Bool.and_eq_true] at y
          exact q ⟨y.1, y.2, Or.inl h1⟩
      · exact Or.inr ⟨by omega, h2⟩
theorem bsM_12 (x : Int32) : bsM m o v x 12 < 13 := by
  rcases bsM_spec (m := m) (o := o) (v := v) x 12 with h | h
  · omega
  · omega
theorem told_lq (x : Int32) : ∀ f n, n < 12 → told (lqX m o v x f) n = (told x n && decide (∀ e, e < f → lqB m o v x e ≠ n))
  | 0, n, hn => by
    rw [decide_eq_true (fun e he => by omega), Bool.and_true]
    rfl
  | f + 1, n, hn => by
    have ih := told_lq x f n hn
    show told (lqX m o v x f &&& (((nI 1) <<< (nI (bsM m o v (lqX m o v x f) 12) &&& 31)) ^^^ (-1))) n = _
    rw [told_clr _ (bsM_12 _) hn, ih, Bool.and_assoc]
    congr 1
    rw [← Bool.decide_and, decide_eq_decide]
    constructor
    · rintro ⟨h1, h2⟩ e he
      rcases Nat.lt_or_ge e f with z | z
      · exact h1 e z
      · rw [show e = f by omega]
        exact fun y => h2 y.symm
    · intro h
      exact ⟨fun e he => h e (by omega), fun y => h f (by omega) y.symm⟩
theorem cnd_lq (x : Int32) (f : Nat) {n : Nat} (hn : n < 12) : cnd m o v (lqX m o v x (f + 1)) n = (cnd m o v (lqX m o v x f) n && decide (n ≠ lqB m o v x f)) := by
  unfold cnd
  show (told (lqX m o v x f &&& (((nI 1) <<< (nI (bsM m o v (lqX m o v x f) 12) &&& 31)) ^^^ (-1))) n && _) = _
  rw [told_clr _ (bsM_12 _) hn, Bool.and_assoc, Bool.and_assoc, Bool.and_comm (decide _)]
  rfl
/-- as long as there are any, one is chosen, and there is one less -/
theorem lq_ct (x : Int32) : ∀ f, f ≤ ct (cnd m o v x) 12 → ct (cnd m o v (lqX m o v x f)) 12 + f = ct (cnd m o v x) 12
  | 0, _ => rfl
  | f + 1, h => by
    have ih := lq_ct x f (by omega)
    have hb : lqB m o v x f < 12 ∧ cnd m o v (lqX m o v x f) (lqB m o v x f) = true := by
      rcases bsM_spec (m := m) (o := o) (v := v) (lqX m o v x f) 12 with ⟨-, h2⟩ | ⟨h1, h2⟩
      · exfalso
        have : ct (cnd m o v (lqX m o v x f)) 12 = 0 := by
          rw [ct_congr (q := fun _ => false) 12 h2]
          rfl
        omega
      · exact ⟨h1, h2⟩
    have e : ct (cnd m o v (lqX m o v x (f + 1))) 12 = ct (fun k => cnd m o v (lqX m o v x f) k && decide (k ≠ lqB m o v x f)) 12 := ct_congr 12 (fun k hk => cnd_lq x f hk)
    have := ct_rm hb.2 12 hb.1
    omega
theorem lq_ok (x : Int32) {f : Nat} (h : f < ct (cnd m o v x) 12) : lqB m o v x f < 12 ∧ cnd m o v (lqX m o v x f) (lqB m o v x f) = true := by
  have ih := lq_ct (m := m) (o := o) (v := v) x f (by omega)
  rcases bsM_spec (m := m) (o := o) (v := v) (lqX m o v x f) 12 with ⟨-, h2⟩ | ⟨h1, h2⟩
  · exfalso
    have : ct (cnd m o v (lqX m o v x f)) 12 = 0 := by
      rw [ct_congr (q := fun _ => false) 12 h2]
      rfl
    omega
  · exact ⟨h1, h2⟩
theorem lq_none (x : Int32) {f : Nat} (h : f = ct (cnd m o v x) 12) : lqB m o v x f = 12 := by
  have ih := lq_ct (m := m) (o := o) (v := v) x f (by omega)
  rcases bsM_spec (m := m) (o := o) (v := v) (lqX m o v x f) 12 with ⟨h1, -⟩ | ⟨h1, h2⟩
  · exact h1
  · have := ct_ge1 h1 h2
    omega
theorem lq_cnd (x : Int32) {f : Nat} (h : f < ct (cnd m o v x) 12) : cnd m o v x (lqB m o v x f) = true ∧ ∀ e, e < f → lqB m o v x e ≠ lqB m o v x f := by
  obtain ⟨h1, h2⟩ := lq_ok x h
  unfold cnd at h2
  rw [told_lq x f _ h1, Bool.and_eq_true, Bool.and_eq_true] at h2
  refine ⟨by unfold cnd; rw [h2.1.1, h2.2]; rfl, of_decide_eq_true h2.1.2⟩
theorem lq_ne (x : Int32) {e f : Nat} (he : e < ct (cnd m o v x) 12) (hf : f < ct (cnd m o v x) 12) (h : e ≠ f) : lqB m o v x e ≠ lqB m o v x f := by
  rcases Nat.lt_or_ge e f with q | q
  · exact (lq_cnd x hf).2 e q
  · exact fun z => (lq_cnd x he).2 f (by omega) z.symm
theorem lqF_at (x : Int32) (V : Nat → Nat) : ∀ n k, lqF m o v x V n k = if k < n then lqB m o v x k else V k
  | 0, k => by rw [if_neg (by omega)]; rfl
  | n + 1, k => by
    show upN (lqF m o v x V n) n (lqB m o v x n) k = _
    by_cases e : k = n
    · subst e
      rw [upN_s, if_pos (by omega)]
    · rw [upN_n e, lqF_at x V n k]
      by_cases q : k < n
      · rw [if_pos q, if_pos (by omega)]
      · rw [if_neg q, if_neg (by omega)]
end LQ
theorem csF_at (c : CS) (i o : Nat) (x : Int32) (V : Nat → Nat) : ∀ n k, csF c i o x V n k = if k < n then csB c i o x k else V k
  | 0, k => by rw [if_neg (by omega)]; rfl
  | n + 1, k => by
    show upN (csF c i o x V n) n (csB c i o x n) k = _
    by_cases e : k = n
    · subst e
      rw [upN_s, if_pos (by omega)]
    · rw [upN_n e, csF_at c i o x V n k]
      by_cases q : k < n
      · rw [if_pos q, if_pos (by omega)]
      · rw [if_neg q, if_neg (by omega)]
section BS
variable {c : CS} {m : MS} {i o : Nat}
theorem bs_eq {x x' : Int32} (hs : ∀ n, n < 12 → c.sent n = m.sent n) (hx : ∀ n, n < 12 → ((n ≠ i ∧ told x n = true ∧ frs c o (nw c o) n = true) ↔ (told x' n = true ∧ mfr m o (nw c o) n = true))) : ∀ n, n ≤ 12 → bsL c i o x n = bsM m o (nw c o) x' n
  | 0, _ => rfl
  | n + 1, hn => by
    have ih := bs_eq hs hx n (by omega)
    show (if n ≠ i ∧ told x n = true ∧ frs c o (nw c o) n = true ∧ (bsL c i o x n = 12 ∨ c.sent n < c.sent (bsL c i o x n)) then n else bsL c i o x n) = (if told x' n = true ∧ mfr m o (nw c o) n = true ∧ (bsM m o (nw c o) x' n = 12 ∨ m.sent n < m.sent (bsM m o (nw c o) x' n)) then n else bsM m o (nw c o) x' n)
    rw [ih]
    have hle := bsM_le m o (nw c o) x' n (by omega)
    have hsn := hs n (by omega)
    have hsb : bsM m o (nw c o) x' n ≠ 12 → c.sent (bsM m o (nw c o) x' n) = m.sent (bsM m o (nw c o) x' n) := fun h => hs _ (by omega)
    have hxn := hx n (by omega)
    by_cases q : told x' n = true ∧ mfr m o (nw c o) n = true ∧ (bsM m o (nw c o) x' n = 12 ∨ m.sent n < m.sent (bsM m o (nw c o) x' n))
    · obtain ⟨y1, y2, y3⟩ := hxn.mpr ⟨q.1, q.2.1⟩
      rw [if_pos q, if_pos]
      refine ⟨y1, y2, y3, ?_⟩
      by_cases z : bsM m o (nw c o) x' n = 12
      · exact Or.inl z
      · right
        rw [hsn, hsb z]
        exact q.2.2.resolve_left z
    · rw [if_neg q, if_neg]
      rintro ⟨y1, y2, y3, y4⟩
      obtain ⟨w1, w2⟩ := hxn.mp ⟨y1, y2, y3⟩
      refine q ⟨w1, w2, ?_⟩
      by_cases z : bsM m o (nw c o) x' n = 12
      · exact Or.inl z
      · right
        rw [← hsn, ← hsb z]
        exact y4.resolve_left z
theorem cs_eq {x : Int32} (hi : i < 12) (hs : ∀ n, n < 12 → c.sent n = m.sent n) (hf : ∀ n, n < 12 → n ≠ i → frs c o (nw c o) n = mfr m o (nw c o) n) : ∀ f, (∀ n, n < 12 → told (lqX m o (nw c o) (tdX x i) f) n = (told (csX c i o x f) n && decide (n ≠ i))) ∧ csB c i o x f = lqB m o (nw c o) (tdX x i) f
  | 0 => by
    have a : ∀ n, n < 12 → told (tdX x i) n = (told x n && decide (n ≠ i)) := fun n hn => told_clr x (by omega) hn
    refine ⟨a, bs_eq hs (fun n hn => ?_) 12 (Nat.le_refl _)⟩
    show _ ↔ told (tdX x i) n = true ∧ _
    rw [a n hn, Bool.and_eq_true, decide_eq_true_iff]
    constructor
    · rintro ⟨h1, h2, h3⟩
      exact ⟨⟨h2, h1⟩, by rw [← hf n hn h1]; exact h3⟩
    · rintro ⟨⟨h2, h1⟩, h3⟩
      exact ⟨h1, h2, by rw [hf n hn h1]; exact h3⟩
  | f + 1 => by
    obtain ⟨i1, i2⟩ := cs_eq hi hs hf f
    have hb : lqB m o (nw c o) (tdX x i) f < 13 := bsM_12 _
    have a : ∀ n, n < 12 → told (lqX m o (nw c o) (tdX x i) (f + 1)) n = (told (csX c i o x (f + 1)) n && decide (n ≠ i)) := fun n hn => by
      show told (lqX m o (nw c o) (tdX x i) f &&& (((nI 1) <<< (nI (lqB m o (nw c o) (tdX x i) f) &&& 31)) ^^^ (-1))) n = (told (csX c i o x f &&& (((nI 1) <<< (nI (csB c i o x f) &&& 31)) ^^^ (-1))) n && _)
      rw [i2, told_clr _ hb hn, told_clr _ hb hn, i1 n hn, Bool.and_assoc, Bool.and_assoc, Bool.and_comm (decide (n ≠ i))]
    refine ⟨a, bs_eq hs (fun n hn => ?_) 12 (Nat.le_refl _)⟩
    rw [a n hn, Bool.and_eq_true, decide_eq_true_iff]
    constructor
    · rintro ⟨h1, h2, h3⟩
      exact ⟨⟨h2, h1⟩, by rw [← hf n hn h1]; exact h3⟩
    · rintro ⟨⟨h2, h1⟩, h3⟩
      exact ⟨h1, h2, by rw [hf n hn h1]; exact h3⟩
/-- how many are chosen: as many as there are, eight at most -/
theorem csN_ct {x : Int32} (hi : i < 12) (hs : ∀ n, n < 12 → c.sent n = m.sent n) (hf : ∀ n, n < 12 → n ≠ i → frs c o (nw c o) n = mfr m o (nw c o) n) : csN c i o x = min (ct (cnd m o (nw c o) (tdX x i)) 12) 8 := by
  have hB : ∀ f, csB c i o x f = lqB m o (nw c o) (tdX x i) f := fun f => (cs_eq hi hs hf f).2
  unfold csN
  rcases Nat.lt_or_ge (ct (cnd m o (nw c o) (tdX x i)) 12) 8 with q | q
  · rw [Nat.min_eq_left (by omega)]
    refine lfF_at (fun f _ hf' => decide_eq_true ?_) (decide_eq_false ?_) (Nat.zero_le _) (by omega)
    · rw [hB]
      have := (lq_ok (m := m) (o := o) (v := nw c o) (tdX x i) hf').1
      omega
    · rw [hB, lq_none (tdX x i) rfl]
      exact fun z => z rfl
  · rw [Nat.min_eq_right q]
    exact lfF_all (f := 8) (k := 0) (fun f _ hf' => decide_eq_true (by
      rw [hB]
      have := (lq_ok (m := m) (o := o) (v := nw c o) (tdX x i) (show f < _ by omega)).1
      omega))
end BS
