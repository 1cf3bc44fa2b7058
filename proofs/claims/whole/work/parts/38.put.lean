-- ===== putting: the matrix of a stripe, room for blocks, one node's shadow =====
theorem ldI_at (tb : Nat → Nat) (A : Nat → Nat → Nat) (a r k0 : Nat) : ∀ n i j, ldI tb A a r k0 n i j = if i = r ∧ k0 ≤ j ∧ j < k0 + n then tb (a + (j - k0)) else if j = r ∧ k0 ≤ i ∧ i < k0 + n then tb (a + (i - k0)) else A i j
  | 0, i, j => by rw [if_neg (by omega), if_neg (by omega)]; rfl
  | n + 1, i, j => by
    show mirM (ldI tb A a r k0 n) r (k0 + n) (tb (a + n)) i j = _
    rw [mir_at, ldI_at tb A a r k0 n i j]
    by_cases e1 : i = r ∧ j = k0 + n
    · rw [if_pos (Or.inl e1), if_pos (show i = r ∧ k0 ≤ j ∧ j < k0 + (n + 1) by omega), e1.2, Nat.add_sub_cancel_left]
    · by_cases e2 : i = k0 + n ∧ j = r
      · rw [if_pos (Or.inr e2)]
        by_cases e3 : i = r ∧ k0 ≤ j ∧ j < k0 + (n + 1)
        · rw [if_pos e3, show j - k0 = n by omega]
        · rw [if_neg e3, if_pos (show j = r ∧ k0 ≤ i ∧ i < k0 + (n + 1) by omega), show i - k0 = n by omega]
      · have hn : ¬ ((i = r ∧ j = k0 + n) ∨ (i = k0 + n ∧ j = r)) := fun z => by
          rcases z with z | z
          · exact e1 z
          · exact e2 z
        rw [if_neg hn]
        by_cases a1 : i = r ∧ k0 ≤ j ∧ j < k0 + n
        · rw [if_pos a1, if_pos (show i = r ∧ k0 ≤ j ∧ j < k0 + (n + 1) by omega)]
        · rw [if_neg a1, if_neg (show ¬ (i = r ∧ k0 ≤ j ∧ j < k0 + (n + 1)) by omega)]
          by_cases a2 : j = r ∧ k0 ≤ i ∧ i < k0 + n
          · rw [if_pos a2, if_pos (show j = r ∧ k0 ≤ i ∧ i < k0 + (n + 1) by omega)]
          · rw [if_neg a2, if_neg (show ¬ (j = r ∧ k0 ≤ i ∧ i < k0 + (n + 1)) by omega)]
theorem ldO1_at (tb : Nat → Nat) (A : Nat → Nat → Nat) (a : Nat) : ∀ n, n ≤ 5 → ∀ i j, ldO1 tb A a n i j = if i ≤ j ∧ j < 5 ∧ i < n then tb (a + o1 i + (j - i)) else if j ≤ i ∧ i < 5 ∧ j < n then tb (a + o1 j + (i - j)) else A i j
  | 0, _, i, j => by rw [if_neg (by omega), if_neg (by omega)]; rfl
  | n + 1, hn, i, j => by
    show ldI tb (ldO1 tb A a n) (a + o1 n) n n (5 - n) i j = _
    rw [ldI_at, ldO1_at tb A a n (by omega) i j]
    by_cases e1 : i = n ∧ n ≤ j ∧ j < n + (5 - n)
    · rw [if_pos e1, if_pos (show i ≤ j ∧ j < 5 ∧ i < n + 1 by omega), e1.1]
    · rw [if_neg e1]
      by_cases e2 : j = n ∧ n ≤ i ∧ i < n + (5 - n)
      · rw [if_pos e2, if_neg (show ¬ (i ≤ j ∧ j < 5 ∧ i < n + 1) by omega), if_pos (show j ≤ i ∧ i < 5 ∧ j < n + 1 by omega), e2.1]
      · rw [if_neg e2]
        by_cases a1 : i ≤ j ∧ j < 5 ∧ i < n
        · rw [if_pos a1, if_pos (show i ≤ j ∧ j < 5 ∧ i < n + 1 by omega)]
        · rw [if_neg a1, if_neg (show ¬ (i ≤ j ∧ j < 5 ∧ i < n + 1) by omega)]
          by_cases a2 : j ≤ i ∧ i < 5 ∧ j < n
          · rw [if_pos a2, if_pos (show j ≤ i ∧ i < 5 ∧ j < n + 1 by omega)]
          · rw [if_neg a2, if_neg (show ¬ (j ≤ i ∧ i < 5 ∧ j < n + 1) by omega)]
theorem ldO2_at (tb : Nat → Nat) (A : Nat → Nat → Nat) (a : Nat) : ∀ n, n ≤ 5 → ∀ i j, ldO2 tb A a n i j = if i < n ∧ 5 ≤ j ∧ j < 8 then tb (a + 3 * i + (j - 5)) else if j < n ∧ 5 ≤ i ∧ i < 8 then tb (a + 3 * j + (i - 5)) else A i j
  | 0, _, i, j => by rw [if_neg (by omega), if_neg (by omega)]; rfl
  | n + 1, hn, i, j => by
    show ldI tb (ldO2 tb A a n) (a + 3 * n) n 5 3 i j = _
    rw [ldI_at, ldO2_at tb A a n (by omega) i j]
    by_cases e1 : i = n ∧ 5 ≤ j ∧ j < 5 + 3
    · rw [if_pos e1, if_pos (show i < n + 1 ∧ 5 ≤ j ∧ j < 8 by omega), e1.1]
    · rw [if_neg e1]
      by_cases e2 : j = n ∧ 5 ≤ i ∧ i < 5 + 3
      · rw [if_pos e2, if_neg (show ¬ (i < n + 1 ∧ 5 ≤ j ∧ j < 8) by omega), if_pos (show j < n + 1 ∧ 5 ≤ i ∧ i < 8 by omega), e2.1]
      · rw [if_neg e2]
        by_cases a1 : i < n ∧ 5 ≤ j ∧ j < 8
        · rw [if_pos a1, if_pos (show i < n + 1 ∧ 5 ≤ j ∧ j < 8 by omega)]
        · rw [if_neg a1, if_neg (show ¬ (i < n + 1 ∧ 5 ≤ j ∧ j < 8) by omega)]
          by_cases a2 : j < n ∧ 5 ≤ i ∧ i < 8
          · rw [if_pos a2, if_pos (show j < n + 1 ∧ 5 ≤ i ∧ i < 8 by omega)]
          · rw [if_neg a2, if_neg (show ¬ (j < n + 1 ∧ 5 ≤ i ∧ i < 8) by omega)]
theorem tri_o1 : ∀ r, r < 5 → ∀ k, k < 5 → r ≤ k → tri r k = o1 r + (k - r) := by decide +kernel
theorem ldM_up {t : Nat → Nat} {a s : Nat} {A : Nat → Nat → Nat} (ha : a ≤ 240) (hz : mz A) {r k : Nat} (hk : k < 8) (hrk : r ≤ k) : ldM (tbF t a) A (s * 30) r k = mxG t a s r k ∧ ldM (tbF t a) A (s * 30) k r = mxG t a s r k := by
  have hb : ∀ x, tbF t a x = if x < a then t x else 0 := fun x => by
    unfold tbF
    by_cases e : x < a
    · rw [if_pos e, if_pos ⟨e, by omega⟩]
    · rw [if_neg e, if_neg (fun z => e z.1)]
  unfold ldM mxG mxJ
  rw [ldO2_at _ _ _ 5 (Nat.le_refl _), ldO2_at _ _ _ 5 (Nat.le_refl _), ldO1_at _ _ _ 5 (Nat.le_refl _), ldO1_at _ _ _ 5 (Nat.le_refl _)]
  rcases Nat.lt_or_ge k 5 with q | q
  · have f1 : ¬ (r < 5 ∧ 5 ≤ k ∧ k < 8) := by omega
    have f2 : ¬ (k < 5 ∧ 5 ≤ r ∧ r < 8) := by omega
    have f3 : r ≤ k ∧ k < 5 ∧ r < 5 := by omega
    have f4 : ¬ 4 < r := by omega
    rw [if_neg f1, if_neg f2, if_pos f3, if_neg f2, if_neg f1, if_neg f4, if_pos q, tri_o1 r (by omega) k q hrk, hb]
    have e0 : s * 30 + o1 r + (k - r) = 30 * s + (o1 r + (k - r)) := by omega
    refine ⟨by rw [e0], ?_⟩
    by_cases e : k ≤ r
    · have e1 : k = r := by omega
      subst e1
      have f5 : k ≤ k ∧ k < 5 ∧ k < 5 := by omega
      rw [if_pos f5, e0, hb]
    · have f5 : ¬ (k ≤ r ∧ r < 5 ∧ k < 5) := by omega
      rw [if_neg f5, if_pos f3, e0]
  · rcases Nat.lt_or_ge r 5 with q2 | q2
    · have f1 : r < 5 ∧ 5 ≤ k ∧ k < 8 := by omega
      have f2 : ¬ (k < 5 ∧ 5 ≤ r ∧ r < 8) := by omega
      have f4 : ¬ 4 < r := by omega
      have f5 : ¬ k < 5 := by omega
      have e0 : s * 30 + 15 + 3 * r + (k - 5) = 30 * s + (15 + 3 * r + k - 5) := by omega
      rw [if_pos f1, if_neg f2, if_pos f1, if_neg f4, if_neg f5, hb, e0]
      exact ⟨rfl, rfl⟩
    · have f1 : ¬ (r < 5 ∧ 5 ≤ k ∧ k < 8) := by omega
      have f2 : ¬ (k < 5 ∧ 5 ≤ r ∧ r < 8) := by omega
      have f3 : ¬ (r ≤ k ∧ k < 5 ∧ r < 5) := by omega
      have f6 : ¬ (k ≤ r ∧ r < 5 ∧ k < 5) := by omega
      have f4 : 4 < r := by omega
      rw [if_neg f1, if_neg f2, if_neg f3, if_neg f6, if_neg f2, if_neg f1, if_neg f6, if_neg f3, if_pos f4, hz r k q2 (by omega) q hk, hz k r q hk q2 (by omega)]
      exact ⟨rfl, rfl⟩
theorem ldM_mx {t : Nat → Nat} {a s : Nat} {A : Nat → Nat → Nat} (ha : a ≤ 240) (hz : mz A) {r k : Nat} (hr : r < 8) (hk : k < 8) : ldM (tbF t a) A (s * 30) r k = mxF t a s r k := by
  unfold mxF
  by_cases q : r < k
  · rw [if_pos q]
    exact (ldM_up ha hz hk (by omega)).1
  · rw [if_neg q]
    exact (ldM_up ha hz hr (by omega)).2
theorem ldM_mz {t : Nat → Nat} {a s : Nat} {A : Nat → Nat → Nat} (ha : a ≤ 240) (hz : mz A) : mz (ldM (tbF t a) A (s * 30)) := fun r k h1 h2 h3 h4 => by
  rw [ldM_mx ha hz h2 h4]
  unfold mxF
  by_cases q : r < k
  · rw [if_pos q]
    exact if_pos (by omega)
  · rw [if_neg q]
    exact if_pos (by omega)
-- room
theorem ct_up {p : Nat → Bool} {i : Nat} (h : p i = false) : ∀ n, i < n → ct (upN p i true) n = ct p n + 1
  | 0, hi => by omega
  | n + 1, hi => by
    by_cases e : i = n
    · subst e
      have a : ct (upN p i true) i = ct p i := ct_congr i (fun k hk => upN_n (by omega))
      rw [ct_t upN_s, ct_f h, a]
    · have ih := ct_up h n (by omega)
      have a : upN p i true n = p n := upN_n (fun z => e z.symm)
      show ct (upN p i true) n + (if upN p i true n = true then 1 else 0) = ct p n + (if p n = true then 1 else 0) + 1
      rw [ih, a]
      omega
theorem lf_room {T : Nat → Bool} (h : ct T 40 < 40) : lf T < 40 := by
  rcases Nat.lt_or_ge (lf T) 40 with q | q
  · exact q
  · exfalso
    have hle : lf T ≤ 40 := (lfF_ge T 40 0).2
    have key : ∀ f k, lfF T f k = k + f → ∀ b, k ≤ b → b < k + f → T b = true := by
      intro f
      induction f with
      | zero => intro k _ b h1 h2; omega
      | succ f ih =>
        intro k hk b h1 h2
        unfold lfF at hk
        by_cases e : T k = true
        · rw [if_pos e] at hk
          by_cases z : b = k
          · rw [z]; exact e
          · exact ih (k + 1) (by omega) b (by omega) (by omega)
        · rw [if_neg e] at hk
          omega
    have hall := key 40 0 (by unfold lf at q hle; omega)
    have : ct T 40 = 40 := by
      have e : ct T 40 = ct (fun _ => true) 40 := ct_congr 40 (fun b hb => hall b (Nat.zero_le _) (by omega))
      rw [e]
      rfl
    omega
theorem TK_ct {T : Nat → Bool} {n : Nat} (h : ct T 40 + n ≤ 40) : ∀ k, k ≤ n → ct (TK T k) 40 = ct T 40 + k ∧ (k < n → lf (TK T k) < 40)
  | 0, _ => ⟨rfl, fun hk => lf_room (by show ct T 40 < 40; omega)⟩
  | k + 1, hk => by
    obtain ⟨a, b⟩ := TK_ct h k (by omega)
    have hl := b (by omega)
    have e : ct (TK T (k + 1)) 40 = ct (TK T k) 40 + 1 := ct_up (lf_spec hl).1 40 hl
    exact ⟨by rw [e, a]; omega, fun hk2 => lf_room (by rw [e, a]; omega)⟩
theorem TK_room {T : Nat → Bool} {n : Nat} (h : ct T 40 + n ≤ 40) : ∀ k, k < n → lf (TK T k) < 40 := fun k hk => (TK_ct h k (by omega)).2 hk
theorem lfl_spec (c : CS) (w : Nat) (hw : w ≤ 40) : ∀ b, w ≤ lfl c b ↔ ∀ i, i < b → c.live i = true → w ≤ frN c i
  | 0 => ⟨fun _ i hi => by omega, fun _ => hw⟩
  | b + 1 => by
    have ih := lfl_spec c w hw b
    show w ≤ (if c.live b = true then (if frN c b < lfl c b then frN c b else lfl c b) else lfl c b) ↔ _
    by_cases e : c.live b = true
    · rw [if_pos e]
      constructor
      · intro h i hi hl
        by_cases q : frN c b < lfl c b
        · rw [if_pos q] at h
          by_cases z : i = b
          · rw [z]; exact h
          · exact ih.mp (by omega) i (by omega) hl
        · rw [if_neg q] at h
          by_cases z : i = b
          · rw [z]; omega
          · exact ih.mp h i (by omega) hl
      · intro h
        have h1 := h b (by omega) e
        have h2 := ih.mpr (fun i hi hl => h i (by omega) hl)
        split <;> omega
    · rw [if_neg e, ih]
      constructor
      · intro h i hi hl
        by_cases z : i = b
        · subst z; exact absurd hl e
        · exact h i (by omega) hl
      · exact fun h i hi hl => h i (by omega) hl
-- a node's shares
/-- share byte k of stripe s at node i -/
def shv (t : Nat → Nat) (a i s k : Nat) : Nat := xs (fun q => mulT (rowT i q) (mxF t a s q k)) 8
def dtS (D P t : Nat → Nat) (a i : Nat) : Nat → Nat → Nat
  | 0 => D
  | s + 1 => wrF (dtS D P t a i s) (P s) (shv t a i s) 8
theorem wrF_at (D : Nat → Nat) (b : Nat) (V : Nat → Nat) : ∀ n x, wrF D b V n x = if b * 8 ≤ x ∧ x < b * 8 + n then V (x - b * 8) else D x
  | 0, x => by rw [if_neg (by omega)]; rfl
  | n + 1, x => by
    show upN (wrF D b V n) (b * 8 + n) (V n) x = _
    by_cases e : x = b * 8 + n
    · subst e
      rw [upN_s, if_pos (by omega), Nat.add_sub_cancel_left]
    · rw [upN_n e, wrF_at D b V n x]
      by_cases q : b * 8 ≤ x ∧ x < b * 8 + n
      · rw [if_pos q, if_pos (by omega)]
      · rw [if_neg q, if_neg (by omega)]
theorem wrF_congr (D : Nat → Nat) (b : Nat) {V V' : Nat → Nat} (h : ∀ k, k < 8 → V k = V' k) : wrF D b V 8 = wrF D b V' 8 := by
  funext x
  rw [wrF_at, wrF_at]
  by_cases q : b * 8 ≤ x ∧ x < b * 8 + 8
  · rw [if_pos q, if_pos q, h _ (by omega)]
  · rw [if_neg q, if_neg q]
theorem msh_at {Y : MS} {i r a : Nat} {D P : Nat → Nat} (hY : Y.taped = a) (hD : ∀ b k, b < 40 → k < 8 → Y.byts (8 * (40 * i + b) + k) = D (b * 8 + k)) (hP : ∀ q, Y.blk q < 40) : ∀ s, (∀ q, q < s → Y.blk (8 * r + q) = P q) → ∀ b k, b < 40 → k < 8 → mshS Y i r s (8 * (40 * i + b) + k) = dtS D P Y.tape a i s (b * 8 + k)
  | 0, _, b, k, hb, hk => hD b k hb hk
  | s + 1, hB, b, k, hb, hk => by
    have hps := hB s (by omega)
    have h40 := hP (8 * r + s)
    have ih := msh_at (r := r) hY hD hP s (fun q hq => hB q (by omega)) b k hb hk
    show wrB (mshS Y i r s) (8 * (40 * i + Y.blk (8 * r + s))) (shV Y i s) 8 (8 * (40 * i + b) + k) = wrF (dtS D P Y.tape a i s) (P s) (shv Y.tape a i s) 8 (b * 8 + k)
    rw [hps] at h40 ⊢
    rw [wrB_at, wrF_at]
    by_cases e : b = P s
    · subst e
      rw [if_pos (by omega), if_pos (by omega), show 8 * (40 * i + P s) + k - 8 * (40 * i + P s) = k by omega, show P s * 8 + k - P s * 8 = k by omega]
      unfold shV shv
      rw [hY]
    · rw [if_neg (by omega), if_neg (by omega)]
      exact ih
theorem msh_ne {Y : MS} {i r j : Nat} (hj : j ≠ i) (hP : ∀ q, Y.blk q < 40) : ∀ s a, a < 320 → mshS Y i r s (320 * j + a) = Y.byts (320 * j + a)
  | 0, _, _ => rfl
  | s + 1, a, ha => by
    have := hP (8 * r + s)
    show wrB (mshS Y i r s) (8 * (40 * i + Y.blk (8 * r + s))) (shV Y i s) 8 (320 * j + a) = _
    rw [wrB_out (by omega), msh_ne hj hP s a ha]
theorem Nd_data {W : CS} {Y : MS} {i : Nat} {D : Nat → Nat} {B : Nat → Nat} (h : Nd W Y i) (hD : ∀ b k, b < 40 → k < 8 → B (8 * (40 * i + b) + k) = D (b * 8 + k)) : Nd (W.s_data (upN W.data i D)) (Y.s_byts B) i := by
  obtain ⟨h1, h2, h3, h4, h5⟩ := h
  refine ⟨h1, h2, h3, fun b k hb hk => ?_, h5⟩
  show B _ = upN W.data i D i _
  rw [upN_s]
  exact hD b k hb hk
theorem sC_data {W : CS} {i j : Nat} {D : Nat → Nat} (hj : j ≠ i) : sC W (W.s_data (upN W.data i D)) j := ⟨rfl, rfl, rfl, upN_n hj, rfl, rfl, rfl, rfl, rfl⟩
theorem sM_byts {Y : MS} {j : Nat} {B : Nat → Nat} (h : ∀ a, a < 320 → B (320 * j + a) = Y.byts (320 * j + a)) : sM Y (Y.s_byts B) j := ⟨rfl, rfl, fun _ _ => rfl, h, fun _ _ _ => ⟨rfl, rfl, rfl, fun _ _ => rfl⟩⟩
