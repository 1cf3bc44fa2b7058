-- ===== the field: the reference's product is the candidate's; the laws of it =====
theorem xt_lin : ∀ a, a < 256 → ∀ b, b < 256 → xt (a ^^^ b) = xt a ^^^ xt b := by decide +kernel
theorem xor_00 : xt 0 = 0 := by decide
/-- xt, k times -/
def msX (a : Nat) : Nat → Nat
  | 0 => a
  | k + 1 => xt (msX a k)
def msS (a b : Nat) : Nat → Nat
  | 0 => 0
  | k + 1 => msS a b k ^^^ (if told (nI b) k = true then msX a k else 0)
theorem msX_lt {a : Nat} (h : a < 256) : ∀ k, msX a k < 256
  | 0 => h
  | k + 1 => xt_lt _ (msX_lt h k)
theorem msS_lt {a b : Nat} (h : a < 256) : ∀ k, msS a b k < 256
  | 0 => show 0 < 256 by decide
  | k + 1 => xor_lt (msS_lt h k) (by split; exact msX_lt h k; decide)
theorem msX_xt (a : Nat) : ∀ k, msX (xt a) k = xt (msX a k)
  | 0 => rfl
  | k + 1 => congrArg xt (msX_xt a k)
theorem msX_add (a i : Nat) : ∀ k, msX a (i + k) = msX (msX a i) k
  | 0 => rfl
  | k + 1 => congrArg xt (msX_add a i k)
theorem msX_lin {a b : Nat} (ha : a < 256) (hb : b < 256) : ∀ k, msX (a ^^^ b) k = msX a k ^^^ msX b k
  | 0 => rfl
  | k + 1 => (congrArg xt (msX_lin ha hb k)).trans (xt_lin _ (msX_lt ha k) _ (msX_lt hb k))
theorem xor4 (a b c d : Nat) : (a ^^^ b) ^^^ (c ^^^ d) = (a ^^^ c) ^^^ (b ^^^ d) := by
  rw [Nat.xor_assoc, Nat.xor_assoc, ← Nat.xor_assoc b c d, Nat.xor_comm b c, Nat.xor_assoc c b d]
theorem msS_lin {a a' b : Nat} (ha : a < 256) (hb : a' < 256) : ∀ k, msS (a ^^^ a') b k = msS a b k ^^^ msS a' b k
  | 0 => show 0 = 0 ^^^ 0 by decide
  | k + 1 => by
    show msS (a ^^^ a') b k ^^^ _ = (msS a b k ^^^ _) ^^^ (msS a' b k ^^^ _)
    rw [msS_lin ha hb k, xor4]
    congr 1
    split
    · exact msX_lin ha hb k
    · rfl
theorem msS_xt {a b : Nat} (ha : a < 256) : ∀ k, msS (xt a) b k = xt (msS a b k)
  | 0 => rfl
  | k + 1 => by
    show msS (xt a) b k ^^^ _ = xt (msS a b k ^^^ _)
    rw [msS_xt ha k, xt_lin _ (msS_lt ha k) _ (by split; exact msX_lt ha k; decide)]
    congr 1
    split
    · exact msX_xt a k
    · rfl
theorem msS_one : ∀ b, b < 256 → msS 1 b 8 = b := by decide +kernel
theorem pwN_X : ∀ e, pwN e = msX 1 e
  | 0 => rfl
  | e + 1 => congrArg xt (pwN_X e)
theorem pw_add (e : Nat) : ∀ f, msX (pwN e) f = pwN (e + f)
  | 0 => rfl
  | f + 1 => congrArg xt (pw_add e f)
theorem msS_pw {b : Nat} (hb : b < 256) : ∀ e, msS (pwN e) b 8 = msX b e
  | 0 => msS_one b hb
  | e + 1 => (msS_xt (pwN_lt e) 8).trans (congrArg xt (msS_pw hb e))
theorem pw_255 : pwN 255 = 1 := by decide +kernel
theorem msX_255 {b : Nat} (hb : b < 256) : msX b 255 = b := by
  rw [← msS_pw hb 255, pw_255, msS_one b hb]
theorem pw_per (e : Nat) : pwN (e + 255) = pwN e := by rw [← pw_add, msX_255 (pwN_lt e)]
/-- no power before the 255th is 1 -/
def ch1 : Nat → Nat → Bool
  | _, 0 => true
  | x, f + 1 => decide (x ≠ 1) && ch1 (xt x) f
theorem ch1_spec : ∀ f e, ch1 (pwN e) f = true → ∀ j, j < f → pwN (e + j) ≠ 1
  | 0, _, _, j, hj => by omega
  | f + 1, e, h, j, hj => by
    unfold ch1 at h
    rw [Bool.and_eq_true] at h
    cases j with
    | zero => exact of_decide_eq_true h.1
    | succ j =>
      have q := ch1_spec f (e + 1) h.2 j (by omega)
      rw [show e + (j + 1) = e + 1 + j by omega]
      exact q
theorem pw_ne1 {k : Nat} (h0 : 0 < k) (hk : k < 255) : pwN k ≠ 1 := by
  have q := ch1_spec 254 1 (by decide +kernel) (k - 1) (by omega)
  rwa [show 1 + (k - 1) = k by omega] at q
theorem pw_inj {i j : Nat} (hi : i < 255) (hj : j < 255) (h : pwN i = pwN j) : i = j := by
  have key : ∀ i j, i < j → j < 255 → pwN i = pwN j → False := fun i j h1 h2 h => by
    have q := congrArg (fun z => msX z (255 - j)) h
    simp only [pw_add] at q
    rw [show j + (255 - j) = 255 by omega, pw_255] at q
    exact pw_ne1 (by omega) (by omega) q
  rcases Nat.lt_trichotomy i j with q | q | q
  · exact (key i j q hj h).elim
  · exact q
  · exact (key j i q hi h.symm).elim
theorem pw_ne0 (e : Nat) : pwN e ≠ 0 := fun h => by
  have z : ∀ k, msX 0 k = 0 := fun k => by
    induction k with
    | zero => rfl
    | succ k ih => exact (congrArg xt ih).trans xor_00
  have q := pw_add e (255 * (e + 1) - e)
  rw [h, z, show e + (255 * (e + 1) - e) = 255 * (e + 1) by omega] at q
  have p : ∀ k, pwN (255 * k) = 1 := fun k => by
    induction k with
    | zero => rfl
    | succ k ih => rw [show 255 * (k + 1) = 255 * k + 255 by omega, pw_per, ih]
  rw [p] at q
  exact absurd q (by decide)
def srch (a : Nat) : Nat → Nat → Nat → Nat
  | _, e, 0 => e
  | x, e, f + 1 => if x = a then e else srch a (xt x) (e + 1) f
theorem srch_spec (a : Nat) : ∀ f e, srch a (pwN e) e f < e + f → pwN (srch a (pwN e) e f) = a
  | 0, e, h => by unfold srch at h; omega
  | f + 1, e, h => by
    unfold srch at h ⊢
    split
    · assumption
    · rename_i hx
      rw [if_neg hx] at h
      exact srch_spec a f (e + 1) (by show srch a (xt (pwN e)) (e + 1) f < _; omega)
theorem srch_all : ∀ a, a < 256 → 0 < a → srch a 1 0 255 < 255 := by decide +kernel
theorem pw_sur {a : Nat} (h : a < 256) (h0 : 0 < a) : ∃ e, e < 255 ∧ pwN e = a := ⟨srch a 1 0 255, srch_all a h h0, srch_spec a 255 0 (by have := srch_all a h h0; show srch a 1 0 255 < 0 + 255; omega)⟩
theorem lgN_pw {e : Nat} (he : e < 255) : ∀ n, n ≤ 255 → e < n → lgN n (pwN e) = e
  | 0, _, h => by omega
  | n + 1, hn, h => by
    show upN (lgN n) (pwN n % 256) n (pwN e) = e
    rw [Nat.mod_eq_of_lt (pwN_lt n)]
    by_cases q : pwN e = pwN n
    · rw [q, upN_s]
      exact (pw_inj he (by omega) q).symm
    · rw [upN_n q]
      exact lgN_pw he n (by omega) (by rcases Nat.lt_or_ge e n with z | z; exact z; exact absurd (by rw [show e = n by omega]) q)
theorem exT_pw {e : Nat} (he : e < 255) : exT (pwN e) = e := lgN_pw he 255 (Nat.le_refl _) he
theorem pwT_N {e : Nat} (h : e < 510) : pwT e = pwN e := by
  unfold pwT
  split
  · rfl
  · have q := pw_per (e - 255)
    rw [← q, show e - 255 + 255 = e by omega]
theorem mulT_pw {e f : Nat} (he : e < 255) (hf : f < 255) : mulT (pwN e) (pwN f) = pwN (e + f) := by
  unfold mulT
  rw [if_neg (fun q => by rcases q with q | q <;> exact pw_ne0 _ q), exT_pw he, exT_pw hf, pwT_N (by omega)]
theorem mul_0l (b : Nat) : mulT 0 b = 0 := by
  unfold mulT
  exact if_pos (Or.inl rfl)
theorem mul_0r (a : Nat) : mulT a 0 = 0 := by
  unfold mulT
  exact if_pos (Or.inr rfl)
theorem msS_0l (b : Nat) : ∀ k, msS 0 b k = 0 := fun k => by
  have z : ∀ k, msX 0 k = 0 := fun k => by
    induction k with
    | zero => rfl
    | succ k ih => exact (congrArg xt ih).trans xor_00
  induction k with
  | zero => rfl
  | succ k ih =>
    show msS 0 b k ^^^ _ = 0
    rw [ih, z]
    split <;> rfl
theorem msS_0r : ∀ a, a < 256 → msS a 0 8 = 0 := by decide +kernel
/-- the reference's product is the candidate's -/
theorem mul_eq {a b : Nat} (ha : a < 256) (hb : b < 256) : msS a b 8 = mulT a b := by
  by_cases z : a = 0
  · rw [z, mul_0l, msS_0l]
  by_cases y : b = 0
  · rw [y, mul_0r, msS_0r a ha]
  obtain ⟨e, he, rfl⟩ := pw_sur ha (by omega)
  obtain ⟨f, hf, rfl⟩ := pw_sur hb (by omega)
  rw [mulT_pw he hf, msS_pw hb, pw_add, Nat.add_comm]
theorem mul_comm (a b : Nat) : mulT a b = mulT b a := by
  unfold mulT
  rw [Nat.add_comm]
  by_cases z : a = 0 <;> by_cases y : b = 0 <;> simp [z, y]
theorem mul_xl {a a' b : Nat} (ha : a < 256) (ha' : a' < 256) (hb : b < 256) : mulT (a ^^^ a') b = mulT a b ^^^ mulT a' b := by
  rw [← mul_eq (xor_lt ha ha') hb, ← mul_eq ha hb, ← mul_eq ha' hb, msS_lin ha ha']
theorem mul_xr {a b b' : Nat} (ha : a < 256) (hb : b < 256) (hb' : b' < 256) : mulT a (b ^^^ b') = mulT a b ^^^ mulT a b' := by
  rw [mul_comm, mul_xl hb hb' ha, mul_comm b, mul_comm b']
theorem mul_1l {b : Nat} (hb : b < 256) : mulT 1 b = b := by rw [← mul_eq (by decide) hb, msS_one b hb]
theorem mul_1r {b : Nat} (hb : b < 256) : mulT b 1 = b := by rw [mul_comm, mul_1l hb]
theorem pw_mod (e : Nat) : pwN e = pwN (e % 255) := by
  have p : ∀ k r, pwN (r + 255 * k) = pwN r := fun k r => by
    induction k with
    | zero => rfl
    | succ k ih => rw [show r + 255 * (k + 1) = r + 255 * k + 255 by omega, pw_per, ih]
  have q := p (e / 255) (e % 255)
  rwa [Nat.mod_add_div] at q
theorem mulT_pw' (e f : Nat) : mulT (pwN e) (pwN f) = pwN (e + f) := by
  rw [pw_mod e, pw_mod f, mulT_pw (Nat.mod_lt _ (by decide)) (Nat.mod_lt _ (by decide)), pw_mod (e + f), pw_mod (e % 255 + f % 255), Nat.add_mod e f]
theorem mul_assoc {a b d : Nat} (ha : a < 256) (hb : b < 256) (hd : d < 256) : mulT (mulT a b) d = mulT a (mulT b d) := by
  by_cases z : a = 0
  · rw [z, mul_0l, mul_0l, mul_0l]
  by_cases y : b = 0
  · rw [y, mul_0r, mul_0l, mul_0r]
  by_cases x : d = 0
  · rw [x, mul_0r, mul_0r, mul_0r]
  obtain ⟨e, he, rfl⟩ := pw_sur ha (by omega)
  obtain ⟨f, hf, rfl⟩ := pw_sur hb (by omega)
  obtain ⟨k, hk, rfl⟩ := pw_sur hd (by omega)
  rw [mulT_pw', mulT_pw', mulT_pw', mulT_pw', Nat.add_assoc]
theorem mul_ne0 {a b : Nat} (ha : a < 256) (hb : b < 256) (h1 : a ≠ 0) (h2 : b ≠ 0) : mulT a b ≠ 0 := by
  obtain ⟨e, he, rfl⟩ := pw_sur ha (by omega)
  obtain ⟨f, hf, rfl⟩ := pw_sur hb (by omega)
  rw [mulT_pw']
  exact pw_ne0 _
theorem quo_pw {e f : Nat} (he : e < 255) (hf : f < 255) : quoT (pwN e) (pwN f) = pwN (e + 255 - f) := by
  unfold quoT
  rw [if_neg (fun q => by rcases q with q | q <;> exact pw_ne0 _ q), exT_pw he, exT_pw hf, pwT_N (by omega)]
theorem quo_0r (a : Nat) : quoT a 0 = 0 := by
  unfold quoT
  exact if_pos (Or.inr rfl)
theorem quo_0l (b : Nat) : quoT 0 b = 0 := by
  unfold quoT
  exact if_pos (Or.inl rfl)
/-- what times b is 1 -/
def ivT (b : Nat) : Nat := quoT 1 b
theorem ivT_lt (b : Nat) : ivT b < 256 := quoT_lt _ _
theorem quo_mul {a b : Nat} (ha : a < 256) (hb : b < 256) : quoT a b = mulT a (ivT b) := by
  unfold ivT
  by_cases y : b = 0
  · rw [y, quo_0r, quo_0r, mul_0r]
  by_cases z : a = 0
  · rw [z, quo_0l, mul_0l]
  obtain ⟨e, he, rfl⟩ := pw_sur ha (by omega)
  obtain ⟨f, hf, rfl⟩ := pw_sur hb (by omega)
  have q := quo_pw (e := 0) (f := f) (by decide) hf
  rw [quo_pw he hf, show quoT 1 (pwN f) = pwN (0 + 255 - f) from q, mulT_pw']
  congr 1
  omega
theorem mul_iv {b : Nat} (hb : b < 256) (h : b ≠ 0) : mulT b (ivT b) = 1 := by
  rw [← quo_mul hb hb]
  obtain ⟨f, hf, rfl⟩ := pw_sur hb (by omega)
  rw [quo_pw hf hf, show f + 255 - f = 255 by omega, pw_255]
/-- b to the power k -/
def pwB (b : Nat) : Nat → Nat
  | 0 => 1
  | k + 1 => mulT (pwB b k) b
theorem pwB_lt (b : Nat) : ∀ k, pwB b k < 256
  | 0 => show 1 < 256 by decide
  | k + 1 => mulT_lt _ _
theorem pwB_iv {b : Nat} (hb : b < 256) : pwB b 254 = ivT b := by
  by_cases y : b = 0
  · subst y
    exact (mul_0r _).trans (quo_0r 1).symm
  obtain ⟨f, hf, rfl⟩ := pw_sur hb (by omega)
  have p : ∀ k, pwB (pwN f) k = pwN (f * k) := fun k => by
    induction k with
    | zero => rfl
    | succ k ih =>
      show mulT (pwB (pwN f) k) (pwN f) = _
      rw [ih, mulT_pw', Nat.mul_succ]
  have q := quo_pw (e := 0) (f := f) (by decide) hf
  rw [p]
  show _ = quoT 1 (pwN f)
  rw [show quoT 1 (pwN f) = pwN (0 + 255 - f) from q, pw_mod (f * 254), pw_mod (0 + 255 - f)]
  congr 1
  rcases Nat.eq_zero_or_pos f with z | z
  · subst z; rfl
  · rw [show f * 254 = (255 - f) + 255 * (f - 1) by omega, Nat.add_mul_mod_self_left]
theorem shl1 : ∀ x, x < 256 → nI x <<< (nI 1 &&& 31) = nI (2 * x) := by decide +kernel
theorem xt_le {x : Nat} (h : x ≤ 127) : 2 * x ^^^ 0 = xt x := by
  unfold xt
  rw [if_pos (by omega), Nat.xor_zero]
theorem xt_gt {x : Nat} (h : 127 < x) : 2 * x ^^^ 285 = xt x := by
  unfold xt
  rw [if_neg (by omega)]
