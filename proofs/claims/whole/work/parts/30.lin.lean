-- ===== linear algebra over the field: both eliminations, step by step; no pivot is 0 =====
theorem xs_congr {f g : Nat → Nat} : ∀ n, (∀ k, k < n → f k = g k) → xs f n = xs g n
  | 0, _ => rfl
  | n + 1, h => by
    show xs f n ^^^ f n = xs g n ^^^ g n
    rw [xs_congr n (fun k hk => h k (by omega)), h n (by omega)]
theorem xs_xor (f g : Nat → Nat) : ∀ n, xs (fun k => f k ^^^ g k) n = xs f n ^^^ xs g n
  | 0 => (Nat.xor_self 0).symm
  | n + 1 => by
    show xs (fun k => f k ^^^ g k) n ^^^ (f n ^^^ g n) = (xs f n ^^^ f n) ^^^ (xs g n ^^^ g n)
    rw [xs_xor f g n, xor4]
theorem xs_mul {f : Nat → Nat} {a : Nat} (ha : a < 256) (hf : ∀ k, f k < 256) : ∀ n, mulT a (xs f n) = xs (fun k => mulT a (f k)) n
  | 0 => mul_0r a
  | n + 1 => by
    show mulT a (xs f n ^^^ f n) = xs (fun k => mulT a (f k)) n ^^^ mulT a (f n)
    rw [mul_xr ha (xs_lt hf n) (hf n), xs_mul ha hf n]
theorem xs_0 {f : Nat → Nat} : ∀ n, (∀ k, k < n → f k = 0) → xs f n = 0
  | 0, _ => rfl
  | n + 1, h => by
    show xs f n ^^^ f n = 0
    rw [xs_0 n (fun k hk => h k (by omega)), h n (by omega)]
    rfl
theorem xs_one {f : Nat → Nat} {j : Nat} : ∀ n, j < n → (∀ k, k < n → k ≠ j → f k = 0) → xs f n = f j
  | 0, hj, _ => by omega
  | n + 1, hj, h => by
    show xs f n ^^^ f n = f j
    by_cases e : j = n
    · subst e
      rw [xs_0 j (fun k hk => h k (by omega) (by omega)), Nat.zero_xor]
    · rw [xs_one n (by omega) (fun k hk hne => h k (by omega) hne), h n (by omega) (fun q => e q.symm), Nat.xor_zero]
theorem quo_lt' (a b : Nat) : mulT a (ivT b) < 256 := mulT_lt _ _
theorem scF_at (x : Nat) (R : Nat → Nat) : ∀ n k, scF x R n k = if k < n then quoT (R k) x else R k
  | 0, k => by rw [if_neg (by omega)]; rfl
  | n + 1, k => by
    show upN (scF x R n) n (quoT (scF x R n n) x) k = _
    by_cases e : k = n
    · subst e
      rw [upN_s, scF_at x R k k, if_neg (by omega), if_pos (by omega)]
    · rw [upN_n e, scF_at x R n k]
      by_cases q : k < n
      · rw [if_pos q, if_pos (by omega)]
      · rw [if_neg q, if_neg (by omega)]
theorem adF_at (f : Nat) (Rp R : Nat → Nat) : ∀ n k, adF f Rp R n k = if k < n then R k ^^^ mulT f (Rp k) else R k
  | 0, k => by rw [if_neg (by omega)]; rfl
  | n + 1, k => by
    show upN (adF f Rp R n) n (adF f Rp R n n ^^^ mulT f (Rp n)) k = _
    by_cases e : k = n
    · subst e
      rw [upN_s, adF_at f Rp R k k, if_neg (by omega), if_pos (by omega)]
    · rw [upN_n e, adF_at f Rp R n k]
      by_cases q : k < n
      · rw [if_pos q, if_pos (by omega)]
      · rw [if_neg q, if_neg (by omega)]
theorem scJ_at (X : CS) (p w i k : Nat) : (scJ X p w).squ i k = (if i = p ∧ k < w then quoT (X.squ p k) (X.squ p p) else X.squ i k) ∧ (scJ X p w).inv i k = (if i = p ∧ k < w then quoT (X.inv p k) (X.squ p p) else X.inv i k) := by
  by_cases e : i = p
  · subst e
    rw [scJ_squ, scJ_inv, scF_at, scF_at]
    by_cases q : k < w
    · rw [if_pos q, if_pos q, if_pos ⟨rfl, q⟩, if_pos ⟨rfl, q⟩]; exact ⟨rfl, rfl⟩
    · rw [if_neg q, if_neg q, if_neg (fun z => q z.2), if_neg (fun z => q z.2)]; exact ⟨rfl, rfl⟩
  · rw [if_neg (fun z => e z.1), if_neg (fun z => e z.1)]
    exact ⟨congrFun (row2_squn (X := X) (i := p) (p := i) e) k, congrFun (row2_invn (X := X) (i := p) (p := i) e) k⟩
theorem clC_at (X : CS) (p w : Nat) : ∀ n i k, (clC X p w n).squ i k = (if i < n ∧ i ≠ p ∧ k < w then X.squ i k ^^^ mulT (X.squ i p) (X.squ p k) else X.squ i k) ∧ (clC X p w n).inv i k = (if i < n ∧ i ≠ p ∧ k < w then X.inv i k ^^^ mulT (X.squ i p) (X.inv p k) else X.inv i k)
  | 0, i, k => by rw [if_neg (by omega), if_neg (by omega)]; exact ⟨rfl, rfl⟩
  | n + 1, i, k => by
    have hp : ∀ k, (clC X p w n).squ p k = X.squ p k ∧ (clC X p w n).inv p k = X.inv p k := fun k => by
      have := clC_at X p w n p k
      rw [if_neg (by omega), if_neg (by omega)] at this
      exact this
    have hn : ∀ k, (clC X p w n).squ n k = X.squ n k ∧ (clC X p w n).inv n k = X.inv n k := fun k => by
      have := clC_at X p w n n k
      rw [if_neg (by omega), if_neg (by omega)] at this
      exact this
    have hf : clf (clC X p w n) p n = if n = p then 0 else X.squ n p := by
      unfold clf
      rw [(hn p).1]
    by_cases z : clf (clC X p w n) p n = 0
    · rw [clC_z z]
      by_cases e : i = n
      · subst e
        rw [(hn k).1, (hn k).2]
        by_cases q : i = p
        · rw [if_neg (by omega), if_neg (by omega)]; exact ⟨rfl, rfl⟩
        · rw [hf, if_neg q] at z
          rw [z, mul_0l, mul_0l, Nat.xor_zero, Nat.xor_zero, ite_self, ite_self]; exact ⟨rfl, rfl⟩
      · have := clC_at X p w n i k
        rw [this.1, this.2]
        by_cases q : i < n ∧ i ≠ p ∧ k < w
        · rw [if_pos q, if_pos q, if_pos ⟨by omega, q.2⟩, if_pos ⟨by omega, q.2⟩]; exact ⟨rfl, rfl⟩
        · rw [if_neg q, if_neg q, if_neg (fun y => q ⟨by omega, y.2⟩), if_neg (fun y => q ⟨by omega, y.2⟩)]; exact ⟨rfl, rfl⟩
    · rw [clC_p (by omega)]
      have hnp : n ≠ p := fun e => z (by rw [hf, if_pos e])
      have hfv : clf (clC X p w n) p n = X.squ n p := by rw [hf, if_neg hnp]
      by_cases e : i = n
      · subst e
        rw [clJ_squ, clJ_inv, adF_at, adF_at, hfv, (hn k).1, (hn k).2, (hp k).1, (hp k).2]
        by_cases q : k < w
        · rw [if_pos q, if_pos q, if_pos ⟨by omega, hnp, q⟩, if_pos ⟨by omega, hnp, q⟩]; exact ⟨rfl, rfl⟩
        · rw [if_neg q, if_neg q, if_neg (fun y => q y.2.2), if_neg (fun y => q y.2.2)]; exact ⟨rfl, rfl⟩
      · rw [show (clJ (clC X p w n) p n (clf (clC X p w n) p n) w).squ i = (clC X p w n).squ i from upN_n e, show (clJ (clC X p w n) p n (clf (clC X p w n) p n) w).inv i = (clC X p w n).inv i from upN_n e]
        have := clC_at X p w n i k
        rw [this.1, this.2]
        by_cases q : i < n ∧ i ≠ p ∧ k < w
        · rw [if_pos q, if_pos q, if_pos ⟨by omega, q.2⟩, if_pos ⟨by omega, q.2⟩]; exact ⟨rfl, rfl⟩
        · rw [if_neg q, if_neg q, if_neg (fun y => q ⟨by omega, y.2⟩), if_neg (fun y => q ⟨by omega, y.2⟩)]; exact ⟨rfl, rfl⟩
/-- a step of the elimination, on the rows' function F with pivot v, factors g -/
def eSt (F : Nat → Nat) (g : Nat → Nat) (p v i : Nat) : Nat := if i = p then mulT (F p) (ivT v) else F i ^^^ mulT (g i) (mulT (F p) (ivT v))
theorem iv_step {c : CS} {w p : Nat} (hw : p < w) (h1 : BM c.squ) (h2 : BM c.inv) {i k : Nat} (hi : i < w) (hk : k < w) :
    (ivP c w (p + 1)).squ i k = eSt (fun i => (ivP c w p).squ i k) (fun i => (ivP c w p).squ i p) p ((ivP c w p).squ p p) i ∧ (ivP c w (p + 1)).inv i k = eSt (fun i => (ivP c w p).inv i k) (fun i => (ivP c w p).squ i p) p ((ivP c w p).squ p p) i := by
  have hB := ivP_BM (n := w) h1 h2 p
  have e : ivP c w (p + 1) = clC (scJ (ivP c w p) p w) p w w := rfl
  rw [e]
  generalize ivP c w p = X at hB
  have a := clC_at (scJ X p w) p w w i k
  have b1 := scJ_at X p w i k
  have b2 := scJ_at X p w p k
  have b3 := scJ_at X p w i p
  rw [if_pos ⟨rfl, hk⟩, if_pos ⟨rfl, hk⟩, quo_mul (hB.1 _ _) (hB.1 _ _), quo_mul (hB.2 _ _) (hB.1 _ _)] at b2
  unfold eSt
  try dsimp only
  by_cases q : i = p
  · subst q
    have h0 : ¬ (i < w ∧ i ≠ i ∧ k < w) := fun z => z.2.1 rfl
    rw [if_neg h0, if_neg h0] at a
    rw [a.1, a.2, if_pos rfl, if_pos rfl]
    exact b2
  · have h0 : ¬ (i = p ∧ k < w) := fun z => q z.1
    have h1 : ¬ (i = p ∧ p < w) := fun z => q z.1
    have h2 : i < w ∧ i ≠ p ∧ k < w := ⟨hi, q, hk⟩
    rw [if_neg h0, if_neg h0] at b1
    rw [if_neg h1, if_neg h1] at b3
    rw [if_pos h2, if_pos h2] at a
    rw [a.1, a.2, b2.1, b2.2, if_neg q, if_neg q, b1.1, b1.2, b3.1]
    exact ⟨rfl, rfl⟩
theorem fillF_at (f R : Nat → Nat) : ∀ n k, fillF f R n k = if k < n then f k else R k
  | 0, k => by rw [if_neg (by omega)]; rfl
  | n + 1, k => by
    show upN (fillF f R n) n (f n) k = _
    by_cases e : k = n
    · subst e
      rw [upN_s, if_pos (by omega)]
    · rw [upN_n e, fillF_at f R n k]
      by_cases q : k < n
      · rw [if_pos q, if_pos (by omega)]
      · rw [if_neg q, if_neg (by omega)]
theorem fill2_at (F : Nat → Nat → Nat) (n : Nat) (Q : Nat → Nat → Nat) : ∀ m i k, fill2 F n Q m i k = if i < m ∧ k < n then F i k else Q i k
  | 0, i, k => by rw [if_neg (by omega)]; rfl
  | m + 1, i, k => by
    show upN (fill2 F n Q m) m (fillF (F m) (fill2 F n Q m m) n) i k = _
    by_cases e : i = m
    · subst e
      rw [upN_s, fillF_at, fill2_at F n Q i i k, if_neg (fun z : i < i ∧ k < n => absurd z.1 (Nat.lt_irrefl _))]
      by_cases q : k < n
      · rw [if_pos q, if_pos ⟨by omega, q⟩]
      · rw [if_neg q, if_neg (fun z => q z.2)]
    · rw [upN_n e, fill2_at F n Q m i k]
      by_cases q : i < m ∧ k < n
      · rw [if_pos q, if_pos ⟨by omega, q.2⟩]
      · rw [if_neg q, if_neg (fun z => q ⟨by omega, z.2⟩)]
theorem iv_base {c : CS} {w i k : Nat} (hi : i < w) (hk : k < w) : (ivP c w 0).squ i k = rowT (c.chos i) k ∧ (ivP c w 0).inv i k = idM i k := by
  have a : (ivP c w 0).squ i k = fill2 (rwM c) w c.squ w i k := rfl
  have b : (ivP c w 0).inv i k = fill2 idM w c.inv w i k := rfl
  rw [a, b, fill2_at, fill2_at, if_pos ⟨hi, hk⟩, if_pos ⟨hi, hk⟩]
  exact ⟨rfl, rfl⟩
-- the reference's
theorem nmE_at (E : Nat → Nat) (q v : Nat) : ∀ n a, nmE E q v n a = if 16 * q ≤ a ∧ a < 16 * q + n then mulT (E a) v else E a
  | 0, a => by rw [if_neg (by omega)]; rfl
  | n + 1, a => by
    show upN (nmE E q v n) (16 * q + n) (mulT (nmE E q v n (16 * q + n)) v) a = _
    by_cases e : a = 16 * q + n
    · subst e
      rw [upN_s, nmE_at E q v n, if_neg (by omega), if_pos (by omega)]
    · rw [upN_n e, nmE_at E q v n a]
      by_cases z : 16 * q ≤ a ∧ a < 16 * q + n
      · rw [if_pos z, if_pos (by omega)]
      · rw [if_neg z, if_neg (by omega)]
theorem ckE_at (E : Nat → Nat) {i q : Nat} (v : Nat) (hiq : i ≠ q) : ∀ n, n ≤ 16 → ∀ a, ckE E i q v n a = if 16 * i ≤ a ∧ a < 16 * i + n then E a ^^^ mulT v (E (16 * q + (a - 16 * i))) else E a
  | 0, _, a => by rw [if_neg (by omega)]; rfl
  | n + 1, hn, a => by
    show upN (ckE E i q v n) (16 * i + n) (ckE E i q v n (16 * i + n) ^^^ mulT v (ckE E i q v n (16 * q + n))) a = _
    by_cases e : a = 16 * i + n
    · subst e
      rw [upN_s, ckE_at E v hiq n (by omega), ckE_at E v hiq n (by omega), if_neg (by omega), if_neg (by omega), if_pos (by omega), Nat.add_sub_cancel_left]
    · rw [upN_n e, ckE_at E v hiq n (by omega) a]
      by_cases z : 16 * i ≤ a ∧ a < 16 * i + n
      · rw [if_pos z, if_pos (by omega)]
      · rw [if_neg z, if_neg (by omega)]
theorem crE_at (E : Nat → Nat) {q z : Nat} (hq : q < z) (hz : z ≤ 16) : ∀ n i k, k < z → crE E q z n (16 * i + k) = if i < n ∧ i ≠ q then E (16 * i + k) ^^^ mulT (E (16 * i + q)) (E (16 * q + k)) else E (16 * i + k)
  | 0, i, k, _ => by rw [if_neg (by omega)]; rfl
  | n + 1, i, k, hk => by
    have hp : ∀ k, k < z → crE E q z n (16 * q + k) = E (16 * q + k) := fun k hk => by rw [crE_at E hq hz n q k hk, if_neg (by omega)]
    have hn : ∀ k, k < z → crE E q z n (16 * n + k) = E (16 * n + k) := fun k hk => by rw [crE_at E hq hz n n k hk, if_neg (by omega)]
    have hf : byE (crE E q z n) q n = if n = q then 0 else E (16 * n + q) := by
      unfold byE
      rw [hn q hq]
    by_cases y : byE (crE E q z n) q n = 0
    · rw [crE_z y]
      by_cases e : i = n
      · subst e
        rw [hn k hk]
        by_cases x : i = q
        · rw [if_neg (by omega)]
        · rw [hf, if_neg x] at y
          rw [y, mul_0l, Nat.xor_zero, ite_self]
      · rw [crE_at E hq hz n i k hk]
        by_cases x : i < n ∧ i ≠ q
        · rw [if_pos x, if_pos ⟨by omega, x.2⟩]
        · rw [if_neg x, if_neg (fun u => x ⟨by omega, u.2⟩)]
    · rw [crE_p (by omega)]
      have hnq : n ≠ q := fun e => y (by rw [hf, if_pos e])
      have hfv : byE (crE E q z n) q n = E (16 * n + q) := by rw [hf, if_neg hnq]
      rw [ckE_at _ _ hnq z hz, hfv]
      by_cases e : i = n
      · subst e
        rw [if_pos (by omega), hn k hk, Nat.add_sub_cancel_left, hp k hk, if_pos ⟨by omega, hnq⟩]
      · rw [if_neg (by omega), crE_at E hq hz n i k hk]
        by_cases x : i < n ∧ i ≠ q
        · rw [if_pos x, if_pos ⟨by omega, x.2⟩]
        · rw [if_neg x, if_neg (fun u => x ⟨by omega, u.2⟩)]
theorem st_step (E : Nat → Nat) {w z p i k : Nat} (hp : p < w) (hwz : w ≤ z) (hz : z ≤ 16) (hi : i < w) (hk : k < z) :
    stE E w z (p + 1) (16 * i + k) = eSt (fun i => stE E w z p (16 * i + k)) (fun i => stE E w z p (16 * i + p)) p (stE E w z p (16 * p + p)) i := by
  show crE (nmE (stE E w z p) p (ivT (stE E w z p (16 * p + p))) z) p z w (16 * i + k) = _
  generalize stE E w z p = S
  rw [crE_at _ (by omega) hz w i k hk, nmE_at, nmE_at, nmE_at]
  unfold eSt
  try dsimp only
  by_cases e : i = p
  · subst e
    rw [if_neg (by omega), if_pos (by omega), if_pos rfl]
  · rw [if_pos ⟨hi, e⟩, if_neg (by omega), if_neg (by omega), if_pos (by omega), if_neg e]
/-- a combination of the rows of what was made of the unit matrix -/
def cmb (V : Nat → Nat → Nat) (w : Nat) (B : Nat → Nat) (i : Nat) : Nat := xs (fun k => mulT (V i k) (B k)) w
theorem cmb_step {c : CS} {w p : Nat} (hw : p < w) (h1 : BM c.squ) (h2 : BM c.inv) {B : Nat → Nat} (hB : B1 B) {i : Nat} (hi : i < w) :
    cmb (ivP c w (p + 1)).inv w B i = eSt (cmb (ivP c w p).inv w B) (fun i => (ivP c w p).squ i p) p ((ivP c w p).squ p p) i := by
  have hb := ivP_BM (n := w) h1 h2 p
  have hl : ∀ k, mulT ((ivP c w p).inv p k) (B k) < 256 := fun k => mulT_lt _ _
  have e1 : mulT (cmb (ivP c w p).inv w B p) (ivT ((ivP c w p).squ p p)) = xs (fun k => mulT (mulT ((ivP c w p).inv p k) (ivT ((ivP c w p).squ p p))) (B k)) w := by
    unfold cmb
    rw [mul_comm, xs_mul (ivT_lt _) hl]
    refine xs_congr w (fun k _ => ?_)
    rw [← mul_assoc (ivT_lt _) (hb.2 _ _) (hB _), mul_comm (ivT _)]
  unfold eSt
  try dsimp only
  by_cases e : i = p
  · subst e
    rw [if_pos rfl, e1]
    unfold cmb
    refine xs_congr w (fun k hk => ?_)
    rw [(iv_step hw h1 h2 hi hk).2]
    unfold eSt
    try dsimp only
    rw [if_pos rfl]
  · rw [if_neg e, e1, xs_mul (hb.1 _ _) (fun k => mulT_lt _ _)]
    unfold cmb
    rw [← xs_xor]
    refine xs_congr w (fun k hk => ?_)
    rw [(iv_step hw h1 h2 hi hk).2]
    unfold eSt
    try dsimp only
    rw [if_neg e, mul_xl (hb.2 _ _) (mulT_lt _ _) (hB _), mul_assoc (hb.1 _ _) (mulT_lt _ _) (hB _)]
theorem cmb_base {c : CS} {w : Nat} {B : Nat → Nat} (hB : B1 B) {i : Nat} (hi : i < w) : cmb (ivP c w 0).inv w B i = B i := by
  unfold cmb
  rw [xs_one (j := i) w hi (fun k hk hne => by rw [(iv_base hi hk).2]; unfold idM; rw [if_neg (fun e => hne e.symm), mul_0l])]
  rw [(iv_base hi hi).2]
  unfold idM
  rw [if_pos rfl, mul_1l (hB _)]
/-- the two eliminations go alike -/
theorem lin_eq {c : CS} {w z : Nat} {E : Nat → Nat} {Bm : Nat → Nat → Nat} (hwz : w ≤ z) (hz : z ≤ 16) (h1 : BM c.squ) (h2 : BM c.inv) (hE : ∀ i, i < w → ∀ k, k < w → E (16 * i + k) = rowT (c.chos i) k) (hR : ∀ i, i < w → ∀ t, w + t < z → E (16 * i + (w + t)) = Bm i t) (hB : BM Bm) :
    ∀ p, p ≤ w → (∀ i, i < w → ∀ k, k < w → stE E w z p (16 * i + k) = (ivP c w p).squ i k) ∧ (∀ i, i < w → ∀ t, w + t < z → stE E w z p (16 * i + (w + t)) = cmb (ivP c w p).inv w (fun k => Bm k t) i)
  | 0, _ => ⟨fun i hi k hk => (hE i hi k hk).trans (iv_base hi hk).1.symm, fun i hi t ht => (hR i hi t ht).trans (cmb_base (fun k => hB k t) hi).symm⟩
  | p + 1, hp => by
    obtain ⟨a, b⟩ := lin_eq hwz hz h1 h2 hE hR hB p (by omega)
    refine ⟨fun i hi k hk => ?_, fun i hi t ht => ?_⟩
    · rw [st_step E (by omega) hwz hz hi (by omega), (iv_step (by omega) h1 h2 hi hk).1]
      unfold eSt
      try dsimp only
      rw [a p (by omega) k hk, a p (by omega) p (by omega), a i hi k hk, a i hi p (by omega)]
    · rw [st_step E (by omega) hwz hz hi ht, cmb_step (by omega) h1 h2 (fun k => hB k t) hi]
      unfold eSt
      try dsimp only
      rw [b p (by omega) t ht, a p (by omega) p (by omega), b i hi t ht, a i hi p (by omega)]
-- no pivot is 0
theorem xor_self0 (a : Nat) : a ^^^ a = 0 := Nat.xor_self a
theorem xor_ne0 {a b : Nat} (h : a ≠ b) : a ^^^ b ≠ 0 := fun e => h (by
  have q : a ^^^ b ^^^ b = 0 ^^^ b := by rw [e]
  rwa [Nat.xor_assoc, Nat.xor_self, Nat.xor_zero, Nat.zero_xor] at q)
def pdT (x : Nat → Nat) (j : Nat) : Nat → Nat
  | 0 => 1
  | q + 1 => mulT (pdT x j q) (x j ^^^ x q)
theorem pdT_lt (x : Nat → Nat) (j : Nat) : ∀ q, pdT x j q < 256
  | 0 => show 1 < 256 by decide
  | q + 1 => mulT_lt _ _
theorem pdT_0 {x : Nat → Nat} {j : Nat} : ∀ q, j < q → pdT x j q = 0
  | 0, h => by omega
  | q + 1, h => by
    show mulT (pdT x j q) (x j ^^^ x q) = 0
    by_cases e : j = q
    · subst e
      rw [Nat.xor_self, mul_0r]
    · rw [pdT_0 q (by omega), mul_0l]
theorem pdT_ne {x : Nat → Nat} {j : Nat} (hx : ∀ k, x k < 256) : ∀ q, (∀ t, t < q → x j ≠ x t) → pdT x j q ≠ 0
  | 0, _ => show 1 ≠ 0 by decide
  | q + 1, h => mul_ne0 (pdT_lt x j q) (xor_lt (hx j) (hx q)) (pdT_ne hx q (fun t ht => h t (by omega))) (xor_ne0 (h q (by omega)))
/-- moments that vanish make all products vanish -/
theorem mom {u x : Nat → Nat} {pw : Nat → Nat → Nat} {n d : Nat} (hu : B1 u) (hx : ∀ k, x k < 256) (hpw : BM pw) (hs : ∀ j s, pw j (s + 1) = mulT (pw j s) (x j)) (h0 : ∀ s, s ≤ d → xs (fun j => mulT (u j) (pw j s)) n = 0) :
    ∀ q s, s + q ≤ d → xs (fun j => mulT (u j) (mulT (pw j s) (pdT x j q))) n = 0
  | 0, s, h => by
    refine Eq.trans ?_ (h0 s (by omega))
    refine xs_congr n (fun j _ => ?_)
    show mulT (u j) (mulT (pw j s) 1) = _
    rw [mul_1r (hpw j s)]
  | q + 1, s, h => by
    have a := mom hu hx hpw hs h0 q (s + 1) (by omega)
    have b := mom hu hx hpw hs h0 q s (by omega)
    have e : xs (fun j => mulT (u j) (mulT (pw j s) (pdT x j (q + 1)))) n = xs (fun j => mulT (u j) (mulT (pw j (s + 1)) (pdT x j q))) n ^^^ mulT (x q) (xs (fun j => mulT (u j) (mulT (pw j s) (pdT x j q))) n) := by
      rw [xs_mul (hx q) (fun k => mulT_lt _ _), ← xs_xor]
      refine xs_congr n (fun j _ => ?_)
      show mulT (u j) (mulT (pw j s) (mulT (pdT x j q) (x j ^^^ x q))) = _
      have hP := pdT_lt x j q
      have hW := hpw j s
      rw [mul_xr hP (hx j) (hx q), mul_xr hW (mulT_lt _ _) (mulT_lt _ _), mul_xr (hu j) (mulT_lt _ _) (mulT_lt _ _), hs j s]
      congr 1
      · rw [mul_assoc hW (hx j) hP, mul_comm (x j)]
      · rw [← mul_assoc hW hP (hx q), ← mul_assoc (hu j) (mulT_lt _ _) (hx q), mul_comm]
    rw [e, a, b, mul_0r]
    rfl
theorem piv_ne {c : CS} {w : Nat} (hw : w ≤ 8) (h1 : BM c.squ) (h2 : BM c.inv) (hc : ∀ k, k < w → c.chos k < 12) (hd : ∀ j k, j < w → k < w → j ≠ k → c.chos j ≠ c.chos k) :
    ∀ p, p ≤ w → ((∀ i, i < w → ∀ k, k < w → (ivP c w p).squ i k = cmb (ivP c w p).inv w (fun j => rowT (c.chos j) k) i) ∧ (∀ i, i < w → ∀ k, k < p → (ivP c w p).squ i k = idM i k) ∧ (∀ i, p ≤ i → i < w → ∀ j, p ≤ j → j < w → (ivP c w p).inv i j = idM i j)) ∧ (p < w → (ivP c w p).squ p p ≠ 0) := by
  -- the invariant makes the pivot
  have key : ∀ p, ((∀ i, i < w → ∀ k, k < w → (ivP c w p).squ i k = cmb (ivP c w p).inv w (fun j => rowT (c.chos j) k) i) ∧ (∀ i, i < w → ∀ k, k < p → (ivP c w p).squ i k = idM i k) ∧ (∀ i, p ≤ i → i < w → ∀ j, p ≤ j → j < w → (ivP c w p).inv i j = idM i j)) → p < w → (ivP c w p).squ p p ≠ 0 := by
    rintro p ⟨a, b, d⟩ hp h0
    have hB := ivP_BM (n := w) h1 h2 p
    have hx : ∀ k, (fun j => c.chos j % 12 + 1) k < 256 := fun k => by
      have := Nat.mod_lt (c.chos k) (show 0 < 12 by decide)
      show c.chos k % 12 + 1 < 256
      omega
    -- the powers, at all places
    have hpw : BM (fun j s => rowT (c.chos j % 12) s) := fun j s => rowT_lt _ _
    have hv : ∀ s, s ≤ p → xs (fun j => mulT ((ivP c w p).inv p j) (rowT (c.chos j % 12) s)) (p + 1) = 0 := fun s hs => by
      have e1 : (ivP c w p).squ p s = 0 := by
        by_cases e : s = p
        · rw [e]; exact h0
        · rw [b p hp s (by omega)]
          unfold idM
          rw [if_neg (fun z => e z.symm)]
      have e2 := a p hp s (by omega)
      rw [e1] at e2
      have e3 : ∀ n, p + 1 ≤ n → n ≤ w → xs (fun j => mulT ((ivP c w p).inv p j) (rowT (c.chos j) s)) n = xs (fun j => mulT ((ivP c w p).inv p j) (rowT (c.chos j) s)) (p + 1) := by
        intro n
        induction n with
        | zero => intro h _; omega
        | succ n ih =>
          intro h h'
          by_cases e : n = p
          · rw [e]
          · show xs _ n ^^^ mulT ((ivP c w p).inv p n) (rowT (c.chos n) s) = _
            rw [ih (by omega) (by omega), d p (Nat.le_refl _) hp n (by omega) (by omega)]
            unfold idM
            rw [if_neg (fun z => e z.symm), mul_0l, Nat.xor_zero]
      unfold cmb at e2
      rw [e3 w (by omega) (Nat.le_refl _)] at e2
      rw [e2]
      refine xs_congr _ (fun j hj => ?_)
      rw [Nat.mod_eq_of_lt (hc j (by omega))]
    have m := mom (u := (ivP c w p).inv p) (x := fun j => c.chos j % 12 + 1) (pw := fun j s => rowT (c.chos j % 12) s) (hB.2 p) hx hpw (fun j s => rfl) hv p 0 (by omega)
    rw [xs_one (j := p) (p + 1) (by omega) (fun k hk hne => by
      show mulT _ (mulT 1 (pdT _ k p)) = 0
      rw [pdT_0 p (by omega), mul_0r, mul_0r])] at m
    rw [d p (Nat.le_refl _) hp p (Nat.le_refl _) hp] at m
    have e4 : idM p p = 1 := if_pos rfl
    rw [e4, mul_1l (mulT_lt _ _)] at m
    have e5 : mulT 1 (pdT (fun j => c.chos j % 12 + 1) p p) = 0 := m
    rw [mul_1l (pdT_lt _ _ _)] at e5
    refine pdT_ne hx p (fun t ht => ?_) e5
    show c.chos p % 12 + 1 ≠ c.chos t % 12 + 1
    rw [Nat.mod_eq_of_lt (hc p hp), Nat.mod_eq_of_lt (hc t (by omega))]
    have := hd p t hp (by omega) (by omega)
    omega
  intro p
  induction p with
  | zero =>
    intro hp
    refine (fun z => ⟨z, key 0 z⟩) ⟨fun i hi k hk => ?_, fun i hi k hk => by omega, fun i _ hi j _ hj => (iv_base hi hj).2⟩
    rw [(iv_base hi hk).1, cmb_base (fun j => rowT_lt _ _) hi]
  | succ p ih =>
    intro hp
    obtain ⟨⟨a, b, d⟩, hne⟩ := ih (by omega)
    have hpw : p < w := by omega
    have hne' := hne hpw
    have hB := ivP_BM (n := w) h1 h2 p
    have hiv := mul_iv (hB.1 p p) hne'
    refine (fun z => ⟨z, key (p + 1) z⟩) ⟨fun i hi k hk => ?_, fun i hi k hk => ?_, fun i h3 hi j h4 hj => ?_⟩
    · rw [(iv_step hpw h1 h2 hi hk).1, cmb_step hpw h1 h2 (fun j => rowT_lt _ _) hi]
      unfold eSt
      try dsimp only
      rw [a p hpw k hk, a i hi k hk]
    · rw [(iv_step hpw h1 h2 hi (by omega)).1]
      unfold eSt
      try dsimp only
      by_cases e : k = p
      · subst e
        rw [hiv]
        unfold idM
        by_cases e2 : i = k
        · rw [if_pos e2, if_pos e2]
        · rw [if_neg e2, if_neg e2, mul_1r (hB.1 i k), Nat.xor_self]
      · have z : (ivP c w p).squ p k = 0 := by
          rw [b p hpw k (by omega)]
          exact if_neg (fun y => e y.symm)
        rw [z, mul_0l, mul_0r, Nat.xor_zero, b i hi k (by omega)]
        by_cases e2 : i = p
        · rw [if_pos e2]
          exact (if_neg (by omega)).symm
        · rw [if_neg e2]
    · rw [(iv_step hpw h1 h2 hi hj).2]
      unfold eSt
      try dsimp only
      have z : (ivP c w p).inv p j = 0 := by
        rw [d p (Nat.le_refl _) hpw j (by omega) hj]
        exact if_neg (by omega)
      rw [if_neg (by omega), z, mul_0l, mul_0r, Nat.xor_zero, d i (by omega) hi j (by omega) hj]
/-- where the reference's elimination looks for a pivot there is one -/
theorem piv_st {c : CS} {w z : Nat} {E : Nat → Nat} {Bm : Nat → Nat → Nat} (hw : w ≤ 8) (hwz : w ≤ z) (hz : z ≤ 16) (h1 : BM c.squ) (h2 : BM c.inv) (hc : ∀ k, k < w → c.chos k < 12) (hd : ∀ j k, j < w → k < w → j ≠ k → c.chos j ≠ c.chos k) (hE : ∀ i, i < w → ∀ k, k < w → E (16 * i + k) = rowT (c.chos i) k) (hR : ∀ i, i < w → ∀ t, w + t < z → E (16 * i + (w + t)) = Bm i t) (hB : BM Bm) : ∀ q, q < w → stE E w z q (16 * q + q) ≠ 0 := fun q hq => by
  rw [(lin_eq hwz hz h1 h2 hE hR hB q (by omega)).1 q hq q hq]
  exact (piv_ne hw h1 h2 hc hd q (by omega)).2 hq
