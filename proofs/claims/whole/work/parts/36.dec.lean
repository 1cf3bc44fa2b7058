-- ===== decoding: what the candidate's coder makes of five shares, and what the reference's =====
theorem wrB_at (Y : Nat → Nat) (a : Nat) (V : Nat → Nat) : ∀ n x, wrB Y a V n x = if a ≤ x ∧ x < a + n then V (x - a) else Y x
  | 0, x => by rw [if_neg (by omega)]; rfl
  | n + 1, x => by
    show upN (wrB Y a V n) (a + n) (V n) x = _
    by_cases e : x = a + n
    · subst e
      rw [upN_s, if_pos (by omega), Nat.add_sub_cancel_left]
    · rw [upN_n e, wrB_at Y a V n x]
      by_cases q : a ≤ x ∧ x < a + n
      · rw [if_pos q, if_pos (by omega)]
      · rw [if_neg q, if_neg (by omega)]
theorem wrB_in {Y : Nat → Nat} {a : Nat} {V : Nat → Nat} {n k : Nat} (h : k < n) : wrB Y a V n (a + k) = V k := by
  rw [wrB_at, if_pos (by omega), Nat.add_sub_cancel_left]
theorem wrB_out {Y : Nat → Nat} {a : Nat} {V : Nat → Nat} {n x : Nat} (h : x < a ∨ a + n ≤ x) : wrB Y a V n x = Y x := by
  rw [wrB_at, if_neg (by omega)]
theorem wrB_add (Y : Nat → Nat) (a : Nat) (V : Nat → Nat) (n : Nat) : ∀ k, wrB Y a V (n + k) = wrB (wrB Y a V n) (a + n) (fun j => V (n + j)) k
  | 0 => rfl
  | k + 1 => by
    show upN (wrB Y a V (n + k)) (a + (n + k)) (V (n + k)) = upN (wrB (wrB Y a V n) (a + n) (fun j => V (n + j)) k) (a + n + k) (V (n + k))
    rw [wrB_add Y a V n k, Nat.add_assoc]
theorem mir_at (A : Nat → Nat → Nat) (r q v i j : Nat) : mirM A r q v i j = if (i = r ∧ j = q) ∨ (i = q ∧ j = r) then v else A i j := by
  unfold mirM
  by_cases e : i = q
  · subst e
    rw [upN_s]
    by_cases e2 : j = r
    · subst e2
      rw [upN_s, if_pos (Or.inr ⟨rfl, rfl⟩)]
    · rw [upN_n e2]
      by_cases e3 : i = r
      · subst e3
        rw [upN_s]
        by_cases e4 : j = i
        · exact absurd e4 e2
        · rw [upN_n e4, if_neg (fun z => by rcases z with z | z <;> exact e2 z.2)]
      · rw [upN_n e3, if_neg (fun z => by rcases z with z | z; exact e3 z.1; exact e2 z.2)]
  · rw [upN_n e]
    by_cases e3 : i = r
    · subst e3
      rw [upN_s]
      by_cases e4 : j = q
      · subst e4
        rw [upN_s, if_pos (Or.inl ⟨rfl, rfl⟩)]
      · rw [upN_n e4, if_neg (fun z => by rcases z with z | z; exact e4 z.2; exact e z.1)]
    · rw [upN_n e3, if_neg (fun z => by rcases z with z | z; exact e3 z.1; exact e z.1)]
/-- what solves for row r, column q -/
def vlC (V G : Nat → Nat → Nat) (r q : Nat) : Nat := xs (fun k => mulT (V r k) (G k q)) 5
theorem scM_at (V G A : Nat → Nat → Nat) (q : Nat) : ∀ n i j, scM V G A q n i j = if j = q ∧ i < n then vlC V G i q else if i = q ∧ j < n then vlC V G j q else A i j
  | 0, i, j => by rw [if_neg (by omega), if_neg (by omega)]; rfl
  | n + 1, i, j => by
    show mirM (scM V G A q n) n q (vlC V G n q) i j = _
    rw [mir_at, scM_at V G A q n i j]
    by_cases e1 : i = n ∧ j = q
    · obtain ⟨rfl, rfl⟩ := e1
      rw [if_pos (Or.inl ⟨rfl, rfl⟩), if_pos ⟨rfl, by omega⟩]
    · by_cases e2 : i = q ∧ j = n
      · obtain ⟨rfl, rfl⟩ := e2
        rw [if_pos (Or.inr ⟨rfl, rfl⟩)]
        by_cases e3 : j = i
        · subst e3
          rw [if_pos ⟨rfl, by omega⟩]
        · rw [if_neg (fun z => e3 z.1), if_pos ⟨rfl, by omega⟩]
      · have hn : ¬ ((i = n ∧ j = q) ∨ (i = q ∧ j = n)) := fun z => by
          rcases z with z | z
          · exact e1 z
          · exact e2 z
        rw [if_neg hn]
        by_cases a : j = q ∧ i < n
        · rw [if_pos a, if_pos ⟨a.1, by omega⟩]
        · rw [if_neg a, if_neg (fun z : j = q ∧ i < n + 1 => a ⟨z.1, by have : i ≠ n := fun y => e1 ⟨y, z.1⟩; omega⟩)]
          by_cases b : i = q ∧ j < n
          · rw [if_pos b, if_pos ⟨b.1, by omega⟩]
          · rw [if_neg b, if_neg (fun z : i = q ∧ j < n + 1 => b ⟨z.1, by have : j ≠ n := fun y => e2 ⟨z.1, y⟩; omega⟩)]
theorem slA_at (V G A : Nat → Nat → Nat) : ∀ n i j, slA V G A n i j = if i < 5 ∧ 5 ≤ j ∧ j < 5 + n then vlC V G i j else if j < 5 ∧ 5 ≤ i ∧ i < 5 + n then vlC V G j i else A i j
  | 0, i, j => by rw [if_neg (by omega), if_neg (by omega)]; rfl
  | n + 1, i, j => by
    show scM V G (slA V G A n) (5 + n) 5 i j = _
    rw [scM_at, slA_at V G A n i j]
    by_cases a : j = 5 + n ∧ i < 5
    · rw [if_pos a, if_pos (by omega), a.1]
    · rw [if_neg a]
      by_cases b : i = 5 + n ∧ j < 5
      · rw [if_pos b, if_neg (by omega), if_pos (by omega), b.1]
      · rw [if_neg b]
        by_cases d : i < 5 ∧ 5 ≤ j ∧ j < 5 + n
        · rw [if_pos d, if_pos (by omega)]
        · rw [if_neg d, if_neg (show ¬ (i < 5 ∧ 5 ≤ j ∧ j < 5 + (n + 1)) by omega)]
          by_cases f : j < 5 ∧ 5 ≤ i ∧ i < 5 + n
          · rw [if_pos f, if_pos (by omega)]
          · rw [if_neg f, if_neg (by omega)]
theorem slB_up (V G A : Nat → Nat → Nat) : ∀ n, n ≤ 5 → ∀ i j, i ≤ j → j < n → slB V G A n i j = vlC V G i j
  | 0, _, i, j, _, h => by omega
  | n + 1, hn, i, j, hij, h => by
    show scM V G (slB V G A n) n 5 i j = _
    rw [scM_at]
    by_cases a : j = n
    · rw [if_pos ⟨a, by omega⟩, a]
    · rw [if_neg (fun z => a z.1), if_neg (by omega)]
      exact slB_up V G A n (by omega) i j hij (by omega)
theorem slB_hi (V G A : Nat → Nat → Nat) {i j : Nat} (hj : 5 ≤ j) : ∀ n, n ≤ 5 → slB V G A n i j = A i j
  | 0, _ => rfl
  | n + 1, hn => by
    show scM V G (slB V G A n) n 5 i j = _
    rw [scM_at, if_neg (by omega), if_neg (by omega)]
    exact slB_hi V G A hj n (by omega)
theorem gvV_xs (A : Nat → Nat → Nat) (ck q x : Nat) : ∀ n, gvV A ck q x n = x ^^^ xs (fun j => mulT (rowT ck (5 + j)) (A (5 + j) q)) n
  | 0 => (Nat.xor_zero x).symm
  | n + 1 => by
    show gvV A ck q x n ^^^ mulT (rowT ck (5 + n)) (A (5 + n) q) = x ^^^ (xs _ n ^^^ _)
    rw [gvV_xs A ck q x n, Nat.xor_assoc]
theorem gvR_at (A : Nat → Nat → Nat) (ck : Nat) (R : Nat → Nat) : ∀ n q, gvR A ck R n q = if q < n then gvV A ck q (R q) 3 else R q
  | 0, q => by rw [if_neg (by omega)]; rfl
  | n + 1, q => by
    show upN (gvR A ck R n) n (gvV A ck n (gvR A ck R n n) 3) q = _
    by_cases e : q = n
    · subst e
      rw [upN_s, gvR_at A ck R q q, if_neg (by omega), if_pos (by omega)]
    · rw [upN_n e, gvR_at A ck R n q]
      by_cases z : q < n
      · rw [if_pos z, if_pos (by omega)]
      · rw [if_neg z, if_neg (by omega)]
theorem gvO_at (A : Nat → Nat → Nat) (ch : Nat → Nat) (G : Nat → Nat → Nat) : ∀ n k, gvO A ch G n k = if k < n then gvR A (ch k) (G k) 5 else G k
  | 0, k => by rw [if_neg (by omega)]; rfl
  | n + 1, k => by
    show upN (gvO A ch G n) n (gvR A (ch n) (gvO A ch G n n) 5) k = _
    by_cases e : k = n
    · subst e
      rw [upN_s, gvO_at A ch G k k, if_neg (by omega), if_pos (by omega)]
    · rw [upN_n e, gvO_at A ch G n k]
      by_cases z : k < n
      · rw [if_pos z, if_pos (by omega)]
      · rw [if_neg z, if_neg (by omega)]
/-- the matrix that is solved for -/
theorem slC_mat {X : CS} {B : Nat → Nat → Nat} (hG : ∀ k, k < 5 → ∀ t, t < 8 → X.giv k t = B k t) :
    (∀ i, i < 5 → ∀ t, t < 3 → (slC X 5).mat i (5 + t) = vlC X.inv B i (5 + t)) ∧ (∀ i j, i ≤ j → j < 5 → (slC X 5).mat i j = vlC X.inv (fun k q => B k q ^^^ xs (fun t => mulT (rowT (X.chos k) (5 + t)) (vlC X.inv B q (5 + t))) 3) i j) ∧ (mz X.mat → mz (slC X 5).mat) := by
  have e0 : (slC X 5).mat = slB X.inv (gvO (slA X.inv X.giv X.mat 3) X.chos X.giv 5) (slA X.inv X.giv X.mat 3) 5 := rfl
  have hv : ∀ i t, t < 8 → vlC X.inv X.giv i t = vlC X.inv B i t := fun i t ht => xs_congr 5 (fun k hk => by rw [hG k hk t ht])
  rw [e0]
  refine ⟨fun i hi t ht => ?_, fun i j hij hj => ?_, fun hz r k h1 h2 h3 h4 => ?_⟩
  · rw [slB_hi _ _ _ (by omega) 5 (Nat.le_refl _), slA_at, if_pos (by omega), hv i _ (by omega)]
  · rw [slB_up _ _ _ 5 (Nat.le_refl _) i j hij hj]
    refine xs_congr 5 (fun k hk => ?_)
    show mulT (X.inv i k) (gvO (slA X.inv X.giv X.mat 3) X.chos X.giv 5 k j) = _
    rw [gvO_at, if_pos hk, gvR_at, if_pos hj, gvV_xs, hG k hk j (by omega)]
    refine congrArg (fun z => mulT (X.inv i k) (B k j ^^^ z)) (xs_congr 3 (fun t ht => ?_))
    rw [slA_at, if_neg (by omega), if_pos (by omega), hv j _ (by omega)]
  · rw [slB_hi _ _ _ h3 5 (Nat.le_refl _), slA_at, if_neg (by omega), if_neg (by omega)]
    exact hz r k h1 h2 h3 h4
-- the reference's
theorem gE1_row (m : MS) (o s : Nat) : ∀ n i k, i < n → k < 5 → gE1 m o s n (16 * i + k) = rowT (m.chos i) k
  | 0, i, k, h, _ => by omega
  | n + 1, i, k, h, hk => by
    show wrB (wrB (gE1 m o s n) (16 * n) (rowT (m.chos n)) 5) (16 * n + 5) (fun k => gtB m o s n (5 + k)) 3 (16 * i + k) = _
    rw [wrB_out (by omega)]
    by_cases e : i = n
    · subst e
      rw [wrB_in hk]
    · rw [wrB_out (by omega)]
      exact gE1_row m o s n i k (by omega) hk
theorem gE1_rhs (m : MS) (o s : Nat) : ∀ n i t, i < n → t < 3 → gE1 m o s n (16 * i + (5 + t)) = gtB m o s i (5 + t)
  | 0, i, t, h, _ => by omega
  | n + 1, i, t, h, ht => by
    show wrB (wrB (gE1 m o s n) (16 * n) (rowT (m.chos n)) 5) (16 * n + 5) (fun k => gtB m o s n (5 + k)) 3 (16 * i + (5 + t)) = _
    by_cases e : i = n
    · subst e
      rw [show 16 * i + (5 + t) = 16 * i + 5 + t by omega, wrB_in ht]
    · rw [wrB_out (by omega), wrB_out (by omega)]
      exact gE1_rhs m o s n i t (by omega) ht
theorem gRt_at (m : MS) (o s : Nat) : ∀ n i t, i < n → t < 3 → gRt m o s n (3 * i + t) = gS1 m o s (16 * i + 5 + t)
  | 0, i, t, h, _ => by omega
  | n + 1, i, t, h, ht => by
    show wrB (gRt m o s n) (3 * n) (fun k => gS1 m o s (16 * n + 5 + k)) 3 (3 * i + t) = _
    by_cases e : i = n
    · subst e
      rw [wrB_in ht]
    · rw [wrB_out (by omega)]
      exact gRt_at m o s n i t (by omega) ht
theorem gVv_xs (m : MS) (o s i q : Nat) : ∀ n, gVv m o s i q n = gtB m o s i q ^^^ xs (fun k => mulT (rowT (m.chos i) (5 + k)) (gRt m o s 5 (3 * q + k))) n
  | 0 => (Nat.xor_zero _).symm
  | n + 1 => by
    show gVv m o s i q n ^^^ mulT (rowT (m.chos i) (5 + n)) (gRt m o s 5 (3 * q + n)) = gtB m o s i q ^^^ (xs _ n ^^^ _)
    rw [gVv_xs m o s i q n, Nat.xor_assoc]
theorem gE2_row (m : MS) (o s : Nat) : ∀ n i k, i < n → k < 5 → gE2 m o s n (16 * i + k) = rowT (m.chos i) k
  | 0, i, k, h, _ => by omega
  | n + 1, i, k, h, hk => by
    show wrB (wrB (gE2 m o s n) (16 * n) (rowT (m.chos n)) 5) (16 * n + 5) (fun q => gVv m o s n q 3) 5 (16 * i + k) = _
    rw [wrB_out (by omega)]
    by_cases e : i = n
    · subst e
      rw [wrB_in hk]
    · rw [wrB_out (by omega)]
      exact gE2_row m o s n i k (by omega) hk
theorem gE2_rhs (m : MS) (o s : Nat) : ∀ n i t, i < n → t < 5 → gE2 m o s n (16 * i + (5 + t)) = gVv m o s i t 3
  | 0, i, t, h, _ => by omega
  | n + 1, i, t, h, ht => by
    show wrB (wrB (gE2 m o s n) (16 * n) (rowT (m.chos n)) 5) (16 * n + 5) (fun q => gVv m o s n q 3) 5 (16 * i + (5 + t)) = _
    by_cases e : i = n
    · subst e
      rw [show 16 * i + (5 + t) = 16 * i + 5 + t by omega, wrB_in ht]
    · rw [wrB_out (by omega), wrB_out (by omega)]
      exact gE2_rhs m o s n i t (by omega) ht
/-- a stripe solved for by the reference, by the rows that the candidate made of the unit matrix -/
theorem gS_eq {c : CS} {m : MS} {o s : Nat} (h1 : BM c.squ) (h2 : BM c.inv) (hb : B1 m.byts) (he : B1 m.eqs) (hch : ∀ i, i < 5 → m.chos i = c.chos i) :
    (∀ i, i < 5 → ∀ t, t < 3 → gS1 m o s (16 * i + 5 + t) = vlC (ivP c 5 5).inv (gtB m o s) i (5 + t)) ∧ (∀ i, i < 5 → ∀ t, t < 5 → gS2 m o s (16 * i + 5 + t) = vlC (ivP c 5 5).inv (fun k q => gtB m o s k q ^^^ xs (fun t => mulT (rowT (c.chos k) (5 + t)) (vlC (ivP c 5 5).inv (gtB m o s) q (5 + t))) 3) i t) := by
  have a : ∀ i, i < 5 → ∀ t, t < 3 → gS1 m o s (16 * i + 5 + t) = vlC (ivP c 5 5).inv (gtB m o s) i (5 + t) := fun i hi t ht => by
    have q := (lin_eq (c := c) (w := 5) (z := 8) (E := gE1 m o s 5) (Bm := fun i t => gtB m o s i (5 + t)) (by decide) (by decide) h1 h2 (fun i hi k hk => by rw [gE1_row m o s 5 i k hi hk, hch i hi]) (fun i hi t ht => gE1_rhs m o s 5 i t hi (by omega)) (fun i t => gtB_lt hb o s i (5 + t)) 5 (Nat.le_refl _)).2 i hi t (by omega)
    rw [← Nat.add_assoc] at q
    exact q
  refine ⟨a, fun i hi t ht => ?_⟩
  have q := (lin_eq (c := c) (w := 5) (z := 10) (E := gE2 m o s 5) (Bm := fun i t => gVv m o s i t 3) (by decide) (by decide) h1 h2 (fun i hi k hk => by rw [gE2_row m o s 5 i k hi hk, hch i hi]) (fun i hi t ht => gE2_rhs m o s 5 i t hi (by omega)) (fun i t => gVv_lt hb 3) 5 (Nat.le_refl _)).2 i hi t (by omega)
  rw [← Nat.add_assoc] at q
  refine q.trans (xs_congr 5 (fun k hk => ?_))
  show mulT _ (gVv m o s k t 3) = _
  rw [gVv_xs, hch k hk]
  refine congrArg (fun z => mulT ((ivP c 5 5).inv i k) (gtB m o s k t ^^^ z)) (xs_congr 3 (fun j hj => ?_))
  rw [gRt_at m o s 5 t j ht hj, a t ht j hj]
-- what stands below the front is alike
def EB (e N : Nat) (t u : Nat → Nat) : Prop := ∀ x, x < e → x < N → t x = u x
theorem EB_in {A : Nat → Nat → Nat} {e N r k0 : Nat} {t u F : Nat → Nat} (he : e ≤ 240) (h : EB e N t u) : ∀ n, (∀ j, j < n → A r (k0 + j) = F j) → EB e (N + n) (ulI A e t N r k0 n) (wrB u N F n)
  | 0, _ => h
  | n + 1, hF => by
    have ih := EB_in (r := r) (k0 := k0) he h n (fun j hj => hF j (by omega))
    intro x hx hN
    show sbF (ulI A e t N r k0 n) e (N + n) (A r (k0 + n)) x = upN (wrB u N F n) (N + n) (F n) x
    unfold sbF
    by_cases q : x = N + n
    · subst q
      rw [if_pos ⟨hx, by omega⟩, upN_s, upN_s, hF n (by omega)]
    · rw [upN_n q]
      split
      · rw [upN_n q]; exact ih x hx (by omega)
      · exact ih x hx (by omega)
theorem EB_got {A : Nat → Nat → Nat} {e : Nat} {t : Nat → Nat} {m : MS} {o s : Nat} (he : e ≤ 240) (h : EB e (30 * s) t m.got) (h1 : ∀ i j, i ≤ j → j < 5 → A i j = gS2 m o s (16 * i + 5 + j)) (h2 : ∀ i, i < 5 → ∀ q, q < 3 → A i (5 + q) = gRt m o s 5 (3 * i + q)) : EB e (30 * (s + 1)) (ulM A e t (s * 30)) (gG2 m o s) := by
  have a : ∀ r, r ≤ 5 → EB e (30 * s + o1 r) (ulO1 A e t (s * 30) r) (gGo m o s r) := by
    intro r
    induction r with
    | zero => intro _; exact h
    | succ r ih =>
      intro hr
      have ih' := ih (by omega)
      show EB e (30 * s + (o1 r + (5 - r))) (ulI A e (ulO1 A e t (s * 30) r) (s * 30 + o1 r) r r (5 - r)) (wrB (gGo m o s r) (30 * s + o1 r) (fun j => gS2 m o s (16 * r + 5 + (r + j))) (5 - r))
      rw [← Nat.add_assoc, Nat.mul_comm s 30]
      rw [Nat.mul_comm s 30] at ih'
      exact EB_in he ih' (5 - r) (fun j hj => h1 r (r + j) (by omega) (by omega))
  have b : ∀ r, r ≤ 5 → EB e (30 * s + 15 + 3 * r) (ulO2 A e (ulO1 A e t (s * 30) 5) (s * 30 + 15) r) (wrB (gGo m o s 5) (30 * s + 15) (gRt m o s 5) (3 * r)) := by
    intro r
    induction r with
    | zero => intro _; exact a 5 (Nat.le_refl _)
    | succ r ih =>
      intro hr
      have ih' := ih (by omega)
      show EB e (30 * s + 15 + 3 * (r + 1)) (ulI A e (ulO2 A e (ulO1 A e t (s * 30) 5) (s * 30 + 15) r) (s * 30 + 15 + 3 * r) r 5 3) (wrB (gGo m o s 5) (30 * s + 15) (gRt m o s 5) (3 * r + 3))
      rw [wrB_add, show 30 * s + 15 + 3 * (r + 1) = 30 * s + 15 + 3 * r + 3 by omega, Nat.mul_comm s 30]
      rw [Nat.mul_comm s 30] at ih'
      exact EB_in he ih' 3 (fun j hj => h2 r (by omega) j hj)
  intro x hx hN
  exact b 5 (Nat.le_refl _) x hx (by omega)
theorem rdF_at (D : Nat → Nat) (b : Nat) (V : Nat → Nat) : ∀ n k, rdF D b V n k = if k < n then D (b * 8 + k) else V k
  | 0, k => by rw [if_neg (by omega)]; rfl
  | n + 1, k => by
    show upN (rdF D b V n) n (D (b * 8 + n)) k = _
    by_cases e : k = n
    · subst e
      rw [upN_s, if_pos (by omega)]
    · rw [upN_n e, rdF_at D b V n k]
      by_cases q : k < n
      · rw [if_pos q, if_pos (by omega)]
      · rw [if_neg q, if_neg (by omega)]
theorem dcK_giv (X : CS) (o s : Nat) : ∀ n k, k < n → ∀ t, t < 8 → (dcK X o s n).giv k t = X.data (X.chos k) (X.hpl (X.chos k) (rp X (X.chos k) o) s * 8 + t)
  | 0, k, h, _, _ => by omega
  | n + 1, k, h, t, ht => by
    obtain ⟨k1, k2, k3, k4, k5, k6, k7, k8, k9⟩ := dcK_same X o s n
    have ih := dcK_giv X o s n k
    have e0 : dcK X o s (n + 1) = dcO (dcK X o s n) o s n := rfl
    rw [e0]
    generalize dcK X o s n = Z at *
    show upN Z.giv n (cp8 (rdF (Z.data (Z.chos n)) (Z.hpl (Z.chos n) (rp Z (Z.chos n) o) s) Z.wire 8) (Z.giv n)) k t = _
    by_cases e : k = n
    · subst e
      have hr : rp Z (X.chos k) o = rp X (X.chos k) o := rp_eq k7 _ _
      rw [upN_s]
      unfold cp8
      rw [if_pos ht, rdF_at, if_pos ht, k8, k1, k3, hr]
    · rw [upN_n e]
      exact ih (by omega) t ht
-- the nodes chosen
theorem ct_inj {sel : Nat → Bool} {i j : Nat} (hi : sel i = true) (hj : sel j = true) (h : ct sel i = ct sel j) : i = j := by
  have key : ∀ i j, sel i = true → ct sel i = ct sel j → ¬ i < j := fun i j hi h q => by
    have a := ct_t hi
    have b := ct_mono sel (i + 1) (j - (i + 1))
    rw [show i + 1 + (j - (i + 1)) = j by omega] at b
    omega
  have := key i j hi h
  have := key j i hj h.symm
  omega
theorem chF_spec (sel : Nat → Bool) (V : Nat → Nat) (K : Nat) : ∀ n k, k < ct sel n → k < K → chF sel V K n k < n ∧ sel (chF sel V K n k) = true ∧ ct sel (chF sel V K n k) = k
  | 0, k, h, _ => by unfold ct at h; omega
  | n + 1, k, h, hK => by
    show (if sel n = true ∧ ct sel n < K then upN (chF sel V K n) (ct sel n) n else chF sel V K n) k < n + 1 ∧ sel ((if sel n = true ∧ ct sel n < K then upN (chF sel V K n) (ct sel n) n else chF sel V K n) k) = true ∧ ct sel ((if sel n = true ∧ ct sel n < K then upN (chF sel V K n) (ct sel n) n else chF sel V K n) k) = k
    by_cases q : sel n = true ∧ ct sel n < K
    · rw [if_pos q]
      by_cases e : k = ct sel n
      · rw [e, upN_s]
        exact ⟨by omega, q.1, rfl⟩
      · rw [upN_n e]
        rw [ct_t q.1] at h
        obtain ⟨a, b, d⟩ := chF_spec sel V K n k (by omega) hK
        exact ⟨by omega, b, d⟩
    · rw [if_neg q]
      have h' : k < ct sel n := by
        by_cases z : sel n = true
        · have : ¬ ct sel n < K := fun y => q ⟨z, y⟩
          rw [ct_t z] at h
          omega
        · rw [ct_f (by simpa using z)] at h
          exact h
      obtain ⟨a, b, d⟩ := chF_spec sel V K n k h' hK
      exact ⟨by omega, b, d⟩
theorem chF_eq {sel sel' : Nat → Bool} {V V' : Nat → Nat} {K n k : Nat} (hs : ∀ i, i < n → sel i = sel' i) (h : k < ct sel n) (hK : k < K) : chF sel V K n k = chF sel' V' K n k := by
  have hc : ∀ j, j ≤ n → ct sel j = ct sel' j := fun j hj => ct_congr j (fun i hi => hs i (by omega))
  obtain ⟨a1, a2, a3⟩ := chF_spec sel V K n k h hK
  obtain ⟨b1, b2, b3⟩ := chF_spec sel' V' K n k (by rw [← hc n (Nat.le_refl _)]; exact h) hK
  refine ct_inj a2 (by rw [hs _ b1]; exact b2) ?_
  rw [a3, hc _ (by omega), b3]
theorem chF_ne {sel : Nat → Bool} {V : Nat → Nat} {K n j k : Nat} (hj : j < ct sel n) (hk : k < ct sel n) (h1 : j < K) (h2 : k < K) (hne : j ≠ k) : chF sel V K n j ≠ chF sel V K n k := fun e => by
  have a := (chF_spec sel V K n j hj h1).2.2
  have b := (chF_spec sel V K n k hk h2).2.2
  rw [e, b] at a
  exact hne a.symm
