-- ===== one node of the two states: what holds between them, and what each doing at a node keeps =====
theorem rx_t (i o : Nat) : rx i o true = 12 * i + 2 * o + 1 := by
  show 2 * (6 * i + o) + 1 = _
  omega
theorem rx_f (i o : Nat) : rx i o false = 12 * i + 2 * o := by
  show 2 * (6 * i + o) + 0 = _
  omega
theorem rx_inj {i j o q : Nat} {z y : Bool} (ho : o < 6) (hq : q < 6) (h : rx i o z = rx j q y) : i = j ∧ o = q ∧ z = y := by
  cases z <;> cases y <;> simp only [rx_t, rx_f] at h
  · exact ⟨by omega, by omega, rfl⟩
  · omega
  · omega
  · exact ⟨by omega, by omega, rfl⟩
theorem sp_def (c : CS) (i o : Nat) : sp c i o = 2 * o + 1 - (if c.sw i o = true then 1 else 0) := by
  unfold sp
  split <;> omega
theorem rp_def (c : CS) (i o : Nat) : rp c i o = 2 * o + (if c.sw i o = true then 1 else 0) := rfl
theorem hq_t (c : CS) (i o : Nat) : hq c i o true = sp c i o := rfl
theorem hq_f (c : CS) (i o : Nat) : hq c i o false = rp c i o := rfl
theorem hq_div (c : CS) (i o : Nat) (z : Bool) : hq c i o z / 2 = o := by
  cases z
  · rw [hq_f, rp_def]; split <;> omega
  · rw [hq_t, sp_def]; split <;> omega
theorem hq_lt {c : CS} {i o : Nat} {z : Bool} (ho : o < 6) : hq c i o z < 12 := by
  have := hq_div c i o z
  omega
theorem rs_ne (c : CS) (i o : Nat) : rp c i o ≠ sp c i o := by
  rw [rp_def, sp_def]; split <;> omega
theorem hq_inj {c : CS} {i o q : Nat} {z y : Bool} (h : hq c i o z = hq c i q y) : o = q ∧ z = y := by
  have e : o = q := by rw [← hq_div c i o z, h, hq_div]
  subst e
  refine ⟨rfl, ?_⟩
  cases z <;> cases y
  · rfl
  · exact absurd h (rs_ne c i o)
  · exact absurd h.symm (rs_ne c i o)
  · rfl
theorem hq_all (c : CS) (i : Nat) {p : Nat} : ∃ z, p = hq c i (p / 2) z := by
  rcases Nat.lt_or_ge (p % 2) 1 with q | q
  · by_cases s : c.sw i (p / 2) = true
    · exact ⟨true, by rw [hq_t, sp_def, if_pos s]; omega⟩
    · exact ⟨false, by rw [hq_f, rp_def, if_neg s]; omega⟩
  · by_cases s : c.sw i (p / 2) = true
    · exact ⟨false, by rw [hq_f, rp_def, if_pos s]; omega⟩
    · exact ⟨true, by rw [hq_t, sp_def, if_neg s]; omega⟩
/-- the candidate's holding p of node i and the reference's record r tell the same -/
def Hd (c : CS) (m : MS) (i p r : Nat) : Prop := m.has r = decide (0 < c.hver i p) ∧ (0 < c.hver i p → m.ver r = c.hver i p ∧ m.size r = c.hbyt i p ∧ ∀ s, s < c.hstr i p → m.blk (8 * r + s) = c.hpl i p s)
def Hi (c : CS) (i p : Nat) : Prop := (c.hver i p = 0 → c.hbyt i p = 0) ∧ c.hstr i p = stp (c.hbyt i p) ∧ c.hbyt i p ≤ 240 ∧ ∀ s, s < c.hstr i p → c.takn i (c.hpl i p s) = true
def Ds (c : CS) (i : Nat) : Prop := ∀ p q s t, p < 12 → q < 12 → s < c.hstr i p → t < c.hstr i q → c.hpl i p s = c.hpl i q t → p = q ∧ s = t
def Nd (c : CS) (m : MS) (i : Nat) : Prop := c.live i = (!m.fail i) ∧ c.sent i = m.sent i ∧ (∀ b, b < 40 → m.used (40 * i + b) = c.takn i b) ∧ (∀ b k, b < 40 → k < 8 → m.byts (8 * (40 * i + b) + k) = c.data i (b * 8 + k)) ∧ (∀ o z, o < 6 → Hd c m i (hq c i o z) (rx i o z)) ∧ (∀ p, p < 12 → Hi c i p) ∧ Ds c i
/-- node i is as it was -/
def sC (c c' : CS) (i : Nat) : Prop := c'.live i = c.live i ∧ c'.sent i = c.sent i ∧ c'.takn i = c.takn i ∧ c'.data i = c.data i ∧ c'.hver i = c.hver i ∧ c'.hbyt i = c.hbyt i ∧ c'.hstr i = c.hstr i ∧ c'.hpl i = c.hpl i ∧ c'.sw i = c.sw i
def sM (m m' : MS) (i : Nat) : Prop := m'.fail i = m.fail i ∧ m'.sent i = m.sent i ∧ (∀ b, b < 40 → m'.used (40 * i + b) = m.used (40 * i + b)) ∧ (∀ a, a < 320 → m'.byts (320 * i + a) = m.byts (320 * i + a)) ∧ ∀ o z, o < 6 → m'.has (rx i o z) = m.has (rx i o z) ∧ m'.ver (rx i o z) = m.ver (rx i o z) ∧ m'.size (rx i o z) = m.size (rx i o z) ∧ ∀ s, s < 8 → m'.blk (8 * rx i o z + s) = m.blk (8 * rx i o z + s)
theorem sC.rf (c : CS) (i : Nat) : sC c c i := ⟨rfl, rfl, rfl, rfl, rfl, rfl, rfl, rfl, rfl⟩
theorem sC.tr {a b d : CS} {i : Nat} (h : sC a b i) (k : sC b d i) : sC a d i := ⟨k.1.trans h.1, k.2.1.trans h.2.1, k.2.2.1.trans h.2.2.1, k.2.2.2.1.trans h.2.2.2.1, k.2.2.2.2.1.trans h.2.2.2.2.1, k.2.2.2.2.2.1.trans h.2.2.2.2.2.1, k.2.2.2.2.2.2.1.trans h.2.2.2.2.2.2.1, k.2.2.2.2.2.2.2.1.trans h.2.2.2.2.2.2.2.1, k.2.2.2.2.2.2.2.2.trans h.2.2.2.2.2.2.2.2⟩
theorem sM.rf (m : MS) (i : Nat) : sM m m i := ⟨rfl, rfl, fun _ _ => rfl, fun _ _ => rfl, fun _ _ _ => ⟨rfl, rfl, rfl, fun _ _ => rfl⟩⟩
theorem sM.tr {a b d : MS} {i : Nat} (h : sM a b i) (k : sM b d i) : sM a d i := ⟨k.1.trans h.1, k.2.1.trans h.2.1, fun x hx => (k.2.2.1 x hx).trans (h.2.2.1 x hx), fun x hx => (k.2.2.2.1 x hx).trans (h.2.2.2.1 x hx), fun o z ho => ⟨(k.2.2.2.2 o z ho).1.trans (h.2.2.2.2 o z ho).1, (k.2.2.2.2 o z ho).2.1.trans (h.2.2.2.2 o z ho).2.1, (k.2.2.2.2 o z ho).2.2.1.trans (h.2.2.2.2 o z ho).2.2.1, fun s hs => ((k.2.2.2.2 o z ho).2.2.2 s hs).trans ((h.2.2.2.2 o z ho).2.2.2 s hs)⟩⟩
theorem hq_sC {c c' : CS} {i : Nat} (h : sC c c' i) (o : Nat) (z : Bool) : hq c' i o z = hq c i o z := by
  unfold hq sp rp
  rw [h.2.2.2.2.2.2.2.2]
theorem Nd_frame {c c' : CS} {m m' : MS} {i : Nat} (hc : CI c) (h : Nd c m i) (k1 : sC c c' i) (k2 : sM m m' i) : Nd c' m' i := by
  obtain ⟨h1, h2, h3, h4, h5, h6, h7⟩ := h
  obtain ⟨a1, a2, a3, a4, a5, a6, a7, a8, a9⟩ := id k1
  obtain ⟨b1, b2, b3, b4, b5⟩ := k2
  refine ⟨by rw [a1, b1]; exact h1, by rw [a2, b2]; exact h2, fun b hb => by rw [b3 b hb, a3]; exact h3 b hb, fun b k hb hk => ?_, fun o z ho => ?_, fun p hp => ?_, ?_⟩
  · rw [show 8 * (40 * i + b) + k = 320 * i + (8 * b + k) by omega, b4 _ (by omega), a4, ← h4 b k hb hk]
    congr 1
    omega
  · rw [hq_sC k1]
    obtain ⟨g1, g2⟩ := h5 o z ho
    obtain ⟨f1, f2, f3, f4⟩ := b5 o z ho
    unfold Hd
    rw [a5, a6, a7, a8, f1, f2, f3]
    refine ⟨g1, fun hv => ⟨(g2 hv).1, (g2 hv).2.1, fun s hs => ?_⟩⟩
    rw [f4 s (Nat.lt_of_lt_of_le hs (hc i _).1)]
    exact (g2 hv).2.2 s hs
  · unfold Hi
    rw [a3, a5, a6, a7, a8]
    exact h6 p hp
  · unfold Ds
    rw [a7, a8]
    exact h7
-- giving a holding up
theorem guT_at (T : Nat → Bool) (P : Nat → Nat) : ∀ n b, guT T P n b = true ↔ T b = true ∧ ∀ s, s < n → P s ≠ b
  | 0, b => ⟨fun h => ⟨h, fun s hs => by omega⟩, fun h => h.1⟩
  | n + 1, b => by
    show upN (guT T P n) (P n) false b = true ↔ _
    by_cases e : b = P n
    · subst e
      rw [upN_s]
      exact ⟨fun h => (by cases h), fun h => absurd rfl (h.2 n (by omega))⟩
    · rw [upN_n e, guT_at T P n b]
      refine and_congr_right (fun _ => ⟨fun h s hs => ?_, fun h s hs => h s (by omega)⟩)
      rcases Nat.lt_or_ge s n with q | q
      · exact h s q
      · rw [show s = n by omega]; exact fun z => e z.symm
theorem mguU_at {U : Nat → Bool} {B P : Nat → Nat} {T : Nat → Bool} {i : Nat} (hU : ∀ b, b < 40 → U (40 * i + b) = T b) : ∀ n, (∀ s, s < n → B s = P s) → ∀ b, b < 40 → mguU U B i n (40 * i + b) = guT T P n b
  | 0, _, b, hb => hU b hb
  | n + 1, hB, b, hb => by
    show upN (mguU U B i n) (40 * i + B n) false (40 * i + b) = upN (guT T P n) (P n) false b
    rw [hB n (by omega)]
    by_cases e : b = P n
    · subst e
      rw [upN_s, upN_s]
    · rw [upN_n e, upN_n (by omega)]
      exact mguU_at hU n (fun s hs => hB s (by omega)) b hb
theorem mguU_ne {U : Nat → Bool} {B : Nat → Nat} {i j : Nat} (hj : j ≠ i) (hB : ∀ s, B s < 40) : ∀ n b, b < 40 → mguU U B i n (40 * j + b) = U (40 * j + b)
  | 0, _, _ => rfl
  | n + 1, b, hb => by
    have := hB n
    show upN (mguU U B i n) (40 * i + B n) false (40 * j + b) = _
    rw [upN_n (by omega), mguU_ne hj hB n b hb]
theorem sC_gu {c : CS} {i p j : Nat} (hj : j ≠ i) : sC c (guC c i p) j := ⟨rfl, rfl, upN_n hj, rfl, upN_n hj, upN_n hj, upN_n hj, rfl, rfl⟩
theorem sM_gu {m : MS} {i j o : Nat} {z : Bool} (hm : MI m) (ho : o < 6) (hj : j ≠ i) : sM m (mgu m i (rx i o z)) j := by
  unfold mgu
  split
  · refine ⟨rfl, rfl, fun b hb => mguU_ne hj (fun s => hm.2.2 _) _ b hb, fun _ _ => rfl, fun o' z' ho' => ⟨?_, rfl, rfl, fun _ _ => rfl⟩⟩
    exact upN_n (fun e => hj (rx_inj ho' ho e).1)
  · exact sM.rf m j
theorem Nd_gu {c : CS} {m : MS} {i o : Nat} {z : Bool} (ho : o < 6) (hc : CI c) (h : Nd c m i) : Nd (guC c i (hq c i o z)) (mgu m i (rx i o z)) i := by
  obtain ⟨h1, h2, h3, h4, h5, h6, h7⟩ := id h
  have hp := hq_lt (c := c) (i := i) (z := z) ho
  obtain ⟨g1, g2⟩ := h5 o z ho
  obtain ⟨j1, j2, j3, j4⟩ := h6 _ hp
  by_cases hv : 0 < c.hver i (hq c i o z)
  · have hh : m.has (rx i o z) = true := by rw [g1]; exact decide_eq_true hv
    obtain ⟨f1, f2, f3⟩ := g2 hv
    have hst : stp (m.size (rx i o z)) = c.hstr i (hq c i o z) := by rw [f2, j2]
    rw [show mgu m i (rx i o z) = mguC m i (rx i o z) from if_pos hh]
    unfold mguC
    rw [hst]
    refine ⟨h1, h2, fun b hb => ?_, h4, fun o' z' ho' => ?_, fun p hp' => ?_, ?_⟩
    · show mguU m.used (fun s => m.blk (8 * rx i o z + s)) i (c.hstr i (hq c i o z)) (40 * i + b) = upN c.takn i (guT (c.takn i) (c.hpl i (hq c i o z)) (c.hstr i (hq c i o z))) i b
      rw [upN_s]
      exact mguU_at h3 _ f3 b hb
    · show Hd (guC c i (hq c i o z)) _ i (hq c i o' z') (rx i o' z')
      obtain ⟨y1, y2⟩ := h5 o' z' ho'
      by_cases e : hq c i o' z' = hq c i o z
      · obtain ⟨rfl, rfl⟩ := hq_inj e
        have ev : (guC c i (hq c i o' z')).hver i (hq c i o' z') = 0 := up2_s
        unfold Hd
        rw [ev]
        exact ⟨upN_s, fun q => absurd q (Nat.lt_irrefl 0)⟩
      · have er : rx i o' z' ≠ rx i o z := fun q => e (by obtain ⟨-, rfl, rfl⟩ := rx_inj ho' ho q; rfl)
        have ev : (guC c i (hq c i o z)).hver i (hq c i o' z') = c.hver i (hq c i o' z') := up2_n (fun q => e q.2)
        have eb : (guC c i (hq c i o z)).hbyt i (hq c i o' z') = c.hbyt i (hq c i o' z') := up2_n (fun q => e q.2)
        have es : (guC c i (hq c i o z)).hstr i (hq c i o' z') = c.hstr i (hq c i o' z') := up2_n (fun q => e q.2)
        unfold Hd
        rw [ev, eb, es]
        exact ⟨(upN_n er).trans y1, y2⟩
    · by_cases e : p = hq c i o z
      · have ev : (guC c i (hq c i o z)).hver i p = 0 := by rw [e]; exact up2_s
        have eb : (guC c i (hq c i o z)).hbyt i p = 0 := by rw [e]; exact up2_s
        have es : (guC c i (hq c i o z)).hstr i p = 0 := by rw [e]; exact up2_s
        unfold Hi
        rw [ev, eb, es]
        exact ⟨fun _ => rfl, rfl, by decide, fun s hs => by omega⟩
      · have ev : (guC c i (hq c i o z)).hver i p = c.hver i p := up2_n (fun q => e q.2)
        have eb : (guC c i (hq c i o z)).hbyt i p = c.hbyt i p := up2_n (fun q => e q.2)
        have es : (guC c i (hq c i o z)).hstr i p = c.hstr i p := up2_n (fun q => e q.2)
        have et : (guC c i (hq c i o z)).takn i = guT (c.takn i) (c.hpl i (hq c i o z)) (c.hstr i (hq c i o z)) := upN_s
        obtain ⟨k1, k2, k3, k4⟩ := h6 p hp'
        unfold Hi
        rw [ev, eb, es, et]
        refine ⟨k1, k2, k3, fun s hs => (guT_at _ _ _ _).mpr ⟨k4 s hs, fun t ht q => e ?_⟩⟩
        exact (h7 _ _ t s hp hp' ht hs q).1.symm
    · intro p q s t hp' hq' hs ht he
      have es : ∀ p, (guC c i (hq c i o z)).hstr i p = if p = hq c i o z then 0 else c.hstr i p := fun p => by
        by_cases e : p = hq c i o z
        · rw [if_pos e, e]; exact up2_s
        · rw [if_neg e]; exact up2_n (fun q => e q.2)
      rw [es] at hs ht
      split at hs
      · omega
      split at ht
      · omega
      exact h7 p q s t hp' hq' hs ht he
  · have hv0 : c.hver i (hq c i o z) = 0 := by omega
    have hb0 := j1 hv0
    have hs0 : c.hstr i (hq c i o z) = 0 := by rw [j2, hb0]; rfl
    have hh : m.has (rx i o z) = false := by rw [g1]; exact decide_eq_false hv
    rw [show mgu m i (rx i o z) = m from if_neg (by rw [hh]; decide)]
    refine Nd_frame hc h ⟨rfl, rfl, ?_, rfl, ?_, ?_, ?_, rfl, rfl⟩ (sM.rf m i)
    · show upN c.takn i (guT (c.takn i) (c.hpl i (hq c i o z)) (c.hstr i (hq c i o z))) i = _
      rw [upN_s, hs0]
      rfl
    · show upN c.hver i (upN (c.hver i) _ 0) i = _
      rw [upN_s, ← hv0, upN_self]
    · show upN c.hbyt i (upN (c.hbyt i) _ 0) i = _
      rw [upN_s, ← hb0, upN_self]
    · show upN c.hstr i (upN (c.hstr i) _ 0) i = _
      rw [upN_s]
      funext x
      by_cases e : x = hq c i o z
      · rw [e, upN_s, hs0]
      · rw [upN_n e]
-- taking blocks
theorem lfF_congr {T T' : Nat → Bool} : ∀ f k, (∀ b, k ≤ b → b < k + f → T b = T' b) → lfF T f k = lfF T' f k
  | 0, _, _ => rfl
  | f + 1, k, h => by
    unfold lfF
    rw [h k (Nat.le_refl _) (by omega), lfF_congr f (k + 1) (fun b h1 h2 => h b (by omega) (by omega))]
theorem lf_congr {T T' : Nat → Bool} (h : ∀ b, b < 40 → T b = T' b) : lf T = lf T' := lfF_congr 40 0 (fun b _ hb => h b (by omega))
theorem mtU_at {U : Nat → Bool} {T : Nat → Bool} {i : Nat} (hU : ∀ b, b < 40 → U (40 * i + b) = T b) : ∀ k b, b < 40 → mtU U i k (40 * i + b) = TK T k b
  | 0, b, hb => hU b hb
  | k + 1, b, hb => by
    have ih := mtU_at hU k
    have e : lf (fun b => mtU U i k (40 * i + b)) = lf (TK T k) := lf_congr ih
    show upN (mtU U i k) (40 * i + lf (fun b => mtU U i k (40 * i + b))) true (40 * i + b) = upN (TK T k) (lf (TK T k)) true b
    rw [e]
    by_cases q : b = lf (TK T k)
    · rw [q, upN_s, upN_s]
    · rw [upN_n q, upN_n (by omega), ih b hb]
theorem mtU_lf {U : Nat → Bool} {T : Nat → Bool} {i : Nat} (hU : ∀ b, b < 40 → U (40 * i + b) = T b) (k : Nat) : lf (fun b => mtU U i k (40 * i + b)) = lf (TK T k) := lf_congr (mtU_at hU k)
theorem mtU_ne {U : Nat → Bool} {i j : Nat} (hj : j ≠ i) : ∀ k, (∀ q, q < k → lf (fun b => mtU U i q (40 * i + b)) < 40) → ∀ b, b < 40 → mtU U i k (40 * j + b) = U (40 * j + b)
  | 0, _, _, _ => rfl
  | k + 1, hf, b, hb => by
    have := hf k (by omega)
    show upN (mtU U i k) (40 * i + lf (fun b => mtU U i k (40 * i + b))) true (40 * j + b) = _
    rw [upN_n (by omega), mtU_ne hj k (fun q hq => hf q (by omega)) b hb]
theorem mtP_at (U : Nat → Bool) (i r : Nat) (Q : Nat → Nat) : ∀ k a, mtP U i r Q k a = if 8 * r ≤ a ∧ a < 8 * r + k then lf (fun b => mtU U i (a - 8 * r) (40 * i + b)) else Q a
  | 0, a => by rw [if_neg (by omega)]; rfl
  | k + 1, a => by
    show upN (mtP U i r Q k) (8 * r + k) (lf (fun b => mtU U i k (40 * i + b))) a = _
    by_cases e : a = 8 * r + k
    · subst e
      rw [upN_s, if_pos (by omega), Nat.add_sub_cancel_left]
    · rw [upN_n e, mtP_at U i r Q k a]
      by_cases q : 8 * r ≤ a ∧ a < 8 * r + k
      · rw [if_pos q, if_pos (by omega)]
      · rw [if_neg q, if_neg (by omega)]
theorem PLs_at (T : Nat → Bool) (P : Nat → Nat) : ∀ k s, PLs T P k s = if s < k then lf (TK T s) else P s
  | 0, s => by rw [if_neg (by omega)]; rfl
  | k + 1, s => by
    show upN (PLs T P k) k (lf (TK T k)) s = _
    by_cases e : s = k
    · subst e
      rw [upN_s, if_pos (by omega)]
    · rw [upN_n e, PLs_at T P k s]
      by_cases q : s < k
      · rw [if_pos q, if_pos (by omega)]
      · rw [if_neg q, if_neg (by omega)]
theorem TK_at (T : Nat → Bool) : ∀ k b, TK T k b = true ↔ T b = true ∨ ∃ j, j < k ∧ lf (TK T j) = b
  | 0, b => ⟨Or.inl, fun h => by rcases h with h | ⟨j, hj, -⟩; exact h; omega⟩
  | k + 1, b => by
    show upN (TK T k) (lf (TK T k)) true b = true ↔ _
    by_cases e : b = lf (TK T k)
    · rw [e, upN_s]
      exact ⟨fun _ => Or.inr ⟨k, by omega, rfl⟩, fun _ => rfl⟩
    · rw [upN_n e, TK_at T k b]
      refine or_congr_right ⟨fun ⟨j, h1, h2⟩ => ⟨j, by omega, h2⟩, fun ⟨j, h1, h2⟩ => ?_⟩
      rcases Nat.lt_or_ge j k with q | q
      · exact ⟨j, q, h2⟩
      · exact absurd (by rw [← h2, show j = k by omega]) e
theorem TK_new {T : Nat → Bool} {k : Nat} (h : lf (TK T k) < 40) : T (lf (TK T k)) = false ∧ ∀ j, j < k → lf (TK T j) ≠ lf (TK T k) := by
  have q := (lf_spec h).1
  refine ⟨?_, fun j hj e => ?_⟩
  · rw [Bool.eq_false_iff]
    intro z
    rw [(TK_at T k _).mpr (Or.inl z)] at q
    cases q
  · rw [(TK_at T k _).mpr (Or.inr ⟨j, hj, e⟩)] at q
    cases q
theorem sC_tk {c : CS} {i p v a j : Nat} (hj : j ≠ i) : sC c (takC c i p v a) j := ⟨rfl, rfl, upN_n hj, rfl, upN_n hj, upN_n hj, upN_n hj, upN_n hj, rfl⟩
theorem sM_tk {m : MS} {i j o v a : Nat} {z : Bool} (ho : o < 6) (ha : a ≤ 240) (hj : j ≠ i) (hf : ∀ k, k < stp a → lf (fun b => mtU m.used i k (40 * i + b)) < 40) : sM m (mtk m i (rx i o z) v a) j := by
  have h8 := stp_le ha
  refine ⟨rfl, rfl, fun b hb => mtU_ne hj _ hf b hb, fun _ _ => rfl, fun o' z' ho' => ?_⟩
  have er : rx j o' z' ≠ rx i o z := fun e => hj (rx_inj ho' ho e).1
  refine ⟨upN_n er, upN_n er, upN_n er, fun s hs => ?_⟩
  show mtP m.used i (rx i o z) m.blk (stp a) (8 * rx j o' z' + s) = _
  rw [mtP_at, if_neg (by omega)]
theorem Nd_tk {c : CS} {m : MS} {i o v a : Nat} {z : Bool} (ho : o < 6) (hv : 0 < v) (ha : a ≤ 240) (h : Nd c m i) (h0 : c.hver i (hq c i o z) = 0) (hf : ∀ k, k < stp a → lf (TK (c.takn i) k) < 40) : Nd (takC c i (hq c i o z) v a) (mtk m i (rx i o z) v a) i := by
  obtain ⟨h1, h2, h3, h4, h5, h6, h7⟩ := id h
  have h8 := stp_le ha
  have hp := hq_lt (c := c) (i := i) (z := z) ho
  have ev : ∀ p, (takC c i (hq c i o z) v a).hver i p = if p = hq c i o z then v else c.hver i p := fun p => by
    by_cases e : p = hq c i o z
    · rw [if_pos e, e]; exact up2_s
    · rw [if_neg e]; exact up2_n (fun q => e q.2)
  have eb : ∀ p, (takC c i (hq c i o z) v a).hbyt i p = if p = hq c i o z then a else c.hbyt i p := fun p => by
    by_cases e : p = hq c i o z
    · rw [if_pos e, e]; exact up2_s
    · rw [if_neg e]; exact up2_n (fun q => e q.2)
  have es : ∀ p, (takC c i (hq c i o z) v a).hstr i p = if p = hq c i o z then stp a else c.hstr i p := fun p => by
    by_cases e : p = hq c i o z
    · rw [if_pos e, e]; exact up2_s
    · rw [if_neg e]; exact up2_n (fun q => e q.2)
  have el : ∀ p, (takC c i (hq c i o z) v a).hpl i p = if p = hq c i o z then PLs (c.takn i) (c.hpl i (hq c i o z)) (stp a) else c.hpl i p := fun p => by
    by_cases e : p = hq c i o z
    · rw [if_pos e, e]; exact up2_s
    · rw [if_neg e]; exact up2_n (fun q => e q.2)
  have et : (takC c i (hq c i o z) v a).takn i = TK (c.takn i) (stp a) := upN_s
  have eP : ∀ s, s < stp a → PLs (c.takn i) (c.hpl i (hq c i o z)) (stp a) s = lf (TK (c.takn i) s) := fun s hs => by rw [PLs_at, if_pos hs]
  refine ⟨h1, h2, fun b hb => ?_, h4, fun o' z' ho' => ?_, fun p hp' => ?_, ?_⟩
  · rw [et]
    exact mtU_at h3 (stp a) b hb
  · show Hd (takC c i (hq c i o z) v a) _ i (hq c i o' z') (rx i o' z')
    obtain ⟨y1, y2⟩ := h5 o' z' ho'
    have eB : ∀ s, (mtk m i (rx i o z) v a).blk (8 * rx i o' z' + s) = if 8 * rx i o z ≤ 8 * rx i o' z' + s ∧ 8 * rx i o' z' + s < 8 * rx i o z + stp a then lf (fun b => mtU m.used i (8 * rx i o' z' + s - 8 * rx i o z) (40 * i + b)) else m.blk (8 * rx i o' z' + s) := fun s => mtP_at m.used i (rx i o z) m.blk (stp a) _
    unfold Hd
    rw [ev, eb, es, el]
    by_cases e : hq c i o' z' = hq c i o z
    · rw [if_pos e, if_pos e, if_pos e, if_pos e]
      obtain ⟨rfl, rfl⟩ := hq_inj e
      refine ⟨?_, fun _ => ⟨upN_s, upN_s, fun s hs => ?_⟩⟩
      · show upN m.has (rx i o' z') true (rx i o' z') = _
        rw [upN_s, decide_eq_true hv]
      · rw [eB, if_pos (by omega), Nat.add_sub_cancel_left, mtU_lf h3, eP s hs]
    · rw [if_neg e, if_neg e, if_neg e, if_neg e]
      have er : rx i o' z' ≠ rx i o z := fun q => e (by obtain ⟨-, rfl, rfl⟩ := rx_inj ho' ho q; rfl)
      have e1 : (mtk m i (rx i o z) v a).has (rx i o' z') = m.has (rx i o' z') := upN_n er
      have e2 : (mtk m i (rx i o z) v a).ver (rx i o' z') = m.ver (rx i o' z') := upN_n er
      have e3 : (mtk m i (rx i o z) v a).size (rx i o' z') = m.size (rx i o' z') := upN_n er
      have hs8 : c.hstr i (hq c i o' z') ≤ 8 := by
        obtain ⟨-, k2, k3, -⟩ := h6 _ (hq_lt (c := c) (i := i) (z := z') ho')
        rw [k2]; exact stp_le k3
      rw [e1, e2, e3]
      refine ⟨y1, fun hv' => ⟨(y2 hv').1, (y2 hv').2.1, fun s hs => ?_⟩⟩
      rw [eB, if_neg (by omega)]
      exact (y2 hv').2.2 s hs
  · unfold Hi
    rw [ev, eb, es, el, et]
    by_cases e : p = hq c i o z
    · rw [if_pos e, if_pos e, if_pos e, if_pos e]
      refine ⟨fun q => by omega, rfl, ha, fun s hs => (TK_at _ _ _).mpr (Or.inr ⟨s, hs, (eP s hs).symm⟩)⟩
    · rw [if_neg e, if_neg e, if_neg e, if_neg e]
      obtain ⟨k1, k2, k3, k4⟩ := h6 p hp'
      exact ⟨k1, k2, k3, fun s hs => (TK_at _ _ _).mpr (Or.inl (k4 s hs))⟩
  · intro p q s t hp' hq' hs ht he
    rw [es] at hs ht
    rw [el, el] at he
    by_cases e : p = hq c i o z
    · rw [if_pos e] at hs he
      by_cases e2 : q = hq c i o z
      · rw [if_pos e2] at ht he
        rw [eP s hs, eP t ht] at he
        refine ⟨e.trans e2.symm, ?_⟩
        rcases Nat.lt_trichotomy s t with x | x | x
        · exact absurd he ((TK_new (hf t ht)).2 s x)
        · exact x
        · exact absurd he.symm ((TK_new (hf s hs)).2 t x)
      · rw [if_neg e2] at ht he
        rw [eP s hs] at he
        have := (TK_new (hf s hs)).1
        rw [he, (h6 q hq').2.2.2 t ht] at this
        cases this
    · rw [if_neg e] at hs he
      by_cases e2 : q = hq c i o z
      · rw [if_pos e2] at ht he
        rw [eP t ht] at he
        have := (TK_new (hf t ht)).1
        rw [← he, (h6 p hp').2.2.2 s hs] at this
        cases this
      · rw [if_neg e2] at ht he
        exact h7 p q s t hp' hq' hs ht he
-- the flip
theorem cpB_at (Q : Nat → Nat) {r s : Nat} (h : r ≠ s) : ∀ k, k ≤ 8 → ∀ a, cpB Q r s k a = if 8 * r ≤ a ∧ a < 8 * r + k then Q (8 * s + (a - 8 * r)) else Q a
  | 0, _, a => by rw [if_neg (by omega)]; rfl
  | k + 1, hk, a => by
    show upN (cpB Q r s k) (8 * r + k) (cpB Q r s k (8 * s + k)) a = _
    by_cases e : a = 8 * r + k
    · subst e
      rw [upN_s, if_pos (by omega), Nat.add_sub_cancel_left, cpB_at Q h k (by omega), if_neg (by omega)]
    · rw [upN_n e, cpB_at Q h k (by omega) a]
      by_cases q : 8 * r ≤ a ∧ a < 8 * r + k
      · rw [if_pos q, if_pos (by omega)]
      · rw [if_neg q, if_neg (by omega)]
theorem sC_fl {c : CS} {i o j : Nat} (hj : j ≠ i) : sC c (flC c i o) j := (sC_gu (c := c) (i := i) (p := rp c i o) hj).tr ⟨rfl, rfl, rfl, rfl, rfl, rfl, rfl, rfl, upN_n hj⟩
theorem sM_fC {m : MS} {i o j : Nat} (ho : o < 6) (hj : j ≠ i) : sM m (mfC m (rx i o false) (rx i o true)) j := by
  refine ⟨rfl, rfl, fun _ _ => rfl, fun _ _ => rfl, fun o' z' ho' => ?_⟩
  have e1 : rx j o' z' ≠ rx i o false := fun e => hj (rx_inj ho' ho e).1
  have e2 : rx j o' z' ≠ rx i o true := fun e => hj (rx_inj ho' ho e).1
  refine ⟨?_, upN_n e1, upN_n e1, fun s hs => ?_⟩
  · show upN (upN m.has (rx i o false) true) (rx i o true) false (rx j o' z') = _
    rw [upN_n e2, upN_n e1]
  · show cpB m.blk (rx i o false) (rx i o true) 8 (8 * rx j o' z' + s) = _
    rw [cpB_at _ (by rw [rx_t, rx_f]; omega) 8 (Nat.le_refl _), if_neg (by omega)]
theorem sM_fl {m : MS} {i o j : Nat} (hm : MI m) (ho : o < 6) (hj : j ≠ i) : sM m (mfl m i o) j := (sM_gu hm ho hj).tr (sM_fC ho hj)
theorem hq_sw (c : CS) (i o o' : Nat) (z : Bool) : hq (swC c i o) i o' z = if o' = o then hq c i o' (!z) else hq c i o' z := by
  by_cases e : o' = o
  · subst e
    rw [if_pos rfl]
    have es : (swC c i o').sw i o' = !c.sw i o' := up2_s
    cases z
    · show rp (swC c i o') i o' = sp c i o'
      rw [rp_def, sp_def, es]
      cases c.sw i o' <;> simp
    · show sp (swC c i o') i o' = rp c i o'
      rw [rp_def, sp_def, es]
      cases c.sw i o' <;> simp
  · rw [if_neg e]
    have es : (swC c i o).sw i o' = c.sw i o' := up2_n (fun q => e q.2)
    unfold hq sp rp
    rw [es]
theorem Nd_sw {c : CS} {m : MS} {i o : Nat} (ho : o < 6) (hc : CI c) (h : Nd c m i) (h0 : c.hver i (rp c i o) = 0) (hs : 0 < c.hver i (sp c i o)) : Nd (swC c i o) (mfC m (rx i o false) (rx i o true)) i := by
  obtain ⟨h1, h2, h3, h4, h5, h6, h7⟩ := h
  have hrs : rx i o false ≠ rx i o true := by rw [rx_t, rx_f]; omega
  obtain ⟨y1, y2⟩ := h5 o true ho
  obtain ⟨f1, f2, f3⟩ := y2 hs
  refine ⟨h1, h2, h3, h4, fun o' z' ho' => ?_, h6, h7⟩
  rw [hq_sw]
  have eB : ∀ a, (mfC m (rx i o false) (rx i o true)).blk a = if 8 * rx i o false ≤ a ∧ a < 8 * rx i o false + 8 then m.blk (8 * rx i o true + (a - 8 * rx i o false)) else m.blk a := cpB_at _ hrs 8 (Nat.le_refl _)
  by_cases e : o' = o
  · subst e
    rw [if_pos rfl]
    cases z'
    · refine ⟨?_, fun _ => ⟨upN_s.trans f1, upN_s.trans f2, fun s hs' => ?_⟩⟩
      · show upN (upN m.has (rx i o' false) true) (rx i o' true) false (rx i o' false) = decide (0 < c.hver i (sp c i o'))
        rw [upN_n hrs, upN_s, decide_eq_true hs]
      · have h8 : c.hstr i (sp c i o') ≤ 8 := (hc i _).1
        have hs'' : s < c.hstr i (sp c i o') := hs'
        rw [eB, if_pos (by omega), Nat.add_sub_cancel_left]
        exact f3 s hs''
    · refine ⟨?_, fun q => ?_⟩
      · show upN (upN m.has (rx i o' false) true) (rx i o' true) false (rx i o' true) = decide (0 < c.hver i (rp c i o'))
        rw [upN_s, h0]
        rfl
      · have q2 : 0 < c.hver i (rp c i o') := q
        omega
  · rw [if_neg e]
    obtain ⟨x1, x2⟩ := h5 o' z' ho'
    have e1 : rx i o' z' ≠ rx i o false := fun q => e (rx_inj ho' ho q).2.1
    have e2 : rx i o' z' ≠ rx i o true := fun q => e (rx_inj ho' ho q).2.1
    refine ⟨?_, fun q => ⟨(upN_n e1).trans (x2 q).1, (upN_n e1).trans (x2 q).2.1, fun s hs' => ?_⟩⟩
    · show upN (upN m.has (rx i o false) true) (rx i o true) false (rx i o' z') = _
      rw [upN_n e2, upN_n e1]
      exact x1
    · have h8 : c.hstr i (hq c i o' z') ≤ 8 := (hc i _).1
      have hs'' : s < c.hstr i (hq c i o' z') := hs'
      rw [eB, if_neg (by omega)]
      exact (x2 q).2.2 s hs''
theorem Nd_fl {c : CS} {m : MS} {i o : Nat} (ho : o < 6) (hc : CI c) (h : Nd c m i) (hs : 0 < c.hver i (sp c i o)) : Nd (flC c i o) (mfl m i o) i := by
  refine Nd_sw ho (CI_gu hc) (Nd_gu (z := false) ho hc h) ?_ ?_
  · show up2 c.hver i (rp c i o) 0 i (rp c i o) = 0
    exact up2_s
  · show 0 < up2 c.hver i (rp c i o) 0 i (sp c i o)
    rw [up2_n (fun q => rs_ne c i o q.2.symm)]
    exact hs
