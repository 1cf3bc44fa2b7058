-- ===== the two states, whole; calls that change nothing =====
def Gi (c : CS) : Prop := (∀ i p, i < 12 → p < 12 → c.hver i p ≤ c.begun (p / 2)) ∧ (∀ i j p q, i < 12 → j < 12 → p < 12 → q < 12 → p / 2 = q / 2 → 0 < c.hver i p → c.hver i p = c.hver j q → c.hbyt i p = c.hbyt j q) ∧ (∀ i o, i < 12 → o < 6 → c.live i = true → 0 < c.hver i (sp c i o) → c.unst o = true ∧ c.hver i (sp c i o) = c.begun o) ∧ (∀ o, o < 6 → c.unst o = true → 0 < c.begun o)
def Lk (c : CS) (m : MS) : Prop := c.tape = m.tape ∧ c.tapeN = m.taped ∧ (∀ o, o < 6 → c.begun o = m.latest o) ∧ (∀ o, o < 6 → c.unst o = m.opn o) ∧ c.cut = m.cutA ∧ c.msgs = m.msgs ∧ c.syms = m.syms ∧ c.gotN = m.gotN ∧ ∀ i, i < c.gotN → c.gott i = m.got i
def mz (A : Nat → Nat → Nat) : Prop := ∀ r k, 5 ≤ r → r < 8 → 5 ≤ k → k < 8 → A r k = 0
def Iv (K : Nat) (c : CS) (m : MS) : Prop := CI c ∧ MI m ∧ B1 c.tape ∧ c.tapeN ≤ 240 ∧ c.gotN ≤ 240 ∧ (c.cut = -1 ∨ ∃ k, k < 24 ∧ c.cut = nI k) ∧ BM c.squ ∧ BC c ∧ mz c.mat ∧ B1 m.byts ∧ B1 m.eqs ∧ B1 m.right ∧ ∀ o, o < 6 → c.begun o ≤ K
def Rel (K : Nat) (c : CS) (m : MS) : Prop := (∀ i, i < 12 → Nd c m i) ∧ Gi c ∧ Lk c m ∧ Iv K c m
theorem Rel.up {K : Nat} {c : CS} {m : MS} (h : Rel K c m) : Rel (K + 1) c m := by
  obtain ⟨h1, h2, h3, a1, a2, a3, a4, a5, a6, a7, a8, a9, b1, b2, b3, b4⟩ := h
  exact ⟨h1, h2, h3, a1, a2, a3, a4, a5, a6, a7, a8, a9, b1, b2, b3, fun o ho => Nat.le_succ_of_le (b4 o ho)⟩
/-- both answer alike, and what holds between them holds again -/
def Ag (K : Nat) (c : CS) (m : MS) (P Q : MT) (As : List Value) : Prop := ∃ (v : Int32) (c' : CS) (m' : MS), (∀ (l : Launch) (g : GX) (n d : Nat), 8 ≤ d → CE l g P d 0 0 (.ref (aS g) :: As) n (hp g c m) (some (.int v)) n (hp g c' m)) ∧ (∀ (l : Launch) (g : GX) (n d : Nat), 8 ≤ d → CE l g Q d 0 0 (.ref (aM g) :: As) n (hp g c' m) (some (.int v)) n (hp g c' m')) ∧ Rel (K + 1) c' m'
theorem ct_congr {p q : Nat → Bool} : ∀ n, (∀ k, k < n → p k = q k) → ct p n = ct q n
  | 0, _ => rfl
  | n + 1, h => by
    unfold ct
    rw [ct_congr n (fun k hk => h k (by omega)), h n (by omega)]
theorem ct_imp {p q : Nat → Bool} : ∀ n, (∀ k, k < n → p k = true → q k = true) → ct p n ≤ ct q n
  | 0, _ => Nat.le_refl _
  | n + 1, h => by
    have ih := ct_imp n (fun k hk => h k (by omega))
    by_cases e : p n = true
    · rw [ct_t e, ct_t (h n (by omega) e)]; omega
    · rw [ct_f (by simpa using e)]
      have := ct_mono q n 1
      omega
theorem ct_pos {p : Nat → Bool} : ∀ n, 0 < ct p n → ∃ k, k < n ∧ p k = true
  | 0, h => by unfold ct at h; omega
  | n + 1, h => by
    by_cases e : p n = true
    · exact ⟨n, by omega, e⟩
    · rw [ct_f (by simpa using e)] at h
      obtain ⟨k, h1, h2⟩ := ct_pos n h
      exact ⟨k, by omega, h2⟩
theorem ct_ge1 {p : Nat → Bool} {n k : Nat} (hk : k < n) (h : p k = true) : 0 < ct p n := by
  have a := ct_t h
  have b := ct_mono p (k + 1) (n - (k + 1))
  rw [show k + 1 + (n - (k + 1)) = n by omega] at b
  omega
theorem ct_not (T : Nat → Bool) : ∀ n, ct (fun b => !T b) n + ct T n = n
  | 0 => rfl
  | n + 1 => by
    have := ct_not T n
    by_cases e : T n = true
    · rw [ct_t e, ct_f (p := fun b => !T b) (n := n) (by simp [e])]; omega
    · rw [ct_f (p := T) (n := n) (by simpa using e), ct_t (p := fun b => !T b) (n := n) (by simpa using e)]; omega
section RL
variable {K : Nat} {c : CS} {m : MS}
theorem Rel.nd (h : Rel K c m) {i : Nat} (hi : i < 12) : Nd c m i := h.1 i hi
theorem Rel.ci (h : Rel K c m) : CI c := h.2.2.2.1
theorem Rel.mi (h : Rel K c m) : MI m := h.2.2.2.2.1
theorem Rel.bc (h : Rel K c m) : BC c := h.2.2.2.2.2.2.2.2.2.2.1
theorem Rel.by (h : Rel K c m) : B1 m.byts := h.2.2.2.2.2.2.2.2.2.2.2.2.1
theorem Rel.hd (h : Rel K c m) {i o : Nat} (hi : i < 12) (ho : o < 6) (z : Bool) : Hd c m i (hq c i o z) (rx i o z) := (h.1 i hi).2.2.2.2.1 o z ho
theorem Rel.hi (h : Rel K c m) {i p : Nat} (hi : i < 12) (hp : p < 12) : Hi c i p := (h.1 i hi).2.2.2.2.2.1 p hp
theorem Nd_frs {i o : Nat} (hn : Nd c m i) (ho : o < 6) (v : Nat) : frs c o v i = mfr m o v i := by
  obtain ⟨g1, g2⟩ := hn.2.2.2.2.1 o false ho
  rw [hq_f] at g1 g2
  unfold frs mfr rver
  rw [hn.1, g1]
  by_cases hv : 0 < v
  · by_cases hh : 0 < c.hver i (rp c i o)
    · rw [(g2 hh).1, decide_eq_true hh, Bool.and_true]
    · rw [decide_eq_false hh, decide_eq_false (show ¬ c.hver i (rp c i o) = v by omega)]
      simp
  · rw [decide_eq_false hv]
    simp
theorem Rel.frsE (h : Rel K c m) {i o : Nat} (hi : i < 12) (ho : o < 6) (v : Nat) : frs c o v i = mfr m o v i := Nd_frs (h.1 i hi) ho v
end RL
-- the newest version, on both sides the greatest with five
theorem nwL_spec (c : CS) (o : Nat) : ∀ b, nwL c o b = 0 ∨ ∃ i, i < b ∧ rver c i o = nwL c o b ∧ 5 ≤ ct (frs c o (nwL c o b)) 12
  | 0 => Or.inl rfl
  | b + 1 => by
    unfold nwL
    split
    · rename_i q
      exact Or.inr ⟨b, by omega, rfl, q.2⟩
    · rcases nwL_spec c o b with h | ⟨i, h1, h2⟩
      · exact Or.inl h
      · exact Or.inr ⟨i, by omega, h2⟩
theorem nwL_up (c : CS) (o b : Nat) : nwL c o b ≤ nwL c o (b + 1) := by
  show _ ≤ if _ then _ else _
  split
  · rename_i q; omega
  · exact Nat.le_refl _
theorem nwL_max {c : CS} {o i : Nat} (h : 5 ≤ ct (frs c o (rver c i o)) 12) : ∀ b, i < b → rver c i o ≤ nwL c o b
  | 0, hb => by omega
  | b + 1, hb => by
    by_cases e : i = b
    · subst e
      show _ ≤ if _ then _ else _
      split
      · exact Nat.le_refl _
      · rename_i q
        rcases Nat.lt_or_ge (nwL c o i) (rver c i o) with z | z
        · exact absurd ⟨z, h⟩ q
        · exact z
    · exact Nat.le_trans (nwL_max h b (by omega)) (nwL_up c o b)
theorem frs_ver {c : CS} {o v i : Nat} (h : frs c o v i = true) : 0 < v ∧ c.live i = true ∧ rver c i o = v := by
  unfold frs at h
  simp at h
  exact ⟨h.1.1, h.1.2, h.2⟩
theorem nw_max {c : CS} {o v : Nat} (h : 5 ≤ ct (frs c o v) 12) : v ≤ nw c o := by
  obtain ⟨i, hi, hf⟩ := ct_pos 12 (show 0 < ct (frs c o v) 12 by omega)
  have e := (frs_ver hf).2.2
  rw [← e] at h ⊢
  exact nwL_max h 12 hi
theorem nw_ok {c : CS} {o : Nat} (h : 0 < nw c o) : 5 ≤ ct (frs c o (nw c o)) 12 := by
  rcases nwL_spec c o 12 with q | ⟨i, -, -, h2⟩
  · have : nw c o = 0 := q
    omega
  · exact h2
theorem mfr_ver {m : MS} {o v i : Nat} (h : mfr m o v i = true) : 0 < v ∧ m.fail i = false ∧ m.has (rx i o false) = true ∧ m.ver (rx i o false) = v := by
  unfold mfr at h
  simp at h
  exact ⟨h.1.1.1, h.1.1.2, h.1.2, h.2⟩
theorem mnL_up (m : MS) (o b : Nat) : mnL m o b ≤ mnL m o (b + 1) := by
  show _ ≤ if _ then _ else _
  split
  · rename_i q; omega
  · exact Nat.le_refl _
theorem mnL_max {m : MS} {o i : Nat} (h1 : m.fail i = false) (h2 : m.has (rx i o false) = true) (h : 5 ≤ ct (mfq m o (m.ver (rx i o false))) 12) : ∀ b, i < b → m.ver (rx i o false) ≤ mnL m o b
  | 0, hb => by omega
  | b + 1, hb => by
    by_cases e : i = b
    · subst e
      show _ ≤ if _ then _ else _
      split
      · exact Nat.le_refl _
      · rename_i q
        rcases Nat.lt_or_ge (mnL m o i) (m.ver (rx i o false)) with z | z
        · exact absurd ⟨h1, h2, z, h⟩ q
        · exact z
    · exact Nat.le_trans (mnL_max h1 h2 h b (by omega)) (mnL_up m o b)
theorem mfr_q {m : MS} {o v : Nat} (hv : 0 < v) : mfr m o v = mfq m o v := by
  funext i
  unfold mfr mfq
  rw [decide_eq_true hv, Bool.true_and]
theorem mnw_max {m : MS} {o v : Nat} (h : 5 ≤ ct (mfr m o v) 12) : v ≤ mnw m o := by
  obtain ⟨i, hi, hf⟩ := ct_pos 12 (show 0 < ct (mfr m o v) 12 by omega)
  obtain ⟨a, b, d, e⟩ := mfr_ver hf
  rw [mfr_q a] at h
  rw [← e] at h ⊢
  exact mnL_max b d h 12 hi
theorem mnw_ok {m : MS} {o : Nat} (h : 0 < mnw m o) : 5 ≤ ct (mfr m o (mnw m o)) 12 := by
  rw [mfr_q h]
  rcases mnL_spec m o 12 with q | ⟨i, -, -, -, -, h2⟩
  · have : mnw m o = 0 := q
    omega
  · exact h2
theorem nwm_of {c : CS} {m : MS} {o : Nat} (hf : ∀ i, i < 12 → ∀ v, frs c o v i = mfr m o v i) : nw c o = mnw m o := by
  have e : ∀ v, ct (frs c o v) 12 = ct (mfr m o v) 12 := fun v => ct_congr 12 (fun i hi => hf i hi v)
  apply Nat.le_antisymm
  · rcases Nat.eq_zero_or_pos (nw c o) with z | z
    · omega
    · exact mnw_max (by rw [← e]; exact nw_ok z)
  · rcases Nat.eq_zero_or_pos (mnw m o) with z | z
    · omega
    · exact nw_max (by rw [e]; exact mnw_ok z)
section RL2
variable {K : Nat} {c : CS} {m : MS}
theorem Rel.nwE (h : Rel K c m) {o : Nat} (ho : o < 6) : nw c o = mnw m o := nwm_of (fun i hi v => h.frsE hi ho v)
theorem lfF_at12 {T : Nat → Bool} {f : Nat} (h : lfF T f 0 < f) : T (lfF T f 0) = false := (lfF_spec (k := 0) (by omega)).1
theorem Rel.ffE (h : Rel K c m) {o : Nat} (ho : o < 6) : ffr c o = mff m o (mnw m o) := by
  unfold ffr mff
  rw [h.nwE ho]
  exact lfF_congr 12 0 (fun b _ hb => by rw [h.frsE (by omega) ho])
theorem Rel.nb (h : Rel K c m) {o : Nat} (ho : o < 6) (hn : 0 < nw c o) : nbS c o = szM m o := by
  have hm : 0 < mnw m o := by rw [← h.nwE ho]; exact hn
  have hl := mff_nw hm
  have hl2 : ffr c o < 12 := by rw [h.ffE ho]; exact hl
  unfold nbS szM
  rw [if_pos hl2, h.ffE ho]
  have hf : mfr m o (mnw m o) (mff m o (mnw m o)) = true := by
    have := lfF_at12 (T := fun i => !mfr m o (mnw m o) i) (f := 12) hl
    have q : (!mfr m o (mnw m o) (mff m o (mnw m o))) = false := this
    simpa using q
  have hc := hf
  rw [← h.frsE hl ho] at hc
  obtain ⟨a, b, d⟩ := frs_ver hc
  have g := (h.hd hl ho false).2
  rw [hq_f] at g
  unfold rver at d
  exact ((g (by omega)).2.1).symm
theorem Rel.us (h : Rel K c m) {i : Nat} (hi : i < 12) : usN m i = ct (c.takn i) 40 := ct_congr 40 (fun b hb => (h.1 i hi).2.2.1 b hb)
theorem Rel.fr (h : Rel K c m) {i : Nat} (hi : i < 12) : frN c i = 40 - usN m i := by
  have a := ct_not (c.takn i) 40
  rw [h.us hi]
  unfold frN
  omega
theorem Rel.lv (h : Rel K c m) : ct c.live 12 = lvM m := ct_congr 12 (fun i hi => (h.1 i hi).1)
theorem Rel.rec (h : Rel K c m) {i o w : Nat} (hi : i < 12) (ho : o < 6) (hw : w < 6) : recN c i o w = recM m i o w := by
  have key : ∀ z q, recR m (rx i o z) q = if c.hver i (hq c i o z) = 0 then (-1) else nI (if q = 0 then c.hver i (hq c i o z) else if q = 1 then c.hbyt i (hq c i o z) else c.hstr i (hq c i o z)) := fun z q => by
    obtain ⟨g1, g2⟩ := h.hd hi ho z
    obtain ⟨j1, j2, j3, j4⟩ := h.hi hi (hq_lt (c := c) (i := i) (z := z) ho)
    unfold recR
    by_cases e : c.hver i (hq c i o z) = 0
    · rw [if_pos (by rw [g1, e]; rfl), if_pos e]
    · obtain ⟨f1, f2, -⟩ := g2 (by omega)
      rw [if_neg (by rw [g1, decide_eq_true (by omega)]; decide), if_neg e, f1, f2, ← j2]
      split
      · rfl
      · split <;> rfl
  unfold recN recM
  rcases Nat.lt_or_ge w 3 with q | q
  · rw [if_pos q, decide_eq_false (by omega), key, hq_f, Nat.mod_eq_of_lt q]
  · rw [if_neg (by omega), decide_eq_true (by omega), key, hq_t, show w % 3 = w - 3 by omega]
    by_cases e : c.hver i (sp c i o) = 0
    · rw [if_pos e, if_pos e]
    · rw [if_neg e, if_neg e]
      congr 1
      by_cases a : w = 3
      · rw [if_pos a, if_pos (by omega)]
      · by_cases b : w = 4
        · rw [if_neg a, if_pos b, if_neg (by omega), if_pos (by omega)]
        · rw [if_neg a, if_neg b, if_neg (by omega), if_neg (by omega)]
/-- a stripe's block on both sides -/
theorem Rel.pl (h : Rel K c m) {i o s : Nat} {z : Bool} (hi : i < 12) (ho : o < 6) (hs : s < c.hstr i (hq c i o z)) : m.has (rx i o z) = true ∧ stp (m.size (rx i o z)) = c.hstr i (hq c i o z) ∧ m.blk (8 * rx i o z + s) = c.hpl i (hq c i o z) s ∧ c.takn i (c.hpl i (hq c i o z) s) = true := by
  obtain ⟨g1, g2⟩ := h.hd hi ho z
  obtain ⟨j1, j2, j3, j4⟩ := h.hi hi (hq_lt (c := c) (i := i) (z := z) ho)
  have hv : 0 < c.hver i (hq c i o z) := by
    rcases Nat.eq_zero_or_pos (c.hver i (hq c i o z)) with e | e
    · rw [j2, j1 e] at hs
      exact absurd hs (by unfold stp; omega)
    · exact e
  obtain ⟨f1, f2, f3⟩ := g2 hv
  exact ⟨by rw [g1]; exact decide_eq_true hv, by rw [f2, j2], f3 s hs, j4 s hs⟩
theorem Rel.plno (h : Rel K c m) {i o : Nat} {s : Int32} {z : Bool} (hi : i < 12) (ho : o < 6) (hs : inR s (c.hstr i (hq c i o z)) = false) : m.has (rx i o z) = false ∨ inR s (stp (m.size (rx i o z))) = false := by
  obtain ⟨g1, g2⟩ := h.hd hi ho z
  obtain ⟨j1, j2, j3, j4⟩ := h.hi hi (hq_lt (c := c) (i := i) (z := z) ho)
  rcases Nat.eq_zero_or_pos (c.hver i (hq c i o z)) with e | e
  · exact Or.inl (by rw [g1, e]; rfl)
  · exact Or.inr (by rw [(g2 e).2.1, ← j2]; exact hs)
theorem Rel.sy (h : Rel K c m) {i b j : Nat} (hi : i < 12) (hb : b < 40) : syF c i b j = syM m i b j := by
  unfold syF syM
  refine xs_congr 8 (fun k hk => ?_)
  rw [(h.1 i hi).2.2.2.1 b k hb hk]
end RL2
-- the calls
section AGR
variable {K : Nat} {c : CS} {m : MS}
theorem ag_times (h : Rel K c m) (x y : Int32) : Ag K c m M_S_times M_M_times [.int x, .int y] := by
  by_cases hx : inR x 256 = true
  · by_cases hy : inR y 256 = true
    · obtain ⟨a, ha, rfl⟩ := inR_of hx (by decide)
      obtain ⟨b, hb, rfl⟩ := inR_of hy (by decide)
      exact ⟨_, c, m, fun l g n d hd => k_S_times (by omega) ha hb, fun l g n d hd => k_M_times (by omega) ha hb, h.up⟩
    · exact ⟨_, c, m, fun l g n d hd => k_S_times_bad (by omega) (Or.inr (by simpa using hy)), fun l g n d hd => k_M_times_bad (by omega) (Or.inr (by simpa using hy)), h.up⟩
  · exact ⟨_, c, m, fun l g n d hd => k_S_times_bad (by omega) (Or.inl (by simpa using hx)), fun l g n d hd => k_M_times_bad (by omega) (Or.inl (by simpa using hx)), h.up⟩
theorem ag_over (h : Rel K c m) (x y : Int32) : Ag K c m M_S_over M_M_over [.int x, .int y] := by
  by_cases hx : inR x 256 = true
  · by_cases hy : inR y 256 = true
    · obtain ⟨a, ha, rfl⟩ := inR_of hx (by decide)
      obtain ⟨b, hb, rfl⟩ := inR_of hy (by decide)
      exact ⟨_, c, m, fun l g n d hd => k_S_over (by omega) ha hb, fun l g n d hd => k_M_over (by omega) ha hb, h.up⟩
    · exact ⟨_, c, m, fun l g n d hd => k_S_over_bad (by omega) (Or.inr (by simpa using hy)), fun l g n d hd => k_M_over_bad (by omega) (Or.inr (by simpa using hy)), h.up⟩
  · exact ⟨_, c, m, fun l g n d hd => k_S_over_bad (by omega) (Or.inl (by simpa using hx)), fun l g n d hd => k_M_over_bad (by omega) (Or.inl (by simpa using hx)), h.up⟩
theorem ag_rowAt (h : Rel K c m) (x y : Int32) : Ag K c m M_S_rowAt M_M_rowAt [.int x, .int y] := by
  by_cases hx : inR x 12 = true
  · by_cases hy : inR y 8 = true
    · obtain ⟨a, ha, rfl⟩ := inR_of hx (by decide)
      obtain ⟨b, hb, rfl⟩ := inR_of hy (by decide)
      exact ⟨_, c, m, fun l g n d hd => k_S_rowAt (by omega) ha hb, fun l g n d hd => k_M_rowAt (by omega) ha hb, h.up⟩
    · exact ⟨_, c, m, fun l g n d hd => k_S_rowAt_bad (by omega) (Or.inr (by simpa using hy)), fun l g n d hd => k_M_rowAt_bad (by omega) (Or.inr (by simpa using hy)), h.up⟩
  · exact ⟨_, c, m, fun l g n d hd => k_S_rowAt_bad (by omega) (Or.inl (by simpa using hx)), fun l g n d hd => k_M_rowAt_bad (by omega) (Or.inl (by simpa using hx)), h.up⟩
theorem ag_got (h : Rel K c m) (x : Int32) : Ag K c m M_S_got M_M_got [.int x] := by
  obtain ⟨-, -, ⟨-, -, -, -, -, -, -, l8, l9⟩, -, -, -, -, i5, -⟩ := id h
  by_cases hx : inR x c.gotN = true
  · obtain ⟨i, hi, rfl⟩ := inR_of hx (by omega)
    refine ⟨_, c, m, fun l g n d hd => k_S_got (by omega) hi i5, fun l g n d hd => ?_, h.up⟩
    rw [l9 i hi]
    exact k_M_got (by omega) (by rw [← l8]; exact hi) (by rw [← l8]; exact i5)
  · exact ⟨_, c, m, fun l g n d hd => k_S_got_no (by omega) (by simpa using hx), fun l g n d hd => k_M_got_no (by omega) (by rw [← l8]; exact i5) (by rw [← l8]; simpa using hx), h.up⟩
theorem ag_version (h : Rel K c m) (x : Int32) : Ag K c m M_S_version M_M_version [.int x] := by
  by_cases hx : inR x 6 = true
  · obtain ⟨o, ho, rfl⟩ := inR_of hx (by decide)
    refine ⟨_, c, m, fun l g n d hd => k_S_version (by omega) ho h.ci, fun l g n d hd => ?_, h.up⟩
    rw [h.nwE ho]
    exact k_M_version (by omega) ho h.mi
  · exact ⟨_, c, m, fun l g n d hd => k_S_version_bad (by omega) (by simpa using hx), fun l g n d hd => k_M_version_bad (by omega) (by simpa using hx), h.up⟩
theorem ag_open (h : Rel K c m) (x : Int32) : Ag K c m M_S_open M_M_open [.int x] := by
  by_cases hx : inR x 6 = true
  · obtain ⟨o, ho, rfl⟩ := inR_of hx (by decide)
    refine ⟨_, c, m, fun l g n d hd => k_S_open (by omega) ho, fun l g n d hd => ?_, h.up⟩
    rw [h.2.2.1.2.2.2.1 o ho]
    exact k_M_open (by omega) ho
  · exact ⟨_, c, m, fun l g n d hd => k_S_open_bad (by omega) (by simpa using hx), fun l g n d hd => k_M_open_bad (by omega) (by simpa using hx), h.up⟩
theorem ag_fresh (h : Rel K c m) (x y : Int32) : Ag K c m M_S_fresh M_M_fresh [.int x, .int y] := by
  by_cases hx : inR x 12 = true
  · by_cases hy : inR y 6 = true
    · obtain ⟨i, hi, rfl⟩ := inR_of hx (by decide)
      obtain ⟨o, ho, rfl⟩ := inR_of hy (by decide)
      refine ⟨_, c, m, fun l g n d hd => k_S_fresh (by omega) hi ho h.ci, fun l g n d hd => ?_, h.up⟩
      rw [h.nwE ho, h.frsE hi ho]
      exact k_M_fresh (by omega) hi ho h.mi
    · exact ⟨_, c, m, fun l g n d hd => k_S_fresh_bad (by omega) (Or.inr (by simpa using hy)), fun l g n d hd => k_M_fresh_bad (by omega) (Or.inr (by simpa using hy)), h.up⟩
  · exact ⟨_, c, m, fun l g n d hd => k_S_fresh_bad (by omega) (Or.inl (by simpa using hx)), fun l g n d hd => k_M_fresh_bad (by omega) (Or.inl (by simpa using hx)), h.up⟩
theorem ag_sent (h : Rel K c m) (x : Int32) : Ag K c m M_S_sent M_M_sent [.int x] := by
  by_cases hx : inR x 12 = true
  · obtain ⟨i, hi, rfl⟩ := inR_of hx (by decide)
    refine ⟨_, c, m, fun l g n d hd => k_S_sent (by omega) hi, fun l g n d hd => ?_, h.up⟩
    rw [(h.1 i hi).2.1]
    exact k_M_sent (by omega) hi
  · exact ⟨_, c, m, fun l g n d hd => k_S_sent_bad (by omega) (by simpa using hx), fun l g n d hd => k_M_sent_bad (by omega) (by simpa using hx), h.up⟩
theorem ag_free (h : Rel K c m) (x : Int32) : Ag K c m M_S_free M_M_free [.int x] := by
  by_cases hx : inR x 12 = true
  · obtain ⟨i, hi, rfl⟩ := inR_of hx (by decide)
    refine ⟨_, c, m, fun l g n d hd => k_S_free (by omega) hi, fun l g n d hd => ?_, h.up⟩
    rw [h.fr hi]
    exact k_M_free (by omega) hi
  · exact ⟨_, c, m, fun l g n d hd => k_S_free_bad (by omega) (by simpa using hx), fun l g n d hd => k_M_free_bad (by omega) (by simpa using hx), h.up⟩
theorem ag_record (h : Rel K c m) (x y z : Int32) : Ag K c m M_S_record M_M_record [.int x, .int y, .int z] := by
  by_cases hx : inR x 12 = true
  · by_cases hy : inR y 6 = true
    · by_cases hz : inR z 6 = true
      · obtain ⟨i, hi, rfl⟩ := inR_of hx (by decide)
        obtain ⟨o, ho, rfl⟩ := inR_of hy (by decide)
        obtain ⟨w, hw, rfl⟩ := inR_of hz (by decide)
        refine ⟨_, c, m, fun l g n d hd => k_S_record (by omega) hi ho hw h.ci, fun l g n d hd => ?_, h.up⟩
        rw [h.rec hi ho hw]
        exact k_M_record (by omega) hi ho hw h.mi
      · exact ⟨_, c, m, fun l g n d hd => k_S_record_bad (by omega) (Or.inr (Or.inr (by simpa using hz))), fun l g n d hd => k_M_record_bad (by omega) (Or.inr (Or.inr (by simpa using hz))), h.up⟩
    · exact ⟨_, c, m, fun l g n d hd => k_S_record_bad (by omega) (Or.inr (Or.inl (by simpa using hy))), fun l g n d hd => k_M_record_bad (by omega) (Or.inr (Or.inl (by simpa using hy))), h.up⟩
  · exact ⟨_, c, m, fun l g n d hd => k_S_record_bad (by omega) (Or.inl (by simpa using hx)), fun l g n d hd => k_M_record_bad (by omega) (Or.inl (by simpa using hx)), h.up⟩
theorem ag_block (h : Rel K c m) (x y s : Int32) (z : Bool) : Ag K c m M_S_block M_M_block [.int x, .int y, .int s, .int (b2 z)] := by
  by_cases hx : inR x 12 = true
  · by_cases hy : inR y 6 = true
    · obtain ⟨i, hi, rfl⟩ := inR_of hx (by decide)
      obtain ⟨o, ho, rfl⟩ := inR_of hy (by decide)
      by_cases hs : inR s (c.hstr i (hq c i o z)) = true
      · have h8 := (h.ci i (hq c i o z)).1
        obtain ⟨k, hk, rfl⟩ := inR_of hs (by omega)
        obtain ⟨a1, a2, a3, -⟩ := h.pl hi ho hk
        refine ⟨_, c, m, fun l g n d hd => k_S_block (by omega) hi ho h.ci hk, fun l g n d hd => ?_, h.up⟩
        rw [← a3]
        exact k_M_block (by omega) hi ho h.mi a1 (by rw [a2]; exact hk)
      · have hs' : inR s (c.hstr i (hq c i o z)) = false := by simpa using hs
        exact ⟨_, c, m, fun l g n d hd => k_S_block_no (by omega) hi ho h.ci hs', fun l g n d hd => k_M_block_no (by omega) hi ho h.mi (h.plno hi ho hs'), h.up⟩
    · exact ⟨_, c, m, fun l g n d hd => k_S_block_bad (by omega) (Or.inr (by simpa using hy)), fun l g n d hd => k_M_block_bad (by omega) (Or.inr (by simpa using hy)), h.up⟩
  · exact ⟨_, c, m, fun l g n d hd => k_S_block_bad (by omega) (Or.inl (by simpa using hx)), fun l g n d hd => k_M_block_bad (by omega) (Or.inl (by simpa using hx)), h.up⟩
theorem ag_byteOf (h : Rel K c m) (x y z : Int32) : Ag K c m M_S_byteOf M_M_byteOf [.int x, .int y, .int z] := by
  by_cases hx : inR x 12 = true
  · by_cases hy : inR y 40 = true
    · by_cases hz : inR z 8 = true
      · obtain ⟨i, hi, rfl⟩ := inR_of hx (by decide)
        obtain ⟨b, hb, rfl⟩ := inR_of hy (by decide)
        obtain ⟨k, hk, rfl⟩ := inR_of hz (by decide)
        have hu := (h.1 i hi).2.2.1 b hb
        by_cases ht : c.takn i b = true
        · refine ⟨_, c, m, fun l g n d hd => k_S_byteOf (by omega) hi hb hk ht, fun l g n d hd => ?_, h.up⟩
          rw [← (h.1 i hi).2.2.2.1 b k hb hk]
          exact k_M_byteOf (by omega) hi hb hk (hu.trans ht)
        · have ht' : c.takn i b = false := by simpa using ht
          exact ⟨_, c, m, fun l g n d hd => k_S_byteOf_no (by omega) hi hb hk ht', fun l g n d hd => k_M_byteOf_no (by omega) hi hb hk (hu.trans ht'), h.up⟩
      · exact ⟨_, c, m, fun l g n d hd => k_S_byteOf_bad (by omega) (Or.inr (Or.inr (by simpa using hz))), fun l g n d hd => k_M_byteOf_bad (by omega) (Or.inr (Or.inr (by simpa using hz))), h.up⟩
    · exact ⟨_, c, m, fun l g n d hd => k_S_byteOf_bad (by omega) (Or.inr (Or.inl (by simpa using hy))), fun l g n d hd => k_M_byteOf_bad (by omega) (Or.inr (Or.inl (by simpa using hy))), h.up⟩
  · exact ⟨_, c, m, fun l g n d hd => k_S_byteOf_bad (by omega) (Or.inl (by simpa using hx)), fun l g n d hd => k_M_byteOf_bad (by omega) (Or.inl (by simpa using hx)), h.up⟩
theorem ag_symbol (h : Rel K c m) (x y z s : Int32) : Ag K c m M_S_symbol M_M_symbol [.int x, .int y, .int z, .int s] := by
  by_cases hx : inR x 12 = true
  · by_cases hy : inR y 12 = true
    · by_cases hz : inR z 6 = true
      · obtain ⟨i, hi, rfl⟩ := inR_of hx (by decide)
        obtain ⟨j, hj, rfl⟩ := inR_of hy (by decide)
        obtain ⟨o, ho, rfl⟩ := inR_of hz (by decide)
        by_cases hs : inR s (rstr c i o) = true
        · have h8 := CI_rstr h.ci i o
          obtain ⟨k, hk, rfl⟩ := inR_of hs (by omega)
          obtain ⟨a1, a2, a3, a4⟩ := h.pl (z := false) hi ho hk
          have hb : c.hpl i (rp c i o) k < 40 := (h.ci i _).2.2.2 k
          refine ⟨_, c, m, fun l g n d hd => k_S_symbol (by omega) hi hj ho hk h.ci a4 h.bc.2.2.2.2, fun l g n d hd => ?_, h.up⟩
          rw [h.sy hi hb, show c.hpl i (rp c i o) k = m.blk (8 * rx i o false + k) from a3.symm]
          exact k_M_symbol (by omega) hi hj ho h.mi h.by a1 (by rw [a2]; exact hk)
        · have hs' : inR s (rstr c i o) = false := by simpa using hs
          exact ⟨_, c, m, fun l g n d hd => k_S_symbol_no (by omega) hi hj ho hs', fun l g n d hd => k_M_symbol_no (by omega) hi hj ho h.mi (h.plno (z := false) hi ho hs'), h.up⟩
      · exact ⟨_, c, m, fun l g n d hd => k_S_symbol_bad (by omega) (Or.inr (Or.inr (by simpa using hz))), fun l g n d hd => k_M_symbol_bad (by omega) (Or.inr (Or.inr (by simpa using hz))), h.up⟩
    · exact ⟨_, c, m, fun l g n d hd => k_S_symbol_bad (by omega) (Or.inr (Or.inl (by simpa using hy))), fun l g n d hd => k_M_symbol_bad (by omega) (Or.inr (Or.inl (by simpa using hy))), h.up⟩
  · exact ⟨_, c, m, fun l g n d hd => k_S_symbol_bad (by omega) (Or.inl (by simpa using hx)), fun l g n d hd => k_M_symbol_bad (by omega) (Or.inl (by simpa using hx)), h.up⟩
theorem ag_count (h : Rel K c m) (x : Int32) : Ag K c m M_S_count M_M_count [.int x] := by
  obtain ⟨-, -, ⟨l1, l2, l3, l4, l5, l6, l7, l8, l9⟩, -⟩ := id h
  by_cases hx : inR x 6 = true
  · obtain ⟨w, hw, rfl⟩ := inR_of hx (by decide)
    match w, hw with
    | 0, _ =>
      refine ⟨_, c, m, fun l g n d hd => k_S_count0 (by omega), fun l g n d hd => ?_, h.up⟩
      rw [h.lv]
      exact k_M_count0 (by omega)
    | 1, _ =>
      refine ⟨_, c, m, fun l g n d hd => k_S_count1 (by omega), fun l g n d hd => ?_, h.up⟩
      rw [l2]
      exact k_M_count1 (by omega)
    | 2, _ =>
      refine ⟨_, c, m, fun l g n d hd => k_S_count2 (by omega), fun l g n d hd => ?_, h.up⟩
      rw [l6]
      exact k_M_count2 (by omega)
    | 3, _ =>
      refine ⟨_, c, m, fun l g n d hd => k_S_count3 (by omega), fun l g n d hd => ?_, h.up⟩
      rw [l7]
      exact k_M_count3 (by omega)
    | 4, _ =>
      refine ⟨_, c, m, fun l g n d hd => k_S_count4 (by omega), fun l g n d hd => ?_, h.up⟩
      rw [ct_congr 6 (fun o ho => l4 o ho)]
      exact k_M_count4 (by omega)
    | 5, _ =>
      refine ⟨_, c, m, fun l g n d hd => k_S_count5 (by omega), fun l g n d hd => ?_, h.up⟩
      rw [l5]
      exact k_M_count5 (by omega)
    | w + 6, hw => omega
  · exact ⟨_, c, m, fun l g n d hd => k_S_count_bad (by omega) (by simpa using hx), fun l g n d hd => k_M_count_bad (by omega) (by simpa using hx), h.up⟩
-- the digest
theorem dg_free : ∀ u, u < 41 → (nI (40 - u)).toInt64 = 40 - (nI u).toInt64 := by decide +kernel
theorem Rel.dg (h : Rel K c m) : ∀ i, i ≤ 12 → dgA c i = dmA m i
  | 0, _ => rfl
  | i + 1, hi => by
    have hi' : i < 12 := by omega
    have ih := h.dg i (by omega)
    have e1 : dgN c i (dgA c i) = dmN m i (dmA m i) := by
      unfold dgN dmN
      rw [ih, (h.1 i hi').1, (h.1 i hi').2.1, h.fr hi', dg_free _ (by have := usN_le m i; omega), Int64.sub_eq_add_neg, Int64.sub_eq_add_neg, Int64.add_assoc]
    have e2 : ∀ o, o ≤ 6 → dgO c i (dgN c i (dgA c i)) o = dmO m i (dmN m i (dmA m i)) o := by
      intro o
      induction o with
      | zero => intro _; exact e1
      | succ o iho =>
        intro ho
        have ho' : o < 6 := by omega
        show dgR c i o (dgO c i (dgN c i (dgA c i)) o) = dmR m i o (dmO m i (dmN m i (dmA m i)) o)
        rw [iho (by omega)]
        generalize dmO m i (dmN m i (dmA m i)) o = H
        have e3 : ∀ w, w ≤ 6 → dgL c i o H w = dmL m i o H w := by
          intro w
          induction w with
          | zero => intro _; rfl
          | succ w ihw =>
            intro hw
            show 31 * dgL c i o H w + (recN c i o w).toInt64 = 31 * dmL m i o H w + (recM m i o w).toInt64
            rw [ihw (by omega), h.rec hi' ho' (by omega)]
        have e4 : ∀ G : Int64, ∀ s, s ≤ rstr c i o → dgS c i (rp c i o) G s = dmS m i (rx i o false) G s := by
          intro G s
          induction s with
          | zero => intro _; rfl
          | succ s ihs =>
            intro hs
            obtain ⟨a1, a2, a3, a4⟩ := h.pl (z := false) hi' ho' (show s < c.hstr i (hq c i o false) from hs)
            rw [hq_f] at a3
            have hb : c.hpl i (rp c i o) s < 40 := (h.ci i _).2.2.2 s
            show dgK (c.data i) (c.hpl i (rp c i o) s) (dgS c i (rp c i o) G s) 8 = dmK m (8 * (40 * i + m.blk (8 * rx i o false + s))) (dmS m i (rx i o false) G s) 8
            rw [ihs (by omega), a3]
            generalize dmS m i (rx i o false) G s = J
            have e5 : ∀ k, k ≤ 8 → dgK (c.data i) (c.hpl i (rp c i o) s) J k = dmK m (8 * (40 * i + c.hpl i (rp c i o) s)) J k := by
              intro k
              induction k with
              | zero => intro _; rfl
              | succ k ihk =>
                intro hk
                show 31 * dgK (c.data i) (c.hpl i (rp c i o) s) J k + (nI (c.data i (c.hpl i (rp c i o) s * 8 + k))).toInt64 = 31 * dmK m (8 * (40 * i + c.hpl i (rp c i o) s)) J k + (nI (m.byts (8 * (40 * i + c.hpl i (rp c i o) s) + k))).toInt64
                rw [ihk (by omega), (h.1 i hi').2.2.2.1 _ k hb (by omega)]
            exact e5 8 (Nat.le_refl _)
        unfold dgR dmR
        rw [e3 6 (Nat.le_refl _), e4 _ _ (Nat.le_refl _)]
        obtain ⟨g1, g2⟩ := h.hd hi' ho' false
        obtain ⟨j1, j2, j3, j4⟩ := h.hi hi' (hq_lt (c := c) (i := i) (z := false) ho')
        rw [hq_f] at g1 g2 j1 j2
        have er : rstr c i o = stp (c.hbyt i (rp c i o)) := j2
        rcases Nat.eq_zero_or_pos (c.hver i (rp c i o)) with e | e
        · rw [if_neg (by rw [g1, e]; decide), er, j1 e]
          rfl
        · rw [if_pos (by rw [g1]; exact decide_eq_true e), er, (g2 e).2.1]
    exact e2 6 (Nat.le_refl _)
theorem Rel.dig (h : Rel K c m) : ∃ v : Int64, (∀ (l : Launch) (g : GX) (n d : Nat), 8 ≤ d → CE l g M_S_digest d 0 0 [.ref (aS g)] n (hp g c m) (some (.long v)) n (hp g c m)) ∧ (∀ (l : Launch) (g : GX) (n d : Nat), 8 ≤ d → CE l g M_M_digest d 0 0 [.ref (aM g)] n (hp g c m) (some (.long v)) n (hp g c m)) := by
  refine ⟨dgA c 12, fun l g n d hd => k_S_digest (by omega) h.ci (fun i hi o ho s hs => ?_), fun l g n d hd => ?_⟩
  · exact (h.pl (z := false) hi ho hs).2.2.2
  · rw [h.dg 12 (Nat.le_refl _)]
    exact k_M_digest (by omega) h.mi
end AGR
