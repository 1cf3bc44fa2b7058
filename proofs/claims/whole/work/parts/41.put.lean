-- ===== put, remove =====
theorem lfF_allT {T : Nat → Bool} {f : Nat} (h : ¬ lfF T f 0 < f) : ∀ b, b < f → T b = true := by
  have hle : lfF T f 0 ≤ 0 + f := (lfF_ge T f 0).2
  have key : ∀ f k, lfF T f k = k + f → ∀ b, k ≤ b → b < k + f → T b = true := by
    intro f
    induction f with
    | zero => intro k _ b h1 h2; omega
    | succ f ih =>
      intro k hk b h1 h2
      unfold lfF at hk
      by_cases e : T k = true
      · rw [if_pos e] at hk
        by_cases z : b = k
        · rw [z]; exact e
        · exact ih (k + 1) (by omega) b (by omega) (by omega)
      · rw [if_neg e] at hk
        omega
  exact fun b hb => key f 0 (by omega) b (Nat.zero_le _) (by omega)
theorem tapeN_self (X : CS) : X.s_tapeN X.tapeN = X := CS.ext2
theorem taped_self (Y : MS) : Y.s_taped Y.taped = Y := MS.ext2
section PUT4
variable {K : Nat} {c : CS} {m : MS}
theorem bgC_tapeN {o a : Nat} (ha : a ≤ 240) (hz : mz c.mat) (hT : B1 c.tape) (hB : BC c) : (bgC c o a).tapeN = c.tapeN := by
  obtain ⟨s1, -, -, -⟩ := ssB_run (c := bg1 c o) (o := o) (mo := if ct c.live 12 < goN c then ct c.live 12 else goN c) ha hz hT (BC_bg1 hB o) (stp a)
  have e1 : (bg2 c o a).tapeN = c.tapeN := congrArg (fun t => t.2.1) s1
  have e2 : (sfC (bg2 c o a) o (goN c - ct c.live 12) 12).tapeN = (bg2 c o a).tapeN := (sf_keep (bg2 c o a) o (goN c - ct c.live 12) 12).1.un.2.2.1
  unfold bgC bg3
  generalize sfC (bg2 c o a) o (goN c - ct c.live 12) 12 = X at *
  show X.tapeN = _
  rw [e2, e1]
theorem Rel.bgAns (h : Rel K c m) {o a : Nat} (ho : o < 6) : bgR c o = gsR (m.s_taped a) o := by
  obtain ⟨r1, r2, r3, r4⟩ := h.go a
  unfold bgR gsR
  rw [r2, r4]
  by_cases q : mst (m.s_taped a) < 2 * ct c.live 12
  · rw [if_pos (decide_eq_true q), if_pos q]
  · rw [if_neg (by rw [decide_eq_false q]; decide), if_neg q]
    show nI (c.begun o + 1) = nI (m.latest o + 1)
    rw [h.2.2.1.2.2.1 o ho]
theorem Rel.room (h : Rel K c m) {w : Nat} (hw : w ≤ 40) : w ≤ lfl c 12 ↔ ∀ i, i < 12 → m.fail i = false → w ≤ 40 - usN m i := by
  rw [lfl_spec c w hw 12]
  constructor
  · intro z i hi hl
    rw [← h.fr hi]
    exact z i hi (by rw [(h.1 i hi).1, hl]; rfl)
  · intro z i hi hl
    rw [h.fr hi]
    refine z i hi ?_
    have := (h.1 i hi).1
    rw [hl] at this
    simpa using this.symm
theorem Rel.hz0 (h : Rel K c m) {o : Nat} (ho : o < 6) : c.unst o = false → ∀ i, i < 12 → c.live i = true → c.hstr i (sp c i o) = 0 := fun hu i hi hl => by
  obtain ⟨j1, j2, -, -⟩ := h.hi hi (hq_lt (c := c) (i := i) (z := true) ho)
  rw [hq_t] at j1 j2
  rcases Nat.eq_zero_or_pos (c.hver i (sp c i o)) with q | q
  · rw [j2, j1 q]; unfold stp; omega
  · have w := (h.2.1.2.2.1 i o hi ho hl q).1
    rw [hu] at w; cases w
theorem Rel.hfr (h : Rel K c m) {w : Nat} (hw : w ≤ lfl c 12) : ∀ i, i < 12 → c.live i = true → ∀ k, k < w → lf (TK (c.takn i) k) < 40 := fun i hi hl k hk => by
  have hl40 := lfl_le c 12
  have h1 := (lfl_spec c w (by omega) 12).mp hw i hi hl
  have h2 := ct_not (c.takn i) 40
  refine TK_room (n := w) ?_ k hk
  have : frN c i = ct (fun b => !c.takn i b) 40 := rfl
  omega
theorem rfN_1 {o : Nat} (h : m.opn o = true) : rfN m o = -3 := if_pos h
theorem rfN_2 {o : Nat} (h : m.opn o = false) (h2 : lvM m < 9) : rfN m o = -4 := by
  unfold rfN
  rw [if_neg (by rw [h]; decide), if_pos h2]
theorem rfN_0 {o : Nat} (h : m.opn o = false) (h2 : ¬ lvM m < 9) : rfN m o = 0 := by
  unfold rfN
  rw [if_neg (by rw [h]; decide), if_neg h2]
  rfl
theorem ag_put (h : Rel K c m) (hK : K < 60000) (x : Int32) : Ag K c m M_S_put M_M_put [.int x] := by
  obtain ⟨h1, hG, hL, hI⟩ := id h
  obtain ⟨a1, a2, a3, a4, a5, a6, a7, a8, a9, b1, b2, b3, b4⟩ := id hI
  by_cases hx : inR x 6 = true
  · obtain ⟨o, ho, rfl⟩ := inR_of hx (by decide)
    have hu := hL.2.2.2.1 o ho
    have hbK := b4 o ho
    have hS := fun (l : Launch) (g : GX) (n d : Nat) (hd : 8 ≤ d) => k_S_put (l := l) (g := g) (c := c) (m := m) (n := n) (d := d) (by omega) ho a4 (by omega) a1 a8.2.2.1 a3 (fun w => h.hfr w) (h.hz0 ho) a6
    have h8 := stp_le a4
    by_cases q : c.unst o = true
    · have e1 : putR c o = -3 := if_pos q
      have e2 : putC c o = c := if_pos (Or.inl q)
      have e3 := rfN_1 (m := m) (o := o) (by rw [← hu]; exact q)
      refine ⟨-3, c, m, fun l g n d hd => ?_, fun l g n d hd => ?_, h.up⟩
      · have z := hS l g n d hd
        rw [e1, e2] at z
        exact z
      · have z := k_M_put_no (l := l) (g := g) (c := c) (m := m) (n := n) (d := d) (by omega) ho (by rw [e3]; decide)
        rw [e3] at z
        exact z
    · have q' : c.unst o = false := by simpa using q
      have qm : m.opn o = false := by rw [← hu]; exact q'
      by_cases q2 : ct c.live 12 < 9
      · have e1 : putR c o = -4 := by unfold putR; rw [if_neg q, if_pos q2]
        have e2 : putC c o = c := if_pos (Or.inr (Or.inl q2))
        have e3 := rfN_2 qm (by rw [← h.lv]; exact q2)
        refine ⟨-4, c, m, fun l g n d hd => ?_, fun l g n d hd => ?_, h.up⟩
        · have z := hS l g n d hd
          rw [e1, e2] at z
          exact z
        · have z := k_M_put_no (l := l) (g := g) (c := c) (m := m) (n := n) (d := d) (by omega) ho (by rw [e3]; decide)
          rw [e3] at z
          exact z
      · have e3 := rfN_0 qm (by rw [← h.lv]; exact q2)
        by_cases q3 : lfl c 12 < stp c.tapeN
        · have e1 : putR c o = -5 := by unfold putR; rw [if_neg q, if_neg q2, if_pos q3]
          have e2 : putC c o = c := if_pos (Or.inr (Or.inr (Or.inl q3)))
          have hj : lfF (fun i => decide (m.fail i = true ∨ stp m.taped ≤ 40 - usN m i)) 12 0 < 12 := by
            rcases Nat.lt_or_ge (lfF (fun i => decide (m.fail i = true ∨ stp m.taped ≤ 40 - usN m i)) 12 0) 12 with w | w
            · exact w
            · exfalso
              have hall := lfF_allT (T := fun i => decide (m.fail i = true ∨ stp m.taped ≤ 40 - usN m i)) (f := 12) (by omega)
              have : stp c.tapeN ≤ lfl c 12 := (h.room (by omega)).mpr (fun i hi hl => by
                rcases of_decide_eq_true (hall i hi) with y | y
                · rw [hl] at y; cases y
                · rw [hL.2.1]; exact y)
              omega
          obtain ⟨w1, w2⟩ := lfF_spec (T := fun i => decide (m.fail i = true ∨ stp m.taped ≤ 40 - usN m i)) (f := 12) (k := 0) (by omega)
          generalize lfF (fun i => decide (m.fail i = true ∨ stp m.taped ≤ 40 - usN m i)) 12 0 = j at *
          have w3 := of_decide_eq_false w1
          refine ⟨-5, c, m, fun l g n d hd => ?_, fun l g n d hd => ?_, h.up⟩
          · have z := hS l g n d hd
            rw [e1, e2] at z
            exact z
          · refine k_M_put_full (by omega) ho e3 (by rw [← hL.2.1]; exact a4) hj ?_ ?_ (fun i hi => of_decide_eq_true (w2 i (Nat.zero_le _) hi))
            · rcases Bool.eq_false_or_eq_true (m.fail j) with y | y
              · exact absurd (Or.inl y) w3
              · exact y
            · rcases Nat.lt_or_ge (40 - usN m j) (stp m.taped) with y | y
              · exact y
              · exact absurd (Or.inr y) w3
        · have hok : ∀ i, i < 12 → m.fail i = false → stp m.taped ≤ 40 - usN m i := fun i hi hl => by
            rw [← hL.2.1]
            exact (h.room (by omega)).mp (by omega) i hi hl
          by_cases q4 : c.tapeN = 0
          · have e1 : putR c o = -6 := by unfold putR; rw [if_neg q, if_neg q2, if_neg q3, if_pos q4]
            have e2 : putC c o = c := if_pos (Or.inr (Or.inr (Or.inr q4)))
            refine ⟨-6, c, m, fun l g n d hd => ?_, fun l g n d hd => ?_, h.up⟩
            · have z := hS l g n d hd
              rw [e1, e2] at z
              exact z
            · exact k_M_put_empty (by omega) ho e3 (by rw [← hL.2.1]; exact a4) hok (by rw [← hL.2.1]; exact q4)
          · have e1 : putR c o = bgR c o := by unfold putR; rw [if_neg q, if_neg q2, if_neg q3, if_neg q4]
            have e2 : putC c o = (bgC c o c.tapeN).s_tapeN 0 := if_neg (fun z => by
              rcases z with z | z | z | z
              · exact q z
              · exact q2 z
              · exact q3 z
              · exact q4 z)
            obtain ⟨hga, hR⟩ := Rel_begin (t := 0) h ho a4 (Nat.zero_le _) hK q' (h.hfr (by omega))
            have em : m.s_taped c.tapeN = m := by rw [hL.2.1]; exact taped_self m
            rw [em] at hga hR
            have er := h.bgAns (a := c.tapeN) ho
            rw [em] at er
            refine ⟨bgR c o, (bgC c o c.tapeN).s_tapeN 0, (gsM m o).s_taped 0, fun l g n d hd => ?_, fun l g n d hd => ?_, hR⟩
            · have z := hS l g n d hd
              rw [e1, e2] at z
              exact z
            · rw [er]
              exact k_M_put (by omega) ho e3 (by rw [← hL.2.1]; exact a4) hok (by rw [← hL.2.1]; omega) a2 (by rw [← hL.1]; exact a3) (by rw [← hL.2.2.1 o ho]; omega) (by rw [← hL.2.2.2.2.1]; exact a6) hga
  · exact ⟨_, c, m, fun l g n d hd => k_S_put_bad (by omega) (by simpa using hx), fun l g n d hd => k_M_put_bad (by omega) (by simpa using hx), h.up⟩
theorem ag_remove (h : Rel K c m) (hK : K < 60000) (x : Int32) : Ag K c m M_S_remove M_M_remove [.int x] := by
  obtain ⟨h1, hG, hL, hI⟩ := id h
  obtain ⟨a1, a2, a3, a4, a5, a6, a7, a8, a9, b1, b2, b3, b4⟩ := id hI
  by_cases hx : inR x 6 = true
  · obtain ⟨o, ho, rfl⟩ := inR_of hx (by decide)
    have hu := hL.2.2.2.1 o ho
    have hbK := b4 o ho
    have hS := fun (l : Launch) (g : GX) (n d : Nat) (hd : 8 ≤ d) => k_S_remove (l := l) (g := g) (c := c) (m := m) (n := n) (d := d) (by omega) ho (by omega) a1 a8.2.2.1 a3 (h.hz0 ho) a6
    by_cases q : c.unst o = true
    · have e1 : remR c o = -3 := if_pos q
      have e2 : remC c o = c := if_pos (Or.inl q)
      have e3 := rfN_1 (m := m) (o := o) (by rw [← hu]; exact q)
      refine ⟨-3, c, m, fun l g n d hd => ?_, fun l g n d hd => ?_, h.up⟩
      · have z := hS l g n d hd
        rw [e1, e2] at z
        exact z
      · have z := k_M_remove_no (l := l) (g := g) (c := c) (m := m) (n := n) (d := d) (by omega) ho (by rw [e3]; decide)
        rw [e3] at z
        exact z
    · have q' : c.unst o = false := by simpa using q
      have qm : m.opn o = false := by rw [← hu]; exact q'
      by_cases q2 : ct c.live 12 < 9
      · have e1 : remR c o = -4 := by unfold remR; rw [if_neg q, if_pos q2]
        have e2 : remC c o = c := if_pos (Or.inr q2)
        have e3 := rfN_2 qm (by rw [← h.lv]; exact q2)
        refine ⟨-4, c, m, fun l g n d hd => ?_, fun l g n d hd => ?_, h.up⟩
        · have z := hS l g n d hd
          rw [e1, e2] at z
          exact z
        · have z := k_M_remove_no (l := l) (g := g) (c := c) (m := m) (n := n) (d := d) (by omega) ho (by rw [e3]; decide)
          rw [e3] at z
          exact z
      · have e3 := rfN_0 qm (by rw [← h.lv]; exact q2)
        have e1 : remR c o = bgR c o := by unfold remR; rw [if_neg q, if_neg q2]
        have e2 : remC c o = bgC c o 0 := if_neg (fun z => by
          rcases z with z | z
          · exact q z
          · exact q2 z)
        obtain ⟨-, hR⟩ := Rel_begin (a := 0) (t := c.tapeN) h ho (Nat.zero_le _) a4 hK q' (fun i hi hl k hk => absurd hk (by unfold stp; omega))
        have et : (bgC c o 0).s_tapeN c.tapeN = bgC c o 0 := by
          rw [← bgC_tapeN (o := o) (a := 0) (Nat.zero_le _) a9 a3 a8]
          exact tapeN_self _
        rw [et, hL.2.1] at hR
        have er := h.bgAns (a := 0) ho
        refine ⟨bgR c o, bgC c o 0, (gsM (m.s_taped 0) o).s_taped m.taped, fun l g n d hd => ?_, fun l g n d hd => ?_, hR⟩
        · have z := hS l g n d hd
          rw [e1, e2] at z
          exact z
        · rw [er]
          exact k_M_remove (by omega) ho e3 a2 (by rw [← hL.1]; exact a3) (by rw [← hL.2.2.1 o ho]; omega) (by rw [← hL.2.2.2.2.1]; exact a6)
  · exact ⟨_, c, m, fun l g n d hd => k_S_remove_bad (by omega) (by simpa using hx), fun l g n d hd => k_M_remove_bad (by omega) (by simpa using hx), h.up⟩
end PUT4
