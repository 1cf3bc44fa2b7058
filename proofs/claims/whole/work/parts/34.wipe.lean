-- ===== wipe, settle, clear =====
def guLs (c : CS) (i : Nat) : List Nat → CS
  | [] => c
  | p :: t => guC (guLs c i t) i p
theorem ls_keep (c : CS) (i : Nat) : ∀ L, (guLs c i L).live = c.live ∧ (guLs c i L).data = c.data ∧ (guLs c i L).hpl = c.hpl ∧ (guLs c i L).sent = c.sent ∧ (guLs c i L).sw = c.sw
  | [] => ⟨rfl, rfl, rfl, rfl, rfl⟩
  | _ :: t => ls_keep c i t
theorem eqC_ls (c : CS) (i : Nat) : ∀ L, eqC c (guLs c i L)
  | [] => rfl
  | _ :: t => (eqC_ls c i t).tr (eqC_gu _ i _)
theorem CI_ls {c : CS} {i : Nat} (h : CI c) : ∀ L, CI (guLs c i L)
  | [] => h
  | _ :: t => CI_gu (CI_ls h t)
theorem Sh_ls (c : CS) (i : Nat) : ∀ L, Sh c (guLs c i L)
  | [] => Sh.rf c
  | _ :: t => (Sh_ls c i t).tr (Sh_gu _ i _)
theorem SS_ls (c : CS) (i : Nat) : ∀ L, SS c (guLs c i L)
  | [] => SS.rf c
  | _ :: t => (SS_ls c i t).tr (SS_gu _ i _)
theorem ls_h (c : CS) (i : Nat) : ∀ L p, (guLs c i L).hver i p = (if p ∈ L then 0 else c.hver i p) ∧ (guLs c i L).hbyt i p = (if p ∈ L then 0 else c.hbyt i p) ∧ (guLs c i L).hstr i p = (if p ∈ L then 0 else c.hstr i p)
  | [], p => ⟨rfl, rfl, rfl⟩
  | a :: t, p => by
    show up2 (guLs c i t).hver i a 0 i p = _ ∧ up2 (guLs c i t).hbyt i a 0 i p = _ ∧ up2 (guLs c i t).hstr i a 0 i p = _
    by_cases e : p = a
    · subst e
      rw [up2_s, up2_s, up2_s, if_pos List.mem_cons_self, if_pos List.mem_cons_self, if_pos List.mem_cons_self]
      exact ⟨rfl, rfl, rfl⟩
    · have hn : ¬ (i = i ∧ p = a) := fun q => e q.2
      rw [up2_n hn, up2_n hn, up2_n hn]
      obtain ⟨h1, h2, h3⟩ := ls_h c i t p
      rw [h1, h2, h3]
      by_cases q : p ∈ t
      · have q2 : p ∈ a :: t := List.mem_cons_of_mem _ q
        rw [if_pos q, if_pos q, if_pos q, if_pos q2, if_pos q2, if_pos q2]
        exact ⟨rfl, rfl, rfl⟩
      · have q2 : ¬ p ∈ a :: t := fun z => by
          rcases List.mem_cons.mp z with z | z
          · exact e z
          · exact q z
        rw [if_neg q, if_neg q, if_neg q, if_neg q2, if_neg q2, if_neg q2]
        exact ⟨rfl, rfl, rfl⟩
theorem ls_t (c : CS) (i : Nat) : ∀ L b, (guLs c i L).takn i b = true ↔ c.takn i b = true ∧ ∀ p, p ∈ L → ∀ s, s < c.hstr i p → c.hpl i p s ≠ b
  | [], b => ⟨fun h => ⟨h, fun p hp => absurd hp List.not_mem_nil⟩, fun h => h.1⟩
  | a :: t, b => by
    have e : (guLs c i (a :: t)).takn i = guT ((guLs c i t).takn i) ((guLs c i t).hpl i a) ((guLs c i t).hstr i a) := upN_s
    rw [e, guT_at, ls_t c i t b, (ls_h c i t a).2.2, (ls_keep c i t).2.2.1]
    constructor
    · rintro ⟨⟨h1, h2⟩, h3⟩
      refine ⟨h1, fun p hp s hs => ?_⟩
      rcases List.mem_cons.mp hp with q | q
      · subst q
        by_cases z : p ∈ t
        · exact h2 p z s hs
        · rw [if_neg z] at h3
          exact h3 s hs
      · exact h2 p q s hs
    · rintro ⟨h1, h2⟩
      refine ⟨⟨h1, fun p hp => h2 p (List.mem_cons_of_mem _ hp)⟩, fun s hs => ?_⟩
      split at hs
      · omega
      · exact h2 a List.mem_cons_self s hs
theorem sC_ls {c : CS} {i : Nat} {L L' : List Nat} (h : ∀ p, p ∈ L ↔ p ∈ L') : sC (guLs c i L) (guLs c i L') i := by
  obtain ⟨a1, a2, a3, a4, a5⟩ := ls_keep c i L
  obtain ⟨b1, b2, b3, b4, b5⟩ := ls_keep c i L'
  refine ⟨by rw [a1, b1], by rw [a4, b4], ?_, by rw [a2, b2], ?_, ?_, ?_, by rw [a3, b3], by rw [a5, b5]⟩
  · funext b
    rw [Bool.eq_iff_iff, ls_t, ls_t]
    refine and_congr_right (fun _ => ⟨fun z p hp => z p ((h p).mp hp), fun z p hp => z p ((h p).mpr hp)⟩)
  · funext p
    rw [(ls_h c i L' p).1, (ls_h c i L p).1]
    by_cases q : p ∈ L
    · rw [if_pos ((h p).mp q), if_pos q]
    · rw [if_neg (fun z => q ((h p).mpr z)), if_neg q]
  · funext p
    rw [(ls_h c i L' p).2.1, (ls_h c i L p).2.1]
    by_cases q : p ∈ L
    · rw [if_pos ((h p).mp q), if_pos q]
    · rw [if_neg (fun z => q ((h p).mpr z)), if_neg q]
  · funext p
    rw [(ls_h c i L' p).2.2, (ls_h c i L p).2.2]
    by_cases q : p ∈ L
    · rw [if_pos ((h p).mp q), if_pos q]
    · rw [if_neg (fun z => q ((h p).mpr z)), if_neg q]
def shL (c : CS) (i : Nat) : Nat → List Nat
  | 0 => []
  | k + 1 => sp c i k :: shL c i k
def reL (c : CS) (i : Nat) : Nat → List Nat
  | 0 => shL c i 6
  | k + 1 => rp c i k :: reL c i k
def alL (c : CS) (i : Nat) : Nat → List Nat
  | 0 => []
  | k + 1 => sp c i k :: rp c i k :: alL c i k
theorem gs_ls (c : CS) (i : Nat) : ∀ k, gsC c i k = guLs c i (shL c i k)
  | 0 => rfl
  | k + 1 => by
    show guC (gsC c i k) i (sp (gsC c i k) i k) = guC (guLs c i (shL c i k)) i (sp c i k)
    rw [gs_sp, gs_ls c i k]
theorem ga_ls (c : CS) (i : Nat) : ∀ k, gaC c i k = guLs c i (reL c i k)
  | 0 => gs_ls c i 6
  | k + 1 => by
    show guC (gaC c i k) i (rp (gaC c i k) i k) = guC (guLs c i (reL c i k)) i (rp c i k)
    rw [ga_ls c i k, rp_eq (ls_keep c i (reL c i k)).2.2.2.2]
theorem al_mem (c : CS) (i p : Nat) : p ∈ alL c i 6 ↔ p ∈ reL c i 6 := by
  simp only [alL, reL, shL, List.mem_cons, List.not_mem_nil, or_false]
  omega
theorem al_all {c : CS} {i p : Nat} (hp : p < 12) : p ∈ reL c i 6 := by
  obtain ⟨z, hz⟩ := hq_all c i (p := p)
  have key : ∀ o, o < 6 → rp c i o ∈ reL c i 6 ∧ sp c i o ∈ reL c i 6 := by
    intro o ho
    rw [← al_mem, ← al_mem]
    simp only [alL, List.mem_cons, List.not_mem_nil, or_false]
    match o, ho with
    | 0, _ => omega
    | 1, _ => omega
    | 2, _ => omega
    | 3, _ => omega
    | 4, _ => omega
    | 5, _ => omega
    | o + 6, h => omega
  have := key (p / 2) (by omega)
  rw [hz]
  cases z
  · exact this.1
  · exact this.2
section WP
variable {K : Nat} {c : CS} {m : MS}
theorem Nd_al {i : Nat} (hc : CI c) (hm : MI m) (h1 : Nd c m i) : ∀ k, k ≤ 6 → Nd (guLs c i (alL c i k)) (mga m i k) i
  | 0, _ => h1
  | k + 1, hk => by
    have ih := Nd_al hc hm h1 k (by omega)
    have hs := (ls_keep c i (alL c i k)).2.2.2.2
    have hcl : CI (guLs c i (alL c i k)) := CI_ls hc _
    have a := Nd_gu (z := false) (o := k) (by omega) hcl ih
    rw [hq_f, rp_eq hs] at a
    have b := Nd_gu (z := true) (o := k) (by omega) (CI_gu hcl) a
    rw [hq_t, show sp (guC (guLs c i (alL c i k)) i (rp c i k)) i k = sp c i k from sp_eq (c := c) hs i k] at b
    exact b
theorem sM_ga {i j : Nat} (hm : MI m) (hj : j ≠ i) : ∀ k, k ≤ 6 → sM m (mga m i k) j
  | 0, _ => sM.rf m j
  | k + 1, hk => (sM_ga hm hj k (by omega)).tr ((sM_gu (MI_mga hm k) (by omega) hj).tr (sM_gu (MI_gu (MI_mga hm k)) (by omega) hj))
theorem sC_lsn {i j : Nat} (hj : j ≠ i) : ∀ L, sC c (guLs c i L) j
  | [] => sC.rf c j
  | _ :: t => (sC_lsn hj t).tr (sC_gu hj)
theorem eqM_ga (m : MS) (i : Nat) : ∀ k, eqM m (mga m i k)
  | 0 => rfl
  | k + 1 => (eqM_ga m i k).tr ((eqM_gu _ i _).tr (eqM_gu _ i _))
theorem by_ga (m : MS) (i : Nat) : ∀ k, (mga m i k).byts = m.byts
  | 0 => rfl
  | k + 1 => (by_gu _ i _).trans ((by_gu _ i _).trans (by_ga m i k))
/-- a node is wiped, on both sides -/
theorem Nd_wp {i j : Nat} (hc : CI c) (hm : MI m) (h : Nd c m j) (hi : i < 12) : Nd (lvC (gaC c i 6) i) (wpM m i) j := by
  have hg : CI (gaC c i 6) := CI_ga hc 6
  have a : Nd (gaC c i 6) (mga m i 6) j := by
    rw [ga_ls]
    by_cases e : j = i
    · subst e
      exact Nd_frame (CI_ls hc _) (Nd_al hc hm h 6 (Nat.le_refl _)) (sC_ls (al_mem c j)) (sM.rf _ _)
    · exact Nd_frame hc h (sC_lsn e _) (sM_ga hm e 6 (Nat.le_refl _))
  by_cases e : j = i
  · subst e
    exact Nd_live a true
  · exact Nd_frame hg a (sC_live e) (sM_fail e)
theorem ga_0 {i p : Nat} (hp : p < 12) : (gaC c i 6).hver i p = 0 := by
  rw [ga_ls, (ls_h c i _ p).1, if_pos (al_all hp)]
theorem Rel_wipe (h : Rel K c m) {i : Nat} (hi : i < 12) : Rel (K + 1) (lvC (gaC c i 6) i) (wpM m i) := by
  obtain ⟨h1, ⟨g1, g2, g3, g4⟩, hL, hI⟩ := id h
  have hn : ∀ j, j < 12 → Nd (lvC (gaC c i 6) i) (wpM m i) j := fun j hj => Nd_wp h.ci h.mi (h1 j hj) hi
  have w0 : ∀ p, p < 12 → (gaC c i 6).hver i p = 0 := fun p hp => ga_0 hp
  have kc0 : eqC c (gaC c i 6) := by rw [ga_ls]; exact eqC_ls c i _
  have km0 := eqM_ga m i 6
  have hsh : Sh c (gaC c i 6) := by rw [ga_ls]; exact Sh_ls c i _
  have hsn : ∀ j, j ≠ i → (gaC c i 6).hver j = c.hver j := fun j hj => by
    rw [ga_ls]
    exact (sC_lsn (c := c) hj _).2.2.2.2.1
  have hci := CI_ga (i := i) h.ci 6
  have hmi := MI_mga (i := i) h.mi 6
  have hby := by_ga m i 6
  have hkeep := ls_keep c i (reL c i 6)
  rw [← ga_ls] at hkeep
  obtain ⟨k1, k2, k3, k4, k5⟩ := hkeep
  unfold wpM at hn ⊢
  generalize gaC c i 6 = X at *
  generalize mga m i 6 = Y at *
  have kc : eqC c (lvC X i) := kc0.tr rfl
  have km : eqM m (lvR Y i) := km0.tr rfl
  obtain ⟨kb, ku, -⟩ := kc.un
  refine ⟨hn, ?_, Lk_g hL kc km, Iv_g h.up.2.2.2 kc km hci hmi (by rw [show (lvC X i).data = c.data from k2]; exact h.bc.2.2.2.2) (by rw [show (lvR Y i).byts = m.byts from hby]; exact h.by)⟩
  refine Gi_sh ⟨g1, g2, g3, g4⟩ hsh kb (fun j o hj ho hlj hv => ?_) (fun o ho hu => ?_)
  · rw [ku, kb]
    have es : sp (lvC X i) j o = sp c j o := sp_eq (c' := lvC X i) k5 j o
    rw [es] at hv ⊢
    by_cases e : j = i
    · subst e
      have := w0 _ (hq_lt (c := c) (i := j) (z := true) ho)
      rw [hq_t] at this
      have hv2 : 0 < X.hver j (sp c j o) := hv
      omega
    · have hlj' : c.live j = true := by
        have : upN X.live i true j = true := hlj
        rwa [upN_n e, k1] at this
      have ev : (lvC X i).hver j = c.hver j := hsn j e
      rw [ev] at hv ⊢
      exact g3 j o hj ho hlj' hv
  · rw [kb]
    exact g4 o ho (by rw [← ku]; exact hu)
theorem ag_wipe (h : Rel K c m) (x : Int32) : Ag K c m M_S_wipe M_M_wipe [.int x] := by
  by_cases hx : inR x 12 = true
  · obtain ⟨i, hi, rfl⟩ := inR_of hx (by decide)
    have hus := usN_le m i
    refine ⟨nI (40 - frN c i), lvC (gaC c i 6) i, wpM m i, fun l g n d hd => k_S_wipe (by omega) hi h.ci, fun l g n d hd => ?_, Rel_wipe h hi⟩
    rw [h.fr hi, show 40 - (40 - usN m i) = usN m i by omega]
    exact k_M_wipe (by omega) hi h.mi
  · exact ⟨_, c, m, fun l g n d hd => k_S_wipe_bad (by omega) (by simpa using hx), fun l g n d hd => k_M_wipe_bad (by omega) (by simpa using hx), h.up⟩
-- ---- settle
theorem tkn_ct (m : MS) (o : Nat) : ∀ k, tkn m o k = decide (0 < ct (fun i => m.has (rx i o false) && decide (m.ver (rx i o false) = m.latest o)) k)
  | 0 => rfl
  | k + 1 => by
    show (tkn m o k || (m.has (rx k o false) && decide (m.ver (rx k o false) = m.latest o))) = _
    rw [tkn_ct m o k]
    by_cases e : (m.has (rx k o false) && decide (m.ver (rx k o false) = m.latest o)) = true
    · rw [ct_t (p := fun i => m.has (rx i o false) && decide (m.ver (rx i o false) = m.latest o)) (n := k) e, e, Bool.or_true, decide_eq_true (by omega)]
    · have e' : (m.has (rx k o false) && decide (m.ver (rx k o false) = m.latest o)) = false := by simpa using e
      rw [ct_f (p := fun i => m.has (rx i o false) && decide (m.ver (rx i o false) = m.latest o)) (n := k) e', e', Bool.or_false]
theorem Rel.snrE (h : Rel K c m) {o : Nat} (ho : o < 6) (hb : 0 < c.begun o) : snr c o (c.begun o) = tkn m o 12 := by
  have e : ct (fun i => decide (rver c i o = c.begun o)) 12 = ct (fun i => m.has (rx i o false) && decide (m.ver (rx i o false) = m.latest o)) 12 := ct_congr 12 (fun i hi => by
    obtain ⟨g1, g2⟩ := h.hd hi ho false
    rw [hq_f] at g1 g2
    rw [g1, ← h.2.2.1.2.2.1 o ho]
    show decide (c.hver i (rp c i o) = c.begun o) = _
    by_cases q : 0 < c.hver i (rp c i o)
    · rw [decide_eq_true q, (g2 q).1, Bool.true_and]
    · rw [decide_eq_false q, decide_eq_false (show ¬ c.hver i (rp c i o) = c.begun o by omega), Bool.false_and])
  rw [tkn_ct]
  unfold snr
  rw [e]
theorem eqC_st (c : CS) (o : Nat) (t : Bool) : ∀ i, eqC c (stL c o t i)
  | 0 => rfl
  | i + 1 => by
    refine (eqC_st c o t i).tr ?_
    show eqC _ (stO _ o t i)
    unfold stO
    split
    · split <;> rfl
    · rfl
theorem stO_keep (X : CS) (o : Nat) (t : Bool) (i : Nat) : (stO X o t i).live = X.live ∧ (stO X o t i).data = X.data := by
  unfold stO
  split
  · split <;> exact ⟨rfl, rfl⟩
  · exact ⟨rfl, rfl⟩
theorem st_keep (c : CS) (o : Nat) (t : Bool) : ∀ i, (stL c o t i).live = c.live ∧ (stL c o t i).data = c.data
  | 0 => ⟨rfl, rfl⟩
  | i + 1 => ⟨(stO_keep _ o t i).1.trans (st_keep c o t i).1, (stO_keep _ o t i).2.trans (st_keep c o t i).2⟩
theorem Sh_st (c : CS) (o : Nat) (t : Bool) : ∀ i, Sh c (stL c o t i) ∧ SS c (stL c o t i)
  | 0 => ⟨Sh.rf c, SS.rf c⟩
  | i + 1 => by
    have ih := Sh_st c o t i
    have k : Sh (stL c o t i) (stO (stL c o t i) o t i) ∧ SS (stL c o t i) (stO (stL c o t i) o t i) := by
      unfold stO
      split
      · split
        · exact ⟨Sh_fl _ i o, SS_fl _ i o⟩
        · exact ⟨Sh_gu _ i _, SS_gu _ i _⟩
      · exact ⟨Sh.rf _, SS.rf _⟩
    exact ⟨ih.1.tr k.1, ih.2.tr k.2⟩
theorem sC_st {o j : Nat} {t : Bool} : ∀ i, i ≤ j → sC c (stL c o t i) j
  | 0, _ => sC.rf c j
  | i + 1, h => by
    refine (sC_st (o := o) (t := t) i (by omega)).tr ?_
    show sC _ (stO _ o t i) j
    unfold stO
    split
    · split
      · exact sC_fl (by omega)
      · exact sC_gu (by omega)
    · exact sC.rf _ j
theorem eqM_st (m : MS) (o : Nat) (t : Bool) : ∀ i, eqM m (stM m o t i) ∧ (stM m o t i).byts = m.byts
  | 0 => ⟨rfl, rfl⟩
  | i + 1 => by
    have ih := eqM_st m o t i
    have k : eqM (stM m o t i) (stMO (stM m o t i) o t i) ∧ (stMO (stM m o t i) o t i).byts = (stM m o t i).byts := by
      unfold stMO
      split
      · split
        · exact ⟨eqM_fl _ i o, by_fl _ i o⟩
        · exact ⟨eqM_gu _ i _, by_gu _ i _⟩
      · exact ⟨rfl, rfl⟩
    exact ⟨ih.1.tr k.1, k.2.trans ih.2⟩
/-- node by node; the settled object's shadows at live nodes are gone behind -/
theorem Nd_st {o : Nat} {t : Bool} (ho : o < 6) (hc : CI c) (hm : MI m) (hn : ∀ j, j < 12 → Nd c m j) (hb : c.begun o = m.latest o) (hb0 : 0 < c.begun o) (h3 : ∀ i, i < 12 → c.live i = true → 0 < c.hver i (sp c i o) → c.hver i (sp c i o) = c.begun o) : ∀ i, i ≤ 12 → (∀ j, j < 12 → Nd (stL c o t i) (stM m o t i) j) ∧ ∀ j, j < i → c.live j = true → (stL c o t i).hver j (sp (stL c o t i) j o) = 0
  | 0, _ => ⟨hn, fun j hj => by omega⟩
  | i + 1, hi => by
    obtain ⟨ih, ih0⟩ := Nd_st ho hc hm hn hb hb0 h3 i (by omega)
    have hX : CI (stL c o t i) := stL_CI hc i
    have hY : MI (stM m o t i) := stM_MI hm i
    have hbX : (stL c o t i).begun o = c.begun o := congrFun (eqC_st c o t i).un.1 o
    have hbY : (stM m o t i).latest o = m.latest o := congrFun (eqM_st m o t i).1.un.1 o
    have hlX : (stL c o t i).live = c.live := (st_keep c o t i).1
    have hsc : sC c (stL c o t i) i := sC_st i (Nat.le_refl _)
    have hspX : sp (stL c o t i) i o = sp c i o := hq_sC hsc o true
    have hvX : (stL c o t i).hver i = c.hver i := hsc.2.2.2.2.1
    have nd := ih i (by omega)
    obtain ⟨y1, y2⟩ := nd.2.2.2.2.1 o true ho
    rw [hq_t] at y1 y2
    have hlf := nd.1
    have e1 : stL c o t (i + 1) = stO (stL c o t i) o t i := rfl
    have e2 : stM m o t (i + 1) = stMO (stM m o t i) o t i := rfl
    by_cases q : (stL c o t i).live i = true ∧ (stL c o t i).hver i (sp (stL c o t i) i o) = (stL c o t i).begun o
    · have hv : 0 < (stL c o t i).hver i (sp (stL c o t i) i o) := by rw [q.2, hbX]; exact hb0
      have q2 : (stM m o t i).fail i = false ∧ (stM m o t i).has (rx i o true) = true ∧ (stM m o t i).ver (rx i o true) = (stM m o t i).latest o := by
        refine ⟨?_, ?_, ?_⟩
        · rw [q.1] at hlf
          simpa using hlf.symm
        · rw [y1]; exact decide_eq_true hv
        · rw [(y2 hv).1, q.2, hbX, hbY, hb]
      have p1 : stO (stL c o t i) o t i = if t = true then flC (stL c o t i) i o else guC (stL c o t i) i (sp (stL c o t i) i o) := if_pos q
      have p2 : stMO (stM m o t i) o t i = if t = true then mfl (stM m o t i) i o else mgu (stM m o t i) i (rx i o true) := if_pos q2
      rw [e1, e2, p1, p2]
      cases t
      · refine ⟨fun j hj => ?_, fun j hj hl => ?_⟩
        · by_cases e : j = i
          · subst e
            exact Nd_gu (z := true) ho hX (ih j hj)
          · exact Nd_frame hX (ih j hj) (sC_gu e) (sM_gu hY ho e)
        · show up2 (stL c o false i).hver i (sp (stL c o false i) i o) 0 j (sp (stL c o false i) j o) = 0
          by_cases e : j = i
          · subst e; exact up2_s
          · rw [up2_n (fun z => e z.1)]
            exact ih0 j (by omega) hl
      · refine ⟨fun j hj => ?_, fun j hj hl => ?_⟩
        · by_cases e : j = i
          · subst e
            exact Nd_fl ho hX (ih j hj) hv
          · exact Nd_frame hX (ih j hj) (sC_fl e) (sM_fl hY ho e)
        · show (flC (stL c o true i) i o).hver j (sp (flC (stL c o true i) i o) j o) = 0
          rw [sp_fl]
          by_cases e : j = i
          · subst e
            rw [if_pos ⟨rfl, rfl⟩]
            exact up2_s
          · rw [if_neg (fun z => e z.1)]
            show up2 (stL c o true i).hver i (rp (stL c o true i) i o) 0 j (sp (stL c o true i) j o) = 0
            rw [up2_n (fun z => e z.1)]
            exact ih0 j (by omega) hl
    · have q2 : ¬ ((stM m o t i).fail i = false ∧ (stM m o t i).has (rx i o true) = true ∧ (stM m o t i).ver (rx i o true) = (stM m o t i).latest o) := by
        rintro ⟨z1, z2, z3⟩
        apply q
        have hv : 0 < (stL c o t i).hver i (sp (stL c o t i) i o) := by
          rw [y1] at z2
          exact of_decide_eq_true z2
        refine ⟨by rw [hlf, z1]; rfl, ?_⟩
        rw [(y2 hv).1, hbY] at z3
        rw [z3, hbX, hb]
      have p1 : stO (stL c o t i) o t i = stL c o t i := if_neg q
      have p2 : stMO (stM m o t i) o t i = stM m o t i := if_neg q2
      rw [e1, e2, p1, p2]
      refine ⟨ih, fun j hj hl => ?_⟩
      by_cases e : j = i
      · subst e
        rcases Nat.eq_zero_or_pos ((stL c o t j).hver j (sp (stL c o t j) j o)) with z | z
        · exact z
        · exfalso
          apply q
          rw [hspX, hvX] at z ⊢
          exact ⟨by rw [hlX]; exact hl, by rw [hbX]; exact h3 j (by omega) hl z⟩
      · exact ih0 j (by omega) hl
theorem Rel_settle (h : Rel K c m) {o : Nat} (ho : o < 6) (q : c.unst o = true) : Rel (K + 1) (seC c o) (seM m o) := by
  obtain ⟨h1, ⟨g1, g2, g3, g4⟩, hL, hI⟩ := id h
  have hu := hL.2.2.2.1 o ho
  have hb0 := g4 o ho q
  have hbm := hL.2.2.1 o ho
  have ht := h.snrE ho hb0
  have hm1 : MI (m.s_opn (upN m.opn o false)) := h.mi
  have hn1 : ∀ j, j < 12 → Nd c (m.s_opn (upN m.opn o false)) j := fun j hj => h1 j hj
  obtain ⟨a1, a2⟩ := Nd_st (t := tkn m o 12) ho h.ci hm1 hn1 hbm hb0 (fun i hi hl hv => (g3 i o hi ho hl hv).2) 12 (Nat.le_refl _)
  have kc := eqC_st c o (tkn m o 12) 12
  obtain ⟨km, kmb⟩ := eqM_st (m.s_opn (upN m.opn o false)) o (tkn m o 12) 12
  obtain ⟨kl, kd⟩ := st_keep c o (tkn m o 12) 12
  obtain ⟨s1, s2⟩ := Sh_st c o (tkn m o 12) 12
  have hci := stL_CI (o := o) (t := tkn m o 12) h.ci 12
  have hmi := stM_MI (o := o) (t := tkn m o 12) hm1 12
  unfold seC seM
  rw [ht]
  generalize stL c o (tkn m o 12) 12 = X at *
  generalize stM (m.s_opn (upN m.opn o false)) o (tkn m o 12) 12 = Y at *
  obtain ⟨kb, ku, -⟩ := kc.un
  have kc2 : eqC (c.s_unst (upN c.unst o false)) (X.s_unst (upN X.unst o false)) := by
    have z : tgC X = tgC c := kc
    show tgC (X.s_unst (upN X.unst o false)) = tgC (c.s_unst (upN c.unst o false))
    rw [ku]
    exact congrArg (fun t => (t.1, t.2.1, t.2.2.1, upN c.unst o false, t.2.2.2.2)) z
  refine ⟨fun j hj => a1 j hj, ?_, ?_, ?_⟩
  · refine Gi_sh ⟨g1, g2, g3, g4⟩ (c' := X.s_unst (upN X.unst o false)) s1 kb (fun i o' hi ho' hl hv => ?_) (fun o' ho' hu' => ?_)
    · have hl' : c.live i = true := by rw [← kl]; exact hl
      have hv' : 0 < X.hver i (sp X i o') := hv
      have hne : o' ≠ o := fun e => by
        subst e
        rw [a2 i hi hl'] at hv'
        omega
      have hS' : X.hver i (sp X i o') = c.hver i (sp c i o') := by
        rcases s2 i o' with z | z
        · omega
        · exact z
      rw [hS'] at hv'
      obtain ⟨w1, w2⟩ := g3 i o' hi ho' hl' hv'
      refine ⟨?_, ?_⟩
      · show upN X.unst o false o' = true
        rw [upN_n hne, ku]
        exact w1
      · show X.hver i (sp X i o') = X.begun o'
        rw [hS', kb]
        exact w2
    · have hu2 : upN X.unst o false o' = true := hu'
      show 0 < X.begun o'
      rw [kb]
      by_cases e : o' = o
      · subst e; exact hb0
      · rw [upN_n e, ku] at hu2
        exact g4 o' ho' hu2
  · refine Lk_g (c := c.s_unst (upN c.unst o false)) (m := m.s_opn (upN m.opn o false)) ?_ kc2 km
    obtain ⟨l1, l2, l3, l4, l5⟩ := hL
    refine ⟨l1, l2, l3, fun o' ho' => ?_, l5⟩
    show upN c.unst o false o' = upN m.opn o false o'
    by_cases e : o' = o
    · subst e; rw [upN_s, upN_s]
    · rw [upN_n e, upN_n e]; exact l4 o' ho'
  · exact Iv_g (c := c.s_unst (upN c.unst o false)) (m := m.s_opn (upN m.opn o false)) h.up.2.2.2 kc2 km hci hmi (by rw [show (X.s_unst (upN X.unst o false)).data = c.data from kd]; exact h.bc.2.2.2.2) (by rw [show Y.byts = m.byts from kmb]; exact h.by)
theorem ag_settle (h : Rel K c m) (hK : K < 60000) (x : Int32) : Ag K c m M_S_settle M_M_settle [.int x] := by
  obtain ⟨h1, ⟨g1, g2, g3, g4⟩, hL, hI⟩ := id h
  by_cases hx : inR x 6 = true
  · obtain ⟨o, ho, rfl⟩ := inR_of hx (by decide)
    have hu := hL.2.2.2.1 o ho
    by_cases q : c.unst o = true
    · have hb0 := g4 o ho q
      have hbK : c.begun o ≤ K := hI.2.2.2.2.2.2.2.2.2.2.2.2 o ho
      have hbm := hL.2.2.1 o ho
      refine ⟨_, seC c o, seM m o, fun l g n d hd => k_S_settle (by omega) ho (by omega) h.ci q, fun l g n d hd => ?_, Rel_settle h ho q⟩
      rw [h.snrE ho hb0]
      exact k_M_settle (by omega) ho h.mi (by omega) (by rw [← hu]; exact q)
    · have q' : c.unst o = false := by simpa using q
      exact ⟨_, c, m, fun l g n d hd => k_S_settle_no (by omega) ho q', fun l g n d hd => k_M_settle_no (by omega) ho (by rw [← hu]; exact q'), h.up⟩
  · exact ⟨_, c, m, fun l g n d hd => k_S_settle_bad (by omega) (by simpa using hx), fun l g n d hd => k_M_settle_bad (by omega) (by simpa using hx), h.up⟩
end WP
