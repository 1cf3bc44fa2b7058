theorem Rel_0 : Rel 0 cIni mIni := by
  refine ⟨fun i hi => ⟨rfl, rfl, fun _ _ => rfl, fun _ _ _ _ => rfl, fun o z ho => ⟨rfl, fun q => absurd q (Nat.lt_irrefl 0)⟩, fun p hp => ⟨fun _ => rfl, (by show 0 = stp 0; decide), Nat.zero_le _, fun s hs => absurd hs (Nat.not_lt_zero _)⟩, fun p q s t hp hq hs ht => absurd hs (Nat.not_lt_zero _)⟩, ⟨fun _ _ _ _ => Nat.zero_le _, fun i j p q _ _ _ _ _ q1 _ => absurd q1 (Nat.lt_irrefl 0), fun i o _ _ _ q => absurd q (Nat.lt_irrefl 0), fun o _ q => Bool.noConfusion q⟩, ⟨rfl, rfl, fun _ _ => rfl, fun _ _ => rfl, rfl, rfl, rfl, rfl, fun i hi => rfl⟩, ?_⟩
  have zb : ∀ j : Nat, (fun _ : Nat => (0 : Nat)) j < 256 := fun _ => by show (0 : Nat) < 256; omega
  have zm : ∀ i j : Nat, (fun _ _ : Nat => (0 : Nat)) i j < 256 := fun _ _ => by show (0 : Nat) < 256; omega
  exact ⟨fun i p => ⟨Nat.zero_le _, by show (0 : Nat) < 65536; omega, by show (0 : Nat) < 65536; omega, fun s => by show (0 : Nat) < 40; omega⟩, ⟨fun _ => Nat.zero_le _, fun _ => by show (0 : Nat) < 65536; omega, fun _ => by show (0 : Nat) < 40; omega⟩, zb, Nat.zero_le _, Nat.zero_le _, Or.inl rfl, zm, ⟨zm, zm, zm, zb, zm⟩, fun _ _ _ _ _ _ => rfl, zb, zb, zb, fun _ _ => Nat.le_refl _⟩

def XL (b L : Nat) (xs : Nat → Int32) (z : Nat) : XPT := fun U => va_X b L xs U U.heap ∧ b < U.heap.size ∧ U.heap.size = z
abbrev ML (nm : String) : MT := (⟨"ShareStoreLaw", nm, ""⟩, code, 4, ret)
theorem room_law {m : Nat} (hm : m ≤ 15) : 8 + 1 ≤ room_1.frames ∧ 8 + (m + 11) + 36 * 8 ≤ room_1.locals := ⟨by decide, Nat.le_trans (show 8 + (m + 11) + 36 * 8 ≤ 322 by omega) (show 322 ≤ room_1.locals by decide)⟩
theorem and31 (x : Int32) : ∃ v, v < 32 ∧ x &&& nI 31 = nI v := by
  refine ⟨(x &&& nI 31).toBitVec.toNat, ?_, ?_⟩
  · have h : (x &&& nI 31).toBitVec.toNat ≤ 31 := by
      show (x.toBitVec &&& (nI 31).toBitVec).toNat ≤ 31
      rw [BitVec.toNat_and]
      exact Nat.and_le_right
    omega
  · apply Int32.toBitVec_inj.mp
    show _ = BitVec.ofNat 32 _
    rw [BitVec.ofNat_toNat, BitVec.setWidth_eq]
theorem sub5 {L i : Nat} (hL : L ≤ 2560) (hi : i ≤ 2560) : nI L - nI 5 < nI i ↔ L < i + 5 := by
  have e1 : (nI L).toInt = (L : Int) := nI_toInt (by omega)
  have e2 : (nI 5).toInt = 5 := rfl
  have e3 : (nI i).toInt = (i : Int) := nI_toInt (by omega)
  rw [Int32.lt_iff_toInt_lt, Int32.toInt_sub, e1, e2, e3]
  rw [Int.bmod_def]
  omega
theorem cmp_self (x : Int64) : lg_cmp x x = 0 := by
  unfold lg_cmp
  simp
section LAW
variable {l : Launch} {g : GX} {M : MT} {R : Room} {TG : TGT} {n : Nat} {h : AH} {k sl : Nat} {pc : Nat} {lv : List (Nat × Value)} {st : List Value}
theorem r_sld {b L i : Nat} {xs : Nat → Int32} (hd : decode M.2.1 pc = .ok (.iaload, 1)) (hi : i < L) (hL : L ≤ 2560) (kk : RJ l g M R TG (XL b L xs g.1) n h k sl (pc + 1) lv (.int (xs i) :: st)) : RJ l g M R TG (XL b L xs g.1) n h k sl pc lv (.int (nI i) :: .ref b :: st) := by
  intro p e s m args below meth c H locs ls E hR hS hl
  obtain ⟨hX, hbl, hsz⟩ := E.2.2.2.2.2.2.2.2.2.2
  refine va_sld E.1 E.2.1 hX hbl (show ¬ g.1 ≤ b by omega) hS (i := nI i) (vp_in_j hi (by omega)) hd ?_
  rw [nI_clamp (by omega)]
  exact kk p e s m args below meth c H locs ls E hR hS hl
theorem r_slen {b L : Nat} {xs : Nat → Int32} (hd : decode M.2.1 pc = .ok (.arraylength, 1)) (kk : RJ l g M R TG (XL b L xs g.1) n h k sl (pc + 1) lv (.int (nI L) :: st)) : RJ l g M R TG (XL b L xs g.1) n h k sl pc lv (.ref b :: st) := by
  intro p e s m args below meth c H locs ls E hR hS hl
  obtain ⟨hX, hbl, hsz⟩ := E.2.2.2.2.2.2.2.2.2.2
  exact va_slen E.1 E.2.1 hX hbl (show ¬ g.1 ≤ b by omega) hS hd (kk p e s m args below meth c H locs ls E hR hS hl)
end LAW
/-- what the law's end gives: from ireturn at 954 with 1 on the stack -/
def LEND (l : Launch) (TG : TGT) (b : Nat) (nm : String) : Prop := ∀ (L : Nat) (xs : Nat → Int32) (g : GX) (n : Nat) (h : AH) (k sl : Nat) (lv : List (Nat × Value)), k ≤ 600000 → sl ≤ 7302250 → RJ l g (ML nm) room_1 TG (XL b L xs g.1) n h k sl 954 lv [.int (nI 1)]
theorem law_0 {l : Launch} {g : GX} {TG : TGT} {b L K : Nat} {nm : String} {xs : Nat → Int32} {c : CS} {m : MS} (hL : L ≤ 2560) (hi : 5 * K + 5 ≤ L) (h : Rel K c m) (hK : K < 60000) (hfin : ∀ c' m', Rel (K + 1) c' m' → RJ l g (ML nm) room_1 TG (XL b L xs g.1) 423 (hp g c' m') 423 14542 947 [(0, .ref b), (1, .ref (aS g)), (2, .ref (aM g)), (3, .int (nI (5 * K)))] []) : RJ l g (ML nm) room_1 TG (XL b L xs g.1) 423 (hp g c m) 423 14542 152 [(0, .ref b), (1, .ref (aS g)), (2, .ref (aM g)), (3, .int (nI (5 * K)))] [] := by
  obtain ⟨r, c1, m1, e1, e2, hR1⟩ := ag_times h (xs (5 * K + 1)) (xs (5 * K + 2))
  refine r_aload_n d_L_law_152 1 rfl ?_
  refine r_aload_n d_L_law_153 0 rfl ?_
  refine r_iload_n d_L_law_154 3 rfl ?_
  refine r_iconst (v := nI 1) d_L_law_155 (by decide) ?_
  refine r_iaddN d_L_law_156 ?_
  refine r_sld d_L_law_157 (by omega) hL ?_
  refine r_aload_n d_L_law_158 0 rfl ?_
  refine r_iload_n d_L_law_159 3 rfl ?_
  refine r_iconst (v := nI 2) d_L_law_160 (by decide) ?_
  refine r_iaddN d_L_law_161 ?_
  refine r_sld d_L_law_162 (by omega) hL ?_
  refine rc_L_13 rfl d_L_law_163 (e1 l g 423 8 (Nat.le_refl _)) gS (room_law (by decide)) ⟨by decide, by decide⟩ (Nat.le_of_ble_eq_true rfl) ?_
  refine r_aload_n d_L_law_166 2 rfl ?_
  refine r_aload_n d_L_law_167 0 rfl ?_
  refine r_iload_n d_L_law_168 3 rfl ?_
  refine r_iconst (v := nI 1) d_L_law_169 (by decide) ?_
  refine r_iaddN d_L_law_170 ?_
  refine r_sld d_L_law_171 (by omega) hL ?_
  refine r_aload_n d_L_law_172 0 rfl ?_
  refine r_iload_n d_L_law_173 3 rfl ?_
  refine r_iconst (v := nI 2) d_L_law_174 (by decide) ?_
  refine r_iaddN d_L_law_175 ?_
  refine r_sld d_L_law_176 (by omega) hL ?_
  refine rc_L_17 rfl d_L_law_177 (e2 l g 423 8 (Nat.le_refl _)) gM (room_law (by decide)) ⟨by decide, by decide⟩ (Nat.le_of_ble_eq_true rfl) ?_
  exact r_icmp_eq (tgt := 947) d_L_law_180 (by decide) (fun _ => hfin c1 m1 hR1) (fun q => absurd rfl q)
theorem law_1 {l : Launch} {g : GX} {TG : TGT} {b L K : Nat} {nm : String} {xs : Nat → Int32} {c : CS} {m : MS} (hL : L ≤ 2560) (hi : 5 * K + 5 ≤ L) (h : Rel K c m) (hK : K < 60000) (hfin : ∀ c' m', Rel (K + 1) c' m' → RJ l g (ML nm) room_1 TG (XL b L xs g.1) 423 (hp g c' m') 423 14542 947 [(0, .ref b), (1, .ref (aS g)), (2, .ref (aM g)), (3, .int (nI (5 * K)))] []) : RJ l g (ML nm) room_1 TG (XL b L xs g.1) 423 (hp g c m) 423 14542 185 [(0, .ref b), (1, .ref (aS g)), (2, .ref (aM g)), (3, .int (nI (5 * K)))] [] := by
  obtain ⟨r, c1, m1, e1, e2, hR1⟩ := ag_over h (xs (5 * K + 1)) (xs (5 * K + 2))
  refine r_aload_n d_L_law_185 1 rfl ?_
  refine r_aload_n d_L_law_186 0 rfl ?_
  refine r_iload_n d_L_law_187 3 rfl ?_
  refine r_iconst (v := nI 1) d_L_law_188 (by decide) ?_
  refine r_iaddN d_L_law_189 ?_
  refine r_sld d_L_law_190 (by omega) hL ?_
  refine r_aload_n d_L_law_191 0 rfl ?_
  refine r_iload_n d_L_law_192 3 rfl ?_
  refine r_iconst (v := nI 2) d_L_law_193 (by decide) ?_
  refine r_iaddN d_L_law_194 ?_
  refine r_sld d_L_law_195 (by omega) hL ?_
  refine rc_L_18 rfl d_L_law_196 (e1 l g 423 8 (Nat.le_refl _)) gS (room_law (by decide)) ⟨by decide, by decide⟩ (Nat.le_of_ble_eq_true rfl) ?_
  refine r_aload_n d_L_law_199 2 rfl ?_
  refine r_aload_n d_L_law_200 0 rfl ?_
  refine r_iload_n d_L_law_201 3 rfl ?_
  refine r_iconst (v := nI 1) d_L_law_202 (by decide) ?_
  refine r_iaddN d_L_law_203 ?_
  refine r_sld d_L_law_204 (by omega) hL ?_
  refine r_aload_n d_L_law_205 0 rfl ?_
  refine r_iload_n d_L_law_206 3 rfl ?_
  refine r_iconst (v := nI 2) d_L_law_207 (by decide) ?_
  refine r_iaddN d_L_law_208 ?_
  refine r_sld d_L_law_209 (by omega) hL ?_
  refine rc_L_21 rfl d_L_law_210 (e2 l g 423 8 (Nat.le_refl _)) gM (room_law (by decide)) ⟨by decide, by decide⟩ (Nat.le_of_ble_eq_true rfl) ?_
  exact r_icmp_eq (tgt := 947) d_L_law_213 (by decide) (fun _ => hfin c1 m1 hR1) (fun q => absurd rfl q)
theorem law_2 {l : Launch} {g : GX} {TG : TGT} {b L K : Nat} {nm : String} {xs : Nat → Int32} {c : CS} {m : MS} (hL : L ≤ 2560) (hi : 5 * K + 5 ≤ L) (h : Rel K c m) (hK : K < 60000) (hfin : ∀ c' m', Rel (K + 1) c' m' → RJ l g (ML nm) room_1 TG (XL b L xs g.1) 423 (hp g c' m') 423 14542 947 [(0, .ref b), (1, .ref (aS g)), (2, .ref (aM g)), (3, .int (nI (5 * K)))] []) : RJ l g (ML nm) room_1 TG (XL b L xs g.1) 423 (hp g c m) 423 14542 218 [(0, .ref b), (1, .ref (aS g)), (2, .ref (aM g)), (3, .int (nI (5 * K)))] [] := by
  obtain ⟨r, c1, m1, e1, e2, hR1⟩ := ag_rowAt h (xs (5 * K + 1)) (xs (5 * K + 2))
  refine r_aload_n d_L_law_218 1 rfl ?_
  refine r_aload_n d_L_law_219 0 rfl ?_
  refine r_iload_n d_L_law_220 3 rfl ?_
  refine r_iconst (v := nI 1) d_L_law_221 (by decide) ?_
  refine r_iaddN d_L_law_222 ?_
  refine r_sld d_L_law_223 (by omega) hL ?_
  refine r_aload_n d_L_law_224 0 rfl ?_
  refine r_iload_n d_L_law_225 3 rfl ?_
  refine r_iconst (v := nI 2) d_L_law_226 (by decide) ?_
  refine r_iaddN d_L_law_227 ?_
  refine r_sld d_L_law_228 (by omega) hL ?_
  refine rc_L_22 rfl d_L_law_229 (e1 l g 423 8 (Nat.le_refl _)) gS (room_law (by decide)) ⟨by decide, by decide⟩ (Nat.le_of_ble_eq_true rfl) ?_
  refine r_aload_n d_L_law_232 2 rfl ?_
  refine r_aload_n d_L_law_233 0 rfl ?_
  refine r_iload_n d_L_law_234 3 rfl ?_
  refine r_iconst (v := nI 1) d_L_law_235 (by decide) ?_
  refine r_iaddN d_L_law_236 ?_
  refine r_sld d_L_law_237 (by omega) hL ?_
  refine r_aload_n d_L_law_238 0 rfl ?_
  refine r_iload_n d_L_law_239 3 rfl ?_
  refine r_iconst (v := nI 2) d_L_law_240 (by decide) ?_
  refine r_iaddN d_L_law_241 ?_
  refine r_sld d_L_law_242 (by omega) hL ?_
  refine rc_L_25 rfl d_L_law_243 (e2 l g 423 8 (Nat.le_refl _)) gM (room_law (by decide)) ⟨by decide, by decide⟩ (Nat.le_of_ble_eq_true rfl) ?_
  exact r_icmp_eq (tgt := 947) d_L_law_246 (by decide) (fun _ => hfin c1 m1 hR1) (fun q => absurd rfl q)
theorem law_3 {l : Launch} {g : GX} {TG : TGT} {b L K : Nat} {nm : String} {xs : Nat → Int32} {c : CS} {m : MS} (hL : L ≤ 2560) (hi : 5 * K + 5 ≤ L) (h : Rel K c m) (hK : K < 60000) (hfin : ∀ c' m', Rel (K + 1) c' m' → RJ l g (ML nm) room_1 TG (XL b L xs g.1) 423 (hp g c' m') 423 14542 947 [(0, .ref b), (1, .ref (aS g)), (2, .ref (aM g)), (3, .int (nI (5 * K)))] []) : RJ l g (ML nm) room_1 TG (XL b L xs g.1) 423 (hp g c m) 423 14542 251 [(0, .ref b), (1, .ref (aS g)), (2, .ref (aM g)), (3, .int (nI (5 * K)))] [] := by
  obtain ⟨r, c1, m1, e1, e2, hR1⟩ := ag_feed h (((xs (5 * K + 1)).toInt64 <<< ((nI 32).toInt64 &&& 63)) ||| ((xs (5 * K + 2)).toInt64 &&& (4294967295 : Int64))) (xs (5 * K + 3))
  refine r_aload_n d_L_law_251 1 rfl ?_
  refine r_aload_n d_L_law_252 0 rfl ?_
  refine r_iload_n d_L_law_253 3 rfl ?_
  refine r_iconst (v := nI 1) d_L_law_254 (by decide) ?_
  refine r_iaddN d_L_law_255 ?_
  refine r_sld d_L_law_256 (by omega) hL ?_
  refine r_i2l d_L_law_257 ?_
  refine r_bipush (v := nI 32) d_L_law_258 (by decide) ?_
  refine r_lshl d_L_law_260 ?_
  refine r_aload_n d_L_law_261 0 rfl ?_
  refine r_iload_n d_L_law_262 3 rfl ?_
  refine r_iconst (v := nI 2) d_L_law_263 (by decide) ?_
  refine r_iaddN d_L_law_264 ?_
  refine r_sld d_L_law_265 (by omega) hL ?_
  refine r_i2l d_L_law_266 ?_
  refine r_ldc2 (v := 4294967295) d_L_law_267 (show Cond.constantLong "ShareStoreLaw" 26 4294967295 ∈ tblG by decide +kernel) ?_
  refine r_land d_L_law_270 ?_
  refine r_lor d_L_law_271 ?_
  refine r_aload_n d_L_law_272 0 rfl ?_
  refine r_iload_n d_L_law_273 3 rfl ?_
  refine r_iconst (v := nI 3) d_L_law_274 (by decide) ?_
  refine r_iaddN d_L_law_275 ?_
  refine r_sld d_L_law_276 (by omega) hL ?_
  refine rc_L_28 rfl d_L_law_277 (e1 l g 423 8 (Nat.le_refl _)) gS (room_law (by decide)) ⟨by decide, by decide⟩ (Nat.le_of_ble_eq_true rfl) ?_
  refine r_aload_n d_L_law_280 2 rfl ?_
  refine r_aload_n d_L_law_281 0 rfl ?_
  refine r_iload_n d_L_law_282 3 rfl ?_
  refine r_iconst (v := nI 1) d_L_law_283 (by decide) ?_
  refine r_iaddN d_L_law_284 ?_
  refine r_sld d_L_law_285 (by omega) hL ?_
  refine r_i2l d_L_law_286 ?_
  refine r_bipush (v := nI 32) d_L_law_287 (by decide) ?_
  refine r_lshl d_L_law_289 ?_
  refine r_aload_n d_L_law_290 0 rfl ?_
  refine r_iload_n d_L_law_291 3 rfl ?_
  refine r_iconst (v := nI 2) d_L_law_292 (by decide) ?_
  refine r_iaddN d_L_law_293 ?_
  refine r_sld d_L_law_294 (by omega) hL ?_
  refine r_i2l d_L_law_295 ?_
  refine r_ldc2 (v := 4294967295) d_L_law_296 (show Cond.constantLong "ShareStoreLaw" 26 4294967295 ∈ tblG by decide +kernel) ?_
  refine r_land d_L_law_299 ?_
  refine r_lor d_L_law_300 ?_
  refine r_aload_n d_L_law_301 0 rfl ?_
  refine r_iload_n d_L_law_302 3 rfl ?_
  refine r_iconst (v := nI 3) d_L_law_303 (by decide) ?_
  refine r_iaddN d_L_law_304 ?_
  refine r_sld d_L_law_305 (by omega) hL ?_
  refine rc_L_32 rfl d_L_law_306 (e2 l g 423 8 (Nat.le_refl _)) gM (room_law (by decide)) ⟨by decide, by decide⟩ (Nat.le_of_ble_eq_true rfl) ?_
  exact r_icmp_eq (tgt := 947) d_L_law_309 (by decide) (fun _ => hfin c1 m1 hR1) (fun q => absurd rfl q)
theorem law_4 {l : Launch} {g : GX} {TG : TGT} {b L K : Nat} {nm : String} {xs : Nat → Int32} {c : CS} {m : MS} (hL : L ≤ 2560) (hi : 5 * K + 5 ≤ L) (h : Rel K c m) (hK : K < 60000) (hfin : ∀ c' m', Rel (K + 1) c' m' → RJ l g (ML nm) room_1 TG (XL b L xs g.1) 423 (hp g c' m') 423 14542 947 [(0, .ref b), (1, .ref (aS g)), (2, .ref (aM g)), (3, .int (nI (5 * K)))] []) : RJ l g (ML nm) room_1 TG (XL b L xs g.1) 423 (hp g c m) 423 14542 314 [(0, .ref b), (1, .ref (aS g)), (2, .ref (aM g)), (3, .int (nI (5 * K)))] [] := by
  obtain ⟨r, c1, m1, e1, e2, hR1⟩ := ag_cut h (xs (5 * K + 1))
  refine r_aload_n d_L_law_314 1 rfl ?_
  refine r_aload_n d_L_law_315 0 rfl ?_
  refine r_iload_n d_L_law_316 3 rfl ?_
  refine r_iconst (v := nI 1) d_L_law_317 (by decide) ?_
  refine r_iaddN d_L_law_318 ?_
  refine r_sld d_L_law_319 (by omega) hL ?_
  refine rc_L_33 rfl d_L_law_320 (e1 l g 423 8 (Nat.le_refl _)) gS (room_law (by decide)) ⟨by decide, by decide⟩ (Nat.le_of_ble_eq_true rfl) ?_
  refine r_aload_n d_L_law_323 2 rfl ?_
  refine r_aload_n d_L_law_324 0 rfl ?_
  refine r_iload_n d_L_law_325 3 rfl ?_
  refine r_iconst (v := nI 1) d_L_law_326 (by decide) ?_
  refine r_iaddN d_L_law_327 ?_
  refine r_sld d_L_law_328 (by omega) hL ?_
  refine rc_L_37 rfl d_L_law_329 (e2 l g 423 8 (Nat.le_refl _)) gM (room_law (by decide)) ⟨by decide, by decide⟩ (Nat.le_of_ble_eq_true rfl) ?_
  exact r_icmp_eq (tgt := 947) d_L_law_332 (by decide) (fun _ => hfin c1 m1 hR1) (fun q => absurd rfl q)
theorem law_5 {l : Launch} {g : GX} {TG : TGT} {b L K : Nat} {nm : String} {xs : Nat → Int32} {c : CS} {m : MS} (hL : L ≤ 2560) (hi : 5 * K + 5 ≤ L) (h : Rel K c m) (hK : K < 60000) (hfin : ∀ c' m', Rel (K + 1) c' m' → RJ l g (ML nm) room_1 TG (XL b L xs g.1) 423 (hp g c' m') 423 14542 947 [(0, .ref b), (1, .ref (aS g)), (2, .ref (aM g)), (3, .int (nI (5 * K)))] []) : RJ l g (ML nm) room_1 TG (XL b L xs g.1) 423 (hp g c m) 423 14542 337 [(0, .ref b), (1, .ref (aS g)), (2, .ref (aM g)), (3, .int (nI (5 * K)))] [] := by
  obtain ⟨r, c1, m1, e1, e2, hR1⟩ := ag_put h hK (xs (5 * K + 1))
  refine r_aload_n d_L_law_337 1 rfl ?_
  refine r_aload_n d_L_law_338 0 rfl ?_
  refine r_iload_n d_L_law_339 3 rfl ?_
  refine r_iconst (v := nI 1) d_L_law_340 (by decide) ?_
  refine r_iaddN d_L_law_341 ?_
  refine r_sld d_L_law_342 (by omega) hL ?_
  refine rc_L_38 rfl d_L_law_343 (e1 l g 423 8 (Nat.le_refl _)) gS (room_law (by decide)) ⟨by decide, by decide⟩ (Nat.le_of_ble_eq_true rfl) ?_
  refine r_aload_n d_L_law_346 2 rfl ?_
  refine r_aload_n d_L_law_347 0 rfl ?_
  refine r_iload_n d_L_law_348 3 rfl ?_
  refine r_iconst (v := nI 1) d_L_law_349 (by decide) ?_
  refine r_iaddN d_L_law_350 ?_
  refine r_sld d_L_law_351 (by omega) hL ?_
  refine rc_L_41 rfl d_L_law_352 (e2 l g 423 8 (Nat.le_refl _)) gM (room_law (by decide)) ⟨by decide, by decide⟩ (Nat.le_of_ble_eq_true rfl) ?_
  exact r_icmp_eq (tgt := 947) d_L_law_355 (by decide) (fun _ => hfin c1 m1 hR1) (fun q => absurd rfl q)
theorem law_6 {l : Launch} {g : GX} {TG : TGT} {b L K : Nat} {nm : String} {xs : Nat → Int32} {c : CS} {m : MS} (hL : L ≤ 2560) (hi : 5 * K + 5 ≤ L) (h : Rel K c m) (hK : K < 60000) (hfin : ∀ c' m', Rel (K + 1) c' m' → RJ l g (ML nm) room_1 TG (XL b L xs g.1) 423 (hp g c' m') 423 14542 947 [(0, .ref b), (1, .ref (aS g)), (2, .ref (aM g)), (3, .int (nI (5 * K)))] []) : RJ l g (ML nm) room_1 TG (XL b L xs g.1) 423 (hp g c m) 423 14542 360 [(0, .ref b), (1, .ref (aS g)), (2, .ref (aM g)), (3, .int (nI (5 * K)))] [] := by
  obtain ⟨r, c1, m1, e1, e2, hR1⟩ := ag_remove h hK (xs (5 * K + 1))
  refine r_aload_n d_L_law_360 1 rfl ?_
  refine r_aload_n d_L_law_361 0 rfl ?_
  refine r_iload_n d_L_law_362 3 rfl ?_
  refine r_iconst (v := nI 1) d_L_law_363 (by decide) ?_
  refine r_iaddN d_L_law_364 ?_
  refine r_sld d_L_law_365 (by omega) hL ?_
  refine rc_L_42 rfl d_L_law_366 (e1 l g 423 8 (Nat.le_refl _)) gS (room_law (by decide)) ⟨by decide, by decide⟩ (Nat.le_of_ble_eq_true rfl) ?_
  refine r_aload_n d_L_law_369 2 rfl ?_
  refine r_aload_n d_L_law_370 0 rfl ?_
  refine r_iload_n d_L_law_371 3 rfl ?_
  refine r_iconst (v := nI 1) d_L_law_372 (by decide) ?_
  refine r_iaddN d_L_law_373 ?_
  refine r_sld d_L_law_374 (by omega) hL ?_
  refine rc_L_45 rfl d_L_law_375 (e2 l g 423 8 (Nat.le_refl _)) gM (room_law (by decide)) ⟨by decide, by decide⟩ (Nat.le_of_ble_eq_true rfl) ?_
  exact r_icmp_eq (tgt := 947) d_L_law_378 (by decide) (fun _ => hfin c1 m1 hR1) (fun q => absurd rfl q)
theorem law_7 {l : Launch} {g : GX} {TG : TGT} {b L K : Nat} {nm : String} {xs : Nat → Int32} {c : CS} {m : MS} (hL : L ≤ 2560) (hi : 5 * K + 5 ≤ L) (h : Rel K c m) (hK : K < 60000) (hfin : ∀ c' m', Rel (K + 1) c' m' → RJ l g (ML nm) room_1 TG (XL b L xs g.1) 423 (hp g c' m') 423 14542 947 [(0, .ref b), (1, .ref (aS g)), (2, .ref (aM g)), (3, .int (nI (5 * K)))] []) : RJ l g (ML nm) room_1 TG (XL b L xs g.1) 423 (hp g c m) 423 14542 383 [(0, .ref b), (1, .ref (aS g)), (2, .ref (aM g)), (3, .int (nI (5 * K)))] [] := by
  obtain ⟨r, c1, m1, e1, e2, hR1⟩ := ag_settle h hK (xs (5 * K + 1))
  refine r_aload_n d_L_law_383 1 rfl ?_
  refine r_aload_n d_L_law_384 0 rfl ?_
  refine r_iload_n d_L_law_385 3 rfl ?_
  refine r_iconst (v := nI 1) d_L_law_386 (by decide) ?_
  refine r_iaddN d_L_law_387 ?_
  refine r_sld d_L_law_388 (by omega) hL ?_
  refine rc_L_46 rfl d_L_law_389 (e1 l g 423 8 (Nat.le_refl _)) gS (room_law (by decide)) ⟨by decide, by decide⟩ (Nat.le_of_ble_eq_true rfl) ?_
  refine r_aload_n d_L_law_392 2 rfl ?_
  refine r_aload_n d_L_law_393 0 rfl ?_
  refine r_iload_n d_L_law_394 3 rfl ?_
  refine r_iconst (v := nI 1) d_L_law_395 (by decide) ?_
  refine r_iaddN d_L_law_396 ?_
  refine r_sld d_L_law_397 (by omega) hL ?_
  refine rc_L_49 rfl d_L_law_398 (e2 l g 423 8 (Nat.le_refl _)) gM (room_law (by decide)) ⟨by decide, by decide⟩ (Nat.le_of_ble_eq_true rfl) ?_
  exact r_icmp_eq (tgt := 947) d_L_law_401 (by decide) (fun _ => hfin c1 m1 hR1) (fun q => absurd rfl q)
theorem law_8 {l : Launch} {g : GX} {TG : TGT} {b L K : Nat} {nm : String} {xs : Nat → Int32} {c : CS} {m : MS} (hL : L ≤ 2560) (hi : 5 * K + 5 ≤ L) (h : Rel K c m) (hK : K < 60000) (hfin : ∀ c' m', Rel (K + 1) c' m' → RJ l g (ML nm) room_1 TG (XL b L xs g.1) 423 (hp g c' m') 423 14542 947 [(0, .ref b), (1, .ref (aS g)), (2, .ref (aM g)), (3, .int (nI (5 * K)))] []) : RJ l g (ML nm) room_1 TG (XL b L xs g.1) 423 (hp g c m) 423 14542 406 [(0, .ref b), (1, .ref (aS g)), (2, .ref (aM g)), (3, .int (nI (5 * K)))] [] := by
  obtain ⟨r, c1, m1, e1, e2, hR1⟩ := ag_get h (xs (5 * K + 1)) (xs (5 * K + 2))
  refine r_aload_n d_L_law_406 1 rfl ?_
  refine r_aload_n d_L_law_407 0 rfl ?_
  refine r_iload_n d_L_law_408 3 rfl ?_
  refine r_iconst (v := nI 1) d_L_law_409 (by decide) ?_
  refine r_iaddN d_L_law_410 ?_
  refine r_sld d_L_law_411 (by omega) hL ?_
  refine r_aload_n d_L_law_412 0 rfl ?_
  refine r_iload_n d_L_law_413 3 rfl ?_
  refine r_iconst (v := nI 2) d_L_law_414 (by decide) ?_
  refine r_iaddN d_L_law_415 ?_
  refine r_sld d_L_law_416 (by omega) hL ?_
  refine rc_L_50 rfl d_L_law_417 (e1 l g 423 8 (Nat.le_refl _)) gS (room_law (by decide)) ⟨by decide, by decide⟩ (Nat.le_of_ble_eq_true rfl) ?_
  refine r_aload_n d_L_law_420 2 rfl ?_
  refine r_aload_n d_L_law_421 0 rfl ?_
  refine r_iload_n d_L_law_422 3 rfl ?_
  refine r_iconst (v := nI 1) d_L_law_423 (by decide) ?_
  refine r_iaddN d_L_law_424 ?_
  refine r_sld d_L_law_425 (by omega) hL ?_
  refine r_aload_n d_L_law_426 0 rfl ?_
  refine r_iload_n d_L_law_427 3 rfl ?_
  refine r_iconst (v := nI 2) d_L_law_428 (by decide) ?_
  refine r_iaddN d_L_law_429 ?_
  refine r_sld d_L_law_430 (by omega) hL ?_
  refine rc_L_53 rfl d_L_law_431 (e2 l g 423 8 (Nat.le_refl _)) gM (room_law (by decide)) ⟨by decide, by decide⟩ (Nat.le_of_ble_eq_true rfl) ?_
  exact r_icmp_eq (tgt := 947) d_L_law_434 (by decide) (fun _ => hfin c1 m1 hR1) (fun q => absurd rfl q)
theorem law_9 {l : Launch} {g : GX} {TG : TGT} {b L K : Nat} {nm : String} {xs : Nat → Int32} {c : CS} {m : MS} (hL : L ≤ 2560) (hi : 5 * K + 5 ≤ L) (h : Rel K c m) (hK : K < 60000) (hfin : ∀ c' m', Rel (K + 1) c' m' → RJ l g (ML nm) room_1 TG (XL b L xs g.1) 423 (hp g c' m') 423 14542 947 [(0, .ref b), (1, .ref (aS g)), (2, .ref (aM g)), (3, .int (nI (5 * K)))] []) : RJ l g (ML nm) room_1 TG (XL b L xs g.1) 423 (hp g c m) 423 14542 439 [(0, .ref b), (1, .ref (aS g)), (2, .ref (aM g)), (3, .int (nI (5 * K)))] [] := by
  obtain ⟨r, c1, m1, e1, e2, hR1⟩ := ag_got h (xs (5 * K + 1))
  refine r_aload_n d_L_law_439 1 rfl ?_
  refine r_aload_n d_L_law_440 0 rfl ?_
  refine r_iload_n d_L_law_441 3 rfl ?_
  refine r_iconst (v := nI 1) d_L_law_442 (by decide) ?_
  refine r_iaddN d_L_law_443 ?_
  refine r_sld d_L_law_444 (by omega) hL ?_
  refine rc_L_54 rfl d_L_law_445 (e1 l g 423 8 (Nat.le_refl _)) gS (room_law (by decide)) ⟨by decide, by decide⟩ (Nat.le_of_ble_eq_true rfl) ?_
  refine r_aload_n d_L_law_448 2 rfl ?_
  refine r_aload_n d_L_law_449 0 rfl ?_
  refine r_iload_n d_L_law_450 3 rfl ?_
  refine r_iconst (v := nI 1) d_L_law_451 (by decide) ?_
  refine r_iaddN d_L_law_452 ?_
  refine r_sld d_L_law_453 (by omega) hL ?_
  refine rc_L_57 rfl d_L_law_454 (e2 l g 423 8 (Nat.le_refl _)) gM (room_law (by decide)) ⟨by decide, by decide⟩ (Nat.le_of_ble_eq_true rfl) ?_
  exact r_icmp_eq (tgt := 947) d_L_law_457 (by decide) (fun _ => hfin c1 m1 hR1) (fun q => absurd rfl q)
theorem law_10 {l : Launch} {g : GX} {TG : TGT} {b L K : Nat} {nm : String} {xs : Nat → Int32} {c : CS} {m : MS} (hL : L ≤ 2560) (hi : 5 * K + 5 ≤ L) (h : Rel K c m) (hK : K < 60000) (hfin : ∀ c' m', Rel (K + 1) c' m' → RJ l g (ML nm) room_1 TG (XL b L xs g.1) 423 (hp g c' m') 423 14542 947 [(0, .ref b), (1, .ref (aS g)), (2, .ref (aM g)), (3, .int (nI (5 * K)))] []) : RJ l g (ML nm) room_1 TG (XL b L xs g.1) 423 (hp g c m) 423 14542 462 [(0, .ref b), (1, .ref (aS g)), (2, .ref (aM g)), (3, .int (nI (5 * K)))] [] := by
  obtain ⟨r, c1, m1, e1, e2, hR1⟩ := ag_version h (xs (5 * K + 1))
  refine r_aload_n d_L_law_462 1 rfl ?_
  refine r_aload_n d_L_law_463 0 rfl ?_
  refine r_iload_n d_L_law_464 3 rfl ?_
  refine r_iconst (v := nI 1) d_L_law_465 (by decide) ?_
  refine r_iaddN d_L_law_466 ?_
  refine r_sld d_L_law_467 (by omega) hL ?_
  refine rc_L_58 rfl d_L_law_468 (e1 l g 423 8 (Nat.le_refl _)) gS (room_law (by decide)) ⟨by decide, by decide⟩ (Nat.le_of_ble_eq_true rfl) ?_
  refine r_aload_n d_L_law_471 2 rfl ?_
  refine r_aload_n d_L_law_472 0 rfl ?_
  refine r_iload_n d_L_law_473 3 rfl ?_
  refine r_iconst (v := nI 1) d_L_law_474 (by decide) ?_
  refine r_iaddN d_L_law_475 ?_
  refine r_sld d_L_law_476 (by omega) hL ?_
  refine rc_L_61 rfl d_L_law_477 (e2 l g 423 8 (Nat.le_refl _)) gM (room_law (by decide)) ⟨by decide, by decide⟩ (Nat.le_of_ble_eq_true rfl) ?_
  exact r_icmp_eq (tgt := 947) d_L_law_480 (by decide) (fun _ => hfin c1 m1 hR1) (fun q => absurd rfl q)
theorem law_11 {l : Launch} {g : GX} {TG : TGT} {b L K : Nat} {nm : String} {xs : Nat → Int32} {c : CS} {m : MS} (hL : L ≤ 2560) (hi : 5 * K + 5 ≤ L) (h : Rel K c m) (hK : K < 60000) (hfin : ∀ c' m', Rel (K + 1) c' m' → RJ l g (ML nm) room_1 TG (XL b L xs g.1) 423 (hp g c' m') 423 14542 947 [(0, .ref b), (1, .ref (aS g)), (2, .ref (aM g)), (3, .int (nI (5 * K)))] []) : RJ l g (ML nm) room_1 TG (XL b L xs g.1) 423 (hp g c m) 423 14542 485 [(0, .ref b), (1, .ref (aS g)), (2, .ref (aM g)), (3, .int (nI (5 * K)))] [] := by
  obtain ⟨r, c1, m1, e1, e2, hR1⟩ := ag_open h (xs (5 * K + 1))
  refine r_aload_n d_L_law_485 1 rfl ?_
  refine r_aload_n d_L_law_486 0 rfl ?_
  refine r_iload_n d_L_law_487 3 rfl ?_
  refine r_iconst (v := nI 1) d_L_law_488 (by decide) ?_
  refine r_iaddN d_L_law_489 ?_
  refine r_sld d_L_law_490 (by omega) hL ?_
  refine rc_L_62 rfl d_L_law_491 (e1 l g 423 8 (Nat.le_refl _)) gS (room_law (by decide)) ⟨by decide, by decide⟩ (Nat.le_of_ble_eq_true rfl) ?_
  refine r_aload_n d_L_law_494 2 rfl ?_
  refine r_aload_n d_L_law_495 0 rfl ?_
  refine r_iload_n d_L_law_496 3 rfl ?_
  refine r_iconst (v := nI 1) d_L_law_497 (by decide) ?_
  refine r_iaddN d_L_law_498 ?_
  refine r_sld d_L_law_499 (by omega) hL ?_
  refine rc_L_65 rfl d_L_law_500 (e2 l g 423 8 (Nat.le_refl _)) gM (room_law (by decide)) ⟨by decide, by decide⟩ (Nat.le_of_ble_eq_true rfl) ?_
  exact r_icmp_eq (tgt := 947) d_L_law_503 (by decide) (fun _ => hfin c1 m1 hR1) (fun q => absurd rfl q)
theorem law_12 {l : Launch} {g : GX} {TG : TGT} {b L K : Nat} {nm : String} {xs : Nat → Int32} {c : CS} {m : MS} (hL : L ≤ 2560) (hi : 5 * K + 5 ≤ L) (h : Rel K c m) (hK : K < 60000) (hfin : ∀ c' m', Rel (K + 1) c' m' → RJ l g (ML nm) room_1 TG (XL b L xs g.1) 423 (hp g c' m') 423 14542 947 [(0, .ref b), (1, .ref (aS g)), (2, .ref (aM g)), (3, .int (nI (5 * K)))] []) : RJ l g (ML nm) room_1 TG (XL b L xs g.1) 423 (hp g c m) 423 14542 508 [(0, .ref b), (1, .ref (aS g)), (2, .ref (aM g)), (3, .int (nI (5 * K)))] [] := by
  obtain ⟨r, c1, m1, e1, e2, hR1⟩ := ag_fail h (xs (5 * K + 1))
  refine r_aload_n d_L_law_508 1 rfl ?_
  refine r_aload_n d_L_law_509 0 rfl ?_
  refine r_iload_n d_L_law_510 3 rfl ?_
  refine r_iconst (v := nI 1) d_L_law_511 (by decide) ?_
  refine r_iaddN d_L_law_512 ?_
  refine r_sld d_L_law_513 (by omega) hL ?_
  refine rc_L_66 rfl d_L_law_514 (e1 l g 423 8 (Nat.le_refl _)) gS (room_law (by decide)) ⟨by decide, by decide⟩ (Nat.le_of_ble_eq_true rfl) ?_
  refine r_aload_n d_L_law_517 2 rfl ?_
  refine r_aload_n d_L_law_518 0 rfl ?_
  refine r_iload_n d_L_law_519 3 rfl ?_
  refine r_iconst (v := nI 1) d_L_law_520 (by decide) ?_
  refine r_iaddN d_L_law_521 ?_
  refine r_sld d_L_law_522 (by omega) hL ?_
  refine rc_L_69 rfl d_L_law_523 (e2 l g 423 8 (Nat.le_refl _)) gM (room_law (by decide)) ⟨by decide, by decide⟩ (Nat.le_of_ble_eq_true rfl) ?_
  exact r_icmp_eq (tgt := 947) d_L_law_526 (by decide) (fun _ => hfin c1 m1 hR1) (fun q => absurd rfl q)
theorem law_13 {l : Launch} {g : GX} {TG : TGT} {b L K : Nat} {nm : String} {xs : Nat → Int32} {c : CS} {m : MS} (hL : L ≤ 2560) (hi : 5 * K + 5 ≤ L) (h : Rel K c m) (hK : K < 60000) (hfin : ∀ c' m', Rel (K + 1) c' m' → RJ l g (ML nm) room_1 TG (XL b L xs g.1) 423 (hp g c' m') 423 14542 947 [(0, .ref b), (1, .ref (aS g)), (2, .ref (aM g)), (3, .int (nI (5 * K)))] []) : RJ l g (ML nm) room_1 TG (XL b L xs g.1) 423 (hp g c m) 423 14542 531 [(0, .ref b), (1, .ref (aS g)), (2, .ref (aM g)), (3, .int (nI (5 * K)))] [] := by
  obtain ⟨r, c1, m1, e1, e2, hR1⟩ := ag_back h (xs (5 * K + 1))
  refine r_aload_n d_L_law_531 1 rfl ?_
  refine r_aload_n d_L_law_532 0 rfl ?_
  refine r_iload_n d_L_law_533 3 rfl ?_
  refine r_iconst (v := nI 1) d_L_law_534 (by decide) ?_
  refine r_iaddN d_L_law_535 ?_
  refine r_sld d_L_law_536 (by omega) hL ?_
  refine rc_L_70 rfl d_L_law_537 (e1 l g 423 8 (Nat.le_refl _)) gS (room_law (by decide)) ⟨by decide, by decide⟩ (Nat.le_of_ble_eq_true rfl) ?_
  refine r_aload_n d_L_law_540 2 rfl ?_
  refine r_aload_n d_L_law_541 0 rfl ?_
  refine r_iload_n d_L_law_542 3 rfl ?_
  refine r_iconst (v := nI 1) d_L_law_543 (by decide) ?_
  refine r_iaddN d_L_law_544 ?_
  refine r_sld d_L_law_545 (by omega) hL ?_
  refine rc_L_73 rfl d_L_law_546 (e2 l g 423 8 (Nat.le_refl _)) gM (room_law (by decide)) ⟨by decide, by decide⟩ (Nat.le_of_ble_eq_true rfl) ?_
  exact r_icmp_eq (tgt := 947) d_L_law_549 (by decide) (fun _ => hfin c1 m1 hR1) (fun q => absurd rfl q)
theorem law_14 {l : Launch} {g : GX} {TG : TGT} {b L K : Nat} {nm : String} {xs : Nat → Int32} {c : CS} {m : MS} (hL : L ≤ 2560) (hi : 5 * K + 5 ≤ L) (h : Rel K c m) (hK : K < 60000) (hfin : ∀ c' m', Rel (K + 1) c' m' → RJ l g (ML nm) room_1 TG (XL b L xs g.1) 423 (hp g c' m') 423 14542 947 [(0, .ref b), (1, .ref (aS g)), (2, .ref (aM g)), (3, .int (nI (5 * K)))] []) : RJ l g (ML nm) room_1 TG (XL b L xs g.1) 423 (hp g c m) 423 14542 554 [(0, .ref b), (1, .ref (aS g)), (2, .ref (aM g)), (3, .int (nI (5 * K)))] [] := by
  obtain ⟨r, c1, m1, e1, e2, hR1⟩ := ag_wipe h (xs (5 * K + 1))
  refine r_aload_n d_L_law_554 1 rfl ?_
  refine r_aload_n d_L_law_555 0 rfl ?_
  refine r_iload_n d_L_law_556 3 rfl ?_
  refine r_iconst (v := nI 1) d_L_law_557 (by decide) ?_
  refine r_iaddN d_L_law_558 ?_
  refine r_sld d_L_law_559 (by omega) hL ?_
  refine rc_L_74 rfl d_L_law_560 (e1 l g 423 8 (Nat.le_refl _)) gS (room_law (by decide)) ⟨by decide, by decide⟩ (Nat.le_of_ble_eq_true rfl) ?_
  refine r_aload_n d_L_law_563 2 rfl ?_
  refine r_aload_n d_L_law_564 0 rfl ?_
  refine r_iload_n d_L_law_565 3 rfl ?_
  refine r_iconst (v := nI 1) d_L_law_566 (by decide) ?_
  refine r_iaddN d_L_law_567 ?_
  refine r_sld d_L_law_568 (by omega) hL ?_
  refine rc_L_77 rfl d_L_law_569 (e2 l g 423 8 (Nat.le_refl _)) gM (room_law (by decide)) ⟨by decide, by decide⟩ (Nat.le_of_ble_eq_true rfl) ?_
  exact r_icmp_eq (tgt := 947) d_L_law_572 (by decide) (fun _ => hfin c1 m1 hR1) (fun q => absurd rfl q)
theorem law_15 {l : Launch} {g : GX} {TG : TGT} {b L K : Nat} {nm : String} {xs : Nat → Int32} {c : CS} {m : MS} (hL : L ≤ 2560) (hi : 5 * K + 5 ≤ L) (h : Rel K c m) (hK : K < 60000) (hfin : ∀ c' m', Rel (K + 1) c' m' → RJ l g (ML nm) room_1 TG (XL b L xs g.1) 423 (hp g c' m') 423 14542 947 [(0, .ref b), (1, .ref (aS g)), (2, .ref (aM g)), (3, .int (nI (5 * K)))] []) : RJ l g (ML nm) room_1 TG (XL b L xs g.1) 423 (hp g c m) 423 14542 577 [(0, .ref b), (1, .ref (aS g)), (2, .ref (aM g)), (3, .int (nI (5 * K)))] [] := by
  obtain ⟨r, c1, m1, e1, e2, hR1⟩ := ag_rebuild h (xs (5 * K + 1)) (xs (5 * K + 2))
  refine r_aload_n d_L_law_577 1 rfl ?_
  refine r_aload_n d_L_law_578 0 rfl ?_
  refine r_iload_n d_L_law_579 3 rfl ?_
  refine r_iconst (v := nI 1) d_L_law_580 (by decide) ?_
  refine r_iaddN d_L_law_581 ?_
  refine r_sld d_L_law_582 (by omega) hL ?_
  refine r_aload_n d_L_law_583 0 rfl ?_
  refine r_iload_n d_L_law_584 3 rfl ?_
  refine r_iconst (v := nI 2) d_L_law_585 (by decide) ?_
  refine r_iaddN d_L_law_586 ?_
  refine r_sld d_L_law_587 (by omega) hL ?_
  refine rc_L_78 rfl d_L_law_588 (e1 l g 423 8 (Nat.le_refl _)) gS (room_law (by decide)) ⟨by decide, by decide⟩ (Nat.le_of_ble_eq_true rfl) ?_
  refine r_aload_n d_L_law_591 2 rfl ?_
  refine r_aload_n d_L_law_592 0 rfl ?_
  refine r_iload_n d_L_law_593 3 rfl ?_
  refine r_iconst (v := nI 1) d_L_law_594 (by decide) ?_
  refine r_iaddN d_L_law_595 ?_
  refine r_sld d_L_law_596 (by omega) hL ?_
  refine r_aload_n d_L_law_597 0 rfl ?_
  refine r_iload_n d_L_law_598 3 rfl ?_
  refine r_iconst (v := nI 2) d_L_law_599 (by decide) ?_
  refine r_iaddN d_L_law_600 ?_
  refine r_sld d_L_law_601 (by omega) hL ?_
  refine rc_L_81 rfl d_L_law_602 (e2 l g 423 8 (Nat.le_refl _)) gM (room_law (by decide)) ⟨by decide, by decide⟩ (Nat.le_of_ble_eq_true rfl) ?_
  exact r_icmp_eq (tgt := 947) d_L_law_605 (by decide) (fun _ => hfin c1 m1 hR1) (fun q => absurd rfl q)
theorem law_16 {l : Launch} {g : GX} {TG : TGT} {b L K : Nat} {nm : String} {xs : Nat → Int32} {c : CS} {m : MS} (hL : L ≤ 2560) (hi : 5 * K + 5 ≤ L) (h : Rel K c m) (hK : K < 60000) (hfin : ∀ c' m', Rel (K + 1) c' m' → RJ l g (ML nm) room_1 TG (XL b L xs g.1) 423 (hp g c' m') 423 14542 947 [(0, .ref b), (1, .ref (aS g)), (2, .ref (aM g)), (3, .int (nI (5 * K)))] []) : RJ l g (ML nm) room_1 TG (XL b L xs g.1) 423 (hp g c m) 423 14542 610 [(0, .ref b), (1, .ref (aS g)), (2, .ref (aM g)), (3, .int (nI (5 * K)))] [] := by
  obtain ⟨r, c1, m1, e1, e2, hR1⟩ := ag_fresh h (xs (5 * K + 1)) (xs (5 * K + 2))
  refine r_aload_n d_L_law_610 1 rfl ?_
  refine r_aload_n d_L_law_611 0 rfl ?_
  refine r_iload_n d_L_law_612 3 rfl ?_
  refine r_iconst (v := nI 1) d_L_law_613 (by decide) ?_
  refine r_iaddN d_L_law_614 ?_
  refine r_sld d_L_law_615 (by omega) hL ?_
  refine r_aload_n d_L_law_616 0 rfl ?_
  refine r_iload_n d_L_law_617 3 rfl ?_
  refine r_iconst (v := nI 2) d_L_law_618 (by decide) ?_
  refine r_iaddN d_L_law_619 ?_
  refine r_sld d_L_law_620 (by omega) hL ?_
  refine rc_L_82 rfl d_L_law_621 (e1 l g 423 8 (Nat.le_refl _)) gS (room_law (by decide)) ⟨by decide, by decide⟩ (Nat.le_of_ble_eq_true rfl) ?_
  refine r_aload_n d_L_law_624 2 rfl ?_
  refine r_aload_n d_L_law_625 0 rfl ?_
  refine r_iload_n d_L_law_626 3 rfl ?_
  refine r_iconst (v := nI 1) d_L_law_627 (by decide) ?_
  refine r_iaddN d_L_law_628 ?_
  refine r_sld d_L_law_629 (by omega) hL ?_
  refine r_aload_n d_L_law_630 0 rfl ?_
  refine r_iload_n d_L_law_631 3 rfl ?_
  refine r_iconst (v := nI 2) d_L_law_632 (by decide) ?_
  refine r_iaddN d_L_law_633 ?_
  refine r_sld d_L_law_634 (by omega) hL ?_
  refine rc_L_85 rfl d_L_law_635 (e2 l g 423 8 (Nat.le_refl _)) gM (room_law (by decide)) ⟨by decide, by decide⟩ (Nat.le_of_ble_eq_true rfl) ?_
  exact r_icmp_eq (tgt := 947) d_L_law_638 (by decide) (fun _ => hfin c1 m1 hR1) (fun q => absurd rfl q)
theorem law_17 {l : Launch} {g : GX} {TG : TGT} {b L K : Nat} {nm : String} {xs : Nat → Int32} {c : CS} {m : MS} (hL : L ≤ 2560) (hi : 5 * K + 5 ≤ L) (h : Rel K c m) (hK : K < 60000) (hfin : ∀ c' m', Rel (K + 1) c' m' → RJ l g (ML nm) room_1 TG (XL b L xs g.1) 423 (hp g c' m') 423 14542 947 [(0, .ref b), (1, .ref (aS g)), (2, .ref (aM g)), (3, .int (nI (5 * K)))] []) : RJ l g (ML nm) room_1 TG (XL b L xs g.1) 423 (hp g c m) 423 14542 643 [(0, .ref b), (1, .ref (aS g)), (2, .ref (aM g)), (3, .int (nI (5 * K)))] [] := by
  obtain ⟨r, c1, m1, e1, e2, hR1⟩ := ag_sent h (xs (5 * K + 1))
  refine r_aload_n d_L_law_643 1 rfl ?_
  refine r_aload_n d_L_law_644 0 rfl ?_
  refine r_iload_n d_L_law_645 3 rfl ?_
  refine r_iconst (v := nI 1) d_L_law_646 (by decide) ?_
  refine r_iaddN d_L_law_647 ?_
  refine r_sld d_L_law_648 (by omega) hL ?_
  refine rc_L_86 rfl d_L_law_649 (e1 l g 423 8 (Nat.le_refl _)) gS (room_law (by decide)) ⟨by decide, by decide⟩ (Nat.le_of_ble_eq_true rfl) ?_
  refine r_aload_n d_L_law_652 2 rfl ?_
  refine r_aload_n d_L_law_653 0 rfl ?_
  refine r_iload_n d_L_law_654 3 rfl ?_
  refine r_iconst (v := nI 1) d_L_law_655 (by decide) ?_
  refine r_iaddN d_L_law_656 ?_
  refine r_sld d_L_law_657 (by omega) hL ?_
  refine rc_L_89 rfl d_L_law_658 (e2 l g 423 8 (Nat.le_refl _)) gM (room_law (by decide)) ⟨by decide, by decide⟩ (Nat.le_of_ble_eq_true rfl) ?_
  exact r_icmp_eq (tgt := 947) d_L_law_661 (by decide) (fun _ => hfin c1 m1 hR1) (fun q => absurd rfl q)
theorem law_18 {l : Launch} {g : GX} {TG : TGT} {b L K : Nat} {nm : String} {xs : Nat → Int32} {c : CS} {m : MS} (hL : L ≤ 2560) (hi : 5 * K + 5 ≤ L) (h : Rel K c m) (hK : K < 60000) (hfin : ∀ c' m', Rel (K + 1) c' m' → RJ l g (ML nm) room_1 TG (XL b L xs g.1) 423 (hp g c' m') 423 14542 947 [(0, .ref b), (1, .ref (aS g)), (2, .ref (aM g)), (3, .int (nI (5 * K)))] []) : RJ l g (ML nm) room_1 TG (XL b L xs g.1) 423 (hp g c m) 423 14542 666 [(0, .ref b), (1, .ref (aS g)), (2, .ref (aM g)), (3, .int (nI (5 * K)))] [] := by
  obtain ⟨r, c1, m1, e1, e2, hR1⟩ := ag_free h (xs (5 * K + 1))
  refine r_aload_n d_L_law_666 1 rfl ?_
  refine r_aload_n d_L_law_667 0 rfl ?_
  refine r_iload_n d_L_law_668 3 rfl ?_
  refine r_iconst (v := nI 1) d_L_law_669 (by decide) ?_
  refine r_iaddN d_L_law_670 ?_
  refine r_sld d_L_law_671 (by omega) hL ?_
  refine rc_L_90 rfl d_L_law_672 (e1 l g 423 8 (Nat.le_refl _)) gS (room_law (by decide)) ⟨by decide, by decide⟩ (Nat.le_of_ble_eq_true rfl) ?_
  refine r_aload_n d_L_law_675 2 rfl ?_
  refine r_aload_n d_L_law_676 0 rfl ?_
  refine r_iload_n d_L_law_677 3 rfl ?_
  refine r_iconst (v := nI 1) d_L_law_678 (by decide) ?_
  refine r_iaddN d_L_law_679 ?_
  refine r_sld d_L_law_680 (by omega) hL ?_
  refine rc_L_93 rfl d_L_law_681 (e2 l g 423 8 (Nat.le_refl _)) gM (room_law (by decide)) ⟨by decide, by decide⟩ (Nat.le_of_ble_eq_true rfl) ?_
  exact r_icmp_eq (tgt := 947) d_L_law_684 (by decide) (fun _ => hfin c1 m1 hR1) (fun q => absurd rfl q)
theorem law_19 {l : Launch} {g : GX} {TG : TGT} {b L K : Nat} {nm : String} {xs : Nat → Int32} {c : CS} {m : MS} (hL : L ≤ 2560) (hi : 5 * K + 5 ≤ L) (h : Rel K c m) (hK : K < 60000) (hfin : ∀ c' m', Rel (K + 1) c' m' → RJ l g (ML nm) room_1 TG (XL b L xs g.1) 423 (hp g c' m') 423 14542 947 [(0, .ref b), (1, .ref (aS g)), (2, .ref (aM g)), (3, .int (nI (5 * K)))] []) : RJ l g (ML nm) room_1 TG (XL b L xs g.1) 423 (hp g c m) 423 14542 689 [(0, .ref b), (1, .ref (aS g)), (2, .ref (aM g)), (3, .int (nI (5 * K)))] [] := by
  obtain ⟨r, c1, m1, e1, e2, hR1⟩ := ag_record h (xs (5 * K + 1)) (xs (5 * K + 2)) (xs (5 * K + 3))
  refine r_aload_n d_L_law_689 1 rfl ?_
  refine r_aload_n d_L_law_690 0 rfl ?_
  refine r_iload_n d_L_law_691 3 rfl ?_
  refine r_iconst (v := nI 1) d_L_law_692 (by decide) ?_
  refine r_iaddN d_L_law_693 ?_
  refine r_sld d_L_law_694 (by omega) hL ?_
  refine r_aload_n d_L_law_695 0 rfl ?_
  refine r_iload_n d_L_law_696 3 rfl ?_
  refine r_iconst (v := nI 2) d_L_law_697 (by decide) ?_
  refine r_iaddN d_L_law_698 ?_
  refine r_sld d_L_law_699 (by omega) hL ?_
  refine r_aload_n d_L_law_700 0 rfl ?_
  refine r_iload_n d_L_law_701 3 rfl ?_
  refine r_iconst (v := nI 3) d_L_law_702 (by decide) ?_
  refine r_iaddN d_L_law_703 ?_
  refine r_sld d_L_law_704 (by omega) hL ?_
  refine rc_L_94 rfl d_L_law_705 (e1 l g 423 8 (Nat.le_refl _)) gS (room_law (by decide)) ⟨by decide, by decide⟩ (Nat.le_of_ble_eq_true rfl) ?_
  refine r_aload_n d_L_law_708 2 rfl ?_
  refine r_aload_n d_L_law_709 0 rfl ?_
  refine r_iload_n d_L_law_710 3 rfl ?_
  refine r_iconst (v := nI 1) d_L_law_711 (by decide) ?_
  refine r_iaddN d_L_law_712 ?_
  refine r_sld d_L_law_713 (by omega) hL ?_
  refine r_aload_n d_L_law_714 0 rfl ?_
  refine r_iload_n d_L_law_715 3 rfl ?_
  refine r_iconst (v := nI 2) d_L_law_716 (by decide) ?_
  refine r_iaddN d_L_law_717 ?_
  refine r_sld d_L_law_718 (by omega) hL ?_
  refine r_aload_n d_L_law_719 0 rfl ?_
  refine r_iload_n d_L_law_720 3 rfl ?_
  refine r_iconst (v := nI 3) d_L_law_721 (by decide) ?_
  refine r_iaddN d_L_law_722 ?_
  refine r_sld d_L_law_723 (by omega) hL ?_
  refine rc_L_98 rfl d_L_law_724 (e2 l g 423 8 (Nat.le_refl _)) gM (room_law (by decide)) ⟨by decide, by decide⟩ (Nat.le_of_ble_eq_true rfl) ?_
  exact r_icmp_eq (tgt := 947) d_L_law_727 (by decide) (fun _ => hfin c1 m1 hR1) (fun q => absurd rfl q)
theorem law_20 {l : Launch} {g : GX} {TG : TGT} {b L K : Nat} {nm : String} {xs : Nat → Int32} {c : CS} {m : MS} (hL : L ≤ 2560) (hi : 5 * K + 5 ≤ L) (h : Rel K c m) (hK : K < 60000) (hfin : ∀ c' m', Rel (K + 1) c' m' → RJ l g (ML nm) room_1 TG (XL b L xs g.1) 423 (hp g c' m') 423 14542 947 [(0, .ref b), (1, .ref (aS g)), (2, .ref (aM g)), (3, .int (nI (5 * K)))] []) : RJ l g (ML nm) room_1 TG (XL b L xs g.1) 423 (hp g c m) 423 14542 732 [(0, .ref b), (1, .ref (aS g)), (2, .ref (aM g)), (3, .int (nI (5 * K)))] [] := by
  by_cases hz : xs (5 * K + 4) = 0
  · skip
    obtain ⟨r, c1, m1, e1, e2, hR1⟩ := ag_block h (xs (5 * K + 1)) (xs (5 * K + 2)) (xs (5 * K + 3)) false
    refine r_aload_n d_L_law_732 1 rfl ?_
    refine r_aload_n d_L_law_733 0 rfl ?_
    refine r_iload_n d_L_law_734 3 rfl ?_
    refine r_iconst (v := nI 1) d_L_law_735 (by decide) ?_
    refine r_iaddN d_L_law_736 ?_
    refine r_sld d_L_law_737 (by omega) hL ?_
    refine r_aload_n d_L_law_738 0 rfl ?_
    refine r_iload_n d_L_law_739 3 rfl ?_
    refine r_iconst (v := nI 2) d_L_law_740 (by decide) ?_
    refine r_iaddN d_L_law_741 ?_
    refine r_sld d_L_law_742 (by omega) hL ?_
    refine r_aload_n d_L_law_743 0 rfl ?_
    refine r_iload_n d_L_law_744 3 rfl ?_
    refine r_iconst (v := nI 3) d_L_law_745 (by decide) ?_
    refine r_iaddN d_L_law_746 ?_
    refine r_sld d_L_law_747 (by omega) hL ?_
    refine r_aload_n d_L_law_748 0 rfl ?_
    refine r_iload_n d_L_law_749 3 rfl ?_
    refine r_iconst (v := nI 4) d_L_law_750 (by decide) ?_
    refine r_iaddN d_L_law_751 ?_
    refine r_sld d_L_law_752 (by omega) hL ?_
    refine r_if_eq (tgt := 760) d_L_law_753 (by decide) (fun _ => ?_) (fun q => absurd hz q)
    refine r_iconst (v := nI 0) d_L_law_760 (by decide) ?_
    refine r_at (st' := .int (b2 false) :: _) ?_ rfl rfl rfl
    refine rc_L_99 rfl d_L_law_761 (e1 l g 423 8 (Nat.le_refl _)) gS (room_law (by decide)) ⟨by decide, by decide⟩ (Nat.le_of_ble_eq_true rfl) ?_
    refine r_aload_n d_L_law_764 2 rfl ?_
    refine r_aload_n d_L_law_765 0 rfl ?_
    refine r_iload_n d_L_law_766 3 rfl ?_
    refine r_iconst (v := nI 1) d_L_law_767 (by decide) ?_
    refine r_iaddN d_L_law_768 ?_
    refine r_sld d_L_law_769 (by omega) hL ?_
    refine r_aload_n d_L_law_770 0 rfl ?_
    refine r_iload_n d_L_law_771 3 rfl ?_
    refine r_iconst (v := nI 2) d_L_law_772 (by decide) ?_
    refine r_iaddN d_L_law_773 ?_
    refine r_sld d_L_law_774 (by omega) hL ?_
    refine r_aload_n d_L_law_775 0 rfl ?_
    refine r_iload_n d_L_law_776 3 rfl ?_
    refine r_iconst (v := nI 3) d_L_law_777 (by decide) ?_
    refine r_iaddN d_L_law_778 ?_
    refine r_sld d_L_law_779 (by omega) hL ?_
    refine r_aload_n d_L_law_780 0 rfl ?_
    refine r_iload_n d_L_law_781 3 rfl ?_
    refine r_iconst (v := nI 4) d_L_law_782 (by decide) ?_
    refine r_iaddN d_L_law_783 ?_
    refine r_sld d_L_law_784 (by omega) hL ?_
    refine r_if_eq (tgt := 792) d_L_law_785 (by decide) (fun _ => ?_) (fun q => absurd hz q)
    refine r_iconst (v := nI 0) d_L_law_792 (by decide) ?_
    refine r_at (st' := .int (b2 false) :: _) ?_ rfl rfl rfl
    refine rc_L_103 rfl d_L_law_793 (e2 l g 423 8 (Nat.le_refl _)) gM (room_law (by decide)) ⟨by decide, by decide⟩ (Nat.le_of_ble_eq_true rfl) ?_
    exact r_icmp_eq (tgt := 947) d_L_law_796 (by decide) (fun _ => hfin c1 m1 hR1) (fun q => absurd rfl q)
  · skip
    obtain ⟨r, c1, m1, e1, e2, hR1⟩ := ag_block h (xs (5 * K + 1)) (xs (5 * K + 2)) (xs (5 * K + 3)) true
    refine r_aload_n d_L_law_732 1 rfl ?_
    refine r_aload_n d_L_law_733 0 rfl ?_
    refine r_iload_n d_L_law_734 3 rfl ?_
    refine r_iconst (v := nI 1) d_L_law_735 (by decide) ?_
    refine r_iaddN d_L_law_736 ?_
    refine r_sld d_L_law_737 (by omega) hL ?_
    refine r_aload_n d_L_law_738 0 rfl ?_
    refine r_iload_n d_L_law_739 3 rfl ?_
    refine r_iconst (v := nI 2) d_L_law_740 (by decide) ?_
    refine r_iaddN d_L_law_741 ?_
    refine r_sld d_L_law_742 (by omega) hL ?_
    refine r_aload_n d_L_law_743 0 rfl ?_
    refine r_iload_n d_L_law_744 3 rfl ?_
    refine r_iconst (v := nI 3) d_L_law_745 (by decide) ?_
    refine r_iaddN d_L_law_746 ?_
    refine r_sld d_L_law_747 (by omega) hL ?_
    refine r_aload_n d_L_law_748 0 rfl ?_
    refine r_iload_n d_L_law_749 3 rfl ?_
    refine r_iconst (v := nI 4) d_L_law_750 (by decide) ?_
    refine r_iaddN d_L_law_751 ?_
    refine r_sld d_L_law_752 (by omega) hL ?_
    refine r_if_eq (tgt := 760) d_L_law_753 (by decide) (fun q => absurd q hz) (fun _ => ?_)
    refine r_iconst (v := nI 1) d_L_law_756 (by decide) ?_
    refine r_goto (tgt := 761) d_L_law_757 (by decide) ?_
    refine r_at (st' := .int (b2 true) :: _) ?_ rfl rfl rfl
    refine rc_L_99 rfl d_L_law_761 (e1 l g 423 8 (Nat.le_refl _)) gS (room_law (by decide)) ⟨by decide, by decide⟩ (Nat.le_of_ble_eq_true rfl) ?_
    refine r_aload_n d_L_law_764 2 rfl ?_
    refine r_aload_n d_L_law_765 0 rfl ?_
    refine r_iload_n d_L_law_766 3 rfl ?_
    refine r_iconst (v := nI 1) d_L_law_767 (by decide) ?_
    refine r_iaddN d_L_law_768 ?_
    refine r_sld d_L_law_769 (by omega) hL ?_
    refine r_aload_n d_L_law_770 0 rfl ?_
    refine r_iload_n d_L_law_771 3 rfl ?_
    refine r_iconst (v := nI 2) d_L_law_772 (by decide) ?_
    refine r_iaddN d_L_law_773 ?_
    refine r_sld d_L_law_774 (by omega) hL ?_
    refine r_aload_n d_L_law_775 0 rfl ?_
    refine r_iload_n d_L_law_776 3 rfl ?_
    refine r_iconst (v := nI 3) d_L_law_777 (by decide) ?_
    refine r_iaddN d_L_law_778 ?_
    refine r_sld d_L_law_779 (by omega) hL ?_
    refine r_aload_n d_L_law_780 0 rfl ?_
    refine r_iload_n d_L_law_781 3 rfl ?_
    refine r_iconst (v := nI 4) d_L_law_782 (by decide) ?_
    refine r_iaddN d_L_law_783 ?_
    refine r_sld d_L_law_784 (by omega) hL ?_
    refine r_if_eq (tgt := 792) d_L_law_785 (by decide) (fun q => absurd q hz) (fun _ => ?_)
    refine r_iconst (v := nI 1) d_L_law_788 (by decide) ?_
    refine r_goto (tgt := 793) d_L_law_789 (by decide) ?_
    refine r_at (st' := .int (b2 true) :: _) ?_ rfl rfl rfl
    refine rc_L_103 rfl d_L_law_793 (e2 l g 423 8 (Nat.le_refl _)) gM (room_law (by decide)) ⟨by decide, by decide⟩ (Nat.le_of_ble_eq_true rfl) ?_
    exact r_icmp_eq (tgt := 947) d_L_law_796 (by decide) (fun _ => hfin c1 m1 hR1) (fun q => absurd rfl q)
theorem law_21 {l : Launch} {g : GX} {TG : TGT} {b L K : Nat} {nm : String} {xs : Nat → Int32} {c : CS} {m : MS} (hL : L ≤ 2560) (hi : 5 * K + 5 ≤ L) (h : Rel K c m) (hK : K < 60000) (hfin : ∀ c' m', Rel (K + 1) c' m' → RJ l g (ML nm) room_1 TG (XL b L xs g.1) 423 (hp g c' m') 423 14542 947 [(0, .ref b), (1, .ref (aS g)), (2, .ref (aM g)), (3, .int (nI (5 * K)))] []) : RJ l g (ML nm) room_1 TG (XL b L xs g.1) 423 (hp g c m) 423 14542 801 [(0, .ref b), (1, .ref (aS g)), (2, .ref (aM g)), (3, .int (nI (5 * K)))] [] := by
  obtain ⟨r, c1, m1, e1, e2, hR1⟩ := ag_byteOf h (xs (5 * K + 1)) (xs (5 * K + 2)) (xs (5 * K + 3))
  refine r_aload_n d_L_law_801 1 rfl ?_
  refine r_aload_n d_L_law_802 0 rfl ?_
  refine r_iload_n d_L_law_803 3 rfl ?_
  refine r_iconst (v := nI 1) d_L_law_804 (by decide) ?_
  refine r_iaddN d_L_law_805 ?_
  refine r_sld d_L_law_806 (by omega) hL ?_
  refine r_aload_n d_L_law_807 0 rfl ?_
  refine r_iload_n d_L_law_808 3 rfl ?_
  refine r_iconst (v := nI 2) d_L_law_809 (by decide) ?_
  refine r_iaddN d_L_law_810 ?_
  refine r_sld d_L_law_811 (by omega) hL ?_
  refine r_aload_n d_L_law_812 0 rfl ?_
  refine r_iload_n d_L_law_813 3 rfl ?_
  refine r_iconst (v := nI 3) d_L_law_814 (by decide) ?_
  refine r_iaddN d_L_law_815 ?_
  refine r_sld d_L_law_816 (by omega) hL ?_
  refine rc_L_104 rfl d_L_law_817 (e1 l g 423 8 (Nat.le_refl _)) gS (room_law (by decide)) ⟨by decide, by decide⟩ (Nat.le_of_ble_eq_true rfl) ?_
  refine r_aload_n d_L_law_820 2 rfl ?_
  refine r_aload_n d_L_law_821 0 rfl ?_
  refine r_iload_n d_L_law_822 3 rfl ?_
  refine r_iconst (v := nI 1) d_L_law_823 (by decide) ?_
  refine r_iaddN d_L_law_824 ?_
  refine r_sld d_L_law_825 (by omega) hL ?_
  refine r_aload_n d_L_law_826 0 rfl ?_
  refine r_iload_n d_L_law_827 3 rfl ?_
  refine r_iconst (v := nI 2) d_L_law_828 (by decide) ?_
  refine r_iaddN d_L_law_829 ?_
  refine r_sld d_L_law_830 (by omega) hL ?_
  refine r_aload_n d_L_law_831 0 rfl ?_
  refine r_iload_n d_L_law_832 3 rfl ?_
  refine r_iconst (v := nI 3) d_L_law_833 (by decide) ?_
  refine r_iaddN d_L_law_834 ?_
  refine r_sld d_L_law_835 (by omega) hL ?_
  refine rc_L_107 rfl d_L_law_836 (e2 l g 423 8 (Nat.le_refl _)) gM (room_law (by decide)) ⟨by decide, by decide⟩ (Nat.le_of_ble_eq_true rfl) ?_
  exact r_icmp_eq (tgt := 947) d_L_law_839 (by decide) (fun _ => hfin c1 m1 hR1) (fun q => absurd rfl q)
theorem law_22 {l : Launch} {g : GX} {TG : TGT} {b L K : Nat} {nm : String} {xs : Nat → Int32} {c : CS} {m : MS} (hL : L ≤ 2560) (hi : 5 * K + 5 ≤ L) (h : Rel K c m) (hK : K < 60000) (hfin : ∀ c' m', Rel (K + 1) c' m' → RJ l g (ML nm) room_1 TG (XL b L xs g.1) 423 (hp g c' m') 423 14542 947 [(0, .ref b), (1, .ref (aS g)), (2, .ref (aM g)), (3, .int (nI (5 * K)))] []) : RJ l g (ML nm) room_1 TG (XL b L xs g.1) 423 (hp g c m) 423 14542 844 [(0, .ref b), (1, .ref (aS g)), (2, .ref (aM g)), (3, .int (nI (5 * K)))] [] := by
  obtain ⟨r, c1, m1, e1, e2, hR1⟩ := ag_symbol h (xs (5 * K + 1)) (xs (5 * K + 2)) (xs (5 * K + 3)) (xs (5 * K + 4))
  refine r_aload_n d_L_law_844 1 rfl ?_
  refine r_aload_n d_L_law_845 0 rfl ?_
  refine r_iload_n d_L_law_846 3 rfl ?_
  refine r_iconst (v := nI 1) d_L_law_847 (by decide) ?_
  refine r_iaddN d_L_law_848 ?_
  refine r_sld d_L_law_849 (by omega) hL ?_
  refine r_aload_n d_L_law_850 0 rfl ?_
  refine r_iload_n d_L_law_851 3 rfl ?_
  refine r_iconst (v := nI 2) d_L_law_852 (by decide) ?_
  refine r_iaddN d_L_law_853 ?_
  refine r_sld d_L_law_854 (by omega) hL ?_
  refine r_aload_n d_L_law_855 0 rfl ?_
  refine r_iload_n d_L_law_856 3 rfl ?_
  refine r_iconst (v := nI 3) d_L_law_857 (by decide) ?_
  refine r_iaddN d_L_law_858 ?_
  refine r_sld d_L_law_859 (by omega) hL ?_
  refine r_aload_n d_L_law_860 0 rfl ?_
  refine r_iload_n d_L_law_861 3 rfl ?_
  refine r_iconst (v := nI 4) d_L_law_862 (by decide) ?_
  refine r_iaddN d_L_law_863 ?_
  refine r_sld d_L_law_864 (by omega) hL ?_
  refine rc_L_108 rfl d_L_law_865 (e1 l g 423 8 (Nat.le_refl _)) gS (room_law (by decide)) ⟨by decide, by decide⟩ (Nat.le_of_ble_eq_true rfl) ?_
  refine r_aload_n d_L_law_868 2 rfl ?_
  refine r_aload_n d_L_law_869 0 rfl ?_
  refine r_iload_n d_L_law_870 3 rfl ?_
  refine r_iconst (v := nI 1) d_L_law_871 (by decide) ?_
  refine r_iaddN d_L_law_872 ?_
  refine r_sld d_L_law_873 (by omega) hL ?_
  refine r_aload_n d_L_law_874 0 rfl ?_
  refine r_iload_n d_L_law_875 3 rfl ?_
  refine r_iconst (v := nI 2) d_L_law_876 (by decide) ?_
  refine r_iaddN d_L_law_877 ?_
  refine r_sld d_L_law_878 (by omega) hL ?_
  refine r_aload_n d_L_law_879 0 rfl ?_
  refine r_iload_n d_L_law_880 3 rfl ?_
  refine r_iconst (v := nI 3) d_L_law_881 (by decide) ?_
  refine r_iaddN d_L_law_882 ?_
  refine r_sld d_L_law_883 (by omega) hL ?_
  refine r_aload_n d_L_law_884 0 rfl ?_
  refine r_iload_n d_L_law_885 3 rfl ?_
  refine r_iconst (v := nI 4) d_L_law_886 (by decide) ?_
  refine r_iaddN d_L_law_887 ?_
  refine r_sld d_L_law_888 (by omega) hL ?_
  refine rc_L_112 rfl d_L_law_889 (e2 l g 423 8 (Nat.le_refl _)) gM (room_law (by decide)) ⟨by decide, by decide⟩ (Nat.le_of_ble_eq_true rfl) ?_
  exact r_icmp_eq (tgt := 947) d_L_law_892 (by decide) (fun _ => hfin c1 m1 hR1) (fun q => absurd rfl q)
theorem law_23 {l : Launch} {g : GX} {TG : TGT} {b L K : Nat} {nm : String} {xs : Nat → Int32} {c : CS} {m : MS} (hL : L ≤ 2560) (hi : 5 * K + 5 ≤ L) (h : Rel K c m) (hK : K < 60000) (hfin : ∀ c' m', Rel (K + 1) c' m' → RJ l g (ML nm) room_1 TG (XL b L xs g.1) 423 (hp g c' m') 423 14542 947 [(0, .ref b), (1, .ref (aS g)), (2, .ref (aM g)), (3, .int (nI (5 * K)))] []) : RJ l g (ML nm) room_1 TG (XL b L xs g.1) 423 (hp g c m) 423 14542 897 [(0, .ref b), (1, .ref (aS g)), (2, .ref (aM g)), (3, .int (nI (5 * K)))] [] := by
  obtain ⟨r, c1, m1, e1, e2, hR1⟩ := ag_count h (xs (5 * K + 1))
  refine r_aload_n d_L_law_897 1 rfl ?_
  refine r_aload_n d_L_law_898 0 rfl ?_
  refine r_iload_n d_L_law_899 3 rfl ?_
  refine r_iconst (v := nI 1) d_L_law_900 (by decide) ?_
  refine r_iaddN d_L_law_901 ?_
  refine r_sld d_L_law_902 (by omega) hL ?_
  refine rc_L_113 rfl d_L_law_903 (e1 l g 423 8 (Nat.le_refl _)) gS (room_law (by decide)) ⟨by decide, by decide⟩ (Nat.le_of_ble_eq_true rfl) ?_
  refine r_aload_n d_L_law_906 2 rfl ?_
  refine r_aload_n d_L_law_907 0 rfl ?_
  refine r_iload_n d_L_law_908 3 rfl ?_
  refine r_iconst (v := nI 1) d_L_law_909 (by decide) ?_
  refine r_iaddN d_L_law_910 ?_
  refine r_sld d_L_law_911 (by omega) hL ?_
  refine rc_L_116 rfl d_L_law_912 (e2 l g 423 8 (Nat.le_refl _)) gM (room_law (by decide)) ⟨by decide, by decide⟩ (Nat.le_of_ble_eq_true rfl) ?_
  exact r_icmp_eq (tgt := 947) d_L_law_915 (by decide) (fun _ => hfin c1 m1 hR1) (fun q => absurd rfl q)
theorem law_24 {l : Launch} {g : GX} {TG : TGT} {b L K : Nat} {nm : String} {xs : Nat → Int32} {c : CS} {m : MS} (hL : L ≤ 2560) (hi : 5 * K + 5 ≤ L) (h : Rel K c m) (hK : K < 60000) (hfin : ∀ c' m', Rel (K + 1) c' m' → RJ l g (ML nm) room_1 TG (XL b L xs g.1) 423 (hp g c' m') 423 14542 947 [(0, .ref b), (1, .ref (aS g)), (2, .ref (aM g)), (3, .int (nI (5 * K)))] []) : RJ l g (ML nm) room_1 TG (XL b L xs g.1) 423 (hp g c m) 423 14542 920 [(0, .ref b), (1, .ref (aS g)), (2, .ref (aM g)), (3, .int (nI (5 * K)))] [] := by
  obtain ⟨r, e1, e2⟩ := h.dig
  refine r_aload_n d_L_law_920 1 rfl ?_
  refine rc_L_117 rfl d_L_law_921 (e1 l g 423 8 (Nat.le_refl _)) gS (room_law (by decide)) ⟨by decide, by decide⟩ (Nat.le_of_ble_eq_true rfl) ?_
  refine r_aload_n d_L_law_924 2 rfl ?_
  refine rc_L_121 rfl d_L_law_925 (e2 l g 423 8 (Nat.le_refl _)) gM (room_law (by decide)) ⟨by decide, by decide⟩ (Nat.le_of_ble_eq_true rfl) ?_
  refine r_lcmp d_L_law_928 ?_
  exact r_if_eq (tgt := 947) d_L_law_929 (by decide) (fun _ => hfin c m h.up) (fun q => absurd (cmp_self r) q)
theorem law_25 {l : Launch} {g : GX} {TG : TGT} {b L K : Nat} {nm : String} {xs : Nat → Int32} {c : CS} {m : MS} (hL : L ≤ 2560) (hi : 5 * K + 5 ≤ L) (h : Rel K c m) (hK : K < 60000) (hfin : ∀ c' m', Rel (K + 1) c' m' → RJ l g (ML nm) room_1 TG (XL b L xs g.1) 423 (hp g c' m') 423 14542 947 [(0, .ref b), (1, .ref (aS g)), (2, .ref (aM g)), (3, .int (nI (5 * K)))] []) : RJ l g (ML nm) room_1 TG (XL b L xs g.1) 423 (hp g c m) 423 14542 934 [(0, .ref b), (1, .ref (aS g)), (2, .ref (aM g)), (3, .int (nI (5 * K)))] [] := by
  obtain ⟨r, c1, m1, e1, e2, hR1⟩ := ag_clear h
  refine r_aload_n d_L_law_934 1 rfl ?_
  refine rc_L_122 rfl d_L_law_935 (e1 l g 423 8 (Nat.le_refl _)) gS (room_law (by decide)) ⟨by decide, by decide⟩ (Nat.le_of_ble_eq_true rfl) ?_
  refine r_aload_n d_L_law_938 2 rfl ?_
  refine rc_L_126 rfl d_L_law_939 (e2 l g 423 8 (Nat.le_refl _)) gM (room_law (by decide)) ⟨by decide, by decide⟩ (Nat.le_of_ble_eq_true rfl) ?_
  exact r_icmp_eq (tgt := 947) d_L_law_942 (by decide) (fun _ => hfin c1 m1 hR1) (fun q => absurd rfl q)
theorem law_loop {l : Launch} {g : GX} {TG : TGT} {b L : Nat} {nm : String} {xs : Nat → Int32} (hL : L ≤ 2560) (hE : LEND l TG b nm) : ∀ (j K : Nat) (c : CS) (m : MS), Rel K c m → L ≤ 5 * K + 5 * j + 4 → 5 * K ≤ 2560 → RJ l g (ML nm) room_1 TG (XL b L xs g.1) 423 (hp g c m) 423 14542 18 [(0, .ref b), (1, .ref (aS g)), (2, .ref (aM g)), (3, .int (nI (5 * K)))] []
  | j, K, c, m, h, hj, hk => by
    refine r_iload_n d_L_law_18 3 rfl ?_
    refine r_aload_n d_L_law_19 0 rfl ?_
    refine r_slen d_L_law_20 ?_
    refine r_iconst (v := nI 5) d_L_law_21 (by decide) ?_
    refine r_isub d_L_law_22 ?_
    refine r_icmp_gt (tgt := 953) d_L_law_23 (by decide) (fun q => ?_) (fun q => ?_)
    · refine r_iconst (v := nI 1) d_L_law_953 (by decide) ?_
      exact hE L xs g _ _ _ _ _ (by decide) (by decide)
    · have hi : 5 * K + 5 ≤ L := by
        have := mt (sub5 hL hk).mpr q
        omega
      obtain ⟨j, rfl⟩ : ∃ j', j = j' + 1 := ⟨j - 1, by omega⟩
      have hfin : ∀ c' m', Rel (K + 1) c' m' → RJ l g (ML nm) room_1 TG (XL b L xs g.1) 423 (hp g c' m') 423 14542 947 [(0, .ref b), (1, .ref (aS g)), (2, .ref (aM g)), (3, .int (nI (5 * K)))] [] := fun c' m' hR => by
        refine r_iinc (lv' := [(0, _), (1, _), (2, _), (3, _)]) d_L_law_947 3 rfl (v := nI (5 * (K + 1))) ((nI_add _ 5).trans (by rw [show 5 * K + 5 = 5 * (K + 1) by omega])) (show 3 < 4 by decide) rfl ?_
        refine r_goto (tgt := 18) d_L_law_950 (by decide) ?_
        exact law_loop hL hE j (K + 1) c' m' hR (by omega) (by omega)
      refine r_aload_n d_L_law_26 0 rfl ?_
      refine r_iload_n d_L_law_27 3 rfl ?_
      refine r_sld d_L_law_28 (by omega) hL ?_
      refine r_bipush (v := nI 31) d_L_law_29 (by decide) ?_
      refine r_iand d_L_law_31 ?_
      obtain ⟨v, hv, ev⟩ := and31 (xs (5 * K))
      refine r_top (y := nI v) ev ?_
      by_cases hv2 : 26 ≤ v
      · refine r_tswO (tgt := 947) d_L_law_32 (Or.inr (by rw [nI_toInt (by omega)]; omega)) (by decide) ?_
        exact hfin c m h.up
      by_cases h0 : v = 0
      · subst h0
        refine r_tsw (off := 120) (tgt := 152) d_L_law_32 (by decide) (by decide) (by decide) (by decide) ?_
        exact law_0 hL hi h (by omega) hfin
      by_cases h1 : v = 1
      · subst h1
        refine r_tsw (off := 153) (tgt := 185) d_L_law_32 (by decide) (by decide) (by decide) (by decide) ?_
        exact law_1 hL hi h (by omega) hfin
      by_cases h2 : v = 2
      · subst h2
        refine r_tsw (off := 186) (tgt := 218) d_L_law_32 (by decide) (by decide) (by decide) (by decide) ?_
        exact law_2 hL hi h (by omega) hfin
      by_cases h3 : v = 3
      · subst h3
        refine r_tsw (off := 219) (tgt := 251) d_L_law_32 (by decide) (by decide) (by decide) (by decide) ?_
        exact law_3 hL hi h (by omega) hfin
      by_cases h4 : v = 4
      · subst h4
        refine r_tsw (off := 282) (tgt := 314) d_L_law_32 (by decide) (by decide) (by decide) (by decide) ?_
        exact law_4 hL hi h (by omega) hfin
      by_cases h5 : v = 5
      · subst h5
        refine r_tsw (off := 305) (tgt := 337) d_L_law_32 (by decide) (by decide) (by decide) (by decide) ?_
        exact law_5 hL hi h (by omega) hfin
      by_cases h6 : v = 6
      · subst h6
        refine r_tsw (off := 328) (tgt := 360) d_L_law_32 (by decide) (by decide) (by decide) (by decide) ?_
        exact law_6 hL hi h (by omega) hfin
      by_cases h7 : v = 7
      · subst h7
        refine r_tsw (off := 351) (tgt := 383) d_L_law_32 (by decide) (by decide) (by decide) (by decide) ?_
        exact law_7 hL hi h (by omega) hfin
      by_cases h8 : v = 8
      · subst h8
        refine r_tsw (off := 374) (tgt := 406) d_L_law_32 (by decide) (by decide) (by decide) (by decide) ?_
        exact law_8 hL hi h (by omega) hfin
      by_cases h9 : v = 9
      · subst h9
        refine r_tsw (off := 407) (tgt := 439) d_L_law_32 (by decide) (by decide) (by decide) (by decide) ?_
        exact law_9 hL hi h (by omega) hfin
      by_cases h10 : v = 10
      · subst h10
        refine r_tsw (off := 430) (tgt := 462) d_L_law_32 (by decide) (by decide) (by decide) (by decide) ?_
        exact law_10 hL hi h (by omega) hfin
      by_cases h11 : v = 11
      · subst h11
        refine r_tsw (off := 453) (tgt := 485) d_L_law_32 (by decide) (by decide) (by decide) (by decide) ?_
        exact law_11 hL hi h (by omega) hfin
      by_cases h12 : v = 12
      · subst h12
        refine r_tsw (off := 476) (tgt := 508) d_L_law_32 (by decide) (by decide) (by decide) (by decide) ?_
        exact law_12 hL hi h (by omega) hfin
      by_cases h13 : v = 13
      · subst h13
        refine r_tsw (off := 499) (tgt := 531) d_L_law_32 (by decide) (by decide) (by decide) (by decide) ?_
        exact law_13 hL hi h (by omega) hfin
      by_cases h14 : v = 14
      · subst h14
        refine r_tsw (off := 522) (tgt := 554) d_L_law_32 (by decide) (by decide) (by decide) (by decide) ?_
        exact law_14 hL hi h (by omega) hfin
      by_cases h15 : v = 15
      · subst h15
        refine r_tsw (off := 545) (tgt := 577) d_L_law_32 (by decide) (by decide) (by decide) (by decide) ?_
        exact law_15 hL hi h (by omega) hfin
      by_cases h16 : v = 16
      · subst h16
        refine r_tsw (off := 578) (tgt := 610) d_L_law_32 (by decide) (by decide) (by decide) (by decide) ?_
        exact law_16 hL hi h (by omega) hfin
      by_cases h17 : v = 17
      · subst h17
        refine r_tsw (off := 611) (tgt := 643) d_L_law_32 (by decide) (by decide) (by decide) (by decide) ?_
        exact law_17 hL hi h (by omega) hfin
      by_cases h18 : v = 18
      · subst h18
        refine r_tsw (off := 634) (tgt := 666) d_L_law_32 (by decide) (by decide) (by decide) (by decide) ?_
        exact law_18 hL hi h (by omega) hfin
      by_cases h19 : v = 19
      · subst h19
        refine r_tsw (off := 657) (tgt := 689) d_L_law_32 (by decide) (by decide) (by decide) (by decide) ?_
        exact law_19 hL hi h (by omega) hfin
      by_cases h20 : v = 20
      · subst h20
        refine r_tsw (off := 700) (tgt := 732) d_L_law_32 (by decide) (by decide) (by decide) (by decide) ?_
        exact law_20 hL hi h (by omega) hfin
      by_cases h21 : v = 21
      · subst h21
        refine r_tsw (off := 769) (tgt := 801) d_L_law_32 (by decide) (by decide) (by decide) (by decide) ?_
        exact law_21 hL hi h (by omega) hfin
      by_cases h22 : v = 22
      · subst h22
        refine r_tsw (off := 812) (tgt := 844) d_L_law_32 (by decide) (by decide) (by decide) (by decide) ?_
        exact law_22 hL hi h (by omega) hfin
      by_cases h23 : v = 23
      · subst h23
        refine r_tsw (off := 865) (tgt := 897) d_L_law_32 (by decide) (by decide) (by decide) (by decide) ?_
        exact law_23 hL hi h (by omega) hfin
      by_cases h24 : v = 24
      · subst h24
        refine r_tsw (off := 888) (tgt := 920) d_L_law_32 (by decide) (by decide) (by decide) (by decide) ?_
        exact law_24 hL hi h (by omega) hfin
      by_cases h25 : v = 25
      · subst h25
        refine r_tsw (off := 902) (tgt := 934) d_L_law_32 (by decide) (by decide) (by decide) (by decide) ?_
        exact law_25 hL hi h (by omega) hfin
      exfalso
      omega
theorem law_begin {l : Launch} {g : GX} {TG : TGT} {b L : Nat} {nm : String} {xs : Nat → Int32} (hmna : MNA) (hL : L ≤ 2560) (hE : LEND l TG b nm) : RJ l g (ML nm) room_1 TG (XL b L xs g.1) 0 (fun _ => none) 0 0 0 [(0, .ref b)] [] := by
  refine r_cnt (n' := 0) (h' := hF 0 g (Zf g)) (k' := 0) (sl' := 0) rfl hF_0 rfl rfl ?_
  refine f_new (ci := 4) (N := 13) (fs := [.null, .null, .null, .null, .null, .int 0, .null, .int 0, .int 0, .int 0, .int 0, .null, .null]) rfl iw_S ty_S ty_S_ok (show Cond.classLink "ShareStoreLaw" 7 R_S ∈ tblG by decide +kernel) (by decide +kernel) (by decide +kernel) (by decide) d_L_law_0 ⟨by show _ ≤ 600000; omega, by show _ ≤ 7302250; omega⟩ ?_
  refine r_dup d_L_law_3 rfl ?_
  refine r_cI (M' := M_S_init) (np := 0) (b := g.1 + 0) (As := []) (k_S_init hmna (F := Zf g) (d := 8) (by omega)) rfl rfl (show Cond.methodLink "ShareStoreLaw" 9 M_S_init.1 ∈ tblG by decide +kernel) (by decide +kernel) (by decide +kernel) (by decide +kernel) (by decide +kernel) rfl d_L_law_4 (room_law (by decide)) ⟨by show _ ≤ 600000; omega, by show _ ≤ 7302250; omega⟩ rfl (Nat.le_of_ble_eq_true rfl) ?_
  refine r_astore_n (lv' := [(0, _), (1, _)]) d_L_law_7 (show 1 < 4 by decide) rfl ?_
  refine f_new (ci := 5) (N := 20) (fs := [.null, .int 0, .int 0, .null, .null, .null, .null, .null, .null, .null, .null, .null, .null, .null, .int 0, .int 0, .int 0, .null, .null, .null]) rfl iw_M ty_M ty_M_ok (show Cond.classLink "ShareStoreLaw" 10 R_M ∈ tblG by decide +kernel) (by decide +kernel) (by decide +kernel) (by decide) d_L_law_8 ⟨by show _ ≤ 600000; omega, by show _ ≤ 7302250; omega⟩ ?_
  refine r_dup d_L_law_11 rfl ?_
  refine r_cI (M' := M_M_init) (np := 0) (b := g.1 + 407) (As := []) (k_M_init (z := 407) (F := Zf g) (d := 8) (by omega)) rfl rfl (show Cond.methodLink "ShareStoreLaw" 12 M_M_init.1 ∈ tblG by decide +kernel) (by decide +kernel) (by decide +kernel) (by decide +kernel) (by decide +kernel) rfl d_L_law_12 (room_law (by decide)) ⟨by show _ ≤ 600000; omega, by show _ ≤ 7302250; omega⟩ rfl (Nat.le_of_ble_eq_true rfl) ?_
  refine r_astore_n (lv' := [(0, _), (1, _), (2, _)]) d_L_law_15 (show 2 < 4 by decide) rfl ?_
  refine r_iconst (v := nI 0) d_L_law_16 (by decide) ?_
  refine r_istore_n (lv' := [(0, _), (1, _), (2, _), (3, _)]) d_L_law_17 (show 3 < 4 by decide) rfl ?_
  refine r_cnt (n' := 423) (h' := hF 423 g (upN (upN (upN (upN (upN (upN (upN (upN (upN (upN (upN (upN (upN (upN (upN (upN (Zf g) 407 (.inr (5, [.ref (g.1 + 408), .int 0, .int (-1), .ref (g.1 + 409), .ref (g.1 + 410), .ref (g.1 + 411), .ref (g.1 + 412), .ref (g.1 + 413), .ref (g.1 + 414), .ref (g.1 + 415), .ref (g.1 + 416), .ref (g.1 + 417), .ref (g.1 + 418), .ref (g.1 + 419), .int 0, .int 0, .int 0, .ref (g.1 + 420), .ref (g.1 + 421), .ref (g.1 + 422)]))) 408 (iA 240 (fun _ => 0))) 409 (zA 12 (fun _ => false))) 410 (iA 12 (fun _ => 0))) 411 (zA 480 (fun _ => false))) 412 (iA 3840 (fun _ => 0))) 413 (zA 144 (fun _ => false))) 414 (iA 144 (fun _ => 0))) 415 (iA 144 (fun _ => 0))) 416 (iA 1152 (fun _ => 0))) 417 (iA 6 (fun _ => 0))) 418 (zA 6 (fun _ => false))) 419 (iA 240 (fun _ => 0))) 420 (iA 128 (fun _ => 0))) 421 (iA 8 (fun _ => 0))) 422 (iA 15 (fun _ => 0)))) (k' := 423) (sl' := 14542) rfl rfl rfl rfl ?_
  refine r_aeq (F' := Zf g) (fun r hr => ?_) ?_
  · by_cases e407 : r = 407
    · subst e407
      exact AEQ_o (upN_g (by omega) (upN_g (by omega) (upN_g (by omega) (upN_g (by omega) (upN_g (by omega) (upN_g (by omega) (upN_g (by omega) (upN_g (by omega) (upN_g (by omega) (upN_g (by omega) (upN_g (by omega) (upN_g (by omega) (upN_g (by omega) (upN_g (by omega) (upN_g (by omega) upN_s))))))))))))))) (Zf_of (r := 407) (t := 30) (i := 0) (j := 0) rfl rfl) rfl
    by_cases e408 : r = 408
    · subst e408
      exact AEQ_i (upN_g (by omega) (upN_g (by omega) (upN_g (by omega) (upN_g (by omega) (upN_g (by omega) (upN_g (by omega) (upN_g (by omega) (upN_g (by omega) (upN_g (by omega) (upN_g (by omega) (upN_g (by omega) (upN_g (by omega) (upN_g (by omega) (upN_g (by omega) upN_s)))))))))))))) (Zf_of (r := 408) (t := 31) (i := 0) (j := 0) rfl rfl) (fun _ _ => rfl)
    by_cases e409 : r = 409
    · subst e409
      exact AEQ_z (upN_g (by omega) (upN_g (by omega) (upN_g (by omega) (upN_g (by omega) (upN_g (by omega) (upN_g (by omega) (upN_g (by omega) (upN_g (by omega) (upN_g (by omega) (upN_g (by omega) (upN_g (by omega) (upN_g (by omega) (upN_g (by omega) upN_s))))))))))))) (Zf_of (r := 409) (t := 32) (i := 0) (j := 0) rfl rfl) (fun _ _ => rfl)
    by_cases e410 : r = 410
    · subst e410
      refine AEQ_to (y := jA 12 (fun _ => 0)) (x := iA 12 (fun _ => 0)) ?_ (upN_g (by omega) (upN_g (by omega) (upN_g (by omega) (upN_g (by omega) (upN_g (by omega) (upN_g (by omega) (upN_g (by omega) (upN_g (by omega) (upN_g (by omega) (upN_g (by omega) (upN_g (by omega) (upN_g (by omega) upN_s)))))))))))) (Zf_of (r := 410) (t := 33) (i := 0) (j := 0) rfl rfl)
      exact ⟨rfl, rfl, fun _ _ => rfl⟩
    by_cases e411 : r = 411
    · subst e411
      exact AEQ_z (upN_g (by omega) (upN_g (by omega) (upN_g (by omega) (upN_g (by omega) (upN_g (by omega) (upN_g (by omega) (upN_g (by omega) (upN_g (by omega) (upN_g (by omega) (upN_g (by omega) (upN_g (by omega) upN_s))))))))))) (Zf_of (r := 411) (t := 34) (i := 0) (j := 0) rfl rfl) (fun _ _ => rfl)
    by_cases e412 : r = 412
    · subst e412
      exact AEQ_i (upN_g (by omega) (upN_g (by omega) (upN_g (by omega) (upN_g (by omega) (upN_g (by omega) (upN_g (by omega) (upN_g (by omega) (upN_g (by omega) (upN_g (by omega) (upN_g (by omega) upN_s)))))))))) (Zf_of (r := 412) (t := 35) (i := 0) (j := 0) rfl rfl) (fun _ _ => rfl)
    by_cases e413 : r = 413
    · subst e413
      exact AEQ_z (upN_g (by omega) (upN_g (by omega) (upN_g (by omega) (upN_g (by omega) (upN_g (by omega) (upN_g (by omega) (upN_g (by omega) (upN_g (by omega) (upN_g (by omega) upN_s))))))))) (Zf_of (r := 413) (t := 36) (i := 0) (j := 0) rfl rfl) (fun _ _ => rfl)
    by_cases e414 : r = 414
    · subst e414
      exact AEQ_i (upN_g (by omega) (upN_g (by omega) (upN_g (by omega) (upN_g (by omega) (upN_g (by omega) (upN_g (by omega) (upN_g (by omega) (upN_g (by omega) upN_s)))))))) (Zf_of (r := 414) (t := 37) (i := 0) (j := 0) rfl rfl) (fun _ _ => rfl)
    by_cases e415 : r = 415
    · subst e415
      exact AEQ_i (upN_g (by omega) (upN_g (by omega) (upN_g (by omega) (upN_g (by omega) (upN_g (by omega) (upN_g (by omega) (upN_g (by omega) upN_s))))))) (Zf_of (r := 415) (t := 38) (i := 0) (j := 0) rfl rfl) (fun _ _ => rfl)
    by_cases e416 : r = 416
    · subst e416
      exact AEQ_i (upN_g (by omega) (upN_g (by omega) (upN_g (by omega) (upN_g (by omega) (upN_g (by omega) (upN_g (by omega) upN_s)))))) (Zf_of (r := 416) (t := 39) (i := 0) (j := 0) rfl rfl) (fun _ _ => rfl)
    by_cases e417 : r = 417
    · subst e417
      exact AEQ_i (upN_g (by omega) (upN_g (by omega) (upN_g (by omega) (upN_g (by omega) (upN_g (by omega) upN_s))))) (Zf_of (r := 417) (t := 40) (i := 0) (j := 0) rfl rfl) (fun _ _ => rfl)
    by_cases e418 : r = 418
    · subst e418
      exact AEQ_z (upN_g (by omega) (upN_g (by omega) (upN_g (by omega) (upN_g (by omega) upN_s)))) (Zf_of (r := 418) (t := 41) (i := 0) (j := 0) rfl rfl) (fun _ _ => rfl)
    by_cases e419 : r = 419
    · subst e419
      exact AEQ_i (upN_g (by omega) (upN_g (by omega) (upN_g (by omega) upN_s))) (Zf_of (r := 419) (t := 42) (i := 0) (j := 0) rfl rfl) (fun _ _ => rfl)
    by_cases e420 : r = 420
    · subst e420
      exact AEQ_i (upN_g (by omega) (upN_g (by omega) upN_s)) (Zf_of (r := 420) (t := 43) (i := 0) (j := 0) rfl rfl) (fun _ _ => rfl)
    by_cases e421 : r = 421
    · subst e421
      exact AEQ_i (upN_g (by omega) upN_s) (Zf_of (r := 421) (t := 44) (i := 0) (j := 0) rfl rfl) (fun _ _ => rfl)
    by_cases e422 : r = 422
    · subst e422
      exact AEQ_i upN_s (Zf_of (r := 422) (t := 45) (i := 0) (j := 0) rfl rfl) (fun _ _ => rfl)
    exact AEQ_to AEQ_Z (upN_g (by omega) (upN_g (by omega) (upN_g (by omega) (upN_g (by omega) (upN_g (by omega) (upN_g (by omega) (upN_g (by omega) (upN_g (by omega) (upN_g (by omega) (upN_g (by omega) (upN_g (by omega) (upN_g (by omega) (upN_g (by omega) (upN_g (by omega) (upN_g (by omega) (upN_g (by omega) (rfl))))))))))))))))) rfl
  · exact law_loop hL hE 512 0 cIni mIni Rel_0 (by omega) (by omega)
