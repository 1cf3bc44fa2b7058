abbrev CS : Type := (((((Nat → Nat) × ((Nat → Bool) × (Nat → Nat))) × (Nat × ((Nat → Nat) × Nat))) × ((Int32 × (Int32 × Int32)) × ((Nat → Nat) × ((Nat → Nat) × (Nat → Nat → Nat))))) × ((((Nat → Nat → Nat) × ((Nat → Nat → Nat) × (Nat → Nat → Nat))) × ((Nat → Nat) × ((Nat → Bool) × (Nat → Int32)))) × (((Nat → Nat → Nat) × ((Nat → Nat → Bool) × (Nat → Nat → Bool))) × (((Nat → Nat → Nat) × (Nat → Nat → Nat)) × ((Nat → Nat → Nat) × (Nat → Nat → Nat → Nat))))))
def CS.begun (c : CS) : Nat → Nat := c.1.1.1.1
def CS.unst (c : CS) : Nat → Bool := c.1.1.1.2.1
def CS.tape (c : CS) : Nat → Nat := c.1.1.1.2.2
def CS.tapeN (c : CS) : Nat := c.1.1.2.1
def CS.gott (c : CS) : Nat → Nat := c.1.1.2.2.1
def CS.gotN (c : CS) : Nat := c.1.1.2.2.2
def CS.cut (c : CS) : Int32 := c.1.2.1.1
def CS.msgs (c : CS) : Int32 := c.1.2.1.2.1
def CS.syms (c : CS) : Int32 := c.1.2.1.2.2
def CS.chos (c : CS) : Nat → Nat := c.1.2.2.1
def CS.wire (c : CS) : Nat → Nat := c.1.2.2.2.1
def CS.mat (c : CS) : Nat → Nat → Nat := c.1.2.2.2.2
def CS.giv (c : CS) : Nat → Nat → Nat := c.2.1.1.1
def CS.squ (c : CS) : Nat → Nat → Nat := c.2.1.1.2.1
def CS.inv (c : CS) : Nat → Nat → Nat := c.2.1.1.2.2
def CS.resu (c : CS) : Nat → Nat := c.2.1.2.1
def CS.live (c : CS) : Nat → Bool := c.2.1.2.2.1
def CS.sent (c : CS) : Nat → Int32 := c.2.1.2.2.2
def CS.data (c : CS) : Nat → Nat → Nat := c.2.2.1.1
def CS.takn (c : CS) : Nat → Nat → Bool := c.2.2.1.2.1
def CS.sw (c : CS) : Nat → Nat → Bool := c.2.2.1.2.2
def CS.hver (c : CS) : Nat → Nat → Nat := c.2.2.2.1.1
def CS.hbyt (c : CS) : Nat → Nat → Nat := c.2.2.2.1.2
def CS.hstr (c : CS) : Nat → Nat → Nat := c.2.2.2.2.1
def CS.hpl (c : CS) : Nat → Nat → Nat → Nat := c.2.2.2.2.2
def CS.s_begun (c : CS) (v : Nat → Nat) : CS := ((((v, c.1.1.1.2), c.1.1.2), c.1.2), c.2)
def CS.s_unst (c : CS) (v : Nat → Bool) : CS := ((((c.1.1.1.1, (v, c.1.1.1.2.2)), c.1.1.2), c.1.2), c.2)
def CS.s_tape (c : CS) (v : Nat → Nat) : CS := ((((c.1.1.1.1, (c.1.1.1.2.1, v)), c.1.1.2), c.1.2), c.2)
def CS.s_tapeN (c : CS) (v : Nat) : CS := (((c.1.1.1, (v, c.1.1.2.2)), c.1.2), c.2)
def CS.s_gott (c : CS) (v : Nat → Nat) : CS := (((c.1.1.1, (c.1.1.2.1, (v, c.1.1.2.2.2))), c.1.2), c.2)
def CS.s_gotN (c : CS) (v : Nat) : CS := (((c.1.1.1, (c.1.1.2.1, (c.1.1.2.2.1, v))), c.1.2), c.2)
def CS.s_cut (c : CS) (v : Int32) : CS := ((c.1.1, ((v, c.1.2.1.2), c.1.2.2)), c.2)
def CS.s_msgs (c : CS) (v : Int32) : CS := ((c.1.1, ((c.1.2.1.1, (v, c.1.2.1.2.2)), c.1.2.2)), c.2)
def CS.s_syms (c : CS) (v : Int32) : CS := ((c.1.1, ((c.1.2.1.1, (c.1.2.1.2.1, v)), c.1.2.2)), c.2)
def CS.s_chos (c : CS) (v : Nat → Nat) : CS := ((c.1.1, (c.1.2.1, (v, c.1.2.2.2))), c.2)
def CS.s_wire (c : CS) (v : Nat → Nat) : CS := ((c.1.1, (c.1.2.1, (c.1.2.2.1, (v, c.1.2.2.2.2)))), c.2)
def CS.s_mat (c : CS) (v : Nat → Nat → Nat) : CS := ((c.1.1, (c.1.2.1, (c.1.2.2.1, (c.1.2.2.2.1, v)))), c.2)
def CS.s_giv (c : CS) (v : Nat → Nat → Nat) : CS := (c.1, (((v, c.2.1.1.2), c.2.1.2), c.2.2))
def CS.s_squ (c : CS) (v : Nat → Nat → Nat) : CS := (c.1, (((c.2.1.1.1, (v, c.2.1.1.2.2)), c.2.1.2), c.2.2))
def CS.s_inv (c : CS) (v : Nat → Nat → Nat) : CS := (c.1, (((c.2.1.1.1, (c.2.1.1.2.1, v)), c.2.1.2), c.2.2))
def CS.s_resu (c : CS) (v : Nat → Nat) : CS := (c.1, ((c.2.1.1, (v, c.2.1.2.2)), c.2.2))
def CS.s_live (c : CS) (v : Nat → Bool) : CS := (c.1, ((c.2.1.1, (c.2.1.2.1, (v, c.2.1.2.2.2))), c.2.2))
def CS.s_sent (c : CS) (v : Nat → Int32) : CS := (c.1, ((c.2.1.1, (c.2.1.2.1, (c.2.1.2.2.1, v))), c.2.2))
def CS.s_data (c : CS) (v : Nat → Nat → Nat) : CS := (c.1, (c.2.1, ((v, c.2.2.1.2), c.2.2.2)))
def CS.s_takn (c : CS) (v : Nat → Nat → Bool) : CS := (c.1, (c.2.1, ((c.2.2.1.1, (v, c.2.2.1.2.2)), c.2.2.2)))
def CS.s_sw (c : CS) (v : Nat → Nat → Bool) : CS := (c.1, (c.2.1, ((c.2.2.1.1, (c.2.2.1.2.1, v)), c.2.2.2)))
def CS.s_hver (c : CS) (v : Nat → Nat → Nat) : CS := (c.1, (c.2.1, (c.2.2.1, ((v, c.2.2.2.1.2), c.2.2.2.2))))
def CS.s_hbyt (c : CS) (v : Nat → Nat → Nat) : CS := (c.1, (c.2.1, (c.2.2.1, ((c.2.2.2.1.1, v), c.2.2.2.2))))
def CS.s_hstr (c : CS) (v : Nat → Nat → Nat) : CS := (c.1, (c.2.1, (c.2.2.1, (c.2.2.2.1, (v, c.2.2.2.2.2)))))
def CS.s_hpl (c : CS) (v : Nat → Nat → Nat → Nat) : CS := (c.1, (c.2.1, (c.2.2.1, (c.2.2.2.1, (c.2.2.2.2.1, v)))))
theorem CS.ext2 {a b : CS} (begun : a.begun = b.begun := by rfl) (unst : a.unst = b.unst := by rfl) (tape : a.tape = b.tape := by rfl) (tapeN : a.tapeN = b.tapeN := by rfl) (gott : a.gott = b.gott := by rfl) (gotN : a.gotN = b.gotN := by rfl) (cut : a.cut = b.cut := by rfl) (msgs : a.msgs = b.msgs := by rfl) (syms : a.syms = b.syms := by rfl) (chos : a.chos = b.chos := by rfl) (wire : a.wire = b.wire := by rfl) (mat : a.mat = b.mat := by rfl) (giv : a.giv = b.giv := by rfl) (squ : a.squ = b.squ := by rfl) (inv : a.inv = b.inv := by rfl) (resu : a.resu = b.resu := by rfl) (live : a.live = b.live := by rfl) (sent : a.sent = b.sent := by rfl) (data : a.data = b.data := by rfl) (takn : a.takn = b.takn := by rfl) (sw : a.sw = b.sw := by rfl) (hver : a.hver = b.hver := by rfl) (hbyt : a.hbyt = b.hbyt := by rfl) (hstr : a.hstr = b.hstr := by rfl) (hpl : a.hpl = b.hpl := by rfl) : a = b :=
  (Prod.ext (Prod.ext (Prod.ext (Prod.ext begun (Prod.ext unst tape)) (Prod.ext tapeN (Prod.ext gott gotN))) (Prod.ext (Prod.ext cut (Prod.ext msgs syms)) (Prod.ext chos (Prod.ext wire mat)))) (Prod.ext (Prod.ext (Prod.ext giv (Prod.ext squ inv)) (Prod.ext resu (Prod.ext live sent))) (Prod.ext (Prod.ext data (Prod.ext takn sw)) (Prod.ext (Prod.ext hver hbyt) (Prod.ext hstr hpl)))))
abbrev MS : Type := (((((Nat → Nat) × Nat) × (Int32 × ((Nat → Bool) × (Nat → Int32)))) × (((Nat → Bool) × (Nat → Nat)) × ((Nat → Bool) × ((Nat → Nat) × (Nat → Nat))))) × ((((Nat → Nat) × (Nat → Nat)) × ((Nat → Bool) × ((Nat → Nat) × Nat))) × ((Int32 × Int32) × ((Nat → Nat) × ((Nat → Nat) × (Nat → Nat))))))
def MS.tape (c : MS) : Nat → Nat := c.1.1.1.1
def MS.taped (c : MS) : Nat := c.1.1.1.2
def MS.cutA (c : MS) : Int32 := c.1.1.2.1
def MS.fail (c : MS) : Nat → Bool := c.1.1.2.2.1
def MS.sent (c : MS) : Nat → Int32 := c.1.1.2.2.2
def MS.used (c : MS) : Nat → Bool := c.1.2.1.1
def MS.byts (c : MS) : Nat → Nat := c.1.2.1.2
def MS.has (c : MS) : Nat → Bool := c.1.2.2.1
def MS.ver (c : MS) : Nat → Nat := c.1.2.2.2.1
def MS.size (c : MS) : Nat → Nat := c.1.2.2.2.2
def MS.blk (c : MS) : Nat → Nat := c.2.1.1.1
def MS.latest (c : MS) : Nat → Nat := c.2.1.1.2
def MS.opn (c : MS) : Nat → Bool := c.2.1.2.1
def MS.got (c : MS) : Nat → Nat := c.2.1.2.2.1
def MS.gotN (c : MS) : Nat := c.2.1.2.2.2
def MS.msgs (c : MS) : Int32 := c.2.2.1.1
def MS.syms (c : MS) : Int32 := c.2.2.1.2
def MS.eqs (c : MS) : Nat → Nat := c.2.2.2.1
def MS.chos (c : MS) : Nat → Nat := c.2.2.2.2.1
def MS.right (c : MS) : Nat → Nat := c.2.2.2.2.2
def MS.s_tape (c : MS) (v : Nat → Nat) : MS := ((((v, c.1.1.1.2), c.1.1.2), c.1.2), c.2)
def MS.s_taped (c : MS) (v : Nat) : MS := ((((c.1.1.1.1, v), c.1.1.2), c.1.2), c.2)
def MS.s_cutA (c : MS) (v : Int32) : MS := (((c.1.1.1, (v, c.1.1.2.2)), c.1.2), c.2)
def MS.s_fail (c : MS) (v : Nat → Bool) : MS := (((c.1.1.1, (c.1.1.2.1, (v, c.1.1.2.2.2))), c.1.2), c.2)
def MS.s_sent (c : MS) (v : Nat → Int32) : MS := (((c.1.1.1, (c.1.1.2.1, (c.1.1.2.2.1, v))), c.1.2), c.2)
def MS.s_used (c : MS) (v : Nat → Bool) : MS := ((c.1.1, ((v, c.1.2.1.2), c.1.2.2)), c.2)
def MS.s_byts (c : MS) (v : Nat → Nat) : MS := ((c.1.1, ((c.1.2.1.1, v), c.1.2.2)), c.2)
def MS.s_has (c : MS) (v : Nat → Bool) : MS := ((c.1.1, (c.1.2.1, (v, c.1.2.2.2))), c.2)
def MS.s_ver (c : MS) (v : Nat → Nat) : MS := ((c.1.1, (c.1.2.1, (c.1.2.2.1, (v, c.1.2.2.2.2)))), c.2)
def MS.s_size (c : MS) (v : Nat → Nat) : MS := ((c.1.1, (c.1.2.1, (c.1.2.2.1, (c.1.2.2.2.1, v)))), c.2)
def MS.s_blk (c : MS) (v : Nat → Nat) : MS := (c.1, (((v, c.2.1.1.2), c.2.1.2), c.2.2))
def MS.s_latest (c : MS) (v : Nat → Nat) : MS := (c.1, (((c.2.1.1.1, v), c.2.1.2), c.2.2))
def MS.s_opn (c : MS) (v : Nat → Bool) : MS := (c.1, ((c.2.1.1, (v, c.2.1.2.2)), c.2.2))
def MS.s_got (c : MS) (v : Nat → Nat) : MS := (c.1, ((c.2.1.1, (c.2.1.2.1, (v, c.2.1.2.2.2))), c.2.2))
def MS.s_gotN (c : MS) (v : Nat) : MS := (c.1, ((c.2.1.1, (c.2.1.2.1, (c.2.1.2.2.1, v))), c.2.2))
def MS.s_msgs (c : MS) (v : Int32) : MS := (c.1, (c.2.1, ((v, c.2.2.1.2), c.2.2.2)))
def MS.s_syms (c : MS) (v : Int32) : MS := (c.1, (c.2.1, ((c.2.2.1.1, v), c.2.2.2)))
def MS.s_eqs (c : MS) (v : Nat → Nat) : MS := (c.1, (c.2.1, (c.2.2.1, (v, c.2.2.2.2))))
def MS.s_chos (c : MS) (v : Nat → Nat) : MS := (c.1, (c.2.1, (c.2.2.1, (c.2.2.2.1, (v, c.2.2.2.2.2)))))
def MS.s_right (c : MS) (v : Nat → Nat) : MS := (c.1, (c.2.1, (c.2.2.1, (c.2.2.2.1, (c.2.2.2.2.1, v)))))
theorem MS.ext2 {a b : MS} (tape : a.tape = b.tape := by rfl) (taped : a.taped = b.taped := by rfl) (cutA : a.cutA = b.cutA := by rfl) (fail : a.fail = b.fail := by rfl) (sent : a.sent = b.sent := by rfl) (used : a.used = b.used := by rfl) (byts : a.byts = b.byts := by rfl) (has : a.has = b.has := by rfl) (ver : a.ver = b.ver := by rfl) (size : a.size = b.size := by rfl) (blk : a.blk = b.blk := by rfl) (latest : a.latest = b.latest := by rfl) (opn : a.opn = b.opn := by rfl) (got : a.got = b.got := by rfl) (gotN : a.gotN = b.gotN := by rfl) (msgs : a.msgs = b.msgs := by rfl) (syms : a.syms = b.syms := by rfl) (eqs : a.eqs = b.eqs := by rfl) (chos : a.chos = b.chos := by rfl) (right : a.right = b.right := by rfl) : a = b :=
  (Prod.ext (Prod.ext (Prod.ext (Prod.ext tape taped) (Prod.ext cutA (Prod.ext fail sent))) (Prod.ext (Prod.ext used byts) (Prod.ext has (Prod.ext ver size)))) (Prod.ext (Prod.ext (Prod.ext blk latest) (Prod.ext opn (Prod.ext got gotN))) (Prod.ext (Prod.ext msgs syms) (Prod.ext eqs (Prod.ext chos right)))))
def up2 {α : Type} (f : Nat → Nat → α) (i j : Nat) (v : α) : Nat → Nat → α := upN f i (upN (f i) j v)
theorem upN_s {α : Type} {f : Nat → α} {i : Nat} {v : α} : upN f i v i = v := if_pos rfl
theorem upN_n {α : Type} {f : Nat → α} {i j : Nat} {v : α} (h : j ≠ i) : upN f i v j = f j := if_neg h
def rp (c : CS) (i o : Nat) : Nat := 2 * o + (if c.sw i o then 1 else 0)
def sp (c : CS) (i o : Nat) : Nat := 2 * o + (if c.sw i o then 0 else 1)
-- the field's tables, as its constructor makes them
def xt (x : Nat) : Nat := if 2 * x < 256 then 2 * x else (2 * x) ^^^ 285
def pwN : Nat → Nat
  | 0 => 1
  | e + 1 => xt (pwN e)
def pwT (e : Nat) : Nat := if e < 255 then pwN e else if e < 510 then pwN (e - 255) else 0
def lgN : Nat → Nat → Nat
  | 0 => fun _ => 0
  | e + 1 => upN (lgN e) (pwN e % 256) e
def exT : Nat → Nat := lgN 255
def mulT (a b : Nat) : Nat := if a = 0 ∨ b = 0 then 0 else pwT (exT a + exT b)
def quoT (a b : Nat) : Nat := if a = 0 ∨ b = 0 then 0 else pwT (exT a + 255 - exT b)
def rowT (i : Nat) : Nat → Nat
  | 0 => 1
  | c + 1 => mulT (rowT i c) (i + 1)
def aS (g : GX) : Nat := g.1 + (0)
def aC (g : GX) : Nat := g.1 + (1)
def aF (g : GX) : Nat := g.1 + (2)
def aPw (g : GX) : Nat := g.1 + (3)
def aEx (g : GX) : Nat := g.1 + (4)
def aRows (g : GX) : Nat := g.1 + (5)
def aRow (g : GX) (i : Nat) : Nat := g.1 + (6 + i)
def aMat (g : GX) : Nat := g.1 + (18)
def aMatR (g : GX) (i : Nat) : Nat := g.1 + (19 + i)
def aGiv (g : GX) : Nat := g.1 + (27)
def aGivR (g : GX) (i : Nat) : Nat := g.1 + (28 + i)
def aSqu (g : GX) : Nat := g.1 + (33)
def aSquR (g : GX) (i : Nat) : Nat := g.1 + (34 + i)
def aInv (g : GX) : Nat := g.1 + (42)
def aInvR (g : GX) (i : Nat) : Nat := g.1 + (43 + i)
def aRes (g : GX) : Nat := g.1 + (51)
def aNodes (g : GX) : Nat := g.1 + (52)
def aBeg (g : GX) : Nat := g.1 + (53)
def aUns (g : GX) : Nat := g.1 + (54)
def aTap (g : GX) : Nat := g.1 + (55)
def aGot (g : GX) : Nat := g.1 + (56)
def aCho (g : GX) : Nat := g.1 + (57)
def aWir (g : GX) : Nat := g.1 + (58)
def aN (g : GX) (i : Nat) : Nat := g.1 + (59 + 29 * i)
def aD (g : GX) (i : Nat) : Nat := g.1 + (60 + 29 * i)
def aT (g : GX) (i : Nat) : Nat := g.1 + (61 + 29 * i)
def aR (g : GX) (i : Nat) : Nat := g.1 + (62 + 29 * i)
def aSh (g : GX) (i : Nat) : Nat := g.1 + (63 + 29 * i)
def aH (g : GX) (i p : Nat) : Nat := g.1 + (64 + 29 * i + 2 * p)
def aPl (g : GX) (i p : Nat) : Nat := g.1 + (65 + 29 * i + 2 * p)
def aM (g : GX) : Nat := g.1 + (407)
def amTape (g : GX) : Nat := g.1 + (408)
def amFail (g : GX) : Nat := g.1 + (409)
def amSent (g : GX) : Nat := g.1 + (410)
def amUsed (g : GX) : Nat := g.1 + (411)
def amByts (g : GX) : Nat := g.1 + (412)
def amHas (g : GX) : Nat := g.1 + (413)
def amVer (g : GX) : Nat := g.1 + (414)
def amSize (g : GX) : Nat := g.1 + (415)
def amBlk (g : GX) : Nat := g.1 + (416)
def amLat (g : GX) : Nat := g.1 + (417)
def amOpn (g : GX) : Nat := g.1 + (418)
def amGot (g : GX) : Nat := g.1 + (419)
def amEqs (g : GX) : Nat := g.1 + (420)
def amCho (g : GX) : Nat := g.1 + (421)
def amRig (g : GX) : Nat := g.1 + (422)
def fS (g : GX) (c : CS) : List Value := [.ref (aC g), .ref (aNodes g), .ref (aBeg g), .ref (aUns g), .ref (aTap g), .int (nI c.tapeN), .ref (aGot g), .int (nI c.gotN), .int c.cut, .int c.msgs, .int c.syms, .ref (aCho g), .ref (aWir g)]
def fC (g : GX) : List Value := [.ref (aF g), .ref (aRows g), .ref (aMat g), .ref (aGiv g), .ref (aSqu g), .ref (aInv g), .ref (aRes g)]
def fF (g : GX) : List Value := [.ref (aPw g), .ref (aEx g)]
def fN (g : GX) (c : CS) (i : Nat) : List Value := [.ref (aD g i), .ref (aT g i), .ref (aR g i), .ref (aSh g i), .int (b2 (c.live i)), .int (c.sent i)]
def fH (g : GX) (c : CS) (i p : Nat) : List Value := [.ref (aPl g i p), .int (nI (c.hver i p)), .int (nI (c.hbyt i p)), .int (nI (c.hstr i p))]
def fM (g : GX) (m : MS) : List Value := [.ref (amTape g), .int (nI m.taped), .int m.cutA, .ref (amFail g), .ref (amSent g), .ref (amUsed g), .ref (amByts g), .ref (amHas g), .ref (amVer g), .ref (amSize g), .ref (amBlk g), .ref (amLat g), .ref (amOpn g), .ref (amGot g), .int (nI m.gotN), .int m.msgs, .int m.syms, .ref (amEqs g), .ref (amCho g), .ref (amRig g)]
def qR (g : GX) (c : CS) (i : Nat) : Nat → Option Nat := fun o => some (aH g i (rp c i o))
def qS (g : GX) (c : CS) (i : Nat) : Nat → Option Nat := fun o => some (aH g i (sp c i o))
def qA (t N : Nat) (f : Nat → Option Nat) : AC := .inl (t, N, .inr (.inr (.inr (.inr f))))
def iA (N : Nat) (f : Nat → Nat) : AC := .inl (0, N, .inl (nF f))
def zA (N : Nat) (f : Nat → Bool) : AC := .inl (1, N, .inl (bF f))
def jA (N : Nat) (f : Nat → Int32) : AC := .inl (0, N, .inl f)
def cellK (g : GX) (c : CS) (m : MS) (t i j : Nat) : AC := match t with
  | 0 => .inr (4, fS g c)
  | 1 => .inr (0, fC g)
  | 2 => .inr (1, fF g)
  | 3 => iA 512 pwT
  | 4 => iA 256 exT
  | 5 => qA 4 12 (fun r => some (aRow g r))
  | 6 => iA 8 (rowT i)
  | 7 => qA 4 8 (fun r => some (aMatR g r))
  | 8 => iA 8 (c.mat i)
  | 9 => qA 4 5 (fun r => some (aGivR g r))
  | 10 => iA 8 (c.giv i)
  | 11 => qA 4 8 (fun r => some (aSquR g r))
  | 12 => iA 8 (c.squ i)
  | 13 => qA 4 8 (fun r => some (aInvR g r))
  | 14 => iA 8 (c.inv i)
  | 15 => iA 8 c.resu
  | 16 => qA 2 12 (fun r => some (aN g r))
  | 17 => iA 6 c.begun
  | 18 => zA 6 c.unst
  | 19 => iA 240 c.tape
  | 20 => iA 240 c.gott
  | 21 => iA 8 c.chos
  | 22 => iA 8 c.wire
  | 23 => .inr (3, fN g c i)
  | 24 => iA 320 (c.data i)
  | 25 => zA 40 (c.takn i)
  | 26 => qA 3 6 (qR g c i)
  | 27 => qA 3 6 (qS g c i)
  | 28 => .inr (2, fH g c i j)
  | 29 => iA 8 (c.hpl i j)
  | 30 => .inr (5, fM g m)
  | 31 => iA 240 m.tape
  | 32 => zA 12 m.fail
  | 33 => jA 12 m.sent
  | 34 => zA 480 m.used
  | 35 => iA 3840 m.byts
  | 36 => zA 144 m.has
  | 37 => iA 144 m.ver
  | 38 => iA 144 m.size
  | 39 => iA 1152 m.blk
  | 40 => iA 6 m.latest
  | 41 => zA 6 m.opn
  | 42 => iA 240 m.got
  | 43 => iA 128 m.eqs
  | 44 => iA 8 m.chos
  | _ => iA 15 m.right
def kd (r : Nat) : Nat × Nat × Nat :=
  if r < 6 then (r, 0, 0) else if r < 18 then (6, r - 6, 0) else if r < 19 then (7, 0, 0) else if r < 27 then (8, r - 19, 0) else if r < 28 then (9, 0, 0) else if r < 33 then (10, r - 28, 0) else if r < 34 then (11, 0, 0) else if r < 42 then (12, r - 34, 0) else if r < 43 then (13, 0, 0) else if r < 51 then (14, r - 43, 0)
  else if r < 59 then (r - 36, 0, 0) else if r < 407 then (if (r - 59) % 29 < 5 then (23 + (r - 59) % 29, (r - 59) / 29, 0) else if ((r - 59) % 29 - 5) % 2 = 0 then (28, (r - 59) / 29, ((r - 59) % 29 - 5) / 2) else (29, (r - 59) / 29, ((r - 59) % 29 - 5) / 2)) else (r - 377, 0, 0)
def adK (q : Nat × Nat × Nat) : Nat :=
  if q.1 < 6 then q.1 else if q.1 = 6 then 6 + q.2.1 else if q.1 = 7 then 18 else if q.1 = 8 then 19 + q.2.1 else if q.1 = 9 then 27 else if q.1 = 10 then 28 + q.2.1 else if q.1 = 11 then 33 else if q.1 = 12 then 34 + q.2.1 else if q.1 = 13 then 42 else if q.1 = 14 then 43 + q.2.1
  else if q.1 < 23 then q.1 + 36 else if q.1 < 28 then 59 + 29 * q.2.1 + (q.1 - 23) else if q.1 = 28 then 64 + 29 * q.2.1 + 2 * q.2.2 else if q.1 = 29 then 65 + 29 * q.2.1 + 2 * q.2.2 else q.1 + 377
theorem adK_kd (r : Nat) : adK (kd r) = r := by
  by_cases c0 : r < 6
  · have e : kd r = (r, 0, 0) := by
      unfold kd
      rw [if_pos c0]
    rw [e]
    unfold adK
    dsimp only
    repeat (first | rw [if_pos (by omega)] | rw [if_neg (by omega)])
    all_goals omega
  by_cases c1 : r < 18
  · have e : kd r = (6, r - 6, 0) := by
      unfold kd
      rw [if_neg c0, if_pos c1]
    rw [e]
    show 6 + (r - 6) = r
    omega
  by_cases c2 : r < 19
  · have e : kd r = (7, 0, 0) := by
      unfold kd
      rw [if_neg c0, if_neg c1, if_pos c2]
    rw [e]
    show 18 = r
    omega
  by_cases c3 : r < 27
  · have e : kd r = (8, r - 19, 0) := by
      unfold kd
      rw [if_neg c0, if_neg c1, if_neg c2, if_pos c3]
    rw [e]
    show 19 + (r - 19) = r
    omega
  by_cases c4 : r < 28
  · have e : kd r = (9, 0, 0) := by
      unfold kd
      rw [if_neg c0, if_neg c1, if_neg c2, if_neg c3, if_pos c4]
    rw [e]
    show 27 = r
    omega
  by_cases c5 : r < 33
  · have e : kd r = (10, r - 28, 0) := by
      unfold kd
      rw [if_neg c0, if_neg c1, if_neg c2, if_neg c3, if_neg c4, if_pos c5]
    rw [e]
    show 28 + (r - 28) = r
    omega
  by_cases c6 : r < 34
  · have e : kd r = (11, 0, 0) := by
      unfold kd
      rw [if_neg c0, if_neg c1, if_neg c2, if_neg c3, if_neg c4, if_neg c5, if_pos c6]
    rw [e]
    show 33 = r
    omega
  by_cases c7 : r < 42
  · have e : kd r = (12, r - 34, 0) := by
      unfold kd
      rw [if_neg c0, if_neg c1, if_neg c2, if_neg c3, if_neg c4, if_neg c5, if_neg c6, if_pos c7]
    rw [e]
    show 34 + (r - 34) = r
    omega
  by_cases c8 : r < 43
  · have e : kd r = (13, 0, 0) := by
      unfold kd
      rw [if_neg c0, if_neg c1, if_neg c2, if_neg c3, if_neg c4, if_neg c5, if_neg c6, if_neg c7, if_pos c8]
    rw [e]
    show 42 = r
    omega
  by_cases c9 : r < 51
  · have e : kd r = (14, r - 43, 0) := by
      unfold kd
      rw [if_neg c0, if_neg c1, if_neg c2, if_neg c3, if_neg c4, if_neg c5, if_neg c6, if_neg c7, if_neg c8, if_pos c9]
    rw [e]
    show 43 + (r - 43) = r
    omega
  by_cases c10 : r < 59
  · have e : kd r = (r - 36, 0, 0) := by
      unfold kd
      rw [if_neg c0, if_neg c1, if_neg c2, if_neg c3, if_neg c4, if_neg c5, if_neg c6, if_neg c7, if_neg c8, if_neg c9, if_pos c10]
    rw [e]
    unfold adK
    dsimp only
    repeat (first | rw [if_pos (by omega)] | rw [if_neg (by omega)])
    all_goals omega
  by_cases ca : r < 407
  · by_cases cb : (r - 59) % 29 < 5
    · have e : kd r = (23 + (r - 59) % 29, (r - 59) / 29, 0) := by
        unfold kd
        rw [if_neg c0, if_neg c1, if_neg c2, if_neg c3, if_neg c4, if_neg c5, if_neg c6, if_neg c7, if_neg c8, if_neg c9, if_neg c10, if_pos ca, if_pos cb]
      rw [e]
      unfold adK
      dsimp only
      repeat (first | rw [if_pos (by omega)] | rw [if_neg (by omega)])
      all_goals omega
    · by_cases cc : ((r - 59) % 29 - 5) % 2 = 0
      · have e : kd r = (28, (r - 59) / 29, ((r - 59) % 29 - 5) / 2) := by
          unfold kd
          rw [if_neg c0, if_neg c1, if_neg c2, if_neg c3, if_neg c4, if_neg c5, if_neg c6, if_neg c7, if_neg c8, if_neg c9, if_neg c10, if_pos ca, if_neg cb, if_pos cc]
        rw [e]
        show 64 + 29 * ((r - 59) / 29) + 2 * (((r - 59) % 29 - 5) / 2) = r
        omega
      · have e : kd r = (29, (r - 59) / 29, ((r - 59) % 29 - 5) / 2) := by
          unfold kd
          rw [if_neg c0, if_neg c1, if_neg c2, if_neg c3, if_neg c4, if_neg c5, if_neg c6, if_neg c7, if_neg c8, if_neg c9, if_neg c10, if_pos ca, if_neg cb, if_neg cc]
        rw [e]
        show 65 + 29 * ((r - 59) / 29) + 2 * (((r - 59) % 29 - 5) / 2) = r
        omega
  · have e : kd r = (r - 377, 0, 0) := by
      unfold kd
      rw [if_neg c0, if_neg c1, if_neg c2, if_neg c3, if_neg c4, if_neg c5, if_neg c6, if_neg c7, if_neg c8, if_neg c9, if_neg c10, if_neg ca]
    rw [e]
    unfold adK
    dsimp only
    repeat (first | rw [if_pos (by omega)] | rw [if_neg (by omega)])
    all_goals omega
theorem kd_inj {r r' : Nat} (h : kd r = kd r') : r = r' := by rw [← adK_kd r, ← adK_kd r', h]
def kok (t i j : Nat) : Prop := (t ≠ 28 → t ≠ 29 → j = 0) ∧ ((t < 6 ∨ t = 7 ∨ t = 9 ∨ t = 11 ∨ t = 13 ∨ (15 ≤ t ∧ t < 23) ∨ 30 ≤ t) → i = 0) ∧ t ≤ 45
theorem kok_kd {r : Nat} (h : r < 423) : kok (kd r).1 (kd r).2.1 (kd r).2.2 := by
  by_cases c0 : r < 6
  · have e : kd r = (r, 0, 0) := by
      unfold kd
      rw [if_pos c0]
    rw [e]
    unfold kok
    dsimp only
    omega
  by_cases c1 : r < 18
  · have e : kd r = (6, r - 6, 0) := by
      unfold kd
      rw [if_neg c0, if_pos c1]
    rw [e]
    unfold kok
    dsimp only
    omega
  by_cases c2 : r < 19
  · have e : kd r = (7, 0, 0) := by
      unfold kd
      rw [if_neg c0, if_neg c1, if_pos c2]
    rw [e]
    unfold kok
    dsimp only
    omega
  by_cases c3 : r < 27
  · have e : kd r = (8, r - 19, 0) := by
      unfold kd
      rw [if_neg c0, if_neg c1, if_neg c2, if_pos c3]
    rw [e]
    unfold kok
    dsimp only
    omega
  by_cases c4 : r < 28
  · have e : kd r = (9, 0, 0) := by
      unfold kd
      rw [if_neg c0, if_neg c1, if_neg c2, if_neg c3, if_pos c4]
    rw [e]
    unfold kok
    dsimp only
    omega
  by_cases c5 : r < 33
  · have e : kd r = (10, r - 28, 0) := by
      unfold kd
      rw [if_neg c0, if_neg c1, if_neg c2, if_neg c3, if_neg c4, if_pos c5]
    rw [e]
    unfold kok
    dsimp only
    omega
  by_cases c6 : r < 34
  · have e : kd r = (11, 0, 0) := by
      unfold kd
      rw [if_neg c0, if_neg c1, if_neg c2, if_neg c3, if_neg c4, if_neg c5, if_pos c6]
    rw [e]
    unfold kok
    dsimp only
    omega
  by_cases c7 : r < 42
  · have e : kd r = (12, r - 34, 0) := by
      unfold kd
      rw [if_neg c0, if_neg c1, if_neg c2, if_neg c3, if_neg c4, if_neg c5, if_neg c6, if_pos c7]
    rw [e]
    unfold kok
    dsimp only
    omega
  by_cases c8 : r < 43
  · have e : kd r = (13, 0, 0) := by
      unfold kd
      rw [if_neg c0, if_neg c1, if_neg c2, if_neg c3, if_neg c4, if_neg c5, if_neg c6, if_neg c7, if_pos c8]
    rw [e]
    unfold kok
    dsimp only
    omega
  by_cases c9 : r < 51
  · have e : kd r = (14, r - 43, 0) := by
      unfold kd
      rw [if_neg c0, if_neg c1, if_neg c2, if_neg c3, if_neg c4, if_neg c5, if_neg c6, if_neg c7, if_neg c8, if_pos c9]
    rw [e]
    unfold kok
    dsimp only
    omega
  by_cases c10 : r < 59
  · have e : kd r = (r - 36, 0, 0) := by
      unfold kd
      rw [if_neg c0, if_neg c1, if_neg c2, if_neg c3, if_neg c4, if_neg c5, if_neg c6, if_neg c7, if_neg c8, if_neg c9, if_pos c10]
    rw [e]
    unfold kok
    dsimp only
    omega
  by_cases ca : r < 407
  · by_cases cb : (r - 59) % 29 < 5
    · have e : kd r = (23 + (r - 59) % 29, (r - 59) / 29, 0) := by
        unfold kd
        rw [if_neg c0, if_neg c1, if_neg c2, if_neg c3, if_neg c4, if_neg c5, if_neg c6, if_neg c7, if_neg c8, if_neg c9, if_neg c10, if_pos ca, if_pos cb]
      rw [e]
      unfold kok
      dsimp only
      omega
    · by_cases cc : ((r - 59) % 29 - 5) % 2 = 0
      · have e : kd r = (28, (r - 59) / 29, ((r - 59) % 29 - 5) / 2) := by
          unfold kd
          rw [if_neg c0, if_neg c1, if_neg c2, if_neg c3, if_neg c4, if_neg c5, if_neg c6, if_neg c7, if_neg c8, if_neg c9, if_neg c10, if_pos ca, if_neg cb, if_pos cc]
        rw [e]
        unfold kok
        dsimp only
        omega
      · have e : kd r = (29, (r - 59) / 29, ((r - 59) % 29 - 5) / 2) := by
          unfold kd
          rw [if_neg c0, if_neg c1, if_neg c2, if_neg c3, if_neg c4, if_neg c5, if_neg c6, if_neg c7, if_neg c8, if_neg c9, if_neg c10, if_pos ca, if_neg cb, if_neg cc]
        rw [e]
        unfold kok
        dsimp only
        omega
  · have e : kd r = (r - 377, 0, 0) := by
      unfold kd
      rw [if_neg c0, if_neg c1, if_neg c2, if_neg c3, if_neg c4, if_neg c5, if_neg c6, if_neg c7, if_neg c8, if_neg c9, if_neg c10, if_neg ca]
    rw [e]
    unfold kok
    dsimp only
    omega
/-- the heap's first z cells -/
def hz (z : Nat) (g : GX) (c : CS) (m : MS) : AH := fun a => if g.1 ≤ a ∧ a < g.1 + z then some (cellK g c m (kd (a - g.1)).1 (kd (a - g.1)).2.1 (kd (a - g.1)).2.2) else none
abbrev hp (g : GX) (c : CS) (m : MS) : AH := hz 423 g c m
theorem hz_get {g : GX} {c : CS} {m : MS} {z r t i j : Nat} (hr : r < z) (hk : kd r = (t, i, j)) : hz z g c m (g.1 + r) = some (cellK g c m t i j) := by
  unfold hz
  rw [if_pos ⟨by omega, by omega⟩, Nat.add_sub_cancel_left, hk]
theorem hz_set {g : GX} {c c' : CS} {m m' : MS} {z r t i j : Nat} {x : AC} (hz4 : z ≤ 423) (hr : r < z) (hk : kd r = (t, i, j)) (hx : cellK g c' m' t i j = x) (h1 : ∀ t' i' j', kok t' i' j' → (t', i', j') ≠ (t, i, j) → cellK g c' m' t' i' j' = cellK g c m t' i' j') : updH (hz z g c m) (g.1 + r) x = hz z g c' m' := by
  funext a
  subst hx
  unfold updH
  by_cases e : a = g.1 + r
  · rw [if_pos e, e, hz_get hr hk]
  · rw [if_neg e]
    unfold hz
    by_cases e2 : g.1 ≤ a ∧ a < g.1 + z
    · rw [if_pos e2, if_pos e2]
      refine congrArg some (h1 _ _ _ (kok_kd (by omega)) (fun q => e ?_)).symm
      have := kd_inj (r := a - g.1) (r' := r) (by rw [hk, ← q])
      omega
    · rw [if_neg e2, if_neg e2]
theorem up2_n {α : Type} {f : Nat → Nat → α} {i p i' p' : Nat} {v : α} (h : ¬ (i' = i ∧ p' = p)) : up2 f i p v i' p' = f i' p' := by
  unfold up2 upN
  by_cases e : i' = i
  · subst e
    rw [if_pos rfl, if_neg (fun q => h ⟨rfl, q⟩)]
  · rw [if_neg e]
theorem up2_s {α : Type} {f : Nat → Nat → α} {i p : Nat} {v : α} : up2 f i p v i p = v := by
  unfold up2 upN
  rw [if_pos rfl, if_pos rfl]
section GS
variable {g : GX} {c : CS} {m : MS}
theorem gS : hp g c m (aS g) = some (.inr (4, fS g c)) := hz_get (r := 0) (by decide) rfl
theorem gC : hp g c m (aC g) = some (.inr (0, fC g)) := hz_get (r := 1) (by decide) rfl
theorem gF : hp g c m (aF g) = some (.inr (1, fF g)) := hz_get (r := 2) (by decide) rfl
theorem gPw : hp g c m (aPw g) = some (iA 512 pwT) := hz_get (r := 3) (by decide) rfl
theorem gEx : hp g c m (aEx g) = some (iA 256 exT) := hz_get (r := 4) (by decide) rfl
theorem gRows : hp g c m (aRows g) = some (qA 4 12 (fun r => some (aRow g r))) := hz_get (r := 5) (by decide) rfl
theorem kd_Row {i : Nat} (hi : i < 12) : kd (6 + i) = (6, i, 0) := by
  unfold kd
  repeat (first | rw [if_pos (by omega)] | rw [if_neg (by omega)])
  rw [Nat.add_sub_cancel_left]
theorem gRow {i : Nat} (hi : i < 12) : hp g c m (aRow g i) = some (iA 8 (rowT i)) := hz_get (r := 6 + i) (by omega) (kd_Row hi)
theorem gMat : hp g c m (aMat g) = some (qA 4 8 (fun r => some (aMatR g r))) := hz_get (r := 18) (by decide) rfl
theorem kd_MatR {i : Nat} (hi : i < 8) : kd (19 + i) = (8, i, 0) := by
  unfold kd
  repeat (first | rw [if_pos (by omega)] | rw [if_neg (by omega)])
  rw [Nat.add_sub_cancel_left]
theorem gMatR {i : Nat} (hi : i < 8) : hp g c m (aMatR g i) = some (iA 8 (c.mat i)) := hz_get (r := 19 + i) (by omega) (kd_MatR hi)
theorem gGiv : hp g c m (aGiv g) = some (qA 4 5 (fun r => some (aGivR g r))) := hz_get (r := 27) (by decide) rfl
theorem kd_GivR {i : Nat} (hi : i < 5) : kd (28 + i) = (10, i, 0) := by
  unfold kd
  repeat (first | rw [if_pos (by omega)] | rw [if_neg (by omega)])
  rw [Nat.add_sub_cancel_left]
theorem gGivR {i : Nat} (hi : i < 5) : hp g c m (aGivR g i) = some (iA 8 (c.giv i)) := hz_get (r := 28 + i) (by omega) (kd_GivR hi)
theorem gSqu : hp g c m (aSqu g) = some (qA 4 8 (fun r => some (aSquR g r))) := hz_get (r := 33) (by decide) rfl
theorem kd_SquR {i : Nat} (hi : i < 8) : kd (34 + i) = (12, i, 0) := by
  unfold kd
  repeat (first | rw [if_pos (by omega)] | rw [if_neg (by omega)])
  rw [Nat.add_sub_cancel_left]
theorem gSquR {i : Nat} (hi : i < 8) : hp g c m (aSquR g i) = some (iA 8 (c.squ i)) := hz_get (r := 34 + i) (by omega) (kd_SquR hi)
theorem gInv : hp g c m (aInv g) = some (qA 4 8 (fun r => some (aInvR g r))) := hz_get (r := 42) (by decide) rfl
theorem kd_InvR {i : Nat} (hi : i < 8) : kd (43 + i) = (14, i, 0) := by
  unfold kd
  repeat (first | rw [if_pos (by omega)] | rw [if_neg (by omega)])
  rw [Nat.add_sub_cancel_left]
theorem gInvR {i : Nat} (hi : i < 8) : hp g c m (aInvR g i) = some (iA 8 (c.inv i)) := hz_get (r := 43 + i) (by omega) (kd_InvR hi)
theorem gRes : hp g c m (aRes g) = some (iA 8 c.resu) := hz_get (r := 51) (by decide) rfl
theorem gNodes : hp g c m (aNodes g) = some (qA 2 12 (fun r => some (aN g r))) := hz_get (r := 52) (by decide) rfl
theorem gBeg : hp g c m (aBeg g) = some (iA 6 c.begun) := hz_get (r := 53) (by decide) rfl
theorem gUns : hp g c m (aUns g) = some (zA 6 c.unst) := hz_get (r := 54) (by decide) rfl
theorem gTap : hp g c m (aTap g) = some (iA 240 c.tape) := hz_get (r := 55) (by decide) rfl
theorem gGot : hp g c m (aGot g) = some (iA 240 c.gott) := hz_get (r := 56) (by decide) rfl
theorem gCho : hp g c m (aCho g) = some (iA 8 c.chos) := hz_get (r := 57) (by decide) rfl
theorem gWir : hp g c m (aWir g) = some (iA 8 c.wire) := hz_get (r := 58) (by decide) rfl
theorem kd_N {i : Nat} (hi : i < 12) : kd (59 + 29 * i) = (23, i, 0) := by
  have e1 : (59 + 29 * i - 59) % 29 = 0 := by omega
  have e2 : (59 + 29 * i - 59) / 29 = i := by omega
  unfold kd
  iterate 11 rw [if_neg (by omega)]
  rw [if_pos (by omega), e1, e2]
  rfl
theorem gN {i : Nat} (hi : i < 12) : hp g c m (aN g i) = some (.inr (3, fN g c i)) := hz_get (r := 59 + 29 * i) (by omega) (kd_N hi)
theorem kd_D {i : Nat} (hi : i < 12) : kd (60 + 29 * i) = (24, i, 0) := by
  have e1 : (60 + 29 * i - 59) % 29 = 1 := by omega
  have e2 : (60 + 29 * i - 59) / 29 = i := by omega
  unfold kd
  iterate 11 rw [if_neg (by omega)]
  rw [if_pos (by omega), e1, e2]
  rfl
theorem gD {i : Nat} (hi : i < 12) : hp g c m (aD g i) = some (iA 320 (c.data i)) := hz_get (r := 60 + 29 * i) (by omega) (kd_D hi)
theorem kd_T {i : Nat} (hi : i < 12) : kd (61 + 29 * i) = (25, i, 0) := by
  have e1 : (61 + 29 * i - 59) % 29 = 2 := by omega
  have e2 : (61 + 29 * i - 59) / 29 = i := by omega
  unfold kd
  iterate 11 rw [if_neg (by omega)]
  rw [if_pos (by omega), e1, e2]
  rfl
theorem gT {i : Nat} (hi : i < 12) : hp g c m (aT g i) = some (zA 40 (c.takn i)) := hz_get (r := 61 + 29 * i) (by omega) (kd_T hi)
theorem kd_R {i : Nat} (hi : i < 12) : kd (62 + 29 * i) = (26, i, 0) := by
  have e1 : (62 + 29 * i - 59) % 29 = 3 := by omega
  have e2 : (62 + 29 * i - 59) / 29 = i := by omega
  unfold kd
  iterate 11 rw [if_neg (by omega)]
  rw [if_pos (by omega), e1, e2]
  rfl
theorem gR {i : Nat} (hi : i < 12) : hp g c m (aR g i) = some (qA 3 6 (qR g c i)) := hz_get (r := 62 + 29 * i) (by omega) (kd_R hi)
theorem kd_Sh {i : Nat} (hi : i < 12) : kd (63 + 29 * i) = (27, i, 0) := by
  have e1 : (63 + 29 * i - 59) % 29 = 4 := by omega
  have e2 : (63 + 29 * i - 59) / 29 = i := by omega
  unfold kd
  iterate 11 rw [if_neg (by omega)]
  rw [if_pos (by omega), e1, e2]
  rfl
theorem gSh {i : Nat} (hi : i < 12) : hp g c m (aSh g i) = some (qA 3 6 (qS g c i)) := hz_get (r := 63 + 29 * i) (by omega) (kd_Sh hi)
theorem kd_H {i p : Nat} (hi : i < 12) (hj : p < 12) : kd (64 + 29 * i + 2 * p) = (28, i, p) := by
  have e1 : (64 + 29 * i + 2 * p - 59) % 29 = 5 + 2 * p := by omega
  have e2 : (64 + 29 * i + 2 * p - 59) / 29 = i := by omega
  unfold kd
  iterate 11 rw [if_neg (by omega)]
  rw [if_pos (by omega), e1, e2]
  rw [if_neg (by omega), if_pos (by omega), show (5 + 2 * p - 5) / 2 = p by omega]
theorem gH {i p : Nat} (hi : i < 12) (hj : p < 12) : hp g c m (aH g i p) = some (.inr (2, fH g c i p)) := hz_get (r := 64 + 29 * i + 2 * p) (by omega) (kd_H hi hj)
theorem kd_Pl {i p : Nat} (hi : i < 12) (hj : p < 12) : kd (65 + 29 * i + 2 * p) = (29, i, p) := by
  have e1 : (65 + 29 * i + 2 * p - 59) % 29 = 6 + 2 * p := by omega
  have e2 : (65 + 29 * i + 2 * p - 59) / 29 = i := by omega
  unfold kd
  iterate 11 rw [if_neg (by omega)]
  rw [if_pos (by omega), e1, e2]
  rw [if_neg (by omega), if_neg (by omega), show (6 + 2 * p - 5) / 2 = p by omega]
theorem gPl {i p : Nat} (hi : i < 12) (hj : p < 12) : hp g c m (aPl g i p) = some (iA 8 (c.hpl i p)) := hz_get (r := 65 + 29 * i + 2 * p) (by omega) (kd_Pl hi hj)
theorem gM : hp g c m (aM g) = some (.inr (5, fM g m)) := hz_get (r := 407) (by decide) rfl
theorem gmTape : hp g c m (amTape g) = some (iA 240 m.tape) := hz_get (r := 408) (by decide) rfl
theorem gmFail : hp g c m (amFail g) = some (zA 12 m.fail) := hz_get (r := 409) (by decide) rfl
theorem gmSent : hp g c m (amSent g) = some (jA 12 m.sent) := hz_get (r := 410) (by decide) rfl
theorem gmUsed : hp g c m (amUsed g) = some (zA 480 m.used) := hz_get (r := 411) (by decide) rfl
theorem gmByts : hp g c m (amByts g) = some (iA 3840 m.byts) := hz_get (r := 412) (by decide) rfl
theorem gmHas : hp g c m (amHas g) = some (zA 144 m.has) := hz_get (r := 413) (by decide) rfl
theorem gmVer : hp g c m (amVer g) = some (iA 144 m.ver) := hz_get (r := 414) (by decide) rfl
theorem gmSize : hp g c m (amSize g) = some (iA 144 m.size) := hz_get (r := 415) (by decide) rfl
theorem gmBlk : hp g c m (amBlk g) = some (iA 1152 m.blk) := hz_get (r := 416) (by decide) rfl
theorem gmLat : hp g c m (amLat g) = some (iA 6 m.latest) := hz_get (r := 417) (by decide) rfl
theorem gmOpn : hp g c m (amOpn g) = some (zA 6 m.opn) := hz_get (r := 418) (by decide) rfl
theorem gmGot : hp g c m (amGot g) = some (iA 240 m.got) := hz_get (r := 419) (by decide) rfl
theorem gmEqs : hp g c m (amEqs g) = some (iA 128 m.eqs) := hz_get (r := 420) (by decide) rfl
theorem gmCho : hp g c m (amCho g) = some (iA 8 m.chos) := hz_get (r := 421) (by decide) rfl
theorem gmRig : hp g c m (amRig g) = some (iA 15 m.right) := hz_get (r := 422) (by decide) rfl
theorem wS_tapeN {v : Nat} : updH (hp g c m) (aS g) (.inr (4, (fS g c).set 5 (.int (nI v)))) = hp g (c.s_tapeN v) m := hz_set (c' := (c.s_tapeN v)) (m' := m) (r := 0) (t := 0) (i := 0) (j := 0) (by decide) (by decide) rfl rfl (fun t' i' j' hok hne => by
  match t' with
  | 0 => exact absurd (by rw [hok.2.1 (by omega), hok.1 (by omega) (by omega)]) hne
  | 1 => rfl
  | 2 => rfl
  | 3 => rfl
  | 4 => rfl
  | 5 => rfl
  | 6 => rfl
  | 7 => rfl
  | 8 => rfl
  | 9 => rfl
  | 10 => rfl
  | 11 => rfl
  | 12 => rfl
  | 13 => rfl
  | 14 => rfl
  | 15 => rfl
  | 16 => rfl
  | 17 => rfl
  | 18 => rfl
  | 19 => rfl
  | 20 => rfl
  | 21 => rfl
  | 22 => rfl
  | 23 => rfl
  | 24 => rfl
  | 25 => rfl
  | 26 => rfl
  | 27 => rfl
  | 28 => rfl
  | 29 => rfl
  | 30 => rfl
  | 31 => rfl
  | 32 => rfl
  | 33 => rfl
  | 34 => rfl
  | 35 => rfl
  | 36 => rfl
  | 37 => rfl
  | 38 => rfl
  | 39 => rfl
  | 40 => rfl
  | 41 => rfl
  | 42 => rfl
  | 43 => rfl
  | 44 => rfl
  | z + 45 => rfl)
theorem wS_gotN {v : Nat} : updH (hp g c m) (aS g) (.inr (4, (fS g c).set 7 (.int (nI v)))) = hp g (c.s_gotN v) m := hz_set (c' := (c.s_gotN v)) (m' := m) (r := 0) (t := 0) (i := 0) (j := 0) (by decide) (by decide) rfl rfl (fun t' i' j' hok hne => by
  match t' with
  | 0 => exact absurd (by rw [hok.2.1 (by omega), hok.1 (by omega) (by omega)]) hne
  | 1 => rfl
  | 2 => rfl
  | 3 => rfl
  | 4 => rfl
  | 5 => rfl
  | 6 => rfl
  | 7 => rfl
  | 8 => rfl
  | 9 => rfl
  | 10 => rfl
  | 11 => rfl
  | 12 => rfl
  | 13 => rfl
  | 14 => rfl
  | 15 => rfl
  | 16 => rfl
  | 17 => rfl
  | 18 => rfl
  | 19 => rfl
  | 20 => rfl
  | 21 => rfl
  | 22 => rfl
  | 23 => rfl
  | 24 => rfl
  | 25 => rfl
  | 26 => rfl
  | 27 => rfl
  | 28 => rfl
  | 29 => rfl
  | 30 => rfl
  | 31 => rfl
  | 32 => rfl
  | 33 => rfl
  | 34 => rfl
  | 35 => rfl
  | 36 => rfl
  | 37 => rfl
  | 38 => rfl
  | 39 => rfl
  | 40 => rfl
  | 41 => rfl
  | 42 => rfl
  | 43 => rfl
  | 44 => rfl
  | z + 45 => rfl)
theorem wS_cut {v : Int32} : updH (hp g c m) (aS g) (.inr (4, (fS g c).set 8 (.int (v)))) = hp g (c.s_cut v) m := hz_set (c' := (c.s_cut v)) (m' := m) (r := 0) (t := 0) (i := 0) (j := 0) (by decide) (by decide) rfl rfl (fun t' i' j' hok hne => by
  match t' with
  | 0 => exact absurd (by rw [hok.2.1 (by omega), hok.1 (by omega) (by omega)]) hne
  | 1 => rfl
  | 2 => rfl
  | 3 => rfl
  | 4 => rfl
  | 5 => rfl
  | 6 => rfl
  | 7 => rfl
  | 8 => rfl
  | 9 => rfl
  | 10 => rfl
  | 11 => rfl
  | 12 => rfl
  | 13 => rfl
  | 14 => rfl
  | 15 => rfl
  | 16 => rfl
  | 17 => rfl
  | 18 => rfl
  | 19 => rfl
  | 20 => rfl
  | 21 => rfl
  | 22 => rfl
  | 23 => rfl
  | 24 => rfl
  | 25 => rfl
  | 26 => rfl
  | 27 => rfl
  | 28 => rfl
  | 29 => rfl
  | 30 => rfl
  | 31 => rfl
  | 32 => rfl
  | 33 => rfl
  | 34 => rfl
  | 35 => rfl
  | 36 => rfl
  | 37 => rfl
  | 38 => rfl
  | 39 => rfl
  | 40 => rfl
  | 41 => rfl
  | 42 => rfl
  | 43 => rfl
  | 44 => rfl
  | z + 45 => rfl)
theorem wS_msgs {v : Int32} : updH (hp g c m) (aS g) (.inr (4, (fS g c).set 9 (.int (v)))) = hp g (c.s_msgs v) m := hz_set (c' := (c.s_msgs v)) (m' := m) (r := 0) (t := 0) (i := 0) (j := 0) (by decide) (by decide) rfl rfl (fun t' i' j' hok hne => by
  match t' with
  | 0 => exact absurd (by rw [hok.2.1 (by omega), hok.1 (by omega) (by omega)]) hne
  | 1 => rfl
  | 2 => rfl
  | 3 => rfl
  | 4 => rfl
  | 5 => rfl
  | 6 => rfl
  | 7 => rfl
  | 8 => rfl
  | 9 => rfl
  | 10 => rfl
  | 11 => rfl
  | 12 => rfl
  | 13 => rfl
  | 14 => rfl
  | 15 => rfl
  | 16 => rfl
  | 17 => rfl
  | 18 => rfl
  | 19 => rfl
  | 20 => rfl
  | 21 => rfl
  | 22 => rfl
  | 23 => rfl
  | 24 => rfl
  | 25 => rfl
  | 26 => rfl
  | 27 => rfl
  | 28 => rfl
  | 29 => rfl
  | 30 => rfl
  | 31 => rfl
  | 32 => rfl
  | 33 => rfl
  | 34 => rfl
  | 35 => rfl
  | 36 => rfl
  | 37 => rfl
  | 38 => rfl
  | 39 => rfl
  | 40 => rfl
  | 41 => rfl
  | 42 => rfl
  | 43 => rfl
  | 44 => rfl
  | z + 45 => rfl)
theorem wS_syms {v : Int32} : updH (hp g c m) (aS g) (.inr (4, (fS g c).set 10 (.int (v)))) = hp g (c.s_syms v) m := hz_set (c' := (c.s_syms v)) (m' := m) (r := 0) (t := 0) (i := 0) (j := 0) (by decide) (by decide) rfl rfl (fun t' i' j' hok hne => by
  match t' with
  | 0 => exact absurd (by rw [hok.2.1 (by omega), hok.1 (by omega) (by omega)]) hne
  | 1 => rfl
  | 2 => rfl
  | 3 => rfl
  | 4 => rfl
  | 5 => rfl
  | 6 => rfl
  | 7 => rfl
  | 8 => rfl
  | 9 => rfl
  | 10 => rfl
  | 11 => rfl
  | 12 => rfl
  | 13 => rfl
  | 14 => rfl
  | 15 => rfl
  | 16 => rfl
  | 17 => rfl
  | 18 => rfl
  | 19 => rfl
  | 20 => rfl
  | 21 => rfl
  | 22 => rfl
  | 23 => rfl
  | 24 => rfl
  | 25 => rfl
  | 26 => rfl
  | 27 => rfl
  | 28 => rfl
  | 29 => rfl
  | 30 => rfl
  | 31 => rfl
  | 32 => rfl
  | 33 => rfl
  | 34 => rfl
  | 35 => rfl
  | 36 => rfl
  | 37 => rfl
  | 38 => rfl
  | 39 => rfl
  | 40 => rfl
  | 41 => rfl
  | 42 => rfl
  | 43 => rfl
  | 44 => rfl
  | z + 45 => rfl)
theorem wbegun {v : Nat → Nat} : updH (hp g c m) (aBeg g) (iA 6 v) = hp g (c.s_begun v) m := hz_set (c' := (c.s_begun v)) (m' := m) (r := 53) (t := 17) (i := 0) (j := 0) (by decide) (by decide) rfl rfl (fun t' i' j' hok hne => by
  match t' with
  | 0 => rfl
  | 1 => rfl
  | 2 => rfl
  | 3 => rfl
  | 4 => rfl
  | 5 => rfl
  | 6 => rfl
  | 7 => rfl
  | 8 => rfl
  | 9 => rfl
  | 10 => rfl
  | 11 => rfl
  | 12 => rfl
  | 13 => rfl
  | 14 => rfl
  | 15 => rfl
  | 16 => rfl
  | 17 => exact absurd (by rw [hok.2.1 (by omega), hok.1 (by omega) (by omega)]) hne
  | 18 => rfl
  | 19 => rfl
  | 20 => rfl
  | 21 => rfl
  | 22 => rfl
  | 23 => rfl
  | 24 => rfl
  | 25 => rfl
  | 26 => rfl
  | 27 => rfl
  | 28 => rfl
  | 29 => rfl
  | 30 => rfl
  | 31 => rfl
  | 32 => rfl
  | 33 => rfl
  | 34 => rfl
  | 35 => rfl
  | 36 => rfl
  | 37 => rfl
  | 38 => rfl
  | 39 => rfl
  | 40 => rfl
  | 41 => rfl
  | 42 => rfl
  | 43 => rfl
  | 44 => rfl
  | z + 45 => rfl)
theorem wunst {v : Nat → Bool} : updH (hp g c m) (aUns g) (zA 6 v) = hp g (c.s_unst v) m := hz_set (c' := (c.s_unst v)) (m' := m) (r := 54) (t := 18) (i := 0) (j := 0) (by decide) (by decide) rfl rfl (fun t' i' j' hok hne => by
  match t' with
  | 0 => rfl
  | 1 => rfl
  | 2 => rfl
  | 3 => rfl
  | 4 => rfl
  | 5 => rfl
  | 6 => rfl
  | 7 => rfl
  | 8 => rfl
  | 9 => rfl
  | 10 => rfl
  | 11 => rfl
  | 12 => rfl
  | 13 => rfl
  | 14 => rfl
  | 15 => rfl
  | 16 => rfl
  | 17 => rfl
  | 18 => exact absurd (by rw [hok.2.1 (by omega), hok.1 (by omega) (by omega)]) hne
  | 19 => rfl
  | 20 => rfl
  | 21 => rfl
  | 22 => rfl
  | 23 => rfl
  | 24 => rfl
  | 25 => rfl
  | 26 => rfl
  | 27 => rfl
  | 28 => rfl
  | 29 => rfl
  | 30 => rfl
  | 31 => rfl
  | 32 => rfl
  | 33 => rfl
  | 34 => rfl
  | 35 => rfl
  | 36 => rfl
  | 37 => rfl
  | 38 => rfl
  | 39 => rfl
  | 40 => rfl
  | 41 => rfl
  | 42 => rfl
  | 43 => rfl
  | 44 => rfl
  | z + 45 => rfl)
theorem wtape {v : Nat → Nat} : updH (hp g c m) (aTap g) (iA 240 v) = hp g (c.s_tape v) m := hz_set (c' := (c.s_tape v)) (m' := m) (r := 55) (t := 19) (i := 0) (j := 0) (by decide) (by decide) rfl rfl (fun t' i' j' hok hne => by
  match t' with
  | 0 => rfl
  | 1 => rfl
  | 2 => rfl
  | 3 => rfl
  | 4 => rfl
  | 5 => rfl
  | 6 => rfl
  | 7 => rfl
  | 8 => rfl
  | 9 => rfl
  | 10 => rfl
  | 11 => rfl
  | 12 => rfl
  | 13 => rfl
  | 14 => rfl
  | 15 => rfl
  | 16 => rfl
  | 17 => rfl
  | 18 => rfl
  | 19 => exact absurd (by rw [hok.2.1 (by omega), hok.1 (by omega) (by omega)]) hne
  | 20 => rfl
  | 21 => rfl
  | 22 => rfl
  | 23 => rfl
  | 24 => rfl
  | 25 => rfl
  | 26 => rfl
  | 27 => rfl
  | 28 => rfl
  | 29 => rfl
  | 30 => rfl
  | 31 => rfl
  | 32 => rfl
  | 33 => rfl
  | 34 => rfl
  | 35 => rfl
  | 36 => rfl
  | 37 => rfl
  | 38 => rfl
  | 39 => rfl
  | 40 => rfl
  | 41 => rfl
  | 42 => rfl
  | 43 => rfl
  | 44 => rfl
  | z + 45 => rfl)
theorem wgott {v : Nat → Nat} : updH (hp g c m) (aGot g) (iA 240 v) = hp g (c.s_gott v) m := hz_set (c' := (c.s_gott v)) (m' := m) (r := 56) (t := 20) (i := 0) (j := 0) (by decide) (by decide) rfl rfl (fun t' i' j' hok hne => by
  match t' with
  | 0 => rfl
  | 1 => rfl
  | 2 => rfl
  | 3 => rfl
  | 4 => rfl
  | 5 => rfl
  | 6 => rfl
  | 7 => rfl
  | 8 => rfl
  | 9 => rfl
  | 10 => rfl
  | 11 => rfl
  | 12 => rfl
  | 13 => rfl
  | 14 => rfl
  | 15 => rfl
  | 16 => rfl
  | 17 => rfl
  | 18 => rfl
  | 19 => rfl
  | 20 => exact absurd (by rw [hok.2.1 (by omega), hok.1 (by omega) (by omega)]) hne
  | 21 => rfl
  | 22 => rfl
  | 23 => rfl
  | 24 => rfl
  | 25 => rfl
  | 26 => rfl
  | 27 => rfl
  | 28 => rfl
  | 29 => rfl
  | 30 => rfl
  | 31 => rfl
  | 32 => rfl
  | 33 => rfl
  | 34 => rfl
  | 35 => rfl
  | 36 => rfl
  | 37 => rfl
  | 38 => rfl
  | 39 => rfl
  | 40 => rfl
  | 41 => rfl
  | 42 => rfl
  | 43 => rfl
  | 44 => rfl
  | z + 45 => rfl)
theorem wchos {v : Nat → Nat} : updH (hp g c m) (aCho g) (iA 8 v) = hp g (c.s_chos v) m := hz_set (c' := (c.s_chos v)) (m' := m) (r := 57) (t := 21) (i := 0) (j := 0) (by decide) (by decide) rfl rfl (fun t' i' j' hok hne => by
  match t' with
  | 0 => rfl
  | 1 => rfl
  | 2 => rfl
  | 3 => rfl
  | 4 => rfl
  | 5 => rfl
  | 6 => rfl
  | 7 => rfl
  | 8 => rfl
  | 9 => rfl
  | 10 => rfl
  | 11 => rfl
  | 12 => rfl
  | 13 => rfl
  | 14 => rfl
  | 15 => rfl
  | 16 => rfl
  | 17 => rfl
  | 18 => rfl
  | 19 => rfl
  | 20 => rfl
  | 21 => exact absurd (by rw [hok.2.1 (by omega), hok.1 (by omega) (by omega)]) hne
  | 22 => rfl
  | 23 => rfl
  | 24 => rfl
  | 25 => rfl
  | 26 => rfl
  | 27 => rfl
  | 28 => rfl
  | 29 => rfl
  | 30 => rfl
  | 31 => rfl
  | 32 => rfl
  | 33 => rfl
  | 34 => rfl
  | 35 => rfl
  | 36 => rfl
  | 37 => rfl
  | 38 => rfl
  | 39 => rfl
  | 40 => rfl
  | 41 => rfl
  | 42 => rfl
  | 43 => rfl
  | 44 => rfl
  | z + 45 => rfl)
theorem wwire {v : Nat → Nat} : updH (hp g c m) (aWir g) (iA 8 v) = hp g (c.s_wire v) m := hz_set (c' := (c.s_wire v)) (m' := m) (r := 58) (t := 22) (i := 0) (j := 0) (by decide) (by decide) rfl rfl (fun t' i' j' hok hne => by
  match t' with
  | 0 => rfl
  | 1 => rfl
  | 2 => rfl
  | 3 => rfl
  | 4 => rfl
  | 5 => rfl
  | 6 => rfl
  | 7 => rfl
  | 8 => rfl
  | 9 => rfl
  | 10 => rfl
  | 11 => rfl
  | 12 => rfl
  | 13 => rfl
  | 14 => rfl
  | 15 => rfl
  | 16 => rfl
  | 17 => rfl
  | 18 => rfl
  | 19 => rfl
  | 20 => rfl
  | 21 => rfl
  | 22 => exact absurd (by rw [hok.2.1 (by omega), hok.1 (by omega) (by omega)]) hne
  | 23 => rfl
  | 24 => rfl
  | 25 => rfl
  | 26 => rfl
  | 27 => rfl
  | 28 => rfl
  | 29 => rfl
  | 30 => rfl
  | 31 => rfl
  | 32 => rfl
  | 33 => rfl
  | 34 => rfl
  | 35 => rfl
  | 36 => rfl
  | 37 => rfl
  | 38 => rfl
  | 39 => rfl
  | 40 => rfl
  | 41 => rfl
  | 42 => rfl
  | 43 => rfl
  | 44 => rfl
  | z + 45 => rfl)
theorem wresu {v : Nat → Nat} : updH (hp g c m) (aRes g) (iA 8 v) = hp g (c.s_resu v) m := hz_set (c' := (c.s_resu v)) (m' := m) (r := 51) (t := 15) (i := 0) (j := 0) (by decide) (by decide) rfl rfl (fun t' i' j' hok hne => by
  match t' with
  | 0 => rfl
  | 1 => rfl
  | 2 => rfl
  | 3 => rfl
  | 4 => rfl
  | 5 => rfl
  | 6 => rfl
  | 7 => rfl
  | 8 => rfl
  | 9 => rfl
  | 10 => rfl
  | 11 => rfl
  | 12 => rfl
  | 13 => rfl
  | 14 => rfl
  | 15 => exact absurd (by rw [hok.2.1 (by omega), hok.1 (by omega) (by omega)]) hne
  | 16 => rfl
  | 17 => rfl
  | 18 => rfl
  | 19 => rfl
  | 20 => rfl
  | 21 => rfl
  | 22 => rfl
  | 23 => rfl
  | 24 => rfl
  | 25 => rfl
  | 26 => rfl
  | 27 => rfl
  | 28 => rfl
  | 29 => rfl
  | 30 => rfl
  | 31 => rfl
  | 32 => rfl
  | 33 => rfl
  | 34 => rfl
  | 35 => rfl
  | 36 => rfl
  | 37 => rfl
  | 38 => rfl
  | 39 => rfl
  | 40 => rfl
  | 41 => rfl
  | 42 => rfl
  | 43 => rfl
  | 44 => rfl
  | z + 45 => rfl)
theorem wmat {i : Nat} (hi : i < 8) {v : Nat → Nat} : updH (hp g c m) (aMatR g i) (iA 8 v) = hp g (c.s_mat (upN c.mat i v)) m := hz_set (c' := (c.s_mat (upN c.mat i v))) (m' := m) (r := 19 + i) (t := 8) (i := i) (j := 0) (by decide) (by omega) (kd_MatR hi) (congrArg (fun z => (iA 8 z : AC)) upN_s) (fun t' i' j' hok hne => by
  match t' with
  | 0 => rfl
  | 1 => rfl
  | 2 => rfl
  | 3 => rfl
  | 4 => rfl
  | 5 => rfl
  | 6 => rfl
  | 7 => rfl
  | 8 => exact congrArg (fun z => (iA 8 z : AC)) (upN_n (fun e => hne (by rw [e, hok.1 (by omega) (by omega)])))
  | 9 => rfl
  | 10 => rfl
  | 11 => rfl
  | 12 => rfl
  | 13 => rfl
  | 14 => rfl
  | 15 => rfl
  | 16 => rfl
  | 17 => rfl
  | 18 => rfl
  | 19 => rfl
  | 20 => rfl
  | 21 => rfl
  | 22 => rfl
  | 23 => rfl
  | 24 => rfl
  | 25 => rfl
  | 26 => rfl
  | 27 => rfl
  | 28 => rfl
  | 29 => rfl
  | 30 => rfl
  | 31 => rfl
  | 32 => rfl
  | 33 => rfl
  | 34 => rfl
  | 35 => rfl
  | 36 => rfl
  | 37 => rfl
  | 38 => rfl
  | 39 => rfl
  | 40 => rfl
  | 41 => rfl
  | 42 => rfl
  | 43 => rfl
  | 44 => rfl
  | z + 45 => rfl)
theorem wgiv {i : Nat} (hi : i < 5) {v : Nat → Nat} : updH (hp g c m) (aGivR g i) (iA 8 v) = hp g (c.s_giv (upN c.giv i v)) m := hz_set (c' := (c.s_giv (upN c.giv i v))) (m' := m) (r := 28 + i) (t := 10) (i := i) (j := 0) (by decide) (by omega) (kd_GivR hi) (congrArg (fun z => (iA 8 z : AC)) upN_s) (fun t' i' j' hok hne => by
  match t' with
  | 0 => rfl
  | 1 => rfl
  | 2 => rfl
  | 3 => rfl
  | 4 => rfl
  | 5 => rfl
  | 6 => rfl
  | 7 => rfl
  | 8 => rfl
  | 9 => rfl
  | 10 => exact congrArg (fun z => (iA 8 z : AC)) (upN_n (fun e => hne (by rw [e, hok.1 (by omega) (by omega)])))
  | 11 => rfl
  | 12 => rfl
  | 13 => rfl
  | 14 => rfl
  | 15 => rfl
  | 16 => rfl
  | 17 => rfl
  | 18 => rfl
  | 19 => rfl
  | 20 => rfl
  | 21 => rfl
  | 22 => rfl
  | 23 => rfl
  | 24 => rfl
  | 25 => rfl
  | 26 => rfl
  | 27 => rfl
  | 28 => rfl
  | 29 => rfl
  | 30 => rfl
  | 31 => rfl
  | 32 => rfl
  | 33 => rfl
  | 34 => rfl
  | 35 => rfl
  | 36 => rfl
  | 37 => rfl
  | 38 => rfl
  | 39 => rfl
  | 40 => rfl
  | 41 => rfl
  | 42 => rfl
  | 43 => rfl
  | 44 => rfl
  | z + 45 => rfl)
theorem wsqu {i : Nat} (hi : i < 8) {v : Nat → Nat} : updH (hp g c m) (aSquR g i) (iA 8 v) = hp g (c.s_squ (upN c.squ i v)) m := hz_set (c' := (c.s_squ (upN c.squ i v))) (m' := m) (r := 34 + i) (t := 12) (i := i) (j := 0) (by decide) (by omega) (kd_SquR hi) (congrArg (fun z => (iA 8 z : AC)) upN_s) (fun t' i' j' hok hne => by
  match t' with
  | 0 => rfl
  | 1 => rfl
  | 2 => rfl
  | 3 => rfl
  | 4 => rfl
  | 5 => rfl
  | 6 => rfl
  | 7 => rfl
  | 8 => rfl
  | 9 => rfl
  | 10 => rfl
  | 11 => rfl
  | 12 => exact congrArg (fun z => (iA 8 z : AC)) (upN_n (fun e => hne (by rw [e, hok.1 (by omega) (by omega)])))
  | 13 => rfl
  | 14 => rfl
  | 15 => rfl
  | 16 => rfl
  | 17 => rfl
  | 18 => rfl
  | 19 => rfl
  | 20 => rfl
  | 21 => rfl
  | 22 => rfl
  | 23 => rfl
  | 24 => rfl
  | 25 => rfl
  | 26 => rfl
  | 27 => rfl
  | 28 => rfl
  | 29 => rfl
  | 30 => rfl
  | 31 => rfl
  | 32 => rfl
  | 33 => rfl
  | 34 => rfl
  | 35 => rfl
  | 36 => rfl
  | 37 => rfl
  | 38 => rfl
  | 39 => rfl
  | 40 => rfl
  | 41 => rfl
  | 42 => rfl
  | 43 => rfl
  | 44 => rfl
  | z + 45 => rfl)
theorem winv {i : Nat} (hi : i < 8) {v : Nat → Nat} : updH (hp g c m) (aInvR g i) (iA 8 v) = hp g (c.s_inv (upN c.inv i v)) m := hz_set (c' := (c.s_inv (upN c.inv i v))) (m' := m) (r := 43 + i) (t := 14) (i := i) (j := 0) (by decide) (by omega) (kd_InvR hi) (congrArg (fun z => (iA 8 z : AC)) upN_s) (fun t' i' j' hok hne => by
  match t' with
  | 0 => rfl
  | 1 => rfl
  | 2 => rfl
  | 3 => rfl
  | 4 => rfl
  | 5 => rfl
  | 6 => rfl
  | 7 => rfl
  | 8 => rfl
  | 9 => rfl
  | 10 => rfl
  | 11 => rfl
  | 12 => rfl
  | 13 => rfl
  | 14 => exact congrArg (fun z => (iA 8 z : AC)) (upN_n (fun e => hne (by rw [e, hok.1 (by omega) (by omega)])))
  | 15 => rfl
  | 16 => rfl
  | 17 => rfl
  | 18 => rfl
  | 19 => rfl
  | 20 => rfl
  | 21 => rfl
  | 22 => rfl
  | 23 => rfl
  | 24 => rfl
  | 25 => rfl
  | 26 => rfl
  | 27 => rfl
  | 28 => rfl
  | 29 => rfl
  | 30 => rfl
  | 31 => rfl
  | 32 => rfl
  | 33 => rfl
  | 34 => rfl
  | 35 => rfl
  | 36 => rfl
  | 37 => rfl
  | 38 => rfl
  | 39 => rfl
  | 40 => rfl
  | 41 => rfl
  | 42 => rfl
  | 43 => rfl
  | 44 => rfl
  | z + 45 => rfl)
theorem wdata {i : Nat} (hi : i < 12) {v : Nat → Nat} : updH (hp g c m) (aD g i) (iA 320 v) = hp g (c.s_data (upN c.data i v)) m := hz_set (c' := (c.s_data (upN c.data i v))) (m' := m) (r := 60 + 29 * i) (t := 24) (i := i) (j := 0) (by decide) (by omega) (kd_D hi) (congrArg (fun z => (iA 320 z : AC)) upN_s) (fun t' i' j' hok hne => by
  match t' with
  | 0 => rfl
  | 1 => rfl
  | 2 => rfl
  | 3 => rfl
  | 4 => rfl
  | 5 => rfl
  | 6 => rfl
  | 7 => rfl
  | 8 => rfl
  | 9 => rfl
  | 10 => rfl
  | 11 => rfl
  | 12 => rfl
  | 13 => rfl
  | 14 => rfl
  | 15 => rfl
  | 16 => rfl
  | 17 => rfl
  | 18 => rfl
  | 19 => rfl
  | 20 => rfl
  | 21 => rfl
  | 22 => rfl
  | 23 => rfl
  | 24 => exact congrArg (fun z => (iA 320 z : AC)) (upN_n (fun e => hne (by rw [e, hok.1 (by omega) (by omega)])))
  | 25 => rfl
  | 26 => rfl
  | 27 => rfl
  | 28 => rfl
  | 29 => rfl
  | 30 => rfl
  | 31 => rfl
  | 32 => rfl
  | 33 => rfl
  | 34 => rfl
  | 35 => rfl
  | 36 => rfl
  | 37 => rfl
  | 38 => rfl
  | 39 => rfl
  | 40 => rfl
  | 41 => rfl
  | 42 => rfl
  | 43 => rfl
  | 44 => rfl
  | z + 45 => rfl)
theorem wtakn {i : Nat} (hi : i < 12) {v : Nat → Bool} : updH (hp g c m) (aT g i) (zA 40 v) = hp g (c.s_takn (upN c.takn i v)) m := hz_set (c' := (c.s_takn (upN c.takn i v))) (m' := m) (r := 61 + 29 * i) (t := 25) (i := i) (j := 0) (by decide) (by omega) (kd_T hi) (congrArg (fun z => (zA 40 z : AC)) upN_s) (fun t' i' j' hok hne => by
  match t' with
  | 0 => rfl
  | 1 => rfl
  | 2 => rfl
  | 3 => rfl
  | 4 => rfl
  | 5 => rfl
  | 6 => rfl
  | 7 => rfl
  | 8 => rfl
  | 9 => rfl
  | 10 => rfl
  | 11 => rfl
  | 12 => rfl
  | 13 => rfl
  | 14 => rfl
  | 15 => rfl
  | 16 => rfl
  | 17 => rfl
  | 18 => rfl
  | 19 => rfl
  | 20 => rfl
  | 21 => rfl
  | 22 => rfl
  | 23 => rfl
  | 24 => rfl
  | 25 => exact congrArg (fun z => (zA 40 z : AC)) (upN_n (fun e => hne (by rw [e, hok.1 (by omega) (by omega)])))
  | 26 => rfl
  | 27 => rfl
  | 28 => rfl
  | 29 => rfl
  | 30 => rfl
  | 31 => rfl
  | 32 => rfl
  | 33 => rfl
  | 34 => rfl
  | 35 => rfl
  | 36 => rfl
  | 37 => rfl
  | 38 => rfl
  | 39 => rfl
  | 40 => rfl
  | 41 => rfl
  | 42 => rfl
  | 43 => rfl
  | 44 => rfl
  | z + 45 => rfl)
theorem wN_live {i : Nat} (hi : i < 12) {v : Bool} : updH (hp g c m) (aN g i) (.inr (3, (fN g c i).set 4 (.int (b2 v)))) = hp g (c.s_live (upN c.live i v)) m := hz_set (c' := (c.s_live (upN c.live i v))) (m' := m) (r := 59 + 29 * i) (t := 23) (i := i) (j := 0) (by decide) (by omega) (kd_N hi) (congrArg (fun z => (.inr (3, [.ref (aD g i), .ref (aT g i), .ref (aR g i), .ref (aSh g i), .int (b2 z), .int (c.sent i)]) : AC)) upN_s) (fun t' i' j' hok hne => by
  match t' with
  | 0 => rfl
  | 1 => rfl
  | 2 => rfl
  | 3 => rfl
  | 4 => rfl
  | 5 => rfl
  | 6 => rfl
  | 7 => rfl
  | 8 => rfl
  | 9 => rfl
  | 10 => rfl
  | 11 => rfl
  | 12 => rfl
  | 13 => rfl
  | 14 => rfl
  | 15 => rfl
  | 16 => rfl
  | 17 => rfl
  | 18 => rfl
  | 19 => rfl
  | 20 => rfl
  | 21 => rfl
  | 22 => rfl
  | 23 => exact congrArg (fun z => (.inr (3, [.ref (aD g i'), .ref (aT g i'), .ref (aR g i'), .ref (aSh g i'), .int (b2 z), .int (c.sent i')]) : AC)) (upN_n (fun e => hne (by rw [e, hok.1 (by omega) (by omega)])))
  | 24 => rfl
  | 25 => rfl
  | 26 => rfl
  | 27 => rfl
  | 28 => rfl
  | 29 => rfl
  | 30 => rfl
  | 31 => rfl
  | 32 => rfl
  | 33 => rfl
  | 34 => rfl
  | 35 => rfl
  | 36 => rfl
  | 37 => rfl
  | 38 => rfl
  | 39 => rfl
  | 40 => rfl
  | 41 => rfl
  | 42 => rfl
  | 43 => rfl
  | 44 => rfl
  | z + 45 => rfl)
theorem wN_sent {i : Nat} (hi : i < 12) {v : Int32} : updH (hp g c m) (aN g i) (.inr (3, (fN g c i).set 5 (.int (v)))) = hp g (c.s_sent (upN c.sent i v)) m := hz_set (c' := (c.s_sent (upN c.sent i v))) (m' := m) (r := 59 + 29 * i) (t := 23) (i := i) (j := 0) (by decide) (by omega) (kd_N hi) (congrArg (fun z => (.inr (3, [.ref (aD g i), .ref (aT g i), .ref (aR g i), .ref (aSh g i), .int (b2 (c.live i)), .int z]) : AC)) upN_s) (fun t' i' j' hok hne => by
  match t' with
  | 0 => rfl
  | 1 => rfl
  | 2 => rfl
  | 3 => rfl
  | 4 => rfl
  | 5 => rfl
  | 6 => rfl
  | 7 => rfl
  | 8 => rfl
  | 9 => rfl
  | 10 => rfl
  | 11 => rfl
  | 12 => rfl
  | 13 => rfl
  | 14 => rfl
  | 15 => rfl
  | 16 => rfl
  | 17 => rfl
  | 18 => rfl
  | 19 => rfl
  | 20 => rfl
  | 21 => rfl
  | 22 => rfl
  | 23 => exact congrArg (fun z => (.inr (3, [.ref (aD g i'), .ref (aT g i'), .ref (aR g i'), .ref (aSh g i'), .int (b2 (c.live i')), .int z]) : AC)) (upN_n (fun e => hne (by rw [e, hok.1 (by omega) (by omega)])))
  | 24 => rfl
  | 25 => rfl
  | 26 => rfl
  | 27 => rfl
  | 28 => rfl
  | 29 => rfl
  | 30 => rfl
  | 31 => rfl
  | 32 => rfl
  | 33 => rfl
  | 34 => rfl
  | 35 => rfl
  | 36 => rfl
  | 37 => rfl
  | 38 => rfl
  | 39 => rfl
  | 40 => rfl
  | 41 => rfl
  | 42 => rfl
  | 43 => rfl
  | 44 => rfl
  | z + 45 => rfl)
theorem wH_hver {i p : Nat} (hi : i < 12) (hj : p < 12) {v : Nat} : updH (hp g c m) (aH g i p) (.inr (2, (fH g c i p).set 1 (.int (nI v)))) = hp g (c.s_hver (up2 c.hver i p v)) m := hz_set (c' := (c.s_hver (up2 c.hver i p v))) (m' := m) (r := 64 + 29 * i + 2 * p) (t := 28) (i := i) (j := p) (by decide) (by omega) (kd_H hi hj) (congrArg (fun z => (.inr (2, [.ref (aPl g i p), .int (nI z), .int (nI (c.hbyt i p)), .int (nI (c.hstr i p))]) : AC)) up2_s) (fun t' i' j' hok hne => by
  match t' with
  | 0 => rfl
  | 1 => rfl
  | 2 => rfl
  | 3 => rfl
  | 4 => rfl
  | 5 => rfl
  | 6 => rfl
  | 7 => rfl
  | 8 => rfl
  | 9 => rfl
  | 10 => rfl
  | 11 => rfl
  | 12 => rfl
  | 13 => rfl
  | 14 => rfl
  | 15 => rfl
  | 16 => rfl
  | 17 => rfl
  | 18 => rfl
  | 19 => rfl
  | 20 => rfl
  | 21 => rfl
  | 22 => rfl
  | 23 => rfl
  | 24 => rfl
  | 25 => rfl
  | 26 => rfl
  | 27 => rfl
  | 28 => exact congrArg (fun z => (.inr (2, [.ref (aPl g i' j'), .int (nI z), .int (nI (c.hbyt i' j')), .int (nI (c.hstr i' j'))]) : AC)) (up2_n (fun e => hne (by rw [e.1, e.2])))
  | 29 => rfl
  | 30 => rfl
  | 31 => rfl
  | 32 => rfl
  | 33 => rfl
  | 34 => rfl
  | 35 => rfl
  | 36 => rfl
  | 37 => rfl
  | 38 => rfl
  | 39 => rfl
  | 40 => rfl
  | 41 => rfl
  | 42 => rfl
  | 43 => rfl
  | 44 => rfl
  | z + 45 => rfl)
theorem wH_hbyt {i p : Nat} (hi : i < 12) (hj : p < 12) {v : Nat} : updH (hp g c m) (aH g i p) (.inr (2, (fH g c i p).set 2 (.int (nI v)))) = hp g (c.s_hbyt (up2 c.hbyt i p v)) m := hz_set (c' := (c.s_hbyt (up2 c.hbyt i p v))) (m' := m) (r := 64 + 29 * i + 2 * p) (t := 28) (i := i) (j := p) (by decide) (by omega) (kd_H hi hj) (congrArg (fun z => (.inr (2, [.ref (aPl g i p), .int (nI (c.hver i p)), .int (nI z), .int (nI (c.hstr i p))]) : AC)) up2_s) (fun t' i' j' hok hne => by
  match t' with
  | 0 => rfl
  | 1 => rfl
  | 2 => rfl
  | 3 => rfl
  | 4 => rfl
  | 5 => rfl
  | 6 => rfl
  | 7 => rfl
  | 8 => rfl
  | 9 => rfl
  | 10 => rfl
  | 11 => rfl
  | 12 => rfl
  | 13 => rfl
  | 14 => rfl
  | 15 => rfl
  | 16 => rfl
  | 17 => rfl
  | 18 => rfl
  | 19 => rfl
  | 20 => rfl
  | 21 => rfl
  | 22 => rfl
  | 23 => rfl
  | 24 => rfl
  | 25 => rfl
  | 26 => rfl
  | 27 => rfl
  | 28 => exact congrArg (fun z => (.inr (2, [.ref (aPl g i' j'), .int (nI (c.hver i' j')), .int (nI z), .int (nI (c.hstr i' j'))]) : AC)) (up2_n (fun e => hne (by rw [e.1, e.2])))
  | 29 => rfl
  | 30 => rfl
  | 31 => rfl
  | 32 => rfl
  | 33 => rfl
  | 34 => rfl
  | 35 => rfl
  | 36 => rfl
  | 37 => rfl
  | 38 => rfl
  | 39 => rfl
  | 40 => rfl
  | 41 => rfl
  | 42 => rfl
  | 43 => rfl
  | 44 => rfl
  | z + 45 => rfl)
theorem wH_hstr {i p : Nat} (hi : i < 12) (hj : p < 12) {v : Nat} : updH (hp g c m) (aH g i p) (.inr (2, (fH g c i p).set 3 (.int (nI v)))) = hp g (c.s_hstr (up2 c.hstr i p v)) m := hz_set (c' := (c.s_hstr (up2 c.hstr i p v))) (m' := m) (r := 64 + 29 * i + 2 * p) (t := 28) (i := i) (j := p) (by decide) (by omega) (kd_H hi hj) (congrArg (fun z => (.inr (2, [.ref (aPl g i p), .int (nI (c.hver i p)), .int (nI (c.hbyt i p)), .int (nI z)]) : AC)) up2_s) (fun t' i' j' hok hne => by
  match t' with
  | 0 => rfl
  | 1 => rfl
  | 2 => rfl
  | 3 => rfl
  | 4 => rfl
  | 5 => rfl
  | 6 => rfl
  | 7 => rfl
  | 8 => rfl
  | 9 => rfl
  | 10 => rfl
  | 11 => rfl
  | 12 => rfl
  | 13 => rfl
  | 14 => rfl
  | 15 => rfl
  | 16 => rfl
  | 17 => rfl
  | 18 => rfl
  | 19 => rfl
  | 20 => rfl
  | 21 => rfl
  | 22 => rfl
  | 23 => rfl
  | 24 => rfl
  | 25 => rfl
  | 26 => rfl
  | 27 => rfl
  | 28 => exact congrArg (fun z => (.inr (2, [.ref (aPl g i' j'), .int (nI (c.hver i' j')), .int (nI (c.hbyt i' j')), .int (nI z)]) : AC)) (up2_n (fun e => hne (by rw [e.1, e.2])))
  | 29 => rfl
  | 30 => rfl
  | 31 => rfl
  | 32 => rfl
  | 33 => rfl
  | 34 => rfl
  | 35 => rfl
  | 36 => rfl
  | 37 => rfl
  | 38 => rfl
  | 39 => rfl
  | 40 => rfl
  | 41 => rfl
  | 42 => rfl
  | 43 => rfl
  | 44 => rfl
  | z + 45 => rfl)
theorem whpl {i p : Nat} (hi : i < 12) (hj : p < 12) {v : Nat → Nat} : updH (hp g c m) (aPl g i p) (iA 8 v) = hp g (c.s_hpl (up2 c.hpl i p v)) m := hz_set (c' := (c.s_hpl (up2 c.hpl i p v))) (m' := m) (r := 65 + 29 * i + 2 * p) (t := 29) (i := i) (j := p) (by decide) (by omega) (kd_Pl hi hj) (congrArg (fun z => (iA 8 z : AC)) up2_s) (fun t' i' j' hok hne => by
  match t' with
  | 0 => rfl
  | 1 => rfl
  | 2 => rfl
  | 3 => rfl
  | 4 => rfl
  | 5 => rfl
  | 6 => rfl
  | 7 => rfl
  | 8 => rfl
  | 9 => rfl
  | 10 => rfl
  | 11 => rfl
  | 12 => rfl
  | 13 => rfl
  | 14 => rfl
  | 15 => rfl
  | 16 => rfl
  | 17 => rfl
  | 18 => rfl
  | 19 => rfl
  | 20 => rfl
  | 21 => rfl
  | 22 => rfl
  | 23 => rfl
  | 24 => rfl
  | 25 => rfl
  | 26 => rfl
  | 27 => rfl
  | 28 => rfl
  | 29 => exact congrArg (fun z => (iA 8 z : AC)) (up2_n (fun e => hne (by rw [e.1, e.2])))
  | 30 => rfl
  | 31 => rfl
  | 32 => rfl
  | 33 => rfl
  | 34 => rfl
  | 35 => rfl
  | 36 => rfl
  | 37 => rfl
  | 38 => rfl
  | 39 => rfl
  | 40 => rfl
  | 41 => rfl
  | 42 => rfl
  | 43 => rfl
  | 44 => rfl
  | z + 45 => rfl)
theorem wM_taped {v : Nat} : updH (hp g c m) (aM g) (.inr (5, (fM g m).set 1 (.int (nI v)))) = hp g c (m.s_taped v) := hz_set (c' := c) (m' := (m.s_taped v)) (r := 407) (t := 30) (i := 0) (j := 0) (by decide) (by decide) rfl rfl (fun t' i' j' hok hne => by
  match t' with
  | 0 => rfl
  | 1 => rfl
  | 2 => rfl
  | 3 => rfl
  | 4 => rfl
  | 5 => rfl
  | 6 => rfl
  | 7 => rfl
  | 8 => rfl
  | 9 => rfl
  | 10 => rfl
  | 11 => rfl
  | 12 => rfl
  | 13 => rfl
  | 14 => rfl
  | 15 => rfl
  | 16 => rfl
  | 17 => rfl
  | 18 => rfl
  | 19 => rfl
  | 20 => rfl
  | 21 => rfl
  | 22 => rfl
  | 23 => rfl
  | 24 => rfl
  | 25 => rfl
  | 26 => rfl
  | 27 => rfl
  | 28 => rfl
  | 29 => rfl
  | 30 => exact absurd (by rw [hok.2.1 (by omega), hok.1 (by omega) (by omega)]) hne
  | 31 => rfl
  | 32 => rfl
  | 33 => rfl
  | 34 => rfl
  | 35 => rfl
  | 36 => rfl
  | 37 => rfl
  | 38 => rfl
  | 39 => rfl
  | 40 => rfl
  | 41 => rfl
  | 42 => rfl
  | 43 => rfl
  | 44 => rfl
  | z + 45 => rfl)
theorem wM_cutA {v : Int32} : updH (hp g c m) (aM g) (.inr (5, (fM g m).set 2 (.int (v)))) = hp g c (m.s_cutA v) := hz_set (c' := c) (m' := (m.s_cutA v)) (r := 407) (t := 30) (i := 0) (j := 0) (by decide) (by decide) rfl rfl (fun t' i' j' hok hne => by
  match t' with
  | 0 => rfl
  | 1 => rfl
  | 2 => rfl
  | 3 => rfl
  | 4 => rfl
  | 5 => rfl
  | 6 => rfl
  | 7 => rfl
  | 8 => rfl
  | 9 => rfl
  | 10 => rfl
  | 11 => rfl
  | 12 => rfl
  | 13 => rfl
  | 14 => rfl
  | 15 => rfl
  | 16 => rfl
  | 17 => rfl
  | 18 => rfl
  | 19 => rfl
  | 20 => rfl
  | 21 => rfl
  | 22 => rfl
  | 23 => rfl
  | 24 => rfl
  | 25 => rfl
  | 26 => rfl
  | 27 => rfl
  | 28 => rfl
  | 29 => rfl
  | 30 => exact absurd (by rw [hok.2.1 (by omega), hok.1 (by omega) (by omega)]) hne
  | 31 => rfl
  | 32 => rfl
  | 33 => rfl
  | 34 => rfl
  | 35 => rfl
  | 36 => rfl
  | 37 => rfl
  | 38 => rfl
  | 39 => rfl
  | 40 => rfl
  | 41 => rfl
  | 42 => rfl
  | 43 => rfl
  | 44 => rfl
  | z + 45 => rfl)
theorem wM_gotN {v : Nat} : updH (hp g c m) (aM g) (.inr (5, (fM g m).set 14 (.int (nI v)))) = hp g c (m.s_gotN v) := hz_set (c' := c) (m' := (m.s_gotN v)) (r := 407) (t := 30) (i := 0) (j := 0) (by decide) (by decide) rfl rfl (fun t' i' j' hok hne => by
  match t' with
  | 0 => rfl
  | 1 => rfl
  | 2 => rfl
  | 3 => rfl
  | 4 => rfl
  | 5 => rfl
  | 6 => rfl
  | 7 => rfl
  | 8 => rfl
  | 9 => rfl
  | 10 => rfl
  | 11 => rfl
  | 12 => rfl
  | 13 => rfl
  | 14 => rfl
  | 15 => rfl
  | 16 => rfl
  | 17 => rfl
  | 18 => rfl
  | 19 => rfl
  | 20 => rfl
  | 21 => rfl
  | 22 => rfl
  | 23 => rfl
  | 24 => rfl
  | 25 => rfl
  | 26 => rfl
  | 27 => rfl
  | 28 => rfl
  | 29 => rfl
  | 30 => exact absurd (by rw [hok.2.1 (by omega), hok.1 (by omega) (by omega)]) hne
  | 31 => rfl
  | 32 => rfl
  | 33 => rfl
  | 34 => rfl
  | 35 => rfl
  | 36 => rfl
  | 37 => rfl
  | 38 => rfl
  | 39 => rfl
  | 40 => rfl
  | 41 => rfl
  | 42 => rfl
  | 43 => rfl
  | 44 => rfl
  | z + 45 => rfl)
theorem wM_msgs {v : Int32} : updH (hp g c m) (aM g) (.inr (5, (fM g m).set 15 (.int (v)))) = hp g c (m.s_msgs v) := hz_set (c' := c) (m' := (m.s_msgs v)) (r := 407) (t := 30) (i := 0) (j := 0) (by decide) (by decide) rfl rfl (fun t' i' j' hok hne => by
  match t' with
  | 0 => rfl
  | 1 => rfl
  | 2 => rfl
  | 3 => rfl
  | 4 => rfl
  | 5 => rfl
  | 6 => rfl
  | 7 => rfl
  | 8 => rfl
  | 9 => rfl
  | 10 => rfl
  | 11 => rfl
  | 12 => rfl
  | 13 => rfl
  | 14 => rfl
  | 15 => rfl
  | 16 => rfl
  | 17 => rfl
  | 18 => rfl
  | 19 => rfl
  | 20 => rfl
  | 21 => rfl
  | 22 => rfl
  | 23 => rfl
  | 24 => rfl
  | 25 => rfl
  | 26 => rfl
  | 27 => rfl
  | 28 => rfl
  | 29 => rfl
  | 30 => exact absurd (by rw [hok.2.1 (by omega), hok.1 (by omega) (by omega)]) hne
  | 31 => rfl
  | 32 => rfl
  | 33 => rfl
  | 34 => rfl
  | 35 => rfl
  | 36 => rfl
  | 37 => rfl
  | 38 => rfl
  | 39 => rfl
  | 40 => rfl
  | 41 => rfl
  | 42 => rfl
  | 43 => rfl
  | 44 => rfl
  | z + 45 => rfl)
theorem wM_syms {v : Int32} : updH (hp g c m) (aM g) (.inr (5, (fM g m).set 16 (.int (v)))) = hp g c (m.s_syms v) := hz_set (c' := c) (m' := (m.s_syms v)) (r := 407) (t := 30) (i := 0) (j := 0) (by decide) (by decide) rfl rfl (fun t' i' j' hok hne => by
  match t' with
  | 0 => rfl
  | 1 => rfl
  | 2 => rfl
  | 3 => rfl
  | 4 => rfl
  | 5 => rfl
  | 6 => rfl
  | 7 => rfl
  | 8 => rfl
  | 9 => rfl
  | 10 => rfl
  | 11 => rfl
  | 12 => rfl
  | 13 => rfl
  | 14 => rfl
  | 15 => rfl
  | 16 => rfl
  | 17 => rfl
  | 18 => rfl
  | 19 => rfl
  | 20 => rfl
  | 21 => rfl
  | 22 => rfl
  | 23 => rfl
  | 24 => rfl
  | 25 => rfl
  | 26 => rfl
  | 27 => rfl
  | 28 => rfl
  | 29 => rfl
  | 30 => exact absurd (by rw [hok.2.1 (by omega), hok.1 (by omega) (by omega)]) hne
  | 31 => rfl
  | 32 => rfl
  | 33 => rfl
  | 34 => rfl
  | 35 => rfl
  | 36 => rfl
  | 37 => rfl
  | 38 => rfl
  | 39 => rfl
  | 40 => rfl
  | 41 => rfl
  | 42 => rfl
  | 43 => rfl
  | 44 => rfl
  | z + 45 => rfl)
theorem wm_tape {v : Nat → Nat} : updH (hp g c m) (amTape g) (iA 240 v) = hp g c (m.s_tape v) := hz_set (c' := c) (m' := (m.s_tape v)) (r := 408) (t := 31) (i := 0) (j := 0) (by decide) (by decide) rfl rfl (fun t' i' j' hok hne => by
  match t' with
  | 0 => rfl
  | 1 => rfl
  | 2 => rfl
  | 3 => rfl
  | 4 => rfl
  | 5 => rfl
  | 6 => rfl
  | 7 => rfl
  | 8 => rfl
  | 9 => rfl
  | 10 => rfl
  | 11 => rfl
  | 12 => rfl
  | 13 => rfl
  | 14 => rfl
  | 15 => rfl
  | 16 => rfl
  | 17 => rfl
  | 18 => rfl
  | 19 => rfl
  | 20 => rfl
  | 21 => rfl
  | 22 => rfl
  | 23 => rfl
  | 24 => rfl
  | 25 => rfl
  | 26 => rfl
  | 27 => rfl
  | 28 => rfl
  | 29 => rfl
  | 30 => rfl
  | 31 => exact absurd (by rw [hok.2.1 (by omega), hok.1 (by omega) (by omega)]) hne
  | 32 => rfl
  | 33 => rfl
  | 34 => rfl
  | 35 => rfl
  | 36 => rfl
  | 37 => rfl
  | 38 => rfl
  | 39 => rfl
  | 40 => rfl
  | 41 => rfl
  | 42 => rfl
  | 43 => rfl
  | 44 => rfl
  | z + 45 => rfl)
theorem wm_fail {v : Nat → Bool} : updH (hp g c m) (amFail g) (zA 12 v) = hp g c (m.s_fail v) := hz_set (c' := c) (m' := (m.s_fail v)) (r := 409) (t := 32) (i := 0) (j := 0) (by decide) (by decide) rfl rfl (fun t' i' j' hok hne => by
  match t' with
  | 0 => rfl
  | 1 => rfl
  | 2 => rfl
  | 3 => rfl
  | 4 => rfl
  | 5 => rfl
  | 6 => rfl
  | 7 => rfl
  | 8 => rfl
  | 9 => rfl
  | 10 => rfl
  | 11 => rfl
  | 12 => rfl
  | 13 => rfl
  | 14 => rfl
  | 15 => rfl
  | 16 => rfl
  | 17 => rfl
  | 18 => rfl
  | 19 => rfl
  | 20 => rfl
  | 21 => rfl
  | 22 => rfl
  | 23 => rfl
  | 24 => rfl
  | 25 => rfl
  | 26 => rfl
  | 27 => rfl
  | 28 => rfl
  | 29 => rfl
  | 30 => rfl
  | 31 => rfl
  | 32 => exact absurd (by rw [hok.2.1 (by omega), hok.1 (by omega) (by omega)]) hne
  | 33 => rfl
  | 34 => rfl
  | 35 => rfl
  | 36 => rfl
  | 37 => rfl
  | 38 => rfl
  | 39 => rfl
  | 40 => rfl
  | 41 => rfl
  | 42 => rfl
  | 43 => rfl
  | 44 => rfl
  | z + 45 => rfl)
theorem wm_sent {v : Nat → Int32} : updH (hp g c m) (amSent g) (jA 12 v) = hp g c (m.s_sent v) := hz_set (c' := c) (m' := (m.s_sent v)) (r := 410) (t := 33) (i := 0) (j := 0) (by decide) (by decide) rfl rfl (fun t' i' j' hok hne => by
  match t' with
  | 0 => rfl
  | 1 => rfl
  | 2 => rfl
  | 3 => rfl
  | 4 => rfl
  | 5 => rfl
  | 6 => rfl
  | 7 => rfl
  | 8 => rfl
  | 9 => rfl
  | 10 => rfl
  | 11 => rfl
  | 12 => rfl
  | 13 => rfl
  | 14 => rfl
  | 15 => rfl
  | 16 => rfl
  | 17 => rfl
  | 18 => rfl
  | 19 => rfl
  | 20 => rfl
  | 21 => rfl
  | 22 => rfl
  | 23 => rfl
  | 24 => rfl
  | 25 => rfl
  | 26 => rfl
  | 27 => rfl
  | 28 => rfl
  | 29 => rfl
  | 30 => rfl
  | 31 => rfl
  | 32 => rfl
  | 33 => exact absurd (by rw [hok.2.1 (by omega), hok.1 (by omega) (by omega)]) hne
  | 34 => rfl
  | 35 => rfl
  | 36 => rfl
  | 37 => rfl
  | 38 => rfl
  | 39 => rfl
  | 40 => rfl
  | 41 => rfl
  | 42 => rfl
  | 43 => rfl
  | 44 => rfl
  | z + 45 => rfl)
theorem wm_used {v : Nat → Bool} : updH (hp g c m) (amUsed g) (zA 480 v) = hp g c (m.s_used v) := hz_set (c' := c) (m' := (m.s_used v)) (r := 411) (t := 34) (i := 0) (j := 0) (by decide) (by decide) rfl rfl (fun t' i' j' hok hne => by
  match t' with
  | 0 => rfl
  | 1 => rfl
  | 2 => rfl
  | 3 => rfl
  | 4 => rfl
  | 5 => rfl
  | 6 => rfl
  | 7 => rfl
  | 8 => rfl
  | 9 => rfl
  | 10 => rfl
  | 11 => rfl
  | 12 => rfl
  | 13 => rfl
  | 14 => rfl
  | 15 => rfl
  | 16 => rfl
  | 17 => rfl
  | 18 => rfl
  | 19 => rfl
  | 20 => rfl
  | 21 => rfl
  | 22 => rfl
  | 23 => rfl
  | 24 => rfl
  | 25 => rfl
  | 26 => rfl
  | 27 => rfl
  | 28 => rfl
  | 29 => rfl
  | 30 => rfl
  | 31 => rfl
  | 32 => rfl
  | 33 => rfl
  | 34 => exact absurd (by rw [hok.2.1 (by omega), hok.1 (by omega) (by omega)]) hne
  | 35 => rfl
  | 36 => rfl
  | 37 => rfl
  | 38 => rfl
  | 39 => rfl
  | 40 => rfl
  | 41 => rfl
  | 42 => rfl
  | 43 => rfl
  | 44 => rfl
  | z + 45 => rfl)
theorem wm_byts {v : Nat → Nat} : updH (hp g c m) (amByts g) (iA 3840 v) = hp g c (m.s_byts v) := hz_set (c' := c) (m' := (m.s_byts v)) (r := 412) (t := 35) (i := 0) (j := 0) (by decide) (by decide) rfl rfl (fun t' i' j' hok hne => by
  match t' with
  | 0 => rfl
  | 1 => rfl
  | 2 => rfl
  | 3 => rfl
  | 4 => rfl
  | 5 => rfl
  | 6 => rfl
  | 7 => rfl
  | 8 => rfl
  | 9 => rfl
  | 10 => rfl
  | 11 => rfl
  | 12 => rfl
  | 13 => rfl
  | 14 => rfl
  | 15 => rfl
  | 16 => rfl
  | 17 => rfl
  | 18 => rfl
  | 19 => rfl
  | 20 => rfl
  | 21 => rfl
  | 22 => rfl
  | 23 => rfl
  | 24 => rfl
  | 25 => rfl
  | 26 => rfl
  | 27 => rfl
  | 28 => rfl
  | 29 => rfl
  | 30 => rfl
  | 31 => rfl
  | 32 => rfl
  | 33 => rfl
  | 34 => rfl
  | 35 => exact absurd (by rw [hok.2.1 (by omega), hok.1 (by omega) (by omega)]) hne
  | 36 => rfl
  | 37 => rfl
  | 38 => rfl
  | 39 => rfl
  | 40 => rfl
  | 41 => rfl
  | 42 => rfl
  | 43 => rfl
  | 44 => rfl
  | z + 45 => rfl)
theorem wm_has {v : Nat → Bool} : updH (hp g c m) (amHas g) (zA 144 v) = hp g c (m.s_has v) := hz_set (c' := c) (m' := (m.s_has v)) (r := 413) (t := 36) (i := 0) (j := 0) (by decide) (by decide) rfl rfl (fun t' i' j' hok hne => by
  match t' with
  | 0 => rfl
  | 1 => rfl
  | 2 => rfl
  | 3 => rfl
  | 4 => rfl
  | 5 => rfl
  | 6 => rfl
  | 7 => rfl
  | 8 => rfl
  | 9 => rfl
  | 10 => rfl
  | 11 => rfl
  | 12 => rfl
  | 13 => rfl
  | 14 => rfl
  | 15 => rfl
  | 16 => rfl
  | 17 => rfl
  | 18 => rfl
  | 19 => rfl
  | 20 => rfl
  | 21 => rfl
  | 22 => rfl
  | 23 => rfl
  | 24 => rfl
  | 25 => rfl
  | 26 => rfl
  | 27 => rfl
  | 28 => rfl
  | 29 => rfl
  | 30 => rfl
  | 31 => rfl
  | 32 => rfl
  | 33 => rfl
  | 34 => rfl
  | 35 => rfl
  | 36 => exact absurd (by rw [hok.2.1 (by omega), hok.1 (by omega) (by omega)]) hne
  | 37 => rfl
  | 38 => rfl
  | 39 => rfl
  | 40 => rfl
  | 41 => rfl
  | 42 => rfl
  | 43 => rfl
  | 44 => rfl
  | z + 45 => rfl)
theorem wm_ver {v : Nat → Nat} : updH (hp g c m) (amVer g) (iA 144 v) = hp g c (m.s_ver v) := hz_set (c' := c) (m' := (m.s_ver v)) (r := 414) (t := 37) (i := 0) (j := 0) (by decide) (by decide) rfl rfl (fun t' i' j' hok hne => by
  match t' with
  | 0 => rfl
  | 1 => rfl
  | 2 => rfl
  | 3 => rfl
  | 4 => rfl
  | 5 => rfl
  | 6 => rfl
  | 7 => rfl
  | 8 => rfl
  | 9 => rfl
  | 10 => rfl
  | 11 => rfl
  | 12 => rfl
  | 13 => rfl
  | 14 => rfl
  | 15 => rfl
  | 16 => rfl
  | 17 => rfl
  | 18 => rfl
  | 19 => rfl
  | 20 => rfl
  | 21 => rfl
  | 22 => rfl
  | 23 => rfl
  | 24 => rfl
  | 25 => rfl
  | 26 => rfl
  | 27 => rfl
  | 28 => rfl
  | 29 => rfl
  | 30 => rfl
  | 31 => rfl
  | 32 => rfl
  | 33 => rfl
  | 34 => rfl
  | 35 => rfl
  | 36 => rfl
  | 37 => exact absurd (by rw [hok.2.1 (by omega), hok.1 (by omega) (by omega)]) hne
  | 38 => rfl
  | 39 => rfl
  | 40 => rfl
  | 41 => rfl
  | 42 => rfl
  | 43 => rfl
  | 44 => rfl
  | z + 45 => rfl)
theorem wm_size {v : Nat → Nat} : updH (hp g c m) (amSize g) (iA 144 v) = hp g c (m.s_size v) := hz_set (c' := c) (m' := (m.s_size v)) (r := 415) (t := 38) (i := 0) (j := 0) (by decide) (by decide) rfl rfl (fun t' i' j' hok hne => by
  match t' with
  | 0 => rfl
  | 1 => rfl
  | 2 => rfl
  | 3 => rfl
  | 4 => rfl
  | 5 => rfl
  | 6 => rfl
  | 7 => rfl
  | 8 => rfl
  | 9 => rfl
  | 10 => rfl
  | 11 => rfl
  | 12 => rfl
  | 13 => rfl
  | 14 => rfl
  | 15 => rfl
  | 16 => rfl
  | 17 => rfl
  | 18 => rfl
  | 19 => rfl
  | 20 => rfl
  | 21 => rfl
  | 22 => rfl
  | 23 => rfl
  | 24 => rfl
  | 25 => rfl
  | 26 => rfl
  | 27 => rfl
  | 28 => rfl
  | 29 => rfl
  | 30 => rfl
  | 31 => rfl
  | 32 => rfl
  | 33 => rfl
  | 34 => rfl
  | 35 => rfl
  | 36 => rfl
  | 37 => rfl
  | 38 => exact absurd (by rw [hok.2.1 (by omega), hok.1 (by omega) (by omega)]) hne
  | 39 => rfl
  | 40 => rfl
  | 41 => rfl
  | 42 => rfl
  | 43 => rfl
  | 44 => rfl
  | z + 45 => rfl)
theorem wm_blk {v : Nat → Nat} : updH (hp g c m) (amBlk g) (iA 1152 v) = hp g c (m.s_blk v) := hz_set (c' := c) (m' := (m.s_blk v)) (r := 416) (t := 39) (i := 0) (j := 0) (by decide) (by decide) rfl rfl (fun t' i' j' hok hne => by
  match t' with
  | 0 => rfl
  | 1 => rfl
  | 2 => rfl
  | 3 => rfl
  | 4 => rfl
  | 5 => rfl
  | 6 => rfl
  | 7 => rfl
  | 8 => rfl
  | 9 => rfl
  | 10 => rfl
  | 11 => rfl
  | 12 => rfl
  | 13 => rfl
  | 14 => rfl
  | 15 => rfl
  | 16 => rfl
  | 17 => rfl
  | 18 => rfl
  | 19 => rfl
  | 20 => rfl
  | 21 => rfl
  | 22 => rfl
  | 23 => rfl
  | 24 => rfl
  | 25 => rfl
  | 26 => rfl
  | 27 => rfl
  | 28 => rfl
  | 29 => rfl
  | 30 => rfl
  | 31 => rfl
  | 32 => rfl
  | 33 => rfl
  | 34 => rfl
  | 35 => rfl
  | 36 => rfl
  | 37 => rfl
  | 38 => rfl
  | 39 => exact absurd (by rw [hok.2.1 (by omega), hok.1 (by omega) (by omega)]) hne
  | 40 => rfl
  | 41 => rfl
  | 42 => rfl
  | 43 => rfl
  | 44 => rfl
  | z + 45 => rfl)
theorem wm_latest {v : Nat → Nat} : updH (hp g c m) (amLat g) (iA 6 v) = hp g c (m.s_latest v) := hz_set (c' := c) (m' := (m.s_latest v)) (r := 417) (t := 40) (i := 0) (j := 0) (by decide) (by decide) rfl rfl (fun t' i' j' hok hne => by
  match t' with
  | 0 => rfl
  | 1 => rfl
  | 2 => rfl
  | 3 => rfl
  | 4 => rfl
  | 5 => rfl
  | 6 => rfl
  | 7 => rfl
  | 8 => rfl
  | 9 => rfl
  | 10 => rfl
  | 11 => rfl
  | 12 => rfl
  | 13 => rfl
  | 14 => rfl
  | 15 => rfl
  | 16 => rfl
  | 17 => rfl
  | 18 => rfl
  | 19 => rfl
  | 20 => rfl
  | 21 => rfl
  | 22 => rfl
  | 23 => rfl
  | 24 => rfl
  | 25 => rfl
  | 26 => rfl
  | 27 => rfl
  | 28 => rfl
  | 29 => rfl
  | 30 => rfl
  | 31 => rfl
  | 32 => rfl
  | 33 => rfl
  | 34 => rfl
  | 35 => rfl
  | 36 => rfl
  | 37 => rfl
  | 38 => rfl
  | 39 => rfl
  | 40 => exact absurd (by rw [hok.2.1 (by omega), hok.1 (by omega) (by omega)]) hne
  | 41 => rfl
  | 42 => rfl
  | 43 => rfl
  | 44 => rfl
  | z + 45 => rfl)
theorem wm_opn {v : Nat → Bool} : updH (hp g c m) (amOpn g) (zA 6 v) = hp g c (m.s_opn v) := hz_set (c' := c) (m' := (m.s_opn v)) (r := 418) (t := 41) (i := 0) (j := 0) (by decide) (by decide) rfl rfl (fun t' i' j' hok hne => by
  match t' with
  | 0 => rfl
  | 1 => rfl
  | 2 => rfl
  | 3 => rfl
  | 4 => rfl
  | 5 => rfl
  | 6 => rfl
  | 7 => rfl
  | 8 => rfl
  | 9 => rfl
  | 10 => rfl
  | 11 => rfl
  | 12 => rfl
  | 13 => rfl
  | 14 => rfl
  | 15 => rfl
  | 16 => rfl
  | 17 => rfl
  | 18 => rfl
  | 19 => rfl
  | 20 => rfl
  | 21 => rfl
  | 22 => rfl
  | 23 => rfl
  | 24 => rfl
  | 25 => rfl
  | 26 => rfl
  | 27 => rfl
  | 28 => rfl
  | 29 => rfl
  | 30 => rfl
  | 31 => rfl
  | 32 => rfl
  | 33 => rfl
  | 34 => rfl
  | 35 => rfl
  | 36 => rfl
  | 37 => rfl
  | 38 => rfl
  | 39 => rfl
  | 40 => rfl
  | 41 => exact absurd (by rw [hok.2.1 (by omega), hok.1 (by omega) (by omega)]) hne
  | 42 => rfl
  | 43 => rfl
  | 44 => rfl
  | z + 45 => rfl)
theorem wm_got {v : Nat → Nat} : updH (hp g c m) (amGot g) (iA 240 v) = hp g c (m.s_got v) := hz_set (c' := c) (m' := (m.s_got v)) (r := 419) (t := 42) (i := 0) (j := 0) (by decide) (by decide) rfl rfl (fun t' i' j' hok hne => by
  match t' with
  | 0 => rfl
  | 1 => rfl
  | 2 => rfl
  | 3 => rfl
  | 4 => rfl
  | 5 => rfl
  | 6 => rfl
  | 7 => rfl
  | 8 => rfl
  | 9 => rfl
  | 10 => rfl
  | 11 => rfl
  | 12 => rfl
  | 13 => rfl
  | 14 => rfl
  | 15 => rfl
  | 16 => rfl
  | 17 => rfl
  | 18 => rfl
  | 19 => rfl
  | 20 => rfl
  | 21 => rfl
  | 22 => rfl
  | 23 => rfl
  | 24 => rfl
  | 25 => rfl
  | 26 => rfl
  | 27 => rfl
  | 28 => rfl
  | 29 => rfl
  | 30 => rfl
  | 31 => rfl
  | 32 => rfl
  | 33 => rfl
  | 34 => rfl
  | 35 => rfl
  | 36 => rfl
  | 37 => rfl
  | 38 => rfl
  | 39 => rfl
  | 40 => rfl
  | 41 => rfl
  | 42 => exact absurd (by rw [hok.2.1 (by omega), hok.1 (by omega) (by omega)]) hne
  | 43 => rfl
  | 44 => rfl
  | z + 45 => rfl)
theorem wm_eqs {v : Nat → Nat} : updH (hp g c m) (amEqs g) (iA 128 v) = hp g c (m.s_eqs v) := hz_set (c' := c) (m' := (m.s_eqs v)) (r := 420) (t := 43) (i := 0) (j := 0) (by decide) (by decide) rfl rfl (fun t' i' j' hok hne => by
  match t' with
  | 0 => rfl
  | 1 => rfl
  | 2 => rfl
  | 3 => rfl
  | 4 => rfl
  | 5 => rfl
  | 6 => rfl
  | 7 => rfl
  | 8 => rfl
  | 9 => rfl
  | 10 => rfl
  | 11 => rfl
  | 12 => rfl
  | 13 => rfl
  | 14 => rfl
  | 15 => rfl
  | 16 => rfl
  | 17 => rfl
  | 18 => rfl
  | 19 => rfl
  | 20 => rfl
  | 21 => rfl
  | 22 => rfl
  | 23 => rfl
  | 24 => rfl
  | 25 => rfl
  | 26 => rfl
  | 27 => rfl
  | 28 => rfl
  | 29 => rfl
  | 30 => rfl
  | 31 => rfl
  | 32 => rfl
  | 33 => rfl
  | 34 => rfl
  | 35 => rfl
  | 36 => rfl
  | 37 => rfl
  | 38 => rfl
  | 39 => rfl
  | 40 => rfl
  | 41 => rfl
  | 42 => rfl
  | 43 => exact absurd (by rw [hok.2.1 (by omega), hok.1 (by omega) (by omega)]) hne
  | 44 => rfl
  | z + 45 => rfl)
theorem wm_chos {v : Nat → Nat} : updH (hp g c m) (amCho g) (iA 8 v) = hp g c (m.s_chos v) := hz_set (c' := c) (m' := (m.s_chos v)) (r := 421) (t := 44) (i := 0) (j := 0) (by decide) (by decide) rfl rfl (fun t' i' j' hok hne => by
  match t' with
  | 0 => rfl
  | 1 => rfl
  | 2 => rfl
  | 3 => rfl
  | 4 => rfl
  | 5 => rfl
  | 6 => rfl
  | 7 => rfl
  | 8 => rfl
  | 9 => rfl
  | 10 => rfl
  | 11 => rfl
  | 12 => rfl
  | 13 => rfl
  | 14 => rfl
  | 15 => rfl
  | 16 => rfl
  | 17 => rfl
  | 18 => rfl
  | 19 => rfl
  | 20 => rfl
  | 21 => rfl
  | 22 => rfl
  | 23 => rfl
  | 24 => rfl
  | 25 => rfl
  | 26 => rfl
  | 27 => rfl
  | 28 => rfl
  | 29 => rfl
  | 30 => rfl
  | 31 => rfl
  | 32 => rfl
  | 33 => rfl
  | 34 => rfl
  | 35 => rfl
  | 36 => rfl
  | 37 => rfl
  | 38 => rfl
  | 39 => rfl
  | 40 => rfl
  | 41 => rfl
  | 42 => rfl
  | 43 => rfl
  | 44 => exact absurd (by rw [hok.2.1 (by omega), hok.1 (by omega) (by omega)]) hne
  | z + 45 => rfl)
theorem wm_right {v : Nat → Nat} : updH (hp g c m) (amRig g) (iA 15 v) = hp g c (m.s_right v) := hz_set (c' := c) (m' := (m.s_right v)) (r := 422) (t := 45) (i := 0) (j := 0) (by decide) (by decide) rfl rfl (fun t' i' j' hok hne => by
  match t' with
  | 0 => rfl
  | 1 => rfl
  | 2 => rfl
  | 3 => rfl
  | 4 => rfl
  | 5 => rfl
  | 6 => rfl
  | 7 => rfl
  | 8 => rfl
  | 9 => rfl
  | 10 => rfl
  | 11 => rfl
  | 12 => rfl
  | 13 => rfl
  | 14 => rfl
  | 15 => rfl
  | 16 => rfl
  | 17 => rfl
  | 18 => rfl
  | 19 => rfl
  | 20 => rfl
  | 21 => rfl
  | 22 => rfl
  | 23 => rfl
  | 24 => rfl
  | 25 => rfl
  | 26 => rfl
  | 27 => rfl
  | 28 => rfl
  | 29 => rfl
  | 30 => rfl
  | 31 => rfl
  | 32 => rfl
  | 33 => rfl
  | 34 => rfl
  | 35 => rfl
  | 36 => rfl
  | 37 => rfl
  | 38 => rfl
  | 39 => rfl
  | 40 => rfl
  | 41 => rfl
  | 42 => rfl
  | 43 => rfl
  | 44 => rfl
  | z + 45 => exact absurd (by (have q := hok.2.2); (obtain rfl : z = 0 := by omega); rw [hok.2.1 (by omega), hok.1 (by omega) (by omega)]) hne)
end GS
