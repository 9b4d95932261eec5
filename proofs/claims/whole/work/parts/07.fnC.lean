def FU : Nat := 1000
-- GrantKernel.burn(II)I
def k_GK_burn (s0 : zS) (a1 : Int32) (a2 : Int32) : Option (zS × Int32) :=
  if a1 < 0 then
    some (s0, (-1))
  else
    if 256 ≤ a1 then
      some (s0, (-1))
    else
      if a2 < 0 then
        some (s0, (-1))
      else
        if a2 ≤ 65535 then
          ck (zi a1 256) <|
          lt (s0 2 0 a1.toNatClampNeg) fun x1 =>
          ck (zi a1 256) <|
          lt (zu s0 2 0 a1.toNatClampNeg a2) fun s2 =>
          some (s2, x1)
        else
          some (s0, (-1))
-- GrantKernel$Memory.setRamWord(II)V
def k_Me_setRamWord (s0 : zS) (a1 : Int32) (a2 : Int32) : Option (zS) :=
  lt ((a1 - (4096 : Int32)) >>> ((2 : Int32) &&& 31)) fun x1 =>
  if x1 < 0 then
    some s0
  else
    if 128 ≤ x1 then
      some s0
    else
      ck (zi x1 128) <|
      lt (zu s0 3 0 x1.toNatClampNeg a2) fun s2 =>
      some s2
-- GrantKernel$Memory.clearRam(II)V
def k_Me_clearRam_2 (a1 : Int32) (a2 : Int32) : Nat → zS → Int32 → Option (zS)
  | 0, _, _ => none
  | n + 1, s0, l3 =>
    if a2 ≤ l3 then
      some s0
    else
      bn (k_Me_setRamWord s0 (a1 + ((4 : Int32) * l3)) 0) fun s1 =>
      lt (l3 + 1) fun x2 =>
      k_Me_clearRam_2 a1 a2 n s1 x2
def k_Me_clearRam (s0 : zS) (a1 : Int32) (a2 : Int32) : Option (zS) :=
  k_Me_clearRam_2 a1 a2 FU s0 0
-- GrantKernel$Console.clear()V
def k_Co_clear (s0 : zS)  : Option (zS) :=
  lt (zu s0 5 0 2 0) fun s1 =>
  lt (zu s1 5 0 3 0) fun s2 =>
  some s2
-- GrantKernel$Notes.clear()V
def k_No_clear_2 (p : Nat) : Nat → zS → Int32 → Option (zS)
  | 0, _, _ => none
  | n + 1, s0, l1 =>
    if 3 ≤ l1 then
      lt (zu s0 13 p 6 0) fun s1 =>
      lt (zu s1 19 p 3 0) fun s2 =>
      some s2
    else
      ck (zi l1 3) <|
      lt (zu s0 14 p l1.toNatClampNeg 0) fun s3 =>
      ck (zi l1 3) <|
      lt (zu s3 15 p l1.toNatClampNeg 0) fun s4 =>
      ck (zi l1 3) <|
      lt (zu s4 16 p l1.toNatClampNeg 0) fun s5 =>
      ck (zi l1 3) <|
      lt (zu s5 17 p l1.toNatClampNeg 0) fun s6 =>
      ck (zi l1 3) <|
      lt (zu s6 18 p l1.toNatClampNeg 0) fun s7 =>
      lt (l1 + 1) fun x8 =>
      k_No_clear_2 p n s7 x8
def k_No_clear (s0 : zS) (p : Nat) : Option (zS) :=
  k_No_clear_2 p FU s0 0
-- GrantKernel$BoardProcess.loseNotes()V
def k_BP_loseNotes (s0 : zS) (p : Nat) : Option (zS) :=
  bn (k_No_clear s0 p) fun s1 =>
  lt (zu s1 11 p 8 (s1 11 p 6)) fun s2 =>
  some s2
-- GrantKernel$BoardProcess.halt()V
def k_BP_halt (s0 : zS) (p : Nat) : Option (zS) :=
  bn (k_BP_loseNotes s0 p) fun s1 =>
  lt (zu s1 11 p 16 2) fun s2 =>
  some s2
-- GrantKernel$BoardProcess.forgetFaults()V
def k_BP_forgetFaults (s0 : zS) (p : Nat) : Option (zS) :=
  lt (zu s0 11 p 17 0) fun s1 =>
  lt (zu s1 11 p 18 0) fun s2 =>
  lt (zu s2 11 p 19 0) fun s3 =>
  some s3
-- GrantKernel$Loader.isHeader(I)Z
def k_Lo_isHeader (s0 : zS) (a1 : Int32) : Option (zS × Int32) :=
  if 256 < (a1 + (6 : Int32)) then
    some (s0, 0)
  else
    ck (zi a1 256) <|
    if (s0 2 0 a1.toNatClampNeg) = 21570 then
      ck (zi (a1 + (1 : Int32)) 256) <|
      lt (s0 2 0 (a1 + (1 : Int32)).toNatClampNeg) fun x1 =>
      if x1 < 8 then
        some (s0, 0)
      else
        if (x1 &&& (1 : Int32)) = 0 then
          if 256 < (a1 + x1) then
            some (s0, 0)
          else
            some (s0, 1)
        else
          some (s0, 0)
    else
      some (s0, 0)
-- GrantKernel$BoardProcess.begin()V
def k_BP_begin_17 (p : Nat) : Nat → zS → Int32 → Option (zS)
  | 0, _, _ => none
  | n + 1, s0, l1 =>
    if 8 ≤ l1 then
      lt (zu s0 11 p 11 ((s0 11 p 5) + ((4 : Int32) * (s0 11 p 7)))) fun s2 =>
      lt (zu s2 11 p 12 0) fun s3 =>
      lt (zu s3 11 p 13 (s3 11 p 4)) fun s4 =>
      lt (zu s4 11 p 14 0) fun s5 =>
      lt (zu s5 11 p 15 0) fun s6 =>
      bn (k_BP_loseNotes s6 p) fun s7 =>
      lt (zu s7 11 p 16 0) fun s8 =>
      some s8
    else
      ck (zi l1 8) <|
      lt (zu s0 12 p l1.toNatClampNeg 0) fun s9 =>
      lt (l1 + 1) fun x10 =>
      k_BP_begin_17 p n s9 x10
def k_BP_begin (s0 : zS) (p : Nat) : Option (zS) :=
  bn (k_Me_clearRam s0 (s0 11 p 5) (s0 11 p 6)) fun s1 =>
  k_BP_begin_17 p FU s1 0
-- GrantKernel$Loader.loadAt(I)V
def k_Lo_loadAt (s0 : zS) (a1 : Int32) : Option (zS) :=
  ck (zi (a1 + (1 : Int32)) 256) <|
  lt (s0 2 0 (a1 + (1 : Int32)).toNatClampNeg) fun x1 =>
  ck (zi (a1 + (2 : Int32)) 256) <|
  lt (s0 2 0 (a1 + (2 : Int32)).toNatClampNeg) fun x2 =>
  ck (zi (a1 + (3 : Int32)) 256) <|
  lt (s0 2 0 (a1 + (3 : Int32)).toNatClampNeg) fun x3 =>
  ck (zi (a1 + (4 : Int32)) 256) <|
  lt (s0 2 0 (a1 + (4 : Int32)).toNatClampNeg) fun x4 =>
  ck (zi (a1 + (5 : Int32)) 256) <|
  lt (s0 2 0 (a1 + (5 : Int32)).toNatClampNeg) fun x5 =>
  if 4 ≤ (s0 9 0 2) then
    some s0
  else
    if 2 < x2 then
      some s0
    else
      if x5 ≤ 15 then
        lt ((16 : Int32) <<< (x2 &&& 31)) fun x6 =>
        if x3 < 8 then
          some s0
        else
          if x6 < x3 then
            some s0
          else
            if x4 < 6 then
              some s0
            else
              if x4 < x1 then
                lt ((((s0 9 0 3) + x6) - (1 : Int32)) &&& (-x6)) fun x7 =>
                if (x7 + x6) ≤ 128 then
                  ck (zi (s0 9 0 2) 4) <|
                  lt (zu s0 11 ((s0 9 0 2).toNatClampNeg) 2 ((2 : Int32) * a1)) fun s8 =>
                  lt (zu s8 11 ((s0 9 0 2).toNatClampNeg) 3 ((2 : Int32) * (a1 + x1))) fun s9 =>
                  lt (zu s9 11 ((s0 9 0 2).toNatClampNeg) 4 ((2 : Int32) * (a1 + x4))) fun s10 =>
                  lt (zu s10 11 ((s0 9 0 2).toNatClampNeg) 5 ((4096 : Int32) + ((4 : Int32) * x7))) fun s11 =>
                  lt (zu s11 11 ((s0 9 0 2).toNatClampNeg) 6 x6) fun s12 =>
                  lt (zu s12 11 ((s0 9 0 2).toNatClampNeg) 7 x3) fun s13 =>
                  lt (zu s13 11 ((s0 9 0 2).toNatClampNeg) 9 x5) fun s14 =>
                  bn (k_BP_begin s14 ((s0 9 0 2).toNatClampNeg)) fun s15 =>
                  lt (zu s15 9 0 2 ((s15 9 0 2) + (1 : Int32))) fun s16 =>
                  lt (zu s16 9 0 3 (x7 + x6)) fun s17 =>
                  some s17
                else
                  some s0
              else
                some s0
      else
        some s0
-- GrantKernel$Loader.loadAll()I
def k_Lo_loadAll_45  : Nat → zS → Int32 → Int32 → Option (zS × Int32)
  | 0, _, _, _ => none
  | n + 1, s0, l1, l2 =>
    if 32 ≤ l2 then
      some (s0, s0 9 0 2)
    else
      bn (k_Lo_isHeader s0 l1) fun (s6, r7) =>
      if r7 = 0 then
        some (s6, s6 9 0 2)
      else
        bn (k_Lo_loadAt s6 l1) fun s8 =>
        ck (zi (l1 + (1 : Int32)) 256) <|
        lt (l1 + (s8 2 0 (l1 + (1 : Int32)).toNatClampNeg)) fun x9 =>
        lt (l2 + 1) fun x10 =>
        k_Lo_loadAll_45 n s8 x9 x10
def k_Lo_loadAll_2  : Nat → zS → Int32 → Option (zS × Int32)
  | 0, _, _ => none
  | n + 1, s0, l1 =>
    if 4 ≤ l1 then
      lt (zu s0 9 0 2 0) fun s1 =>
      lt (zu s1 9 0 3 0) fun s2 =>
      k_Lo_loadAll_45 FU s2 0 0
    else
      ck (zi l1 4) <|
      bn (k_BP_halt s0 (l1.toNatClampNeg)) fun s3 =>
      ck (zi l1 4) <|
      bn (k_BP_forgetFaults s3 (l1.toNatClampNeg)) fun s4 =>
      lt (l1 + 1) fun x5 =>
      k_Lo_loadAll_2 n s4 x5
def k_Lo_loadAll (s0 : zS)  : Option (zS × Int32) :=
  k_Lo_loadAll_2 FU s0 0
-- GrantKernel.boot()I
def k_GK_boot (s0 : zS)  : Option (zS × Int32) :=
  bn (k_Me_clearRam s0 4096 128) fun s1 =>
  bn (k_Co_clear s1) fun s2 =>
  lt (zu s2 8 0 3 0) fun s3 =>
  lt (zu s3 0 0 7 (-1)) fun s4 =>
  lt (zu s4 0 0 8 0) fun s5 =>
  bn (k_Lo_loadAll s5) fun (s6, r7) =>
  lt (zu s6 0 0 6 r7) fun s8 =>
  some (s8, s8 0 0 6)
-- GrantKernel$Notes.hasGrant(I)Z
def k_No_hasGrant (s0 : zS) (p : Nat) (a1 : Int32) : Option (zS × Int32) :=
  ck (zi a1 3) <|
  if (s0 14 p a1.toNatClampNeg) = 0 then
    some (s0, 0)
  else
    some (s0, 1)
-- GrantKernel$Memory.ramWord(I)I
def k_Me_ramWord_19 (a1 : Int32) (s0 : zS) : Option (zS × Int32) :=
  some (s0, 0)
def k_Me_ramWord (s0 : zS) (a1 : Int32) : Option (zS × Int32) :=
  lt ((a1 - (4096 : Int32)) >>> ((2 : Int32) &&& 31)) fun x1 =>
  if x1 < 0 then
    k_Me_ramWord_19 a1 s0
  else
    if x1 < 128 then
      ck (zi x1 128) <|
      some (s0, s0 3 0 x1.toNatClampNeg)
    else
      k_Me_ramWord_19 a1 s0
-- GrantKernel$Kernel.isPending(LGrantKernel$BoardProcess;I)Z
def k_Ke_isPending (s0 : zS) (a1 : Nat) (a2 : Int32) : Option (zS × Int32) :=
  bn (k_No_hasGrant s0 a1 a2) fun (s1, r2) =>
  if r2 = 0 then
    some (s1, 0)
  else
    ck (zi a2 3) <|
    bn (k_Me_ramWord s1 (s1 14 a1 a2.toNatClampNeg)) fun (s3, r4) =>
    if r4 = 1 then
      some (s3, 1)
    else
      some (s3, 0)
-- GrantKernel$UpcallQueue.enqueue(III)V
def k_UQ_enqueue (s0 : zS) (p : Nat) (a1 : Int32) (a2 : Int32) (a3 : Int32) : Option (zS) :=
  if 4 ≤ (s0 19 p 3) then
    some s0
  else
    ck (zi (s0 19 p 3) 4) <|
    lt (zu s0 20 p (s0 19 p 3).toNatClampNeg a1) fun s1 =>
    ck (zi (s1 19 p 3) 4) <|
    lt (zu s1 21 p (s1 19 p 3).toNatClampNeg a2) fun s2 =>
    ck (zi (s2 19 p 3) 4) <|
    lt (zu s2 22 p (s2 19 p 3).toNatClampNeg a3) fun s3 =>
    lt (zu s3 19 p 3 ((s3 19 p 3) + (1 : Int32))) fun s4 =>
    some s4
-- GrantKernel$Kernel.upcall(LGrantKernel$BoardProcess;III)V
def k_Ke_upcall (s0 : zS) (a1 : Nat) (a2 : Int32) (a3 : Int32) (a4 : Int32) : Option (zS) :=
  ck (zi a2 3) <|
  lt (s0 15 a1 a2.toNatClampNeg) fun x1 =>
  if x1 = 0 then
    some s0
  else
    if (s0 11 a1 16) = 1 then
      lt (s0 11 a1 11) fun x2 =>
      lt (x2 + (24 : Int32)) fun x3 =>
      bn (k_Me_setRamWord s0 x2 a3) fun s4 =>
      bn (k_Me_setRamWord s4 (x2 + (4 : Int32)) a4) fun s5 =>
      bn (k_Me_setRamWord s5 (x2 + (8 : Int32)) a2) fun s6 =>
      ck (zi a2 3) <|
      bn (k_Me_setRamWord s6 (x2 + (12 : Int32)) (s6 16 a1 a2.toNatClampNeg)) fun s7 =>
      bn (k_Me_ramWord s7 x3) fun (s8, r9) =>
      bn (k_Me_setRamWord s8 (x2 + (20 : Int32)) (r9 + (1 : Int32))) fun s10 =>
      bn (k_Me_setRamWord s10 x3 (x1 &&& (-2 : Int32))) fun s11 =>
      lt (zu s11 11 a1 16 0) fun s12 =>
      some s12
    else
      bn (k_UQ_enqueue s0 a1 a2 a3 a4) fun s13 =>
      some s13
-- GrantKernel$Kernel.ringIfDue(LGrantKernel$BoardProcess;)V
def k_Ke_ringIfDue (s0 : zS) (a1 : Nat) : Option (zS) :=
  ck (zi 0 3) <|
  lt (s0 14 a1 (0 : Int32).toNatClampNeg) fun x1 =>
  bn (k_Me_ramWord s0 (x1 + (4 : Int32))) fun (s2, r3) =>
  if (s2 8 0 3) < r3 then
    some s2
  else
    bn (k_Me_setRamWord s2 x1 0) fun s4 =>
    bn (k_Ke_upcall s4 a1 0 (s4 8 0 3) r3) fun s5 =>
    some s5
-- GrantKernel$Kernel.beginTick()V
def k_Ke_beginTick_41 (K12 : zS → Int32 → Option (zS)) (s0 : zS) (l1 : Int32) : Option (zS) :=
  lt (l1 + 1) fun x5 =>
  K12 s0 x5
def k_Ke_beginTick_12  : Nat → zS → Int32 → Option (zS)
  | 0, _, _ => none
  | n + 1, s0, l1 =>
    if 4 ≤ l1 then
      some s0
    else
      ck (zi l1 4) <|
      bn (k_Ke_isPending s0 (l1.toNatClampNeg) 0) fun (s2, r3) =>
      if r3 = 0 then
        k_Ke_beginTick_41 (k_Ke_beginTick_12 n) s2 l1
      else
        ck (zi l1 4) <|
        bn (k_Ke_ringIfDue s2 (l1.toNatClampNeg)) fun s4 =>
        k_Ke_beginTick_41 (k_Ke_beginTick_12 n) s4 l1
def k_Ke_beginTick (s0 : zS)  : Option (zS) :=
  lt (zu s0 8 0 3 ((s0 8 0 3) + (1 : Int32))) fun s1 =>
  k_Ke_beginTick_12 FU s1 0
-- GrantKernel.giveTurn()Z
def k_GK_giveTurn_64 (K39 : zS → Int32 → Int32 → Option (zS × Int32)) (s0 : zS) (l2 : Int32) (t0 : Int32) : Option (zS × Int32) :=
  ck (zi t0 4) <|
  if (s0 11 (t0.toNatClampNeg) 16) = 0 then
    lt (zu s0 0 0 7 t0) fun s3 =>
    lt (zu s3 0 0 8 10) fun s4 =>
    some (s4, 1)
  else
    lt (l2 + 1) fun x2 =>
    K39 s0 t0 x2
def k_GK_giveTurn_39  : Nat → zS → Int32 → Int32 → Option (zS × Int32)
  | 0, _, _, _ => none
  | n + 1, s0, l1, l2 =>
    if (s0 0 0 6) ≤ l2 then
      some (s0, 0)
    else
      if (s0 0 0 6) ≤ (l1 + (1 : Int32)) then
        k_GK_giveTurn_64 (k_GK_giveTurn_39 n) s0 l2 0
      else
        k_GK_giveTurn_64 (k_GK_giveTurn_39 n) s0 l2 (l1 + (1 : Int32))
def k_GK_giveTurn_32  (s0 : zS) : Option (zS × Int32) :=
  lt (s0 0 0 7) fun x1 =>
  k_GK_giveTurn_39 FU s0 x1 0
def k_GK_giveTurn (s0 : zS)  : Option (zS × Int32) :=
  if (s0 0 0 7) = (-1) then
    k_GK_giveTurn_32 s0
  else
    if (s0 0 0 8) ≤ 0 then
      k_GK_giveTurn_32 s0
    else
      ck (zi (s0 0 0 7) 4) <|
      if (s0 11 ((s0 0 0 7).toNatClampNeg) 16) = 0 then
        some (s0, 1)
      else
        k_GK_giveTurn_32 s0
-- GrantKernel$BoardProcess.areOpen(II)Z
def k_BP_areOpen (s0 : zS) (p : Nat) (a1 : Int32) (a2 : Int32) : Option (zS × Int32) :=
  lt (a1 - (s0 11 p 5)) fun x1 =>
  lt ((4 : Int32) * (s0 11 p 8)) fun x2 =>
  if x1 < 0 then
    some (s0, 0)
  else
    if x2 ≤ x1 then
      some (s0, 0)
    else
      if ((x2 - x1) >>> ((2 : Int32) &&& 31)) < a2 then
        some (s0, 0)
      else
        some (s0, 1)
-- GrantKernel$BoardProcess.frameWord(I)I
def k_BP_frameWord (s0 : zS) (p : Nat) (a1 : Int32) : Option (zS × Int32) :=
  bn (k_Me_ramWord s0 ((s0 11 p 11) + ((4 : Int32) * a1))) fun (s1, r2) =>
  some (s1, r2)
-- GrantKernel$BoardProcess.takeFrame()Z
def k_BP_takeFrame_96 (p : Nat) (s0 : zS) (t0 : Int32) (t1 : Int32) (t2 : Nat) : Option (zS × Int32) :=
  lt (zu s0 11 t2 11 (t1 + t0)) fun s16 =>
  lt (zu s16 11 p 15 0) fun s17 =>
  some (s17, 1)
def k_BP_takeFrame_17 (p : Nat) : Nat → zS → Int32 → Option (zS × Int32)
  | 0, _, _ => none
  | n + 1, s0, l1 =>
    if 4 ≤ l1 then
      bn (k_BP_frameWord s0 p 5) fun (s3, r4) =>
      lt (zu s3 11 p 12 r4) fun s5 =>
      bn (k_BP_frameWord s5 p 6) fun (s6, r7) =>
      lt (zu s6 11 p 13 (r7 &&& (-2 : Int32))) fun s8 =>
      bn (k_BP_frameWord s8 p 7) fun (s9, r10) =>
      lt (zu s9 11 p 14 ((r10.toUInt32 >>> ((28 : Int32).toUInt32 &&& Int32.toUInt32 31)).toInt32)) fun s11 =>
      if (r10 &&& (512 : Int32)) = 0 then
        k_BP_takeFrame_96 p s11 32 (s11 11 p 11) p
      else
        k_BP_takeFrame_96 p s11 36 (s11 11 p 11) p
    else
      bn (k_BP_frameWord s0 p l1) fun (s12, r13) =>
      ck (zi l1 8) <|
      lt (zu s12 12 p l1.toNatClampNeg r13) fun s14 =>
      lt (l1 + 1) fun x15 =>
      k_BP_takeFrame_17 p n s14 x15
def k_BP_takeFrame (s0 : zS) (p : Nat) : Option (zS × Int32) :=
  bn (k_BP_areOpen s0 p (s0 11 p 11) 8) fun (s1, r2) =>
  if r2 = 0 then
    some (s1, 0)
  else
    k_BP_takeFrame_17 p FU s1 0
-- GrantKernel$BoardProcess.isInCode(I)Z
def k_BP_isInCode (s0 : zS) (p : Nat) (a1 : Int32) : Option (zS × Int32) :=
  if a1 < (s0 11 p 2) then
    some (s0, 0)
  else
    if (s0 11 p 3) ≤ a1 then
      some (s0, 0)
    else
      some (s0, 1)
-- GrantKernel$Memory.halfword(I)I
def k_Me_halfword_15 (a1 : Int32) (s0 : zS) : Option (zS × Int32) :=
  some (s0, 0)
def k_Me_halfword (s0 : zS) (a1 : Int32) : Option (zS × Int32) :=
  lt (a1 >>> ((1 : Int32) &&& 31)) fun x1 =>
  if x1 < 0 then
    k_Me_halfword_15 a1 s0
  else
    if x1 < 256 then
      ck (zi x1 256) <|
      some (s0, s0 2 0 x1.toNatClampNeg)
    else
      k_Me_halfword_15 a1 s0
-- GrantKernel$Processor.setCarry(LGrantKernel$BoardProcess;Z)V
def k_Pr_setCarry_21 (a1 : Nat) (a2 : Int32) (s0 : zS) (t0 : Int32) (t1 : Nat) : Option (zS) :=
  lt (zu s0 11 t1 14 t0) fun s1 =>
  some s1
def k_Pr_setCarry (s0 : zS) (a1 : Nat) (a2 : Int32) : Option (zS) :=
  if a2 = 0 then
    k_Pr_setCarry_21 a1 a2 s0 ((s0 11 a1 14) &&& (-3 : Int32)) a1
  else
    k_Pr_setCarry_21 a1 a2 s0 ((s0 11 a1 14) ||| (2 : Int32)) a1
-- GrantKernel$Processor.setSigns(LGrantKernel$BoardProcess;I)V
def k_Pr_setSigns_19 (a1 : Nat) (a2 : Int32) (s0 : zS) (t0 : Int32) (t1 : Int32) : Option (zS) :=
  lt (t1 + t0) fun x1 =>
  lt (zu s0 11 a1 14 (((s0 11 a1 14) &&& (3 : Int32)) ||| x1)) fun s2 =>
  some s2
def k_Pr_setSigns_10 (a1 : Nat) (a2 : Int32) (s0 : zS) (t0 : Int32) : Option (zS) :=
  if a2 = 0 then
    k_Pr_setSigns_19 a1 a2 s0 4 t0
  else
    k_Pr_setSigns_19 a1 a2 s0 0 t0
def k_Pr_setSigns (s0 : zS) (a1 : Nat) (a2 : Int32) : Option (zS) :=
  if 0 ≤ a2 then
    k_Pr_setSigns_10 a1 a2 s0 0
  else
    k_Pr_setSigns_10 a1 a2 s0 8
-- GrantKernel$Processor.shift(LGrantKernel$BoardProcess;III)I
def k_Pr_shift_109 (a1 : Nat) (a2 : Int32) (a3 : Int32) (a4 : Int32) (s0 : zS) (l5 : Int32) : Option (zS × Int32) :=
  bn (k_Pr_setSigns s0 a1 l5) fun s2 =>
  some (s2, l5)
def k_Pr_shift_106 (a1 : Nat) (a2 : Int32) (a3 : Int32) (a4 : Int32) (s0 : zS) (l5 : Int32) (t0 : Int32) (t1 : Nat) : Option (zS × Int32) :=
  bn (k_Pr_setCarry s0 t1 t0) fun s4 =>
  k_Pr_shift_109 a1 a2 a3 a4 s4 l5
def k_Pr_shift_96 (a1 : Nat) (a2 : Int32) (a3 : Int32) (a4 : Int32) (s0 : zS) (l5 : Int32) (t0 : Int64) (t1 : Nat) : Option (zS × Int32) :=
  if (lg_cmp t0 (1 : Int64)) = 0 then
    k_Pr_shift_106 a1 a2 a3 a4 s0 l5 1 t1
  else
    k_Pr_shift_106 a1 a2 a3 a4 s0 l5 0 t1
def k_Pr_shift_73 (a1 : Nat) (a2 : Int32) (a3 : Int32) (a4 : Int32) (s0 : zS) (l9 : Int64) (t0 : Int64) : Option (zS × Int32) :=
  lt (t0.toInt32) fun x3 =>
  if a2 = 0 then
    k_Pr_shift_96 a1 a2 a3 a4 s0 x3 ((l9 >>> ((32 : Int32).toInt64 &&& 63)) &&& (1 : Int64)) a1
  else
    k_Pr_shift_96 a1 a2 a3 a4 s0 x3 (l9 &&& (1 : Int64)) a1
def k_Pr_shift_58 (a1 : Nat) (a2 : Int32) (a3 : Int32) (a4 : Int32) (s0 : zS) (t0 : Int64) : Option (zS × Int32) :=
  if a2 = 0 then
    k_Pr_shift_73 a1 a2 a3 a4 s0 t0 t0
  else
    k_Pr_shift_73 a1 a2 a3 a4 s0 t0 (t0 >>> ((1 : Int32).toInt64 &&& 63))
def k_Pr_shift_37 (a1 : Nat) (a2 : Int32) (a3 : Int32) (a4 : Int32) (s0 : zS) (l6 : Int32) (t0 : Int64) : Option (zS × Int32) :=
  if a2 = 0 then
    k_Pr_shift_58 a1 a2 a3 a4 s0 (t0 <<< (l6.toInt64 &&& 63))
  else
    k_Pr_shift_58 a1 a2 a3 a4 s0 ((t0 <<< ((1 : Int32).toInt64 &&& 63)) >>> (l6.toInt64 &&& 63))
def k_Pr_shift_26 (a1 : Nat) (a2 : Int32) (a3 : Int32) (a4 : Int32) (s0 : zS) (l6 : Int32) : Option (zS × Int32) :=
  k_Pr_shift_37 a1 a2 a3 a4 s0 l6 ((a3.toInt64) &&& (4294967295 : Int64))
def k_Pr_shift (s0 : zS) (a1 : Nat) (a2 : Int32) (a3 : Int32) (a4 : Int32) : Option (zS × Int32) :=
  if a4 ≤ 0 then
    k_Pr_shift_109 a1 a2 a3 a4 s0 a3
  else
    lt (zmin a4 33) fun x1 =>
    if a2 = 0 then
      k_Pr_shift_26 a1 a2 a3 a4 s0 x1
    else
      if a2 = 1 then
        k_Pr_shift_26 a1 a2 a3 a4 s0 x1
      else
        k_Pr_shift_37 a1 a2 a3 a4 s0 x1 (a3.toInt64)
-- GrantKernel$Processor.shiftByNumber(LGrantKernel$BoardProcess;I)I
def k_Pr_shiftByNumber_27 (a1 : Nat) (a2 : Int32) (s0 : zS) (l3 : Int32) (l4 : Int32) : Option (zS × Int32) :=
  ck (zi ((a2 >>> ((3 : Int32) &&& 31)) &&& (7 : Int32)) 8) <|
  bn (k_Pr_shift s0 a1 l3 (s0 12 a1 ((a2 >>> ((3 : Int32) &&& 31)) &&& (7 : Int32)).toNatClampNeg) l4) fun (s3, r4) =>
  ck (zi (a2 &&& (7 : Int32)) 8) <|
  lt (zu s3 12 a1 (a2 &&& (7 : Int32)).toNatClampNeg r4) fun s5 =>
  some (s5, 0)
def k_Pr_shiftByNumber (s0 : zS) (a1 : Nat) (a2 : Int32) : Option (zS × Int32) :=
  lt (a2 >>> ((11 : Int32) &&& 31)) fun x1 =>
  lt ((a2 >>> ((6 : Int32) &&& 31)) &&& (31 : Int32)) fun x2 =>
  if x1 = 0 then
    k_Pr_shiftByNumber_27 a1 a2 s0 x1 x2
  else
    if x2 = 0 then
      k_Pr_shiftByNumber_27 a1 a2 s0 x1 32
    else
      k_Pr_shiftByNumber_27 a1 a2 s0 x1 x2
-- GrantKernel$Processor.add(LGrantKernel$BoardProcess;III)I
def k_Pr_add_64 (a1 : Nat) (a2 : Int32) (a3 : Int32) (a4 : Int32) (s0 : zS) (l9 : Int32) (t0 : Int32) (t1 : Int32) (t2 : Nat) : Option (zS × Int32) :=
  lt (zu s0 11 t2 14 (t1 + t0)) fun s4 =>
  bn (k_Pr_setSigns s4 a1 l9) fun s5 =>
  some (s5, l9)
def k_Pr_add_50 (a1 : Nat) (a2 : Int32) (a3 : Int32) (a4 : Int32) (s0 : zS) (l5 : Int64) (l9 : Int32) (t0 : Int32) (t1 : Nat) : Option (zS × Int32) :=
  if (lg_cmp l5 (l9.toInt64)) = 0 then
    k_Pr_add_64 a1 a2 a3 a4 s0 l9 0 t0 t1
  else
    k_Pr_add_64 a1 a2 a3 a4 s0 l9 1 t0 t1
def k_Pr_add (s0 : zS) (a1 : Nat) (a2 : Int32) (a3 : Int32) (a4 : Int32) : Option (zS × Int32) :=
  lt (((a2.toInt64) + (a3.toInt64)) + (a4.toInt64)) fun x1 =>
  lt ((((a2.toInt64) &&& (4294967295 : Int64)) + ((a3.toInt64) &&& (4294967295 : Int64))) + (a4.toInt64)) fun x2 =>
  lt (x1.toInt32) fun x3 =>
  if (lg_cmp x2 (4294967295 : Int64)) ≤ 0 then
    k_Pr_add_50 a1 a2 a3 a4 s0 x1 x3 0 a1
  else
    k_Pr_add_50 a1 a2 a3 a4 s0 x1 x3 2 a1
-- GrantKernel$Processor.addThree(LGrantKernel$BoardProcess;I)I
def k_Pr_addThree_97 (a1 : Nat) (a2 : Int32) (s0 : zS) (t0 : Int32) (t1 : Int32) (t2 : Nat) : Option (zS × Int32) :=
  ck (zi t1 8) <|
  lt (zu s0 12 t2 t1.toNatClampNeg t0) fun s7 =>
  some (s7, 0)
def k_Pr_addThree_57 (a1 : Nat) (a2 : Int32) (s0 : zS) (l4 : Int32) (l5 : Int32) (t0 : Int32) : Option (zS × Int32) :=
  if t0 = 0 then
    bn (k_Pr_add s0 a1 l4 l5 0) fun (s3, r4) =>
    k_Pr_addThree_97 a1 a2 s3 r4 (a2 &&& (7 : Int32)) a1
  else
    bn (k_Pr_add s0 a1 l4 (l5 ^^^ (-1 : Int32)) 1) fun (s5, r6) =>
    k_Pr_addThree_97 a1 a2 s5 r6 (a2 &&& (7 : Int32)) a1
def k_Pr_addThree_40 (a1 : Nat) (a2 : Int32) (s0 : zS) (l4 : Int32) (t0 : Int32) : Option (zS × Int32) :=
  if ((a2 >>> ((9 : Int32) &&& 31)) &&& (1 : Int32)) = 1 then
    k_Pr_addThree_57 a1 a2 s0 l4 t0 1
  else
    k_Pr_addThree_57 a1 a2 s0 l4 t0 0
def k_Pr_addThree (s0 : zS) (a1 : Nat) (a2 : Int32) : Option (zS × Int32) :=
  lt ((a2 >>> ((6 : Int32) &&& 31)) &&& (7 : Int32)) fun x1 =>
  ck (zi ((a2 >>> ((3 : Int32) &&& 31)) &&& (7 : Int32)) 8) <|
  lt (s0 12 a1 ((a2 >>> ((3 : Int32) &&& 31)) &&& (7 : Int32)).toNatClampNeg) fun x2 =>
  if ((a2 >>> ((10 : Int32) &&& 31)) &&& (1 : Int32)) = 0 then
    ck (zi x1 8) <|
    k_Pr_addThree_40 a1 a2 s0 x2 (s0 12 a1 x1.toNatClampNeg)
  else
    k_Pr_addThree_40 a1 a2 s0 x2 x1
-- GrantKernel$Processor.withByte(LGrantKernel$BoardProcess;I)I
def k_Pr_withByte (s0 : zS) (a1 : Nat) (a2 : Int32) : Option (zS × Int32) :=
  lt ((a2 >>> ((8 : Int32) &&& 31)) &&& (7 : Int32)) fun x1 =>
  ck (zi x1 8) <|
  lt (s0 12 a1 x1.toNatClampNeg) fun x2 =>
  lt (a2 &&& (255 : Int32)) fun x3 =>
  if (a2 >>> ((11 : Int32) &&& 31)) = 4 then
    ck (zi x1 8) <|
    lt (zu s0 12 a1 x1.toNatClampNeg x3) fun s4 =>
    bn (k_Pr_setSigns s4 a1 x3) fun s5 =>
    some (s5, 0)
  else
  if (a2 >>> ((11 : Int32) &&& 31)) = 5 then
    bn (k_Pr_add s0 a1 x2 (x3 ^^^ (-1 : Int32)) 1) fun (s6, r7) =>
    some (s6, 0)
  else
  if (a2 >>> ((11 : Int32) &&& 31)) = 6 then
    bn (k_Pr_add s0 a1 x2 x3 0) fun (s8, r9) =>
    ck (zi x1 8) <|
    lt (zu s8 12 a1 x1.toNatClampNeg r9) fun s10 =>
    some (s10, 0)
  else
  bn (k_Pr_add s0 a1 x2 (x3 ^^^ (-1 : Int32)) 1) fun (s11, r12) =>
  ck (zi x1 8) <|
  lt (zu s11 12 a1 x1.toNatClampNeg r12) fun s13 =>
  some (s13, 0)
-- GrantKernel$Processor.rotate(LGrantKernel$BoardProcess;II)I
def k_Pr_rotate_48 (a1 : Nat) (a2 : Int32) (a3 : Int32) (s0 : zS) (l5 : Int32) : Option (zS × Int32) :=
  bn (k_Pr_setSigns s0 a1 l5) fun s2 =>
  some (s2, l5)
def k_Pr_rotate_45 (a1 : Nat) (a2 : Int32) (a3 : Int32) (s0 : zS) (l5 : Int32) (t0 : Int32) (t1 : Nat) : Option (zS × Int32) :=
  bn (k_Pr_setCarry s0 t1 t0) fun s3 =>
  k_Pr_rotate_48 a1 a2 a3 s3 l5
def k_Pr_rotate_27 (a1 : Nat) (a2 : Int32) (a3 : Int32) (s0 : zS) (t0 : Int32) : Option (zS × Int32) :=
  if a3 ≤ 0 then
    k_Pr_rotate_48 a1 a2 a3 s0 t0
  else
    if 0 ≤ t0 then
      k_Pr_rotate_45 a1 a2 a3 s0 t0 0 a1
    else
      k_Pr_rotate_45 a1 a2 a3 s0 t0 1 a1
def k_Pr_rotate (s0 : zS) (a1 : Nat) (a2 : Int32) (a3 : Int32) : Option (zS × Int32) :=
  lt (a3 &&& (31 : Int32)) fun x1 =>
  if x1 = 0 then
    k_Pr_rotate_27 a1 a2 a3 s0 a2
  else
    k_Pr_rotate_27 a1 a2 a3 s0 (((a2.toUInt32 >>> (x1.toUInt32 &&& Int32.toUInt32 31)).toInt32) ||| (a2 <<< (((32 : Int32) - x1) &&& 31)))
-- GrantKernel$Processor.bitwise(III)I
def k_Pr_bitwise (s0 : zS) (a1 : Int32) (a2 : Int32) (a3 : Int32) : Option (zS × Int32) :=
  if a1 = 1 then
    some (s0, a2 ^^^ a3)
  else
  if a1 = 12 then
    some (s0, a2 ||| a3)
  else
  if a1 = 13 then
    some (s0, a2 * a3)
  else
  if a1 = 14 then
    some (s0, a2 &&& (a3 ^^^ (-1 : Int32)))
  else
  if a1 = 15 then
    some (s0, a3 ^^^ (-1 : Int32))
  else
  some (s0, a2 &&& a3)
-- GrantKernel$Processor.combine(LGrantKernel$BoardProcess;I)I
def k_Pr_combine_241 (a1 : Nat) (a2 : Int32) (s0 : zS) (l3 : Int32) (l4 : Int32) (l8 : Int32) : Option (zS × Int32) :=
  if l4 = 8 then
    some (s0, 0)
  else
    if l4 = 10 then
      some (s0, 0)
    else
      if l4 = 11 then
        some (s0, 0)
      else
        ck (zi l3 8) <|
        lt (zu s0 12 a1 l3.toNatClampNeg l8) fun s23 =>
        some (s23, 0)
def k_Pr_combine (s0 : zS) (a1 : Nat) (a2 : Int32) : Option (zS × Int32) :=
  lt (a2 &&& (7 : Int32)) fun x1 =>
  lt ((a2 >>> ((6 : Int32) &&& 31)) &&& (15 : Int32)) fun x2 =>
  ck (zi x1 8) <|
  lt (s0 12 a1 x1.toNatClampNeg) fun x3 =>
  ck (zi ((a2 >>> ((3 : Int32) &&& 31)) &&& (7 : Int32)) 8) <|
  lt (s0 12 a1 ((a2 >>> ((3 : Int32) &&& 31)) &&& (7 : Int32)).toNatClampNeg) fun x4 =>
  lt (((s0 11 a1 14) >>> ((1 : Int32) &&& 31)) &&& (1 : Int32)) fun x5 =>
  if x2 = 2 ∨ x2 = 3 ∨ x2 = 4 then
    bn (k_Pr_shift s0 a1 (x2 - (2 : Int32)) x3 (x4 &&& (255 : Int32))) fun (s6, r7) =>
    k_Pr_combine_241 a1 a2 s6 x1 x2 r7
  else
  if x2 = 5 then
    bn (k_Pr_add s0 a1 x3 x4 x5) fun (s8, r9) =>
    k_Pr_combine_241 a1 a2 s8 x1 x2 r9
  else
  if x2 = 6 then
    bn (k_Pr_add s0 a1 x3 (x4 ^^^ (-1 : Int32)) x5) fun (s10, r11) =>
    k_Pr_combine_241 a1 a2 s10 x1 x2 r11
  else
  if x2 = 7 then
    bn (k_Pr_rotate s0 a1 x3 (x4 &&& (255 : Int32))) fun (s12, r13) =>
    k_Pr_combine_241 a1 a2 s12 x1 x2 r13
  else
  if x2 = 9 then
    bn (k_Pr_add s0 a1 0 (x4 ^^^ (-1 : Int32)) 1) fun (s14, r15) =>
    k_Pr_combine_241 a1 a2 s14 x1 x2 r15
  else
  if x2 = 10 then
    bn (k_Pr_add s0 a1 x3 (x4 ^^^ (-1 : Int32)) 1) fun (s16, r17) =>
    k_Pr_combine_241 a1 a2 s16 x1 x2 r17
  else
  if x2 = 11 then
    bn (k_Pr_add s0 a1 x3 x4 0) fun (s18, r19) =>
    k_Pr_combine_241 a1 a2 s18 x1 x2 r19
  else
  bn (k_Pr_bitwise s0 x2 x3 x4) fun (s20, r21) =>
  bn (k_Pr_setSigns s20 a1 r21) fun s22 =>
  k_Pr_combine_241 a1 a2 s22 x1 x2 r21
-- GrantKernel$Processor.jump(LGrantKernel$BoardProcess;I)I
def k_Pr_jump_74 (a1 : Nat) (a2 : Int32) (s0 : zS) (l3 : Int32) (t0 : Int32) : Option (zS × Int32) :=
  if (t0 &&& (1 : Int32)) = 0 then
    some (s0, 5)
  else
    lt (zu s0 10 0 1 (t0 - (1 : Int32))) fun s3 =>
    if l3 = 143 then
      lt (zu s3 11 a1 12 ((s3 11 a1 13) + (3 : Int32))) fun s4 =>
      some (s4, 0)
    else
      some (s3, 0)
def k_Pr_jump_50 (a1 : Nat) (a2 : Int32) (s0 : zS) (l3 : Int32) (l4 : Int32) : Option (zS × Int32) :=
  if l4 = 14 then
    k_Pr_jump_74 a1 a2 s0 l3 (s0 11 a1 12)
  else
    ck (zi (l4 &&& (7 : Int32)) 8) <|
    k_Pr_jump_74 a1 a2 s0 l3 (s0 12 a1 (l4 &&& (7 : Int32)).toNatClampNeg)
def k_Pr_jump_27 (a1 : Nat) (a2 : Int32) (s0 : zS) (l3 : Int32) (l4 : Int32) : Option (zS × Int32) :=
  if (a2 &&& (7 : Int32)) = 0 then
    if l4 ≤ 7 then
      k_Pr_jump_50 a1 a2 s0 l3 l4
    else
      if l4 = 14 then
        k_Pr_jump_50 a1 a2 s0 l3 l4
      else
        some (s0, 2)
  else
    some (s0, 2)
def k_Pr_jump (s0 : zS) (a1 : Nat) (a2 : Int32) : Option (zS × Int32) :=
  lt (a2 >>> ((7 : Int32) &&& 31)) fun x1 =>
  lt ((a2 >>> ((3 : Int32) &&& 31)) &&& (15 : Int32)) fun x2 =>
  if x1 = 142 then
    k_Pr_jump_27 a1 a2 s0 x1 x2
  else
    if x1 = 143 then
      k_Pr_jump_27 a1 a2 s0 x1 x2
    else
      some (s0, 2)
-- GrantKernel$BoardProcess.mayLoad(I)Z
def k_BP_mayLoad_17 (p : Nat) (a1 : Int32) (s0 : zS) : Option (zS × Int32) :=
  some (s0, 1)
def k_BP_mayLoad (s0 : zS) (p : Nat) (a1 : Int32) : Option (zS × Int32) :=
  bn (k_BP_isInCode s0 p a1) fun (s1, r2) =>
  if r2 = 0 then
    bn (k_BP_areOpen s1 p a1 1) fun (s3, r4) =>
    if r4 = 0 then
      some (s3, 0)
    else
      k_BP_mayLoad_17 p a1 s3
  else
    k_BP_mayLoad_17 p a1 s1
-- GrantKernel$Memory.flashWord(I)I
def k_Me_flashWord_17 (a1 : Int32) (s0 : zS) : Option (zS × Int32) :=
  some (s0, 0)
def k_Me_flashWord (s0 : zS) (a1 : Int32) : Option (zS × Int32) :=
  lt (a1 >>> ((1 : Int32) &&& 31)) fun x1 =>
  if x1 < 0 then
    k_Me_flashWord_17 a1 s0
  else
    if (x1 + (1 : Int32)) < 256 then
      ck (zi x1 256) <|
      ck (zi (x1 + (1 : Int32)) 256) <|
      some (s0, (s0 2 0 x1.toNatClampNeg) ||| ((s0 2 0 (x1 + (1 : Int32)).toNatClampNeg) <<< ((16 : Int32) &&& 31)))
    else
      k_Me_flashWord_17 a1 s0
-- GrantKernel$BoardProcess.readWord(I)I
def k_BP_readWord (s0 : zS) (p : Nat) (a1 : Int32) : Option (zS × Int32) :=
  bn (k_BP_isInCode s0 p a1) fun (s1, r2) =>
  if r2 = 0 then
    bn (k_Me_ramWord s1 a1) fun (s3, r4) =>
    some (s3, r4)
  else
    bn (k_Me_flashWord s1 a1) fun (s5, r6) =>
    some (s5, r6)
-- GrantKernel$Processor.loadInto(LGrantKernel$BoardProcess;II)I
def k_Pr_loadInto (s0 : zS) (a1 : Nat) (a2 : Int32) (a3 : Int32) : Option (zS × Int32) :=
  if (a3 &&& (3 : Int32)) = 0 then
    bn (k_BP_mayLoad s0 a1 a3) fun (s1, r2) =>
    if r2 = 0 then
      some (s1, 4)
    else
      bn (k_BP_readWord s1 a1 a3) fun (s3, r4) =>
      ck (zi a2 8) <|
      lt (zu s3 12 a1 a2.toNatClampNeg r4) fun s5 =>
      some (s5, 0)
  else
    some (s0, 3)
-- GrantKernel$Processor.storeFrom(LGrantKernel$BoardProcess;II)I
def k_Pr_storeFrom (s0 : zS) (a1 : Nat) (a2 : Int32) (a3 : Int32) : Option (zS × Int32) :=
  if (a3 &&& (3 : Int32)) = 0 then
    bn (k_BP_areOpen s0 a1 a3 1) fun (s1, r2) =>
    if r2 = 0 then
      some (s1, 4)
    else
      ck (zi a2 8) <|
      bn (k_Me_setRamWord s1 a3 (s1 12 a1 a2.toNatClampNeg)) fun s3 =>
      some (s3, 0)
  else
    some (s0, 3)
-- GrantKernel$Processor.moveStack(LGrantKernel$BoardProcess;I)I
def k_Pr_moveStack_26 (a1 : Nat) (a2 : Int32) (s0 : zS) (t0 : Int32) (t1 : Int32) (t2 : Nat) : Option (zS × Int32) :=
  lt (zu s0 11 t2 11 (t1 + t0)) fun s2 =>
  some (s2, 0)
def k_Pr_moveStack (s0 : zS) (a1 : Nat) (a2 : Int32) : Option (zS × Int32) :=
  lt ((4 : Int32) * (a2 &&& (127 : Int32))) fun x1 =>
  if (a2 &&& (128 : Int32)) = 0 then
    k_Pr_moveStack_26 a1 a2 s0 x1 (s0 11 a1 11) a1
  else
    k_Pr_moveStack_26 a1 a2 s0 (-x1) (s0 11 a1 11) a1
-- java/lang/Integer.bitCount(I)I
def k_JI_bitCount (s0 : zS) (a1 : Int32) : Option (zS × Int32) :=
  lt (a1 - (((a1.toUInt32 >>> ((1 : Int32).toUInt32 &&& Int32.toUInt32 31)).toInt32) &&& (1431655765 : Int32))) fun x1 =>
  lt ((x1 &&& (858993459 : Int32)) + (((x1.toUInt32 >>> ((2 : Int32).toUInt32 &&& Int32.toUInt32 31)).toInt32) &&& (858993459 : Int32))) fun x2 =>
  lt ((x2 + ((x2.toUInt32 >>> ((4 : Int32).toUInt32 &&& Int32.toUInt32 31)).toInt32)) &&& (252645135 : Int32)) fun x3 =>
  lt (x3 + ((x3.toUInt32 >>> ((8 : Int32).toUInt32 &&& Int32.toUInt32 31)).toInt32)) fun x4 =>
  lt (x4 + ((x4.toUInt32 >>> ((16 : Int32).toUInt32 &&& Int32.toUInt32 31)).toInt32)) fun x5 =>
  some (s0, x5 &&& (63 : Int32))
-- GrantKernel$Processor.push(LGrantKernel$BoardProcess;I)I
def k_Pr_push_89 (a1 : Nat) (a2 : Int32) (K53 : zS → Int32 → Int32 → Int32 → Option (zS × Int32)) (s0 : zS) (l4 : Int32) (l5 : Int32) (l6 : Int32) : Option (zS × Int32) :=
  lt (l6 + 1) fun x10 =>
  K53 s0 l4 l5 x10
def k_Pr_push_116 (a1 : Nat) (a2 : Int32) (s0 : zS) (l4 : Int32) : Option (zS × Int32) :=
  lt (zu s0 11 a1 11 l4) fun s9 =>
  some (s9, 0)
def k_Pr_push_53 (a1 : Nat) (a2 : Int32) : Nat → zS → Int32 → Int32 → Int32 → Option (zS × Int32)
  | 0, _, _, _, _ => none
  | n + 1, s0, l4, l5, l6 =>
    if 8 ≤ l6 then
      if (a2 &&& (256 : Int32)) = 0 then
        k_Pr_push_116 a1 a2 s0 l4
      else
        bn (k_Me_setRamWord s0 l5 (s0 11 a1 12)) fun s6 =>
        k_Pr_push_116 a1 a2 s6 l4
    else
      if ((a2 >>> (l6 &&& 31)) &&& (1 : Int32)) = 1 then
        ck (zi l6 8) <|
        bn (k_Me_setRamWord s0 l5 (s0 12 a1 l6.toNatClampNeg)) fun s7 =>
        lt (l5 + 4) fun x8 =>
        k_Pr_push_89 a1 a2 (k_Pr_push_53 a1 a2 n) s7 l4 x8 l6
      else
        k_Pr_push_89 a1 a2 (k_Pr_push_53 a1 a2 n) s0 l4 l5 l6
def k_Pr_push_46 (a1 : Nat) (a2 : Int32) (s0 : zS) (l4 : Int32) : Option (zS × Int32) :=
  k_Pr_push_53 a1 a2 FU s0 l4 l4 0
def k_Pr_push (s0 : zS) (a1 : Nat) (a2 : Int32) : Option (zS × Int32) :=
  if (a2 >>> ((9 : Int32) &&& 31)) = 90 then
    bn (k_JI_bitCount s0 (a2 &&& (511 : Int32))) fun (s1, r2) =>
    lt ((s1 11 a1 11) - ((4 : Int32) * r2)) fun x3 =>
    if r2 ≤ 0 then
      k_Pr_push_46 a1 a2 s1 x3
    else
      bn (k_BP_areOpen s1 a1 x3 r2) fun (s4, r5) =>
      if r5 = 0 then
        some (s4, 4)
      else
        k_Pr_push_46 a1 a2 s4 x3
  else
    some (s0, 2)
-- GrantKernel$Processor.pop(LGrantKernel$BoardProcess;I)I
def k_Pr_pop_140 (a1 : Nat) (a2 : Int32) (K107 : zS → Int32 → Int32 → Int32 → Option (zS × Int32)) (s0 : zS) (l4 : Int32) (l5 : Int32) (l6 : Int32) : Option (zS × Int32) :=
  lt (l6 + 1) fun x16 =>
  K107 s0 l4 l5 x16
def k_Pr_pop_107 (a1 : Nat) (a2 : Int32) : Nat → zS → Int32 → Int32 → Int32 → Option (zS × Int32)
  | 0, _, _, _, _ => none
  | n + 1, s0, l4, l5, l6 =>
    if 8 ≤ l6 then
      lt (zu s0 11 a1 11 l4) fun s11 =>
      some (s11, 0)
    else
      if ((a2 >>> (l6 &&& 31)) &&& (1 : Int32)) = 1 then
        bn (k_BP_readWord s0 a1 l5) fun (s12, r13) =>
        ck (zi l6 8) <|
        lt (zu s12 12 a1 l6.toNatClampNeg r13) fun s14 =>
        lt (l5 + 4) fun x15 =>
        k_Pr_pop_140 a1 a2 (k_Pr_pop_107 a1 a2 n) s14 l4 x15 l6
      else
        k_Pr_pop_140 a1 a2 (k_Pr_pop_107 a1 a2 n) s0 l4 l5 l6
def k_Pr_pop_98 (a1 : Nat) (a2 : Int32) (s0 : zS) (l4 : Int32) : Option (zS × Int32) :=
  lt (s0 11 a1 11) fun x10 =>
  k_Pr_pop_107 a1 a2 FU s0 l4 x10 0
def k_Pr_pop_23 (a1 : Nat) (a2 : Int32) : Nat → zS → Int32 → Int32 → Option (zS × Int32)
  | 0, _, _, _ => none
  | n + 1, s0, l3, l4 =>
    if l3 ≤ l4 then
      lt ((s0 11 a1 11) + ((4 : Int32) * l3)) fun x3 =>
      if (a2 &&& (256 : Int32)) = 0 then
        k_Pr_pop_98 a1 a2 s0 x3
      else
        bn (k_BP_readWord s0 a1 (x3 - (4 : Int32))) fun (s4, r5) =>
        if (r5 &&& (1 : Int32)) = 0 then
          some (s4, 5)
        else
          lt (zu s4 10 0 1 (r5 - (1 : Int32))) fun s6 =>
          k_Pr_pop_98 a1 a2 s6 x3
    else
      bn (k_BP_mayLoad s0 a1 ((s0 11 a1 11) + ((4 : Int32) * l4))) fun (s7, r8) =>
      if r8 = 0 then
        some (s7, 4)
      else
        lt (l4 + 1) fun x9 =>
        k_Pr_pop_23 a1 a2 n s7 l3 x9
def k_Pr_pop (s0 : zS) (a1 : Nat) (a2 : Int32) : Option (zS × Int32) :=
  if (a2 >>> ((9 : Int32) &&& 31)) = 94 then
    bn (k_JI_bitCount s0 (a2 &&& (511 : Int32))) fun (s1, r2) =>
    k_Pr_pop_23 a1 a2 FU s1 r2 0
  else
    some (s0, 2)
-- GrantKernel$Processor.holds(II)Z
def k_Pr_holds_50 (a1 : Int32) (a2 : Int32) (s0 : zS) (l3 : Int32) (l4 : Int32) (l5 : Int32) (t0 : Int32) : Option (zS × Int32) :=
  if a2 = 0 then
    ck (zb l3) <|
    some (s0, l3)
  else
  if a2 = 1 then
    ck (zb l4) <|
    some (s0, l4)
  else
  if a2 = 2 then
    ck (zb l5) <|
    some (s0, l5)
  else
  if a2 = 3 then
    ck (zb t0) <|
    some (s0, t0)
  else
  if a2 = 4 then
    if l4 = 0 then
      some (s0, 0)
    else
      if l3 = 0 then
        some (s0, 1)
      else
        some (s0, 0)
  else
  if a2 = 5 then
    if l5 = t0 then
      some (s0, 1)
    else
      some (s0, 0)
  else
  if l3 = 0 then
    if l5 = t0 then
      some (s0, 1)
    else
      some (s0, 0)
  else
    some (s0, 0)
def k_Pr_holds_37 (a1 : Int32) (a2 : Int32) (s0 : zS) (l3 : Int32) (l4 : Int32) (t0 : Int32) : Option (zS × Int32) :=
  if (a1 &&& (1 : Int32)) = 0 then
    k_Pr_holds_50 a1 a2 s0 l3 l4 t0 0
  else
    k_Pr_holds_50 a1 a2 s0 l3 l4 t0 1
def k_Pr_holds_23 (a1 : Int32) (a2 : Int32) (s0 : zS) (l3 : Int32) (t0 : Int32) : Option (zS × Int32) :=
  if (a1 &&& (8 : Int32)) = 0 then
    k_Pr_holds_37 a1 a2 s0 l3 t0 0
  else
    k_Pr_holds_37 a1 a2 s0 l3 t0 1
def k_Pr_holds_11 (a1 : Int32) (a2 : Int32) (s0 : zS) (t0 : Int32) : Option (zS × Int32) :=
  if (a1 &&& (2 : Int32)) = 0 then
    k_Pr_holds_23 a1 a2 s0 t0 0
  else
    k_Pr_holds_23 a1 a2 s0 t0 1
def k_Pr_holds (s0 : zS) (a1 : Int32) (a2 : Int32) : Option (zS × Int32) :=
  if (a1 &&& (4 : Int32)) = 0 then
    k_Pr_holds_11 a1 a2 s0 0
  else
    k_Pr_holds_11 a1 a2 s0 1
-- GrantKernel$Processor.branchIf(LGrantKernel$BoardProcess;I)I
def k_Pr_branchIf_43 (a1 : Nat) (a2 : Int32) (s0 : zS) (l3 : Int32) (t0 : Int32) : Option (zS × Int32) :=
  bn (k_Pr_holds s0 (s0 11 a1 14) (l3 >>> ((1 : Int32) &&& 31))) fun (s2, r3) =>
  if r3 = t0 then
    lt (zu s2 10 0 1 (((s2 11 a1 13) + (4 : Int32)) + ((2 : Int32) * ((a2 &&& (255 : Int32)) - ((a2 &&& (128 : Int32)) <<< ((1 : Int32) &&& 31)))))) fun s4 =>
    some (s4, 0)
  else
    some (s2, 0)
def k_Pr_branchIf (s0 : zS) (a1 : Nat) (a2 : Int32) : Option (zS × Int32) :=
  lt ((a2 >>> ((8 : Int32) &&& 31)) &&& (15 : Int32)) fun x1 =>
  if x1 = 15 then
    some (s0, (256 : Int32) + (a2 &&& (255 : Int32)))
  else
    if x1 = 14 then
      some (s0, 2)
    else
      if (x1 &&& (1 : Int32)) = 0 then
        k_Pr_branchIf_43 a1 a2 s0 x1 1
      else
        k_Pr_branchIf_43 a1 a2 s0 x1 0
-- GrantKernel$Processor.dispatch(LGrantKernel$BoardProcess;I)I
def k_Pr_dispatch (s0 : zS) (a1 : Nat) (a2 : Int32) : Option (zS × Int32) :=
  lt ((a2 >>> ((8 : Int32) &&& 31)) &&& (7 : Int32)) fun x1 =>
  lt ((4 : Int32) * (a2 &&& (255 : Int32))) fun x2 =>
  if (a2 >>> ((11 : Int32) &&& 31)) = 0 ∨ (a2 >>> ((11 : Int32) &&& 31)) = 1 ∨ (a2 >>> ((11 : Int32) &&& 31)) = 2 then
    bn (k_Pr_shiftByNumber s0 a1 a2) fun (s3, r4) =>
    some (s3, r4)
  else
  if (a2 >>> ((11 : Int32) &&& 31)) = 3 then
    bn (k_Pr_addThree s0 a1 a2) fun (s5, r6) =>
    some (s5, r6)
  else
  if (a2 >>> ((11 : Int32) &&& 31)) = 4 ∨ (a2 >>> ((11 : Int32) &&& 31)) = 5 ∨ (a2 >>> ((11 : Int32) &&& 31)) = 6 ∨ (a2 >>> ((11 : Int32) &&& 31)) = 7 then
    bn (k_Pr_withByte s0 a1 a2) fun (s7, r8) =>
    some (s7, r8)
  else
  if (a2 >>> ((11 : Int32) &&& 31)) = 8 then
    if (a2 >>> ((10 : Int32) &&& 31)) = 16 then
      bn (k_Pr_combine s0 a1 a2) fun (s11, r12) =>
      some (s11, r12)
    else
      bn (k_Pr_jump s0 a1 a2) fun (s9, r10) =>
      some (s9, r10)
  else
  if (a2 >>> ((11 : Int32) &&& 31)) = 9 then
    bn (k_Pr_loadInto s0 a1 x1 ((((s0 11 a1 13) + (4 : Int32)) &&& (-4 : Int32)) + x2)) fun (s13, r14) =>
    some (s13, r14)
  else
  if (a2 >>> ((11 : Int32) &&& 31)) = 12 then
    ck (zi ((a2 >>> ((3 : Int32) &&& 31)) &&& (7 : Int32)) 8) <|
    bn (k_Pr_storeFrom s0 a1 (a2 &&& (7 : Int32)) ((s0 12 a1 ((a2 >>> ((3 : Int32) &&& 31)) &&& (7 : Int32)).toNatClampNeg) + ((4 : Int32) * ((a2 >>> ((6 : Int32) &&& 31)) &&& (31 : Int32))))) fun (s15, r16) =>
    some (s15, r16)
  else
  if (a2 >>> ((11 : Int32) &&& 31)) = 13 then
    ck (zi ((a2 >>> ((3 : Int32) &&& 31)) &&& (7 : Int32)) 8) <|
    bn (k_Pr_loadInto s0 a1 (a2 &&& (7 : Int32)) ((s0 12 a1 ((a2 >>> ((3 : Int32) &&& 31)) &&& (7 : Int32)).toNatClampNeg) + ((4 : Int32) * ((a2 >>> ((6 : Int32) &&& 31)) &&& (31 : Int32))))) fun (s17, r18) =>
    some (s17, r18)
  else
  if (a2 >>> ((11 : Int32) &&& 31)) = 18 then
    bn (k_Pr_storeFrom s0 a1 x1 ((s0 11 a1 11) + x2)) fun (s19, r20) =>
    some (s19, r20)
  else
  if (a2 >>> ((11 : Int32) &&& 31)) = 19 then
    bn (k_Pr_loadInto s0 a1 x1 ((s0 11 a1 11) + x2)) fun (s21, r22) =>
    some (s21, r22)
  else
  if (a2 >>> ((11 : Int32) &&& 31)) = 21 then
    ck (zi x1 8) <|
    lt (zu s0 12 a1 x1.toNatClampNeg ((s0 11 a1 11) + x2)) fun s23 =>
    some (s23, 0)
  else
  if (a2 >>> ((11 : Int32) &&& 31)) = 22 then
    if (a2 >>> ((8 : Int32) &&& 31)) = 176 then
      bn (k_Pr_moveStack s0 a1 a2) fun (s26, r27) =>
      some (s26, r27)
    else
      bn (k_Pr_push s0 a1 a2) fun (s24, r25) =>
      some (s24, r25)
  else
  if (a2 >>> ((11 : Int32) &&& 31)) = 23 then
    bn (k_Pr_pop s0 a1 a2) fun (s28, r29) =>
    some (s28, r29)
  else
  if (a2 >>> ((11 : Int32) &&& 31)) = 26 ∨ (a2 >>> ((11 : Int32) &&& 31)) = 27 then
    bn (k_Pr_branchIf s0 a1 a2) fun (s30, r31) =>
    some (s30, r31)
  else
  if (a2 >>> ((11 : Int32) &&& 31)) = 28 then
    lt (zu s0 10 0 1 (((s0 11 a1 13) + (4 : Int32)) + ((2 : Int32) * ((a2 &&& (2047 : Int32)) - ((a2 &&& (1024 : Int32)) <<< ((1 : Int32) &&& 31)))))) fun s32 =>
    some (s32, 0)
  else
  some (s0, 2)
-- GrantKernel$Processor.execute(LGrantKernel$BoardProcess;)I
def k_Pr_execute (s0 : zS) (a1 : Nat) : Option (zS × Int32) :=
  bn (k_BP_isInCode s0 a1 (s0 11 a1 13)) fun (s1, r2) =>
  if r2 = 0 then
    some (s1, 1)
  else
    if ((s1 11 a1 13) &&& (1 : Int32)) = 0 then
      lt (zu s1 10 0 1 ((s1 11 a1 13) + (2 : Int32))) fun s3 =>
      bn (k_Me_halfword s3 (s3 11 a1 13)) fun (s4, r5) =>
      bn (k_Pr_dispatch s4 a1 r5) fun (s6, r7) =>
      if r7 = 0 then
        lt (zu s6 11 a1 13 (s6 10 0 1)) fun s8 =>
        some (s8, r7)
      else
        some (s6, r7)
    else
      some (s1, 1)
-- GrantKernel.doInstruction(LGrantKernel$BoardProcess;)I
def k_GK_doInstruction_17 (a1 : Nat) (s0 : zS) : Option (zS × Int32) :=
  bn (k_Pr_execute s0 a1) fun (s3, r4) =>
  some (s3, r4)
def k_GK_doInstruction (s0 : zS) (a1 : Nat) : Option (zS × Int32) :=
  if (s0 11 a1 15) = 0 then
    k_GK_doInstruction_17 a1 s0
  else
    bn (k_BP_takeFrame s0 a1) fun (s1, r2) =>
    if r2 = 0 then
      some (s1, 6)
    else
      k_GK_doInstruction_17 a1 s1
-- GrantKernel$BoardProcess.setFrameWord(II)V
def k_BP_setFrameWord (s0 : zS) (p : Nat) (a1 : Int32) (a2 : Int32) : Option (zS) :=
  bn (k_Me_setRamWord s0 ((s0 11 p 11) + ((4 : Int32) * a1)) a2) fun s1 =>
  some s1
-- GrantKernel$BoardProcess.stackFrame(I)Z
def k_BP_stackFrame_44 (p : Nat) (a1 : Int32) : Nat → zS → Int32 → Int32 → Option (zS × Int32)
  | 0, _, _, _ => none
  | n + 1, s0, l3, l4 =>
    if 4 ≤ l4 then
      bn (k_BP_setFrameWord s0 p 4 0) fun s6 =>
      bn (k_BP_setFrameWord s6 p 5 (s6 11 p 12)) fun s7 =>
      bn (k_BP_setFrameWord s7 p 6 a1) fun s8 =>
      bn (k_BP_setFrameWord s8 p 7 ((((s8 11 p 14) <<< ((28 : Int32) &&& 31)) + (16777216 : Int32)) + l3)) fun s9 =>
      lt (zu s9 11 p 15 1) fun s10 =>
      some (s10, 1)
    else
      ck (zi l4 8) <|
      bn (k_BP_setFrameWord s0 p l4 (s0 12 p l4.toNatClampNeg)) fun s11 =>
      lt (l4 + 1) fun x12 =>
      k_BP_stackFrame_44 p a1 n s11 l3 x12
def k_BP_stackFrame_24 (p : Nat) (a1 : Int32) (s0 : zS) (l2 : Int32) (l3 : Int32) : Option (zS × Int32) :=
  bn (k_BP_areOpen s0 p l2 8) fun (s3, r4) =>
  if r4 = 0 then
    some (s3, 0)
  else
    lt (zu s3 11 p 11 l2) fun s5 =>
    k_BP_stackFrame_44 p a1 FU s5 l3 0
def k_BP_stackFrame (s0 : zS) (p : Nat) (a1 : Int32) : Option (zS × Int32) :=
  lt ((s0 11 p 11) - (32 : Int32)) fun x1 =>
  if (x1 &&& (7 : Int32)) = 0 then
    k_BP_stackFrame_24 p a1 s0 x1 0
  else
    lt (x1 + (-4)) fun x2 =>
    k_BP_stackFrame_24 p a1 s0 x2 512
-- GrantKernel$UpcallQueue.move(II)V
def k_UQ_move (s0 : zS) (p : Nat) (a1 : Int32) (a2 : Int32) : Option (zS) :=
  ck (zi a1 4) <|
  ck (zi a2 4) <|
  lt (zu s0 20 p a2.toNatClampNeg (s0 20 p a1.toNatClampNeg)) fun s1 =>
  ck (zi a1 4) <|
  ck (zi a2 4) <|
  lt (zu s1 21 p a2.toNatClampNeg (s1 21 p a1.toNatClampNeg)) fun s2 =>
  ck (zi a1 4) <|
  ck (zi a2 4) <|
  lt (zu s2 22 p a2.toNatClampNeg (s2 22 p a1.toNatClampNeg)) fun s3 =>
  some s3
-- GrantKernel$UpcallQueue.removeOldest()V
def k_UQ_removeOldest_2 (p : Nat) : Nat → zS → Int32 → Option (zS)
  | 0, _, _ => none
  | n + 1, s0, l1 =>
    if (s0 19 p 3) ≤ l1 then
      lt (zu s0 19 p 3 (zmax ((s0 19 p 3) - (1 : Int32)) 0)) fun s1 =>
      some s1
    else
      bn (k_UQ_move s0 p l1 (l1 - (1 : Int32))) fun s2 =>
      lt (l1 + 1) fun x3 =>
      k_UQ_removeOldest_2 p n s2 x3
def k_UQ_removeOldest (s0 : zS) (p : Nat) : Option (zS) :=
  k_UQ_removeOldest_2 p FU s0 1
-- GrantKernel$Kernel.waitForUpcall(LGrantKernel$BoardProcess;)V
def k_Ke_waitForUpcall (s0 : zS) (a1 : Nat) : Option (zS) :=
  lt (zu s0 11 a1 16 1) fun s1 =>
  if (s1 19 a1 3) ≤ 0 then
    some s1
  else
    ck (zi 0 4) <|
    lt (s1 20 a1 (0 : Int32).toNatClampNeg) fun x2 =>
    ck (zi 0 4) <|
    lt (s1 21 a1 (0 : Int32).toNatClampNeg) fun x3 =>
    ck (zi 0 4) <|
    lt (s1 22 a1 (0 : Int32).toNatClampNeg) fun x4 =>
    bn (k_UQ_removeOldest s1 a1) fun s5 =>
    bn (k_Ke_upcall s5 a1 x2 x3 x4) fun s6 =>
    some s6
-- GrantKernel$BoardProcess.openWordsBefore(I)I
def k_BP_openWordsBefore (s0 : zS) (p : Nat) (a1 : Int32) : Option (zS × Int32) :=
  some (s0, ((s0 11 p 6) - a1) &&& (-((s0 11 p 6) >>> ((3 : Int32) &&& 31))))
-- GrantKernel$Notes.buffersEndBy(I)Z
def k_No_buffersEndBy_34 (p : Nat) (a1 : Int32) (K2 : zS → Int32 → Option (zS × Int32)) (s0 : zS) (l2 : Int32) : Option (zS × Int32) :=
  lt (l2 + 1) fun x2 =>
  K2 s0 x2
def k_No_buffersEndBy_2 (p : Nat) (a1 : Int32) : Nat → zS → Int32 → Option (zS × Int32)
  | 0, _, _ => none
  | n + 1, s0, l2 =>
    if 3 ≤ l2 then
      some (s0, 1)
    else
      ck (zi l2 3) <|
      lt (s0 18 p l2.toNatClampNeg) fun x1 =>
      if x1 ≤ 0 then
        k_No_buffersEndBy_34 p a1 (k_No_buffersEndBy_2 p a1 n) s0 l2
      else
        ck (zi l2 3) <|
        if ((s0 17 p l2.toNatClampNeg) + ((4 : Int32) * x1)) ≤ a1 then
          k_No_buffersEndBy_34 p a1 (k_No_buffersEndBy_2 p a1 n) s0 l2
        else
          some (s0, 0)
def k_No_buffersEndBy (s0 : zS) (p : Nat) (a1 : Int32) : Option (zS × Int32) :=
  k_No_buffersEndBy_2 p a1 FU s0 0
-- GrantKernel$Kernel.makeGrant(LGrantKernel$BoardProcess;I)Z
def k_Ke_makeGrant (s0 : zS) (a1 : Nat) (a2 : Int32) : Option (zS × Int32) :=
  lt ((s0 13 a1 6) + (2 : Int32)) fun x1 =>
  bn (k_BP_openWordsBefore s0 a1 x1) fun (s2, r3) =>
  if r3 < (s2 11 a1 7) then
    some (s2, 0)
  else
    bn (k_No_buffersEndBy s2 a1 ((s2 11 a1 5) + ((4 : Int32) * r3))) fun (s4, r5) =>
    if r5 = 0 then
      some (s4, 0)
    else
      lt ((s4 11 a1 5) + ((4 : Int32) * ((s4 11 a1 6) - x1))) fun x6 =>
      lt (zu s4 11 a1 8 r3) fun s7 =>
      lt (zu s7 13 a1 6 x1) fun s8 =>
      ck (zi a2 3) <|
      lt (zu s8 14 a1 a2.toNatClampNeg x6) fun s9 =>
      bn (k_Me_clearRam s9 x6 2) fun s10 =>
      some (s10, 1)
-- GrantKernel$UpcallQueue.removeDriver(I)V
def k_UQ_removeDriver_31 (p : Nat) (a1 : Int32) (K4 : zS → Int32 → Int32 → Option (zS)) (s0 : zS) (l2 : Int32) (l3 : Int32) : Option (zS) :=
  lt (l3 + 1) fun x4 =>
  K4 s0 l2 x4
def k_UQ_removeDriver_4 (p : Nat) (a1 : Int32) : Nat → zS → Int32 → Int32 → Option (zS)
  | 0, _, _, _ => none
  | n + 1, s0, l2, l3 =>
    if (s0 19 p 3) ≤ l3 then
      lt (zu s0 19 p 3 l2) fun s1 =>
      some s1
    else
      ck (zi l3 4) <|
      if (s0 20 p l3.toNatClampNeg) = a1 then
        k_UQ_removeDriver_31 p a1 (k_UQ_removeDriver_4 p a1 n) s0 l2 l3
      else
        bn (k_UQ_move s0 p l3 l2) fun s2 =>
        lt (l2 + 1) fun x3 =>
        k_UQ_removeDriver_31 p a1 (k_UQ_removeDriver_4 p a1 n) s2 x3 l3
def k_UQ_removeDriver (s0 : zS) (p : Nat) (a1 : Int32) : Option (zS) :=
  k_UQ_removeDriver_4 p a1 FU s0 0 0
-- GrantKernel$Kernel.subscribe(LGrantKernel$Notes;III)I
def k_Ke_subscribe (s0 : zS) (a1 : Nat) (a2 : Int32) (a3 : Int32) (a4 : Int32) : Option (zS × Int32) :=
  ck (zi a2 3) <|
  lt (zu s0 15 a1 a2.toNatClampNeg a3) fun s1 =>
  ck (zi a2 3) <|
  lt (zu s1 16 a1 a2.toNatClampNeg a4) fun s2 =>
  bn (k_UQ_removeDriver s2 a1 a2) fun s3 =>
  some (s3, 0)
-- GrantKernel$Kernel.allow(LGrantKernel$BoardProcess;III)I
def k_Ke_allow_41 (a1 : Nat) (a2 : Int32) (a3 : Int32) (a4 : Int32) (s0 : zS) : Option (zS × Int32) :=
  ck (zi a2 3) <|
  lt (zu s0 17 a1 a2.toNatClampNeg a3) fun s3 =>
  ck (zi a2 3) <|
  lt (zu s3 18 a1 a2.toNatClampNeg a4) fun s4 =>
  some (s4, 0)
def k_Ke_allow_11 (a1 : Nat) (a2 : Int32) (a3 : Int32) (a4 : Int32) (s0 : zS) (t0 : Int32) : Option (zS × Int32) :=
  if a4 < 0 then
    some (s0, (-3))
  else
    if a4 ≤ 0 then
      k_Ke_allow_41 a1 a2 a3 a4 s0
    else
      if t0 = 0 then
        some (s0, (-3))
      else
        bn (k_BP_areOpen s0 a1 a3 a4) fun (s1, r2) =>
        if r2 = 0 then
          some (s1, (-3))
        else
          k_Ke_allow_41 a1 a2 a3 a4 s1
def k_Ke_allow (s0 : zS) (a1 : Nat) (a2 : Int32) (a3 : Int32) (a4 : Int32) : Option (zS × Int32) :=
  if (a3 &&& (3 : Int32)) = 0 then
    k_Ke_allow_11 a1 a2 a3 a4 s0 1
  else
    k_Ke_allow_11 a1 a2 a3 a4 s0 0
-- GrantKernel$Kernel.setAlarm(II)I
def k_Ke_setAlarm (s0 : zS) (a1 : Int32) (a2 : Int32) : Option (zS × Int32) :=
  if a2 < 1 then
    some (s0, (-3))
  else
    if a2 ≤ 1000 then
      bn (k_Me_setRamWord s0 a1 1) fun s1 =>
      bn (k_Me_setRamWord s1 (a1 + (4 : Int32)) ((s1 8 0 3) + a2)) fun s2 =>
      some (s2, 0)
    else
      some (s0, (-3))
-- GrantKernel$Kernel.cancelAlarm(I)I
def k_Ke_cancelAlarm (s0 : zS) (a1 : Int32) : Option (zS × Int32) :=
  bn (k_Me_ramWord s0 a1) fun (s1, r2) =>
  bn (k_Me_setRamWord s1 a1 0) fun s3 =>
  some (s3, r2)
-- GrantKernel$Kernel.commandAlarm(LGrantKernel$BoardProcess;II)I
def k_Ke_commandAlarm (s0 : zS) (a1 : Nat) (a2 : Int32) (a3 : Int32) : Option (zS × Int32) :=
  ck (zi 0 3) <|
  lt (s0 14 a1 (0 : Int32).toNatClampNeg) fun x1 =>
  if a2 = 1 then
    bn (k_Ke_setAlarm s0 x1 a3) fun (s2, r3) =>
    some (s2, r3)
  else
  if a2 = 2 then
    bn (k_Ke_cancelAlarm s0 x1) fun (s4, r5) =>
    some (s4, r5)
  else
  if a2 = 3 then
    some (s0, s0 8 0 3)
  else
  some (s0, (-1))
-- GrantKernel$Console.addOutput(I)V
def k_Co_addOutput (s0 : zS) (a1 : Int32) : Option (zS) :=
  ck (zi ((s0 5 0 3) &&& (15 : Int32)) 16) <|
  lt (zu s0 7 0 ((s0 5 0 3) &&& (15 : Int32)).toNatClampNeg a1) fun s1 =>
  lt (zu s1 5 0 3 ((s1 5 0 3) + (1 : Int32))) fun s2 =>
  some s2
-- GrantKernel$Kernel.putOut(LGrantKernel$BoardProcess;I)I
def k_Ke_putOut_28 (a1 : Nat) (a2 : Int32) : Nat → zS → Int32 → Int32 → Int32 → Option (zS × Int32)
  | 0, _, _, _, _ => none
  | n + 1, s0, l3, l4, l5 =>
    if l3 ≤ l5 then
      ck (zi 1 3) <|
      lt ((s0 14 a1 (1 : Int32).toNatClampNeg) + (4 : Int32)) fun x3 =>
      bn (k_Me_ramWord s0 x3) fun (s4, r5) =>
      bn (k_Me_setRamWord s4 x3 (r5 + l3)) fun s6 =>
      bn (k_Ke_upcall s6 a1 1 l3 0) fun s7 =>
      some (s7, 0)
    else
      bn (k_Me_ramWord s0 (l4 + ((4 : Int32) * l5))) fun (s8, r9) =>
      bn (k_Co_addOutput s8 r9) fun s10 =>
      lt (l5 + 1) fun x11 =>
      k_Ke_putOut_28 a1 a2 n s10 l3 l4 x11
def k_Ke_putOut (s0 : zS) (a1 : Nat) (a2 : Int32) : Option (zS × Int32) :=
  ck (zi 1 3) <|
  lt (zmin a2 (s0 18 a1 (1 : Int32).toNatClampNeg)) fun x1 =>
  ck (zi 1 3) <|
  lt (s0 17 a1 (1 : Int32).toNatClampNeg) fun x2 =>
  k_Ke_putOut_28 a1 a2 FU s0 x1 x2 0
-- GrantKernel$Console.removeInput()I
def k_Co_removeInput_9  : Nat → zS → Int32 → Int32 → Option (zS × Int32)
  | 0, _, _, _ => none
  | n + 1, s0, l1, l2 =>
    if (s0 5 0 2) ≤ l2 then
      lt (zu s0 5 0 2 (zmax ((s0 5 0 2) - (1 : Int32)) 0)) fun s2 =>
      some (s2, l1)
    else
      ck (zi l2 8) <|
      ck (zi (l2 - (1 : Int32)) 8) <|
      lt (zu s0 6 0 (l2 - (1 : Int32)).toNatClampNeg (s0 6 0 l2.toNatClampNeg)) fun s3 =>
      lt (l2 + 1) fun x4 =>
      k_Co_removeInput_9 n s3 l1 x4
def k_Co_removeInput (s0 : zS)  : Option (zS × Int32) :=
  ck (zi 0 8) <|
  lt (s0 6 0 (0 : Int32).toNatClampNeg) fun x1 =>
  k_Co_removeInput_9 FU s0 x1 1
-- GrantKernel$Kernel.receive(LGrantKernel$BoardProcess;I)V
def k_Ke_receive_29 (a1 : Nat) (a2 : Int32) (s0 : zS) : Option (zS) :=
  ck (zi 1 3) <|
  bn (k_Me_setRamWord s0 (s0 14 a1 (1 : Int32).toNatClampNeg) 0) fun s2 =>
  bn (k_Ke_upcall s2 a1 1 a2 1) fun s3 =>
  some s3
def k_Ke_receive (s0 : zS) (a1 : Nat) (a2 : Int32) : Option (zS) :=
  ck (zi 1 3) <|
  if (s0 18 a1 (1 : Int32).toNatClampNeg) ≤ 0 then
    k_Ke_receive_29 a1 a2 s0
  else
    ck (zi 1 3) <|
    bn (k_Me_setRamWord s0 (s0 17 a1 (1 : Int32).toNatClampNeg) a2) fun s1 =>
    k_Ke_receive_29 a1 a2 s1
-- GrantKernel$Kernel.commandConsole(LGrantKernel$BoardProcess;II)I
def k_Ke_commandConsole (s0 : zS) (a1 : Nat) (a2 : Int32) (a3 : Int32) : Option (zS × Int32) :=
  if a2 = 1 then
    if 0 ≤ a3 then
      bn (k_Ke_putOut s0 a1 a3) fun (s1, r2) =>
      some (s1, r2)
    else
      some (s0, (-3))
  else
  if a2 = 2 then
    bn (k_Ke_isPending s0 a1 1) fun (s3, r4) =>
    if r4 = 0 then
      if (s3 5 0 2) ≤ 0 then
        ck (zi 1 3) <|
        bn (k_Me_setRamWord s3 (s3 14 a1 (1 : Int32).toNatClampNeg) 1) fun s5 =>
        some (s5, 0)
      else
        bn (k_Co_removeInput s3) fun (s6, r7) =>
        bn (k_Ke_receive s6 a1 r7) fun s8 =>
        some (s8, 0)
    else
      some (s3, (-5))
  else
  some (s0, (-1))
-- GrantKernel$Kernel.commandSensor(LGrantKernel$BoardProcess;I)I
def k_Ke_commandSensor (s0 : zS) (a1 : Nat) (a2 : Int32) : Option (zS × Int32) :=
  if a2 = 1 then
    bn (k_Ke_isPending s0 a1 2) fun (s1, r2) =>
    if r2 = 0 then
      ck (zi 2 3) <|
      bn (k_Me_setRamWord s1 (s1 14 a1 (2 : Int32).toNatClampNeg) 1) fun s3 =>
      some (s3, 0)
    else
      some (s1, (-5))
  else
    some (s0, (-1))
-- GrantKernel$Kernel.answer(LGrantKernel$BoardProcess;I)I
def k_Ke_answer_70 (a1 : Nat) (a2 : Int32) (s0 : zS) (l3 : Int32) (l4 : Int32) (l5 : Int32) : Option (zS × Int32) :=
  if a2 = 1 then
    bn (k_Ke_subscribe s0 a1 l3 l4 l5) fun (s16, r17) =>
    some (s16, r17)
  else
    if a2 = 3 then
      bn (k_Ke_allow s0 a1 l3 l4 l5) fun (s14, r15) =>
      some (s14, r15)
    else
      if l4 = 0 then
        some (s0, 0)
      else
        if l3 = 0 then
          bn (k_Ke_commandAlarm s0 a1 l4 l5) fun (s8, r9) =>
          some (s8, r9)
        else
        if l3 = 1 then
          bn (k_Ke_commandConsole s0 a1 l4 l5) fun (s10, r11) =>
          some (s10, r11)
        else
        bn (k_Ke_commandSensor s0 a1 l4) fun (s12, r13) =>
        some (s12, r13)
def k_Ke_answer (s0 : zS) (a1 : Nat) (a2 : Int32) : Option (zS × Int32) :=
  ck (zi 0 8) <|
  lt (s0 12 a1 (0 : Int32).toNatClampNeg) fun x1 =>
  ck (zi 1 8) <|
  lt (s0 12 a1 (1 : Int32).toNatClampNeg) fun x2 =>
  ck (zi 2 8) <|
  lt (s0 12 a1 (2 : Int32).toNatClampNeg) fun x3 =>
  if a2 < 1 then
    some (s0, (-1))
  else
    if a2 ≤ 3 then
      if x1 < 0 then
        some (s0, (-2))
      else
        if x1 < 3 then
          bn (k_No_hasGrant s0 a1 x1) fun (s4, r5) =>
          if r5 = 0 then
            bn (k_Ke_makeGrant s4 a1 x1) fun (s6, r7) =>
            if r7 = 0 then
              some (s6, (-4))
            else
              k_Ke_answer_70 a1 a2 s6 x1 x2 x3
          else
            k_Ke_answer_70 a1 a2 s4 x1 x2 x3
        else
          some (s0, (-2))
    else
      some (s0, (-1))
-- GrantKernel.serve(LGrantKernel$BoardProcess;I)I
def k_GK_serve (s0 : zS) (a1 : Nat) (a2 : Int32) : Option (zS × Int32) :=
  bn (k_BP_stackFrame s0 a1 ((s0 11 a1 13) + (2 : Int32))) fun (s1, r2) =>
  if r2 = 0 then
    some (s1, 6)
  else
    if a2 = 0 then
      bn (k_Ke_waitForUpcall s1 a1) fun s6 =>
      some (s6, 0)
    else
      bn (k_Ke_answer s1 a1 a2) fun (s3, r4) =>
      bn (k_BP_setFrameWord s3 a1 0 r4) fun s5 =>
      some (s5, 0)
-- GrantKernel$BoardProcess.fail(I)V
def k_BP_fail (s0 : zS) (p : Nat) (a1 : Int32) : Option (zS) :=
  lt (zu s0 11 p 17 a1) fun s1 =>
  lt (zu s1 11 p 18 ((s1 11 p 18) + (1 : Int32))) fun s2 =>
  if (s2 11 p 9) ≤ (s2 11 p 19) then
    bn (k_BP_halt s2 p) fun s3 =>
    some s3
  else
    lt (zu s2 11 p 19 ((s2 11 p 19) + (1 : Int32))) fun s4 =>
    bn (k_BP_begin s4 p) fun s5 =>
    some s5
-- GrantKernel.endStep(LGrantKernel$BoardProcess;I)V
def k_GK_endStep_44 (a1 : Nat) (a2 : Int32) (s0 : zS) (l3 : Int32) : Option (zS) :=
  if l3 = 0 then
    some s0
  else
    lt (zu s0 0 0 8 0) fun s4 =>
    bn (k_BP_fail s4 a1 l3) fun s5 =>
    some s5
def k_GK_endStep (s0 : zS) (a1 : Nat) (a2 : Int32) : Option (zS) :=
  if a2 = 0 then
    lt (zu s0 0 0 8 ((s0 0 0 8) - (1 : Int32))) fun s1 =>
    if (s1 0 0 8) = 0 then
      if (s1 11 a1 15) = 0 then
        bn (k_BP_stackFrame s1 a1 (s1 11 a1 13)) fun (s2, r3) =>
        if r3 = 0 then
          k_GK_endStep_44 a1 a2 s2 6
        else
          k_GK_endStep_44 a1 a2 s2 a2
      else
        k_GK_endStep_44 a1 a2 s1 a2
    else
      k_GK_endStep_44 a1 a2 s1 a2
  else
    k_GK_endStep_44 a1 a2 s0 a2
-- GrantKernel.run(I)I
def k_GK_run_88 (a1 : Int32) (K17 : zS → Int32 → Int32 → Option (zS × Int32)) (s0 : zS) (l2 : Int32) (l3 : Int32) : Option (zS × Int32) :=
  lt (l3 + 1) fun x8 =>
  K17 s0 l2 x8
def k_GK_run_77 (a1 : Int32) (K17 : zS → Int32 → Int32 → Option (zS × Int32)) (s0 : zS) (l2 : Int32) (l3 : Int32) (l4 : Nat) (l5 : Int32) : Option (zS × Int32) :=
  bn (k_GK_endStep s0 l4 l5) fun s9 =>
  lt (l2 + 1) fun x10 =>
  k_GK_run_88 a1 K17 s9 x10 l3
def k_GK_run_17 (a1 : Int32) : Nat → zS → Int32 → Int32 → Option (zS × Int32)
  | 0, _, _, _ => none
  | n + 1, s0, l2, l3 =>
    if a1 ≤ l3 then
      some (s0, l2)
    else
      bn (k_Ke_beginTick s0) fun s1 =>
      bn (k_GK_giveTurn s1) fun (s2, r3) =>
      if r3 = 0 then
        k_GK_run_88 a1 (k_GK_run_17 a1 n) s2 l2 l3
      else
        ck (zi (s2 0 0 7) 4) <|
        bn (k_GK_doInstruction s2 ((s2 0 0 7).toNatClampNeg)) fun (s4, r5) =>
        if r5 < 256 then
          k_GK_run_77 a1 (k_GK_run_17 a1 n) s4 l2 l3 ((s2 0 0 7).toNatClampNeg) r5
        else
          bn (k_GK_serve s4 ((s2 0 0 7).toNatClampNeg) (r5 - (256 : Int32))) fun (s6, r7) =>
          k_GK_run_77 a1 (k_GK_run_17 a1 n) s6 l2 l3 ((s2 0 0 7).toNatClampNeg) r7
def k_GK_run (s0 : zS) (a1 : Int32) : Option (zS × Int32) :=
  if a1 < 0 then
    some (s0, (-1))
  else
    if a1 ≤ 400 then
      k_GK_run_17 a1 FU s0 0 0
    else
      some (s0, (-1))
-- GrantKernel$Console.addInput(I)Z
def k_Co_addInput (s0 : zS) (a1 : Int32) : Option (zS × Int32) :=
  if (s0 5 0 2) < 8 then
    ck (zi (s0 5 0 2) 8) <|
    lt (zu s0 6 0 (s0 5 0 2).toNatClampNeg a1) fun s1 =>
    lt (zu s1 5 0 2 ((s1 5 0 2) + (1 : Int32))) fun s2 =>
    some (s2, 1)
  else
    some (s0, 0)
-- GrantKernel$Kernel.takeInput(I)Z
def k_Ke_takeInput_2 (a1 : Int32) : Nat → zS → Int32 → Option (zS × Int32)
  | 0, _, _ => none
  | n + 1, s0, l2 =>
    if 4 ≤ l2 then
      bn (k_Co_addInput s0 a1) fun (s1, r2) =>
      ck (zb r2) <|
      some (s1, r2)
    else
      ck (zi l2 4) <|
      bn (k_Ke_isPending s0 (l2.toNatClampNeg) 1) fun (s3, r4) =>
      if r4 = 0 then
        lt (l2 + 1) fun x5 =>
        k_Ke_takeInput_2 a1 n s3 x5
      else
        ck (zi l2 4) <|
        bn (k_Ke_receive s3 (l2.toNatClampNeg) a1) fun s6 =>
        some (s6, 1)
def k_Ke_takeInput (s0 : zS) (a1 : Int32) : Option (zS × Int32) :=
  k_Ke_takeInput_2 a1 FU s0 0
-- GrantKernel.type(I)Z
def k_GK_type (s0 : zS) (a1 : Int32) : Option (zS × Int32) :=
  bn (k_Ke_takeInput s0 a1) fun (s1, r2) =>
  ck (zb r2) <|
  some (s1, r2)
-- GrantKernel$Kernel.takeSample(I)I
def k_Ke_takeSample_90 (a1 : Int32) (K4 : zS → Int32 → Int32 → Option (zS × Int32)) (s0 : zS) (l2 : Int32) (l3 : Int32) : Option (zS × Int32) :=
  lt (l3 + 1) fun x11 =>
  K4 s0 l2 x11
def k_Ke_takeSample_4 (a1 : Int32) : Nat → zS → Int32 → Int32 → Option (zS × Int32)
  | 0, _, _, _ => none
  | n + 1, s0, l2, l3 =>
    if 4 ≤ l3 then
      some (s0, l2)
    else
      ck (zi l3 4) <|
      bn (k_Ke_isPending s0 (l3.toNatClampNeg) 2) fun (s1, r2) =>
      if r2 = 0 then
        k_Ke_takeSample_90 a1 (k_Ke_takeSample_4 a1 n) s1 l2 l3
      else
        ck (zi 2 3) <|
        lt (s1 14 (l3.toNatClampNeg) (2 : Int32).toNatClampNeg) fun x3 =>
        bn (k_Me_ramWord s1 (x3 + (4 : Int32))) fun (s4, r5) =>
        lt (r5 + (1 : Int32)) fun x6 =>
        bn (k_Me_setRamWord s4 x3 0) fun s7 =>
        bn (k_Me_setRamWord s7 (x3 + (4 : Int32)) x6) fun s8 =>
        bn (k_Ke_upcall s8 (l3.toNatClampNeg) 2 a1 x6) fun s9 =>
        lt (l2 + 1) fun x10 =>
        k_Ke_takeSample_90 a1 (k_Ke_takeSample_4 a1 n) s9 x10 l3
def k_Ke_takeSample (s0 : zS) (a1 : Int32) : Option (zS × Int32) :=
  k_Ke_takeSample_4 a1 FU s0 0 0
-- GrantKernel.sample(I)I
def k_GK_sample (s0 : zS) (a1 : Int32) : Option (zS × Int32) :=
  bn (k_Ke_takeSample s0 a1) fun (s1, r2) =>
  some (s1, r2)
-- GrantKernel.outputs()I
def k_GK_outputs (s0 : zS)  : Option (zS × Int32) :=
  some (s0, s0 5 0 3)
-- GrantKernel$Console.latestOutput(I)I
def k_Co_latestOutput (s0 : zS) (a1 : Int32) : Option (zS × Int32) :=
  if a1 < 0 then
    some (s0, 0)
  else
    if 16 ≤ a1 then
      some (s0, 0)
    else
      if a1 < (s0 5 0 3) then
        ck (zi ((((s0 5 0 3) - (1 : Int32)) - a1) &&& (15 : Int32)) 16) <|
        some (s0, s0 7 0 ((((s0 5 0 3) - (1 : Int32)) - a1) &&& (15 : Int32)).toNatClampNeg)
      else
        some (s0, 0)
-- GrantKernel.output(I)I
def k_GK_output (s0 : zS) (a1 : Int32) : Option (zS × Int32) :=
  bn (k_Co_latestOutput s0 a1) fun (s1, r2) =>
  some (s1, r2)
-- GrantKernel.now()I
def k_GK_now (s0 : zS)  : Option (zS × Int32) :=
  some (s0, s0 8 0 3)
-- GrantKernel.turn()I
def k_GK_turn (s0 : zS)  : Option (zS × Int32) :=
  some (s0, s0 0 0 7)
-- GrantKernel.find(I)LGrantKernel$BoardProcess;
def k_GK_find_12 (a1 : Int32) (s0 : zS) : Option (zS × Option Nat) :=
  some (s0, none)
def k_GK_find (s0 : zS) (a1 : Int32) : Option (zS × Option Nat) :=
  if a1 < 0 then
    k_GK_find_12 a1 s0
  else
    if a1 < (s0 0 0 6) then
      ck (zi a1 4) <|
      some (s0, (some (a1.toNatClampNeg)))
    else
      k_GK_find_12 a1 s0
-- GrantKernel.state(I)I
def k_GK_state (s0 : zS) (a1 : Int32) : Option (zS × Int32) :=
  bn (k_GK_find s0 a1) fun (s1, r2) =>
  match r2 with
  | none =>
    some (s1, (-1))
  | some q3 =>
    some (s1, s1 11 q3 16)
-- GrantKernel$BoardProcess.registerValue(I)I
def k_BP_registerValue_38 (p : Nat) (a1 : Int32) (s0 : zS) : Option (zS × Int32) :=
  ck (zi a1 8) <|
  some (s0, s0 12 p a1.toNatClampNeg)
def k_BP_registerValue (s0 : zS) (p : Nat) (a1 : Int32) : Option (zS × Int32) :=
  if a1 < 0 then
    some (s0, 0)
  else
    if a1 ≤ 11 then
      if 8 ≤ a1 then
        if a1 = 8 then
          some (s0, s0 11 p 11)
        else
        if a1 = 9 then
          if (s0 11 p 15) = 0 then
            some (s0, s0 11 p 12)
          else
            bn (k_BP_frameWord s0 p 5) fun (s1, r2) =>
            some (s1, r2)
        else
        if a1 = 10 then
          if (s0 11 p 15) = 0 then
            some (s0, s0 11 p 13)
          else
            bn (k_BP_frameWord s0 p 6) fun (s3, r4) =>
            some (s3, r4)
        else
        if (s0 11 p 15) = 0 then
          some (s0, s0 11 p 14)
        else
          bn (k_BP_frameWord s0 p 7) fun (s5, r6) =>
          some (s5, (r6.toUInt32 >>> ((28 : Int32).toUInt32 &&& Int32.toUInt32 31)).toInt32)
      else
        if (s0 11 p 15) = 0 then
          k_BP_registerValue_38 p a1 s0
        else
          if 4 ≤ a1 then
            k_BP_registerValue_38 p a1 s0
          else
            bn (k_BP_frameWord s0 p a1) fun (s7, r8) =>
            some (s7, r8)
    else
      some (s0, 0)
-- GrantKernel.register(II)I
def k_GK_register (s0 : zS) (a1 : Int32) (a2 : Int32) : Option (zS × Int32) :=
  bn (k_GK_find s0 a1) fun (s1, r2) =>
  match r2 with
  | none =>
    some (s1, 0)
  | some q3 =>
    bn (k_BP_registerValue s1 q3 a2) fun (s4, r5) =>
    some (s4, r5)
-- GrantKernel.word(I)I
def k_GK_word_11 (a1 : Int32) (s0 : zS) : Option (zS × Int32) :=
  some (s0, 0)
def k_GK_word (s0 : zS) (a1 : Int32) : Option (zS × Int32) :=
  if a1 < 0 then
    k_GK_word_11 a1 s0
  else
    if a1 < 128 then
      ck (zi a1 128) <|
      some (s0, s0 3 0 a1.toNatClampNeg)
    else
      k_GK_word_11 a1 s0
-- GrantKernel.block(I)I
def k_GK_block (s0 : zS) (a1 : Int32) : Option (zS × Int32) :=
  bn (k_GK_find s0 a1) fun (s1, r2) =>
  match r2 with
  | none =>
    some (s1, (-1))
  | some q3 =>
    some (s1, s1 11 q3 5)
-- GrantKernel.open(I)I
def k_GK_open (s0 : zS) (a1 : Int32) : Option (zS × Int32) :=
  bn (k_GK_find s0 a1) fun (s1, r2) =>
  match r2 with
  | none =>
    some (s1, (-1))
  | some q3 =>
    some (s1, s1 11 q3 8)
-- GrantKernel.grant(II)I
def k_GK_grant (s0 : zS) (a1 : Int32) (a2 : Int32) : Option (zS × Int32) :=
  bn (k_GK_find s0 a1) fun (s1, r2) =>
  match r2 with
  | none =>
    some (s1, (-1))
  | some q3 =>
    if a2 < 0 then
      some (s1, (-1))
    else
      if 3 ≤ a2 then
        some (s1, (-1))
      else
        bn (k_No_hasGrant s1 q3 a2) fun (s4, r5) =>
        if r5 = 0 then
          some (s4, (-1))
        else
          ck (zi a2 3) <|
          some (s4, s4 14 q3 a2.toNatClampNeg)
-- GrantKernel.queued(I)I
def k_GK_queued (s0 : zS) (a1 : Int32) : Option (zS × Int32) :=
  bn (k_GK_find s0 a1) fun (s1, r2) =>
  match r2 with
  | none =>
    some (s1, (-1))
  | some q3 =>
    some (s1, s1 19 q3 3)
-- GrantKernel.fault(I)I
def k_GK_fault (s0 : zS) (a1 : Int32) : Option (zS × Int32) :=
  bn (k_GK_find s0 a1) fun (s1, r2) =>
  match r2 with
  | none =>
    some (s1, (-1))
  | some q3 =>
    some (s1, s1 11 q3 17)
-- GrantKernel.faults(I)I
def k_GK_faults (s0 : zS) (a1 : Int32) : Option (zS × Int32) :=
  bn (k_GK_find s0 a1) fun (s1, r2) =>
  match r2 with
  | none =>
    some (s1, (-1))
  | some q3 =>
    some (s1, s1 11 q3 18)
-- GrantKernel.restart(I)Z
def k_GK_restart (s0 : zS) (a1 : Int32) : Option (zS × Int32) :=
  bn (k_GK_find s0 a1) fun (s1, r2) =>
  match r2 with
  | none =>
    some (s1, 0)
  | some q3 =>
    bn (k_BP_begin s1 q3) fun s4 =>
    some (s4, 1)
-- GrantKernel.stop(I)Z
def k_GK_stop (s0 : zS) (a1 : Int32) : Option (zS × Int32) :=
  bn (k_GK_find s0 a1) fun (s1, r2) =>
  match r2 with
  | none =>
    some (s1, 0)
  | some q3 =>
    if (s1 11 q3 16) = 2 then
      some (s1, 0)
    else
      bn (k_BP_halt s1 q3) fun s4 =>
      some (s4, 1)
