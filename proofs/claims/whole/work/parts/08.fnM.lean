-- GrantKernelModel.there(I)Z
def k_GM_there (s0 : zS) (a1 : Int32) : Option (zS × Int32) :=
  if a1 < 0 then
    some (s0, 0)
  else
    if (s0 0 0 5) ≤ a1 then
      some (s0, 0)
    else
      some (s0, 1)
-- GrantKernelModel.burn(II)I
def k_GM_burn (s0 : zS) (a1 : Int32) (a2 : Int32) : Option (zS × Int32) :=
  if a1 < 0 then
    some (s0, (-1))
  else
    if 255 < a1 then
      some (s0, (-1))
    else
      if a2 < 0 then
        some (s0, (-1))
      else
        if a2 ≤ 65535 then
          ck (zi a1 256) <|
          lt (s0 1 0 a1.toNatClampNeg) fun x1 =>
          ck (zi a1 256) <|
          lt (zu s0 1 0 a1.toNatClampNeg a2) fun s2 =>
          some (s2, x1)
        else
          some (s0, (-1))
-- GrantKernelModel.move(II)V
def k_GM_move (s0 : zS) (a1 : Int32) (a2 : Int32) : Option (zS) :=
  ck (zi a1 16) <|
  ck (zi a2 16) <|
  lt (zu s0 25 0 a2.toNatClampNeg (s0 25 0 a1.toNatClampNeg)) fun s1 =>
  ck (zi a1 16) <|
  ck (zi a2 16) <|
  lt (zu s1 26 0 a2.toNatClampNeg (s1 26 0 a1.toNatClampNeg)) fun s2 =>
  ck (zi a1 16) <|
  ck (zi a2 16) <|
  lt (zu s2 27 0 a2.toNatClampNeg (s2 27 0 a1.toNatClampNeg)) fun s3 =>
  ck (zi a1 16) <|
  ck (zi a2 16) <|
  lt (zu s3 28 0 a2.toNatClampNeg (s3 28 0 a1.toNatClampNeg)) fun s4 =>
  some s4
-- GrantKernelModel.drop(II)V
def k_GM_drop_46 (a1 : Int32) (a2 : Int32) (K5 : zS → Int32 → Int32 → Option (zS)) (s0 : zS) (l3 : Int32) (l4 : Int32) : Option (zS) :=
  lt (l4 + 1) fun x4 =>
  K5 s0 l3 x4
def k_GM_drop_36 (a1 : Int32) (a2 : Int32) (K5 : zS → Int32 → Int32 → Option (zS)) (s0 : zS) (l3 : Int32) (l4 : Int32) : Option (zS) :=
  bn (k_GM_move s0 l4 l3) fun s2 =>
  lt (l3 + 1) fun x3 =>
  k_GM_drop_46 a1 a2 K5 s2 x3 l4
def k_GM_drop_5 (a1 : Int32) (a2 : Int32) : Nat → zS → Int32 → Int32 → Option (zS)
  | 0, _, _, _ => none
  | n + 1, s0, l3, l4 =>
    if (s0 0 0 28) ≤ l4 then
      lt (zu s0 0 0 28 l3) fun s1 =>
      some s1
    else
      ck (zi l4 16) <|
      if (s0 25 0 l4.toNatClampNeg) = a1 then
        ck (zi l4 16) <|
        if (s0 26 0 l4.toNatClampNeg) = a2 then
          k_GM_drop_46 a1 a2 (k_GM_drop_5 a1 a2 n) s0 l3 l4
        else
          k_GM_drop_36 a1 a2 (k_GM_drop_5 a1 a2 n) s0 l3 l4
      else
        k_GM_drop_36 a1 a2 (k_GM_drop_5 a1 a2 n) s0 l3 l4
def k_GM_drop (s0 : zS) (a1 : Int32) (a2 : Int32) : Option (zS) :=
  k_GM_drop_5 a1 a2 FU s0 0 0
-- GrantKernelModel.forget(I)V
def k_GM_forget_2 (a1 : Int32) : Nat → zS → Int32 → Option (zS)
  | 0, _, _ => none
  | n + 1, s0, l2 =>
    if 3 ≤ l2 then
      some s0
    else
      ck (zi (((3 : Int32) * a1) + l2) 12) <|
      lt (zu s0 20 0 (((3 : Int32) * a1) + l2).toNatClampNeg 0) fun s1 =>
      ck (zi (((3 : Int32) * a1) + l2) 12) <|
      lt (zu s1 21 0 (((3 : Int32) * a1) + l2).toNatClampNeg 0) fun s2 =>
      ck (zi (((3 : Int32) * a1) + l2) 12) <|
      lt (zu s2 24 0 (((3 : Int32) * a1) + l2).toNatClampNeg 0) fun s3 =>
      bn (k_GM_drop s3 a1 l2) fun s4 =>
      lt (l2 + 1) fun x5 =>
      k_GM_forget_2 a1 n s4 x5
def k_GM_forget (s0 : zS) (a1 : Int32) : Option (zS) :=
  k_GM_forget_2 a1 FU s0 0
-- GrantKernelModel.begin(I)V
def k_GM_begin_34 (a1 : Int32) : Nat → zS → Int32 → Option (zS)
  | 0, _, _ => none
  | n + 1, s0, l2 =>
    if 8 ≤ l2 then
      ck (zi a1 4) <|
      lt (zu s0 15 0 a1.toNatClampNeg 0) fun s3 =>
      ck (zi a1 4) <|
      ck (zi a1 4) <|
      ck (zi a1 4) <|
      lt (zu s3 12 0 a1.toNatClampNeg ((4096 : Int32) + ((4 : Int32) * ((s3 5 0 a1.toNatClampNeg) + (s3 7 0 a1.toNatClampNeg))))) fun s4 =>
      ck (zi a1 4) <|
      lt (zu s4 13 0 a1.toNatClampNeg 0) fun s5 =>
      ck (zi a1 4) <|
      ck (zi a1 4) <|
      lt (zu s5 14 0 a1.toNatClampNeg (s5 8 0 a1.toNatClampNeg)) fun s6 =>
      ck (zi a1 4) <|
      lt (zu s6 16 0 a1.toNatClampNeg 0) fun s7 =>
      bn (k_GM_forget s7 a1) fun s8 =>
      ck (zi a1 4) <|
      lt (zu s8 10 0 a1.toNatClampNeg 0) fun s9 =>
      some s9
    else
      ck (zi (((8 : Int32) * a1) + l2) 32) <|
      lt (zu s0 11 0 (((8 : Int32) * a1) + l2).toNatClampNeg 0) fun s10 =>
      lt (l2 + 1) fun x11 =>
      k_GM_begin_34 a1 n s10 x11
def k_GM_begin_2 (a1 : Int32) : Nat → zS → Int32 → Option (zS)
  | 0, _, _ => none
  | n + 1, s0, l2 =>
    ck (zi a1 4) <|
    if (s0 6 0 a1.toNatClampNeg) ≤ l2 then
      k_GM_begin_34 a1 FU s0 0
    else
      ck (zi a1 4) <|
      ck (zi ((s0 5 0 a1.toNatClampNeg) + l2) 128) <|
      lt (zu s0 2 0 ((s0 5 0 a1.toNatClampNeg) + l2).toNatClampNeg 0) fun s1 =>
      lt (l2 + 1) fun x2 =>
      k_GM_begin_2 a1 n s1 x2
def k_GM_begin (s0 : zS) (a1 : Int32) : Option (zS) :=
  k_GM_begin_2 a1 FU s0 0
-- GrantKernelModel.load(III)V
def k_GM_load (s0 : zS) (a1 : Int32) (a2 : Int32) (a3 : Int32) : Option (zS) :=
  lt (s0 0 0 5) fun x1 =>
  lt (zu s0 0 0 5 ((s0 0 0 5) + (1 : Int32))) fun s2 =>
  ck (zi x1 4) <|
  lt (zu s2 3 0 x1.toNatClampNeg a1) fun s3 =>
  ck (zi (a1 + (1 : Int32)) 256) <|
  ck (zi x1 4) <|
  lt (zu s3 4 0 x1.toNatClampNeg (s3 1 0 (a1 + (1 : Int32)).toNatClampNeg)) fun s4 =>
  ck (zi x1 4) <|
  lt (zu s4 5 0 x1.toNatClampNeg a2) fun s5 =>
  ck (zi x1 4) <|
  lt (zu s5 6 0 x1.toNatClampNeg a3) fun s6 =>
  ck (zi (a1 + (3 : Int32)) 256) <|
  ck (zi x1 4) <|
  lt (zu s6 7 0 x1.toNatClampNeg (s6 1 0 (a1 + (3 : Int32)).toNatClampNeg)) fun s7 =>
  ck (zi (a1 + (4 : Int32)) 256) <|
  ck (zi x1 4) <|
  lt (zu s7 8 0 x1.toNatClampNeg ((2 : Int32) * (a1 + (s7 1 0 (a1 + (4 : Int32)).toNatClampNeg)))) fun s8 =>
  ck (zi (a1 + (5 : Int32)) 256) <|
  ck (zi x1 4) <|
  lt (zu s8 9 0 x1.toNatClampNeg (s8 1 0 (a1 + (5 : Int32)).toNatClampNeg)) fun s9 =>
  ck (zi x1 4) <|
  lt (zu s9 17 0 x1.toNatClampNeg 0) fun s10 =>
  ck (zi x1 4) <|
  lt (zu s10 18 0 x1.toNatClampNeg 0) fun s11 =>
  ck (zi x1 4) <|
  lt (zu s11 19 0 x1.toNatClampNeg 0) fun s12 =>
  bn (k_GM_begin s12 x1) fun s13 =>
  some s13
-- GrantKernelModel.boot()I
def k_GM_boot_293 (K61 : zS → Int32 → Int32 → Option (zS × Int32)) (s0 : zS) (l1 : Int32) (l2 : Int32) : Option (zS × Int32) :=
  ck (zi (l1 + (1 : Int32)) 256) <|
  lt (l1 + (s0 1 0 (l1 + (1 : Int32)).toNatClampNeg)) fun x14 =>
  K61 s0 x14 l2
def k_GM_boot_252 (K61 : zS → Int32 → Int32 → Option (zS × Int32)) (s0 : zS) (l1 : Int32) (l2 : Int32) (l4 : Int32) (l5 : Int32) (t0 : Int32) : Option (zS × Int32) :=
  if t0 = 0 then
    k_GM_boot_293 K61 s0 l1 l2
  else
    if 4 ≤ (s0 0 0 5) then
      k_GM_boot_293 K61 s0 l1 l2
    else
      if 128 < (l5 + l4) then
        k_GM_boot_293 K61 s0 l1 l2
      else
        bn (k_GM_load s0 l1 l5 l4) fun s12 =>
        lt (l5 + l4) fun x13 =>
        k_GM_boot_293 K61 s12 l1 x13
def k_GM_boot_251 (K61 : zS → Int32 → Int32 → Option (zS × Int32)) (s0 : zS) (l1 : Int32) (l2 : Int32) (l4 : Int32) (l5 : Int32) : Option (zS × Int32) :=
  k_GM_boot_252 K61 s0 l1 l2 l4 l5 0
def k_GM_boot_155 (K61 : zS → Int32 → Int32 → Option (zS × Int32)) (s0 : zS) (l1 : Int32) (l2 : Int32) (l3 : Int32) (t0 : Int32) : Option (zS × Int32) :=
  ck (zn t0) <|
  lt ((((l2 + t0) - (1 : Int32)) / t0) * t0) fun x11 =>
  if 2 < l3 then
    k_GM_boot_251 K61 s0 l1 l2 t0 x11
  else
    ck (zi (l1 + (3 : Int32)) 256) <|
    if (s0 1 0 (l1 + (3 : Int32)).toNatClampNeg) < 8 then
      k_GM_boot_251 K61 s0 l1 l2 t0 x11
    else
      ck (zi (l1 + (3 : Int32)) 256) <|
      if t0 < (s0 1 0 (l1 + (3 : Int32)).toNatClampNeg) then
        k_GM_boot_251 K61 s0 l1 l2 t0 x11
      else
        ck (zi (l1 + (4 : Int32)) 256) <|
        if (s0 1 0 (l1 + (4 : Int32)).toNatClampNeg) < 6 then
          k_GM_boot_251 K61 s0 l1 l2 t0 x11
        else
          ck (zi (l1 + (4 : Int32)) 256) <|
          ck (zi (l1 + (1 : Int32)) 256) <|
          if (s0 1 0 (l1 + (1 : Int32)).toNatClampNeg) ≤ (s0 1 0 (l1 + (4 : Int32)).toNatClampNeg) then
            k_GM_boot_251 K61 s0 l1 l2 t0 x11
          else
            ck (zi (l1 + (5 : Int32)) 256) <|
            if 15 < (s0 1 0 (l1 + (5 : Int32)).toNatClampNeg) then
              k_GM_boot_251 K61 s0 l1 l2 t0 x11
            else
              k_GM_boot_252 K61 s0 l1 l2 t0 x11 1
def k_GM_boot_61  : Nat → zS → Int32 → Int32 → Option (zS × Int32)
  | 0, _, _, _ => none
  | n + 1, s0, l1, l2 =>
    if 256 < (l1 + (6 : Int32)) then
      some (s0, s0 0 0 5)
    else
      ck (zi l1 256) <|
      if (s0 1 0 l1.toNatClampNeg) = 21570 then
        ck (zi (l1 + (1 : Int32)) 256) <|
        if (s0 1 0 (l1 + (1 : Int32)).toNatClampNeg) < 8 then
          some (s0, s0 0 0 5)
        else
          ck (zi (l1 + (1 : Int32)) 256) <|
          ck (zn 2) <|
          if ((s0 1 0 (l1 + (1 : Int32)).toNatClampNeg) - (s0 1 0 (l1 + (1 : Int32)).toNatClampNeg) / 2 * 2) = 0 then
            ck (zi (l1 + (1 : Int32)) 256) <|
            if 256 < (l1 + (s0 1 0 (l1 + (1 : Int32)).toNatClampNeg)) then
              some (s0, s0 0 0 5)
            else
              ck (zi (l1 + (2 : Int32)) 256) <|
              lt (s0 1 0 (l1 + (2 : Int32)).toNatClampNeg) fun x10 =>
              if x10 = 0 then
                k_GM_boot_155 (k_GM_boot_61 n) s0 l1 l2 x10 16
              else
                if x10 = 1 then
                  k_GM_boot_155 (k_GM_boot_61 n) s0 l1 l2 x10 32
                else
                  k_GM_boot_155 (k_GM_boot_61 n) s0 l1 l2 x10 64
          else
            some (s0, s0 0 0 5)
      else
        some (s0, s0 0 0 5)
def k_GM_boot_2  : Nat → zS → Int32 → Option (zS × Int32)
  | 0, _, _ => none
  | n + 1, s0, l1 =>
    if 128 ≤ l1 then
      lt (zu s0 0 0 33 0) fun s1 =>
      lt (zu s1 0 0 35 0) fun s2 =>
      lt (zu s2 0 0 2 0) fun s3 =>
      lt (zu s3 0 0 3 (-1)) fun s4 =>
      lt (zu s4 0 0 4 0) fun s5 =>
      lt (zu s5 0 0 5 0) fun s6 =>
      lt (zu s6 0 0 28 0) fun s7 =>
      k_GM_boot_61 FU s7 0 0
    else
      ck (zi l1 128) <|
      lt (zu s0 2 0 l1.toNatClampNeg 0) fun s8 =>
      lt (l1 + 1) fun x9 =>
      k_GM_boot_2 n s8 x9
def k_GM_boot (s0 : zS)  : Option (zS × Int32) :=
  k_GM_boot_2 FU s0 0
-- GrantKernelModel.halt(I)V
def k_GM_halt (s0 : zS) (a1 : Int32) : Option (zS) :=
  bn (k_GM_forget s0 a1) fun s1 =>
  ck (zi a1 4) <|
  lt (zu s1 10 0 a1.toNatClampNeg 2) fun s2 =>
  some s2
-- GrantKernelModel.openWords(II)I
def k_GM_openWords (s0 : zS) (a1 : Int32) (a2 : Int32) : Option (zS × Int32) :=
  ck (zi a1 4) <|
  ck (zn 8) <|
  lt ((s0 6 0 a1.toNatClampNeg) / 8) fun x1 =>
  ck (zi a1 4) <|
  ck (zn x1) <|
  some (s0, (((s0 6 0 a1.toNatClampNeg) - a2) / x1) * x1)
-- GrantKernelModel.granted(I)I
def k_GM_granted_28 (a1 : Int32) (K4 : zS → Int32 → Int32 → Option (zS × Int32)) (s0 : zS) (l3 : Int32) (t0 : Int32) (t1 : Int32) : Option (zS × Int32) :=
  lt (t1 + t0) fun x1 =>
  lt (l3 + 1) fun x2 =>
  K4 s0 x1 x2
def k_GM_granted_4 (a1 : Int32) : Nat → zS → Int32 → Int32 → Option (zS × Int32)
  | 0, _, _, _ => none
  | n + 1, s0, l2, l3 =>
    if 3 ≤ l3 then
      some (s0, l2)
    else
      ck (zi (((3 : Int32) * a1) + l3) 12) <|
      if (s0 20 0 (((3 : Int32) * a1) + l3).toNatClampNeg) ≤ 0 then
        k_GM_granted_28 a1 (k_GM_granted_4 a1 n) s0 l3 0 l2
      else
        k_GM_granted_28 a1 (k_GM_granted_4 a1 n) s0 l3 2 l2
def k_GM_granted (s0 : zS) (a1 : Int32) : Option (zS × Int32) :=
  k_GM_granted_4 a1 FU s0 0 0
-- GrantKernelModel.within(III)Z
def k_GM_within (s0 : zS) (a1 : Int32) (a2 : Int32) (a3 : Int32) : Option (zS × Int32) :=
  ck (zi a1 4) <|
  lt ((4096 : Int32) + ((4 : Int32) * (s0 5 0 a1.toNatClampNeg))) fun x1 =>
  if (a2 &&& (3 : Int32)) = 0 then
    if a2 < x1 then
      some (s0, 0)
    else
      if (x1 + ((4 : Int32) * a3)) ≤ a2 then
        some (s0, 0)
      else
        some (s0, 1)
  else
    some (s0, 0)
-- GrantKernelModel.isOpen(II)Z
def k_GM_isOpen (s0 : zS) (a1 : Int32) (a2 : Int32) : Option (zS × Int32) :=
  bn (k_GM_granted s0 a1) fun (s1, r2) =>
  bn (k_GM_openWords s1 a1 r2) fun (s3, r4) =>
  bn (k_GM_within s3 a1 a2 r4) fun (s5, r6) =>
  ck (zb r6) <|
  some (s5, r6)
-- GrantKernelModel.inCode(II)Z
def k_GM_inCode (s0 : zS) (a1 : Int32) (a2 : Int32) : Option (zS × Int32) :=
  ck (zi a1 4) <|
  if a2 < ((2 : Int32) * (s0 3 0 a1.toNatClampNeg)) then
    some (s0, 0)
  else
    ck (zi a1 4) <|
    ck (zi a1 4) <|
    if ((2 : Int32) * ((s0 3 0 a1.toNatClampNeg) + (s0 4 0 a1.toNatClampNeg))) ≤ a2 then
      some (s0, 0)
    else
      some (s0, 1)
-- GrantKernelModel.may(IIZ)Z
def k_GM_may_70 (a1 : Int32) (a2 : Int32) (a3 : Int32) (s0 : zS) (l4 : Int32) (t0 : Int32) : Option (zS × Int32) :=
  lt (zu s0 0 0 37 t0) fun s5 =>
  if l4 = 0 then
    some (s5, 1)
  else
    some (s5, 0)
def k_GM_may_61 (a1 : Int32) (a2 : Int32) (a3 : Int32) (s0 : zS) (l4 : Int32) : Option (zS × Int32) :=
  k_GM_may_70 a1 a2 a3 s0 l4 l4
def k_GM_may_66 (a1 : Int32) (a2 : Int32) (a3 : Int32) (s0 : zS) (l4 : Int32) : Option (zS × Int32) :=
  k_GM_may_70 a1 a2 a3 s0 l4 (s0 0 0 37)
def k_GM_may_37 (a1 : Int32) (a2 : Int32) (a3 : Int32) (s0 : zS) (t0 : Int32) : Option (zS × Int32) :=
  if t0 ≤ 0 then
    k_GM_may_66 a1 a2 a3 s0 t0
  else
    if (s0 0 0 37) = 0 then
      k_GM_may_61 a1 a2 a3 s0 t0
    else
      if (s0 0 0 37) ≤ t0 then
        k_GM_may_66 a1 a2 a3 s0 t0
      else
        k_GM_may_61 a1 a2 a3 s0 t0
def k_GM_may_32 (a1 : Int32) (a2 : Int32) (a3 : Int32) (s0 : zS) : Option (zS × Int32) :=
  k_GM_may_37 a1 a2 a3 s0 0
def k_GM_may_36 (a1 : Int32) (a2 : Int32) (a3 : Int32) (s0 : zS) : Option (zS × Int32) :=
  k_GM_may_37 a1 a2 a3 s0 4
def k_GM_may (s0 : zS) (a1 : Int32) (a2 : Int32) (a3 : Int32) : Option (zS × Int32) :=
  if (a2 &&& (3 : Int32)) = 0 then
    bn (k_GM_isOpen s0 a1 a2) fun (s1, r2) =>
    if r2 = 0 then
      if a3 = 0 then
        bn (k_GM_inCode s1 a1 a2) fun (s3, r4) =>
        if r4 = 0 then
          k_GM_may_36 a1 a2 a3 s3
        else
          k_GM_may_32 a1 a2 a3 s3
      else
        k_GM_may_36 a1 a2 a3 s1
    else
      k_GM_may_32 a1 a2 a3 s1
  else
    k_GM_may_37 a1 a2 a3 s0 3
-- GrantKernelModel.get(I)I
def k_GM_get (s0 : zS) (a1 : Int32) : Option (zS × Int32) :=
  if a1 < 4096 then
    ck (zn 2) <|
    ck (zi (a1 / 2) 256) <|
    ck (zn 2) <|
    ck (zi ((a1 / 2) + (1 : Int32)) 256) <|
    some (s0, (s0 1 0 (a1 / 2).toNatClampNeg) ||| ((s0 1 0 ((a1 / 2) + (1 : Int32)).toNatClampNeg) <<< ((16 : Int32) &&& 31)))
  else
    ck (zn 4) <|
    ck (zi ((a1 - (4096 : Int32)) / 4) 128) <|
    some (s0, s0 2 0 ((a1 - (4096 : Int32)) / 4).toNatClampNeg)
-- GrantKernelModel.set(II)V
def k_GM_set (s0 : zS) (a1 : Int32) (a2 : Int32) : Option (zS) :=
  ck (zn 4) <|
  ck (zi ((a1 - (4096 : Int32)) / 4) 128) <|
  lt (zu s0 2 0 ((a1 - (4096 : Int32)) / 4).toNatClampNeg a2) fun s1 =>
  some s1
-- GrantKernelModel.eight(II)Z
def k_GM_eight_35 (a1 : Int32) (a2 : Int32) (K5 : zS → Int32 → Int32 → Option (zS × Int32)) (s0 : zS) (l4 : Int32) (t0 : Int32) : Option (zS × Int32) :=
  lt (l4 + 1) fun x3 =>
  K5 s0 t0 x3
def k_GM_eight_34 (a1 : Int32) (a2 : Int32) (K5 : zS → Int32 → Int32 → Option (zS × Int32)) (s0 : zS) (l4 : Int32) : Option (zS × Int32) :=
  k_GM_eight_35 a1 a2 K5 s0 l4 0
def k_GM_eight_5 (a1 : Int32) (a2 : Int32) : Nat → zS → Int32 → Int32 → Option (zS × Int32)
  | 0, _, _, _ => none
  | n + 1, s0, l3, l4 =>
    if 8 ≤ l4 then
      ck (zb l3) <|
      some (s0, l3)
    else
      if l3 = 0 then
        k_GM_eight_34 a1 a2 (k_GM_eight_5 a1 a2 n) s0 l4
      else
        bn (k_GM_isOpen s0 a1 (a2 + ((4 : Int32) * l4))) fun (s1, r2) =>
        if r2 = 0 then
          k_GM_eight_34 a1 a2 (k_GM_eight_5 a1 a2 n) s1 l4
        else
          k_GM_eight_35 a1 a2 (k_GM_eight_5 a1 a2 n) s1 l4 1
def k_GM_eight (s0 : zS) (a1 : Int32) (a2 : Int32) : Option (zS × Int32) :=
  k_GM_eight_5 a1 a2 FU s0 1 0
-- GrantKernelModel.stack(II)V
def k_GM_stack_151 (a1 : Int32) (a2 : Int32) (s0 : zS) (l3 : Int32) (t0 : Int32) (t1 : Int32) (t2 : Int32) : Option (zS) :=
  bn (k_GM_set s0 t2 (t1 + t0)) fun s10 =>
  ck (zi a1 4) <|
  lt (zu s10 12 0 a1.toNatClampNeg l3) fun s11 =>
  ck (zi a1 4) <|
  lt (zu s11 16 0 a1.toNatClampNeg 1) fun s12 =>
  some s12
def k_GM_stack_56 (a1 : Int32) (a2 : Int32) : Nat → zS → Int32 → Int32 → Int32 → Option (zS)
  | 0, _, _, _, _ => none
  | n + 1, s0, l3, l4, l5 =>
    if 4 ≤ l5 then
      bn (k_GM_set s0 (l3 + (16 : Int32)) 0) fun s5 =>
      ck (zi a1 4) <|
      bn (k_GM_set s5 (l3 + (20 : Int32)) (s5 13 0 a1.toNatClampNeg)) fun s6 =>
      bn (k_GM_set s6 (l3 + (24 : Int32)) a2) fun s7 =>
      ck (zi a1 4) <|
      if l4 = 0 then
        k_GM_stack_151 a1 a2 s7 l3 0 (((s7 15 0 a1.toNatClampNeg) * (268435456 : Int32)) + (16777216 : Int32)) (l3 + (28 : Int32))
      else
        k_GM_stack_151 a1 a2 s7 l3 512 (((s7 15 0 a1.toNatClampNeg) * (268435456 : Int32)) + (16777216 : Int32)) (l3 + (28 : Int32))
    else
      ck (zi (((8 : Int32) * a1) + l5) 32) <|
      bn (k_GM_set s0 (l3 + ((4 : Int32) * l5)) (s0 11 0 (((8 : Int32) * a1) + l5).toNatClampNeg)) fun s8 =>
      lt (l5 + 1) fun x9 =>
      k_GM_stack_56 a1 a2 n s8 l3 l4 x9
def k_GM_stack_36 (a1 : Int32) (a2 : Int32) (s0 : zS) (l4 : Int32) (t0 : Int32) : Option (zS) :=
  bn (k_GM_eight s0 a1 t0) fun (s2, r3) =>
  if r3 = 0 then
    lt (zu s2 0 0 37 6) fun s4 =>
    some s4
  else
    k_GM_stack_56 a1 a2 FU s2 t0 l4 0
def k_GM_stack_22 (a1 : Int32) (a2 : Int32) (s0 : zS) (l3 : Int32) (t0 : Int32) : Option (zS) :=
  if t0 = 0 then
    k_GM_stack_36 a1 a2 s0 t0 l3
  else
    k_GM_stack_36 a1 a2 s0 t0 (l3 - (4 : Int32))
def k_GM_stack (s0 : zS) (a1 : Int32) (a2 : Int32) : Option (zS) :=
  ck (zi a1 4) <|
  lt ((s0 12 0 a1.toNatClampNeg) - (32 : Int32)) fun x1 =>
  if (x1 &&& (7 : Int32)) = 0 then
    k_GM_stack_22 a1 a2 s0 x1 0
  else
    k_GM_stack_22 a1 a2 s0 x1 1
-- GrantKernelModel.unstack(I)V
def k_GM_unstack_128 (a1 : Int32) (s0 : zS) (t0 : Int32) (t1 : Int32) (t2 : Int32) : Option (zS) :=
  ck (zi t2 4) <|
  lt (zu s0 12 0 t2.toNatClampNeg (t1 + t0)) fun s18 =>
  ck (zi a1 4) <|
  lt (zu s18 16 0 a1.toNatClampNeg 0) fun s19 =>
  some s19
def k_GM_unstack_25 (a1 : Int32) : Nat → zS → Int32 → Int32 → Option (zS)
  | 0, _, _, _ => none
  | n + 1, s0, l2, l3 =>
    if 4 ≤ l3 then
      bn (k_GM_get s0 (l2 + (20 : Int32))) fun (s5, r6) =>
      ck (zi a1 4) <|
      lt (zu s5 13 0 a1.toNatClampNeg r6) fun s7 =>
      bn (k_GM_get s7 (l2 + (24 : Int32))) fun (s8, r9) =>
      ck (zi a1 4) <|
      lt (zu s8 14 0 a1.toNatClampNeg (r9 &&& (-2 : Int32))) fun s10 =>
      bn (k_GM_get s10 (l2 + (28 : Int32))) fun (s11, r12) =>
      ck (zi a1 4) <|
      lt (zu s11 15 0 a1.toNatClampNeg ((r12.toUInt32 >>> ((28 : Int32).toUInt32 &&& Int32.toUInt32 31)).toInt32)) fun s13 =>
      if (r12 &&& (512 : Int32)) = 0 then
        k_GM_unstack_128 a1 s13 0 (l2 + (32 : Int32)) a1
      else
        k_GM_unstack_128 a1 s13 4 (l2 + (32 : Int32)) a1
    else
      bn (k_GM_get s0 (l2 + ((4 : Int32) * l3))) fun (s14, r15) =>
      ck (zi (((8 : Int32) * a1) + l3) 32) <|
      lt (zu s14 11 0 (((8 : Int32) * a1) + l3).toNatClampNeg r15) fun s16 =>
      lt (l3 + 1) fun x17 =>
      k_GM_unstack_25 a1 n s16 l2 x17
def k_GM_unstack (s0 : zS) (a1 : Int32) : Option (zS) :=
  ck (zi a1 4) <|
  lt (s0 12 0 a1.toNatClampNeg) fun x1 =>
  bn (k_GM_eight s0 a1 x1) fun (s2, r3) =>
  if r3 = 0 then
    lt (zu s2 0 0 37 6) fun s4 =>
    some s4
  else
    k_GM_unstack_25 a1 FU s2 x1 0
-- GrantKernelModel.nz(II)V
def k_GM_nz_33 (a1 : Int32) (a2 : Int32) (s0 : zS) (t0 : Int32) (t1 : Int32) (t2 : Int32) : Option (zS) :=
  ck (zi t2 4) <|
  lt (zu s0 15 0 t2.toNatClampNeg (t1 ||| t0)) fun s1 =>
  some s1
def k_GM_nz_23 (a1 : Int32) (a2 : Int32) (s0 : zS) (t0 : Int32) (t1 : Int32) (t2 : Int32) : Option (zS) :=
  if a2 = 0 then
    k_GM_nz_33 a1 a2 s0 4 (t1 ||| t0) t2
  else
    k_GM_nz_33 a1 a2 s0 0 (t1 ||| t0) t2
def k_GM_nz (s0 : zS) (a1 : Int32) (a2 : Int32) : Option (zS) :=
  ck (zi a1 4) <|
  if 0 ≤ a2 then
    k_GM_nz_23 a1 a2 s0 0 ((s0 15 0 a1.toNatClampNeg) &&& (3 : Int32)) a1
  else
    k_GM_nz_23 a1 a2 s0 8 ((s0 15 0 a1.toNatClampNeg) &&& (3 : Int32)) a1
-- GrantKernelModel.sum(IIII)I
def k_GM_sum_91 (a1 : Int32) (a2 : Int32) (a3 : Int32) (a4 : Int32) (s0 : zS) (l9 : Int32) (t0 : Int32) (t1 : Int32) (t2 : Int32) : Option (zS × Int32) :=
  ck (zi t2 4) <|
  lt (zu s0 15 0 t2.toNatClampNeg (t1 ||| t0)) fun s4 =>
  some (s4, l9)
def k_GM_sum_76 (a1 : Int32) (a2 : Int32) (a3 : Int32) (a4 : Int32) (s0 : zS) (l7 : Int64) (l9 : Int32) (t0 : Int32) (t1 : Int32) (t2 : Int32) : Option (zS × Int32) :=
  if (lg_cmp l7 (l9.toInt64)) = 0 then
    k_GM_sum_91 a1 a2 a3 a4 s0 l9 0 (t1 ||| t0) t2
  else
    k_GM_sum_91 a1 a2 a3 a4 s0 l9 1 (t1 ||| t0) t2
def k_GM_sum_61 (a1 : Int32) (a2 : Int32) (a3 : Int32) (a4 : Int32) (s0 : zS) (l5 : Int64) (l7 : Int64) (l9 : Int32) (t0 : Int32) (t1 : Int32) (t2 : Int32) : Option (zS × Int32) :=
  if (lg_cmp l5 (4294967296 : Int64)) < 0 then
    k_GM_sum_76 a1 a2 a3 a4 s0 l7 l9 0 (t1 ||| t0) t2
  else
    k_GM_sum_76 a1 a2 a3 a4 s0 l7 l9 2 (t1 ||| t0) t2
def k_GM_sum_51 (a1 : Int32) (a2 : Int32) (a3 : Int32) (a4 : Int32) (s0 : zS) (l5 : Int64) (l7 : Int64) (l9 : Int32) (t0 : Int32) (t1 : Int32) : Option (zS × Int32) :=
  if l9 = 0 then
    k_GM_sum_61 a1 a2 a3 a4 s0 l5 l7 l9 4 t0 t1
  else
    k_GM_sum_61 a1 a2 a3 a4 s0 l5 l7 l9 0 t0 t1
def k_GM_sum (s0 : zS) (a1 : Int32) (a2 : Int32) (a3 : Int32) (a4 : Int32) : Option (zS × Int32) :=
  lt ((((a2.toInt64) &&& (4294967295 : Int64)) + ((a3.toInt64) &&& (4294967295 : Int64))) + (a4.toInt64)) fun x1 =>
  lt (((a2.toInt64) + (a3.toInt64)) + (a4.toInt64)) fun x2 =>
  lt (x2.toInt32) fun x3 =>
  if 0 ≤ x3 then
    k_GM_sum_51 a1 a2 a3 a4 s0 x1 x2 x3 0 a1
  else
    k_GM_sum_51 a1 a2 a3 a4 s0 x1 x2 x3 8 a1
-- GrantKernelModel.setCarry(II)V
def k_GM_setCarry (s0 : zS) (a1 : Int32) (a2 : Int32) : Option (zS) :=
  ck (zi a1 4) <|
  ck (zi a1 4) <|
  lt (zu s0 15 0 a1.toNatClampNeg (((s0 15 0 a1.toNatClampNeg) &&& (13 : Int32)) ||| (a2 <<< ((1 : Int32) &&& 31)))) fun s1 =>
  some s1
-- GrantKernelModel.shifted(IIII)I
def k_GM_shifted_95 (a1 : Int32) (a2 : Int32) (a3 : Int32) (a4 : Int32) (K20 : zS → Int32 → Int32 → Option (zS × Int32)) (s0 : zS) (l6 : Int32) (t0 : Int32) : Option (zS × Int32) :=
  lt (l6 + 1) fun x5 =>
  K20 s0 t0 x5
def k_GM_shifted_44 (a1 : Int32) (a2 : Int32) (a3 : Int32) (a4 : Int32) (K20 : zS → Int32 → Int32 → Option (zS × Int32)) (s0 : zS) (l5 : Int32) (l6 : Int32) (t0 : Int32) : Option (zS × Int32) :=
  lt (zu s0 0 0 38 t0) fun s4 =>
  if a4 = 0 then
    k_GM_shifted_95 a1 a2 a3 a4 K20 s4 l6 (l5 <<< ((1 : Int32) &&& 31))
  else
    if a4 = 1 then
      k_GM_shifted_95 a1 a2 a3 a4 K20 s4 l6 ((l5.toUInt32 >>> ((1 : Int32).toUInt32 &&& Int32.toUInt32 31)).toInt32)
    else
      if a4 = 2 then
        k_GM_shifted_95 a1 a2 a3 a4 K20 s4 l6 (l5 >>> ((1 : Int32) &&& 31))
      else
        k_GM_shifted_95 a1 a2 a3 a4 K20 s4 l6 (((l5.toUInt32 >>> ((1 : Int32).toUInt32 &&& Int32.toUInt32 31)).toInt32) ||| (l5 <<< ((31 : Int32) &&& 31)))
def k_GM_shifted_20 (a1 : Int32) (a2 : Int32) (a3 : Int32) (a4 : Int32) : Nat → zS → Int32 → Int32 → Option (zS × Int32)
  | 0, _, _, _ => none
  | n + 1, s0, l5, l6 =>
    if a3 ≤ l6 then
      bn (k_GM_nz s0 a1 l5) fun s2 =>
      bn (k_GM_setCarry s2 a1 (s2 0 0 38)) fun s3 =>
      some (s3, l5)
    else
      if a4 = 0 then
        k_GM_shifted_44 a1 a2 a3 a4 (k_GM_shifted_20 a1 a2 a3 a4 n) s0 l5 l6 ((l5.toUInt32 >>> ((31 : Int32).toUInt32 &&& Int32.toUInt32 31)).toInt32)
      else
        k_GM_shifted_44 a1 a2 a3 a4 (k_GM_shifted_20 a1 a2 a3 a4 n) s0 l5 l6 (l5 &&& (1 : Int32))
def k_GM_shifted (s0 : zS) (a1 : Int32) (a2 : Int32) (a3 : Int32) (a4 : Int32) : Option (zS × Int32) :=
  ck (zi a1 4) <|
  lt (zu s0 0 0 38 (((s0 15 0 a1.toNatClampNeg) >>> ((1 : Int32) &&& 31)) &&& (1 : Int32))) fun s1 =>
  k_GM_shifted_20 a1 a2 a3 a4 FU s1 a2 0
-- GrantKernelModel.calculate(II)V
def k_GM_calculate_112 (a1 : Int32) (a2 : Int32) (s0 : zS) (t0 : Int32) (t1 : Int32) (t2 : Int32) (t3 : Int32) (t5 : Int32) : Option (zS) :=
  bn (k_GM_shifted s0 t3 t2 t1 t0) fun (s9, r10) =>
  ck (zi t5 32) <|
  lt (zu s9 11 0 t5.toNatClampNeg r10) fun s11 =>
  some s11
def k_GM_calculate_82 (a1 : Int32) (a2 : Int32) (s0 : zS) (l3 : Int32) (l4 : Int32) (l5 : Int32) (l7 : Int32) : Option (zS) :=
  if l7 = 7 then
    k_GM_calculate_112 a1 a2 s0 3 (l5 &&& (255 : Int32)) l4 a1 l3
  else
    k_GM_calculate_112 a1 a2 s0 (l7 - (2 : Int32)) (l5 &&& (255 : Int32)) l4 a1 l3
def k_GM_calculate_156 (a1 : Int32) (a2 : Int32) (s0 : zS) (l6 : Int32) (t0 : Int32) (t1 : Int32) (t2 : Int32) (t4 : Int32) : Option (zS) :=
  bn (k_GM_sum s0 t2 t1 t0 l6) fun (s12, r13) =>
  ck (zi t4 32) <|
  lt (zu s12 11 0 t4.toNatClampNeg r13) fun s14 =>
  some s14
def k_GM_calculate_132 (a1 : Int32) (a2 : Int32) (s0 : zS) (l3 : Int32) (l4 : Int32) (l5 : Int32) (l6 : Int32) (l7 : Int32) : Option (zS) :=
  if l7 = 5 then
    k_GM_calculate_156 a1 a2 s0 l6 l5 l4 a1 l3
  else
    k_GM_calculate_156 a1 a2 s0 l6 (l5 ^^^ (-1 : Int32)) l4 a1 l3
def k_GM_calculate_238 (a1 : Int32) (a2 : Int32) (s0 : zS) (t0 : Int32) (t1 : Int32) (t2 : Int32) (t3 : Int32) : Option (zS) :=
  bn (k_GM_sum s0 t3 t2 t1 t0) fun (s17, r18) =>
  some s17
def k_GM_calculate_226 (a1 : Int32) (a2 : Int32) (s0 : zS) (l7 : Int32) (t0 : Int32) (t1 : Int32) (t2 : Int32) : Option (zS) :=
  if l7 = 10 then
    k_GM_calculate_238 a1 a2 s0 1 t0 t1 t2
  else
    k_GM_calculate_238 a1 a2 s0 0 t0 t1 t2
def k_GM_calculate_206 (a1 : Int32) (a2 : Int32) (s0 : zS) (l4 : Int32) (l5 : Int32) (l7 : Int32) : Option (zS) :=
  if l7 = 10 then
    k_GM_calculate_226 a1 a2 s0 l7 (l5 ^^^ (-1 : Int32)) l4 a1
  else
    k_GM_calculate_226 a1 a2 s0 l7 l5 l4 a1
def k_GM_calculate_351 (a1 : Int32) (a2 : Int32) (s0 : zS) (l8 : Int32) (t0 : Int32) (t1 : Int32) : Option (zS) :=
  ck (zi t1 32) <|
  lt (zu s0 11 0 t1.toNatClampNeg t0) fun s15 =>
  bn (k_GM_nz s15 a1 l8) fun s16 =>
  some s16
def k_GM_calculate_330 (a1 : Int32) (a2 : Int32) (s0 : zS) (l3 : Int32) (l4 : Int32) (l7 : Int32) (t0 : Int32) : Option (zS) :=
  if l7 = 8 then
    k_GM_calculate_351 a1 a2 s0 t0 l4 l3
  else
    k_GM_calculate_351 a1 a2 s0 t0 t0 l3
def k_GM_calculate_257 (a1 : Int32) (a2 : Int32) (s0 : zS) (l3 : Int32) (l4 : Int32) (l5 : Int32) (l7 : Int32) : Option (zS) :=
  k_GM_calculate_330 a1 a2 s0 l3 l4 l7 (l4 &&& l5)
def k_GM_calculate (s0 : zS) (a1 : Int32) (a2 : Int32) : Option (zS) :=
  lt (((8 : Int32) * a1) + (a2 &&& (7 : Int32))) fun x1 =>
  ck (zi x1 32) <|
  lt (s0 11 0 x1.toNatClampNeg) fun x2 =>
  ck (zi (((8 : Int32) * a1) + ((a2 >>> ((3 : Int32) &&& 31)) &&& (7 : Int32))) 32) <|
  lt (s0 11 0 (((8 : Int32) * a1) + ((a2 >>> ((3 : Int32) &&& 31)) &&& (7 : Int32))).toNatClampNeg) fun x3 =>
  ck (zi a1 4) <|
  lt (((s0 15 0 a1.toNatClampNeg) >>> ((1 : Int32) &&& 31)) &&& (1 : Int32)) fun x4 =>
  lt ((a2 >>> ((6 : Int32) &&& 31)) &&& (15 : Int32)) fun x5 =>
  if x5 = 2 then
    k_GM_calculate_82 a1 a2 s0 x1 x2 x3 x5
  else
    if x5 = 3 then
      k_GM_calculate_82 a1 a2 s0 x1 x2 x3 x5
    else
      if x5 = 4 then
        k_GM_calculate_82 a1 a2 s0 x1 x2 x3 x5
      else
        if x5 = 7 then
          k_GM_calculate_82 a1 a2 s0 x1 x2 x3 x5
        else
          if x5 = 5 then
            k_GM_calculate_132 a1 a2 s0 x1 x2 x3 x4 x5
          else
            if x5 = 6 then
              k_GM_calculate_132 a1 a2 s0 x1 x2 x3 x4 x5
            else
              if x5 = 9 then
                bn (k_GM_sum s0 a1 0 (x3 ^^^ (-1 : Int32)) 1) fun (s6, r7) =>
                ck (zi x1 32) <|
                lt (zu s6 11 0 x1.toNatClampNeg r7) fun s8 =>
                some s8
              else
                if x5 = 10 then
                  k_GM_calculate_206 a1 a2 s0 x2 x3 x5
                else
                  if x5 = 11 then
                    k_GM_calculate_206 a1 a2 s0 x2 x3 x5
                  else
                    if x5 = 0 then
                      k_GM_calculate_257 a1 a2 s0 x1 x2 x3 x5
                    else
                      if x5 = 8 then
                        k_GM_calculate_257 a1 a2 s0 x1 x2 x3 x5
                      else
                        if x5 = 1 then
                          k_GM_calculate_330 a1 a2 s0 x1 x2 x5 (x2 ^^^ x3)
                        else
                          if x5 = 12 then
                            k_GM_calculate_330 a1 a2 s0 x1 x2 x5 (x2 ||| x3)
                          else
                            if x5 = 13 then
                              k_GM_calculate_330 a1 a2 s0 x1 x2 x5 (x2 * x3)
                            else
                              if x5 = 14 then
                                k_GM_calculate_330 a1 a2 s0 x1 x2 x5 (x2 &&& (x3 ^^^ (-1 : Int32)))
                              else
                                k_GM_calculate_330 a1 a2 s0 x1 x2 x5 (x3 ^^^ (-1 : Int32))
-- GrantKernelModel.immediate(II)V
def k_GM_immediate_113 (a1 : Int32) (a2 : Int32) (s0 : zS) (t0 : Int32) (t1 : Int32) : Option (zS) :=
  ck (zi t1 32) <|
  lt (zu s0 11 0 t1.toNatClampNeg t0) fun s7 =>
  some s7
def k_GM_immediate_91 (a1 : Int32) (a2 : Int32) (s0 : zS) (l3 : Int32) (l5 : Int32) (l6 : Int32) : Option (zS) :=
  if l5 = 5 then
    ck (zi l3 32) <|
    k_GM_immediate_113 a1 a2 s0 (s0 11 0 l3.toNatClampNeg) l3
  else
    k_GM_immediate_113 a1 a2 s0 l6 l3
def k_GM_immediate_76 (a1 : Int32) (a2 : Int32) (s0 : zS) (l3 : Int32) (l4 : Int32) (l5 : Int32) (t0 : Int32) : Option (zS) :=
  if l5 = 4 then
    bn (k_GM_nz s0 a1 l4) fun s4 =>
    k_GM_immediate_91 a1 a2 s4 l3 l5 t0
  else
    k_GM_immediate_91 a1 a2 s0 l3 l5 t0
def k_GM_immediate_73 (a1 : Int32) (a2 : Int32) (s0 : zS) (l3 : Int32) (l4 : Int32) (l5 : Int32) (t0 : Int32) (t1 : Int32) (t2 : Int32) (t3 : Int32) : Option (zS) :=
  bn (k_GM_sum s0 t3 t2 t1 t0) fun (s5, r6) =>
  k_GM_immediate_76 a1 a2 s5 l3 l4 l5 r6
def k_GM_immediate_61 (a1 : Int32) (a2 : Int32) (s0 : zS) (l3 : Int32) (l4 : Int32) (l5 : Int32) (t0 : Int32) (t1 : Int32) (t2 : Int32) : Option (zS) :=
  if l5 = 6 then
    k_GM_immediate_73 a1 a2 s0 l3 l4 l5 0 t0 t1 t2
  else
    k_GM_immediate_73 a1 a2 s0 l3 l4 l5 1 t0 t1 t2
def k_GM_immediate (s0 : zS) (a1 : Int32) (a2 : Int32) : Option (zS) :=
  lt (((8 : Int32) * a1) + ((a2 >>> ((8 : Int32) &&& 31)) &&& (7 : Int32))) fun x1 =>
  lt (a2 &&& (255 : Int32)) fun x2 =>
  lt (a2 >>> ((11 : Int32) &&& 31)) fun x3 =>
  if x3 = 4 then
    k_GM_immediate_76 a1 a2 s0 x1 x2 x3 x2
  else
    ck (zi x1 32) <|
    if x3 = 6 then
      k_GM_immediate_61 a1 a2 s0 x1 x2 x3 x2 (s0 11 0 x1.toNatClampNeg) a1
    else
      k_GM_immediate_61 a1 a2 s0 x1 x2 x3 (x2 ^^^ (-1 : Int32)) (s0 11 0 x1.toNatClampNeg) a1
-- GrantKernelModel.addOrTake(II)V
def k_GM_addOrTake_112 (a1 : Int32) (a2 : Int32) (s0 : zS) (t0 : Int32) (t1 : Int32) (t2 : Int32) (t3 : Int32) (t5 : Int32) : Option (zS) :=
  bn (k_GM_sum s0 t3 t2 t1 t0) fun (s3, r4) =>
  ck (zi t5 32) <|
  lt (zu s3 11 0 t5.toNatClampNeg r4) fun s5 =>
  some s5
def k_GM_addOrTake_102 (a1 : Int32) (a2 : Int32) (s0 : zS) (l6 : Int32) (t0 : Int32) (t1 : Int32) (t2 : Int32) (t4 : Int32) : Option (zS) :=
  if l6 = 0 then
    k_GM_addOrTake_112 a1 a2 s0 0 t0 t1 t2 t4
  else
    k_GM_addOrTake_112 a1 a2 s0 1 t0 t1 t2 t4
def k_GM_addOrTake_70 (a1 : Int32) (a2 : Int32) (s0 : zS) (l3 : Int32) (l5 : Int32) (t0 : Int32) : Option (zS) :=
  if t0 = 0 then
    k_GM_addOrTake_102 a1 a2 s0 t0 l5 l3 a1 (((8 : Int32) * a1) + (a2 &&& (7 : Int32)))
  else
    k_GM_addOrTake_102 a1 a2 s0 t0 (l5 ^^^ (-1 : Int32)) l3 a1 (((8 : Int32) * a1) + (a2 &&& (7 : Int32)))
def k_GM_addOrTake_53 (a1 : Int32) (a2 : Int32) (s0 : zS) (l3 : Int32) (t0 : Int32) : Option (zS) :=
  if ((a2 >>> ((9 : Int32) &&& 31)) &&& (1 : Int32)) = 1 then
    k_GM_addOrTake_70 a1 a2 s0 l3 t0 1
  else
    k_GM_addOrTake_70 a1 a2 s0 l3 t0 0
def k_GM_addOrTake (s0 : zS) (a1 : Int32) (a2 : Int32) : Option (zS) :=
  ck (zi (((8 : Int32) * a1) + ((a2 >>> ((3 : Int32) &&& 31)) &&& (7 : Int32))) 32) <|
  lt (s0 11 0 (((8 : Int32) * a1) + ((a2 >>> ((3 : Int32) &&& 31)) &&& (7 : Int32))).toNatClampNeg) fun x1 =>
  lt ((a2 >>> ((6 : Int32) &&& 31)) &&& (7 : Int32)) fun x2 =>
  if ((a2 >>> ((10 : Int32) &&& 31)) &&& (1 : Int32)) = 1 then
    k_GM_addOrTake_53 a1 a2 s0 x1 x2
  else
    ck (zi (((8 : Int32) * a1) + x2) 32) <|
    k_GM_addOrTake_53 a1 a2 s0 x1 (s0 11 0 (((8 : Int32) * a1) + x2).toNatClampNeg)
-- GrantKernelModel.access(IIIZ)V
def k_GM_access (s0 : zS) (a1 : Int32) (a2 : Int32) (a3 : Int32) (a4 : Int32) : Option (zS) :=
  bn (k_GM_may s0 a1 a3 a4) fun (s1, r2) =>
  if r2 = 0 then
    some s1
  else
    if a4 = 0 then
      bn (k_GM_get s1 a3) fun (s3, r4) =>
      ck (zi (((8 : Int32) * a1) + a2) 32) <|
      lt (zu s3 11 0 (((8 : Int32) * a1) + a2).toNatClampNeg r4) fun s5 =>
      some s5
    else
      ck (zi (((8 : Int32) * a1) + a2) 32) <|
      bn (k_GM_set s1 a3 (s1 11 0 (((8 : Int32) * a1) + a2).toNatClampNeg)) fun s6 =>
      some s6
-- GrantKernelModel.leap(II)V
def k_GM_leap_48 (a1 : Int32) (a2 : Int32) (s0 : zS) : Option (zS) :=
  lt (zu s0 0 0 37 2) fun s3 =>
  some s3
def k_GM_leap_133 (a1 : Int32) (a2 : Int32) (s0 : zS) (t0 : Int32) (t1 : Int32) : Option (zS) :=
  ck (zi t1 4) <|
  lt (zu s0 13 0 t1.toNatClampNeg t0) fun s6 =>
  some s6
def k_GM_leap_80 (a1 : Int32) (a2 : Int32) (s0 : zS) (l4 : Int32) (t0 : Int32) : Option (zS) :=
  if (t0 &&& (1 : Int32)) = 0 then
    lt (zu s0 0 0 37 5) fun s5 =>
    some s5
  else
    lt (zu s0 0 0 39 (t0 - (1 : Int32))) fun s4 =>
    if l4 = 143 then
      ck (zi a1 4) <|
      k_GM_leap_133 a1 a2 s4 ((s4 14 0 a1.toNatClampNeg) + (3 : Int32)) a1
    else
      ck (zi a1 4) <|
      k_GM_leap_133 a1 a2 s4 (s4 13 0 a1.toNatClampNeg) a1
def k_GM_leap_54 (a1 : Int32) (a2 : Int32) (s0 : zS) (l3 : Int32) (l4 : Int32) : Option (zS) :=
  if l3 = 14 then
    ck (zi a1 4) <|
    k_GM_leap_80 a1 a2 s0 l4 (s0 13 0 a1.toNatClampNeg)
  else
    ck (zi (((8 : Int32) * a1) + l3) 32) <|
    k_GM_leap_80 a1 a2 s0 l4 (s0 11 0 (((8 : Int32) * a1) + l3).toNatClampNeg)
def k_GM_leap_29 (a1 : Int32) (a2 : Int32) (s0 : zS) (l3 : Int32) (l4 : Int32) : Option (zS) :=
  if (a2 &&& (7 : Int32)) = 0 then
    if l3 ≤ 7 then
      k_GM_leap_54 a1 a2 s0 l3 l4
    else
      if l3 = 14 then
        k_GM_leap_54 a1 a2 s0 l3 l4
      else
        k_GM_leap_48 a1 a2 s0
  else
    k_GM_leap_48 a1 a2 s0
def k_GM_leap (s0 : zS) (a1 : Int32) (a2 : Int32) : Option (zS) :=
  lt ((a2 >>> ((3 : Int32) &&& 31)) &&& (15 : Int32)) fun x1 =>
  lt (a2 >>> ((7 : Int32) &&& 31)) fun x2 =>
  if x2 = 142 then
    k_GM_leap_29 a1 a2 s0 x1 x2
  else
    if x2 = 143 then
      k_GM_leap_29 a1 a2 s0 x1 x2
    else
      k_GM_leap_48 a1 a2 s0
-- GrantKernelModel.named(I)I
def k_GM_named_4 (a1 : Int32) : Nat → zS → Int32 → Int32 → Option (zS × Int32)
  | 0, _, _, _ => none
  | n + 1, s0, l1, l2 =>
    if 9 ≤ l2 then
      some (s0, l1)
    else
      lt (l1 + ((a1 >>> (l2 &&& 31)) &&& (1 : Int32))) fun x1 =>
      lt (l2 + 1) fun x2 =>
      k_GM_named_4 a1 n s0 x1 x2
def k_GM_named (s0 : zS) (a1 : Int32) : Option (zS × Int32) :=
  k_GM_named_4 a1 FU s0 0 0
-- GrantKernelModel.push(II)V
def k_GM_push_49 (a1 : Int32) (a2 : Int32) (K20 : zS → Int32 → Int32 → Int32 → Option (zS)) (s0 : zS) (l3 : Int32) (l4 : Int32) (l5 : Int32) : Option (zS) :=
  lt (l5 + 1) fun x8 =>
  K20 s0 l3 l4 x8
def k_GM_push_123 (a1 : Int32) (a2 : Int32) (K69 : zS → Int32 → Int32 → Int32 → Option (zS)) (s0 : zS) (l3 : Int32) (l4 : Int32) (l5 : Int32) : Option (zS) :=
  lt (l5 + 1) fun x9 =>
  K69 s0 l3 l4 x9
def k_GM_push_117 (a1 : Int32) (a2 : Int32) (K69 : zS → Int32 → Int32 → Int32 → Option (zS)) (s0 : zS) (l3 : Int32) (l4 : Int32) (l5 : Int32) (t0 : Int32) (t1 : Int32) : Option (zS) :=
  bn (k_GM_set s0 t1 t0) fun s10 =>
  lt (l4 + 4) fun x11 =>
  k_GM_push_123 a1 a2 K69 s10 l3 x11 l5
def k_GM_push_69 (a1 : Int32) (a2 : Int32) : Nat → zS → Int32 → Int32 → Int32 → Option (zS)
  | 0, _, _, _, _ => none
  | n + 1, s0, l3, l4, l5 =>
    if 9 ≤ l5 then
      ck (zi a1 4) <|
      lt (zu s0 12 0 a1.toNatClampNeg l3) fun s7 =>
      some s7
    else
      if ((a2 >>> (l5 &&& 31)) &&& (1 : Int32)) = 1 then
        if l5 = 8 then
          ck (zi a1 4) <|
          k_GM_push_117 a1 a2 (k_GM_push_69 a1 a2 n) s0 l3 l4 l5 (s0 13 0 a1.toNatClampNeg) l4
        else
          ck (zi (((8 : Int32) * a1) + l5) 32) <|
          k_GM_push_117 a1 a2 (k_GM_push_69 a1 a2 n) s0 l3 l4 l5 (s0 11 0 (((8 : Int32) * a1) + l5).toNatClampNeg) l4
      else
        k_GM_push_123 a1 a2 (k_GM_push_69 a1 a2 n) s0 l3 l4 l5
def k_GM_push_20 (a1 : Int32) (a2 : Int32) : Nat → zS → Int32 → Int32 → Int32 → Option (zS)
  | 0, _, _, _, _ => none
  | n + 1, s0, l3, l4, l5 =>
    if 9 ≤ l5 then
      if (s0 0 0 37) ≤ 0 then
        k_GM_push_69 a1 a2 FU s0 l3 l3 0
      else
        some s0
    else
      if ((a2 >>> (l5 &&& 31)) &&& (1 : Int32)) = 1 then
        bn (k_GM_may s0 a1 l4 1) fun (s4, r5) =>
        lt (l4 + 4) fun x6 =>
        k_GM_push_49 a1 a2 (k_GM_push_20 a1 a2 n) s4 l3 x6 l5
      else
        k_GM_push_49 a1 a2 (k_GM_push_20 a1 a2 n) s0 l3 l4 l5
def k_GM_push (s0 : zS) (a1 : Int32) (a2 : Int32) : Option (zS) :=
  ck (zi a1 4) <|
  bn (k_GM_named s0 a2) fun (s1, r2) =>
  lt ((s0 12 0 a1.toNatClampNeg) - ((4 : Int32) * r2)) fun x3 =>
  k_GM_push_20 a1 a2 FU s1 x3 x3 0
-- GrantKernelModel.pop(II)V
def k_GM_pop_134 (a1 : Int32) (a2 : Int32) (K96 : zS → Int32 → Int32 → Int32 → Int32 → Option (zS)) (s0 : zS) (l3 : Int32) (l4 : Int32) (l5 : Int32) (l6 : Int32) : Option (zS) :=
  lt (l6 + 1) fun x19 =>
  K96 s0 l3 l4 l5 x19
def k_GM_pop_164 (a1 : Int32) (a2 : Int32) (s0 : zS) (l3 : Int32) (t0 : Int32) : Option (zS) :=
  lt (zu s0 0 0 39 t0) fun s17 =>
  ck (zi a1 4) <|
  ck (zi a1 4) <|
  lt (zu s17 12 0 a1.toNatClampNeg ((s17 12 0 a1.toNatClampNeg) + ((4 : Int32) * l3))) fun s18 =>
  some s18
def k_GM_pop_96 (a1 : Int32) (a2 : Int32) : Nat → zS → Int32 → Int32 → Int32 → Int32 → Option (zS)
  | 0, _, _, _, _, _ => none
  | n + 1, s0, l3, l4, l5, l6 =>
    if 8 ≤ l6 then
      if (a2 &&& (256 : Int32)) = 0 then
        k_GM_pop_164 a1 a2 s0 l3 (s0 0 0 39)
      else
        bn (k_GM_get s0 l4) fun (s11, r12) =>
        k_GM_pop_164 a1 a2 s11 l3 (r12 - (1 : Int32))
    else
      if ((a2 >>> (l6 &&& 31)) &&& (1 : Int32)) = 1 then
        bn (k_GM_get s0 l5) fun (s13, r14) =>
        ck (zi (((8 : Int32) * a1) + l6) 32) <|
        lt (zu s13 11 0 (((8 : Int32) * a1) + l6).toNatClampNeg r14) fun s15 =>
        lt (l5 + 4) fun x16 =>
        k_GM_pop_134 a1 a2 (k_GM_pop_96 a1 a2 n) s15 l3 l4 x16 l6
      else
        k_GM_pop_134 a1 a2 (k_GM_pop_96 a1 a2 n) s0 l3 l4 l5 l6
def k_GM_pop_85 (a1 : Int32) (a2 : Int32) (s0 : zS) (l3 : Int32) (l4 : Int32) : Option (zS) :=
  ck (zi a1 4) <|
  lt (s0 12 0 a1.toNatClampNeg) fun x10 =>
  k_GM_pop_96 a1 a2 FU s0 l3 l4 x10 0
def k_GM_pop_8 (a1 : Int32) (a2 : Int32) : Nat → zS → Int32 → Int32 → Option (zS)
  | 0, _, _, _ => none
  | n + 1, s0, l3, l4 =>
    if l3 ≤ l4 then
      if (s0 0 0 37) ≤ 0 then
        ck (zi a1 4) <|
        lt (((s0 12 0 a1.toNatClampNeg) + ((4 : Int32) * l3)) - (4 : Int32)) fun x3 =>
        if (a2 &&& (256 : Int32)) = 0 then
          k_GM_pop_85 a1 a2 s0 l3 x3
        else
          bn (k_GM_get s0 x3) fun (s4, r5) =>
          if (r5 &&& (1 : Int32)) = 0 then
            lt (zu s4 0 0 37 5) fun s6 =>
            some s6
          else
            k_GM_pop_85 a1 a2 s4 l3 x3
      else
        some s0
    else
      ck (zi a1 4) <|
      bn (k_GM_may s0 a1 ((s0 12 0 a1.toNatClampNeg) + ((4 : Int32) * l4)) 0) fun (s7, r8) =>
      lt (l4 + 1) fun x9 =>
      k_GM_pop_8 a1 a2 n s7 l3 x9
def k_GM_pop (s0 : zS) (a1 : Int32) (a2 : Int32) : Option (zS) :=
  bn (k_GM_named s0 a2) fun (s1, r2) =>
  k_GM_pop_8 a1 a2 FU s1 r2 0
-- GrantKernelModel.holds(II)Z
def k_GM_holds_183 (a1 : Int32) (a2 : Int32) (s0 : zS) (t0 : Int32) : Option (zS × Int32) :=
  if (a2 &&& (1 : Int32)) = 0 then
    ck (zb t0) <|
    some (s0, t0)
  else
    if t0 = 0 then
      some (s0, 1)
    else
      some (s0, 0)
def k_GM_holds_142 (a1 : Int32) (a2 : Int32) (s0 : zS) : Option (zS × Int32) :=
  k_GM_holds_183 a1 a2 s0 0
def k_GM_holds_182 (a1 : Int32) (a2 : Int32) (s0 : zS) : Option (zS × Int32) :=
  k_GM_holds_183 a1 a2 s0 0
def k_GM_holds_70 (a1 : Int32) (a2 : Int32) (s0 : zS) (l3 : Int32) (l4 : Int32) (l5 : Int32) (t0 : Int32) : Option (zS × Int32) :=
  lt (a2 &&& (14 : Int32)) fun x1 =>
  if x1 = 0 then
    k_GM_holds_183 a1 a2 s0 l4
  else
    if x1 = 2 then
      k_GM_holds_183 a1 a2 s0 l5
    else
      if x1 = 4 then
        k_GM_holds_183 a1 a2 s0 l3
      else
        if x1 = 6 then
          k_GM_holds_183 a1 a2 s0 t0
        else
          if x1 = 8 then
            if l5 = 0 then
              k_GM_holds_142 a1 a2 s0
            else
              if l4 = 0 then
                k_GM_holds_183 a1 a2 s0 1
              else
                k_GM_holds_142 a1 a2 s0
          else
            if x1 = 10 then
              if l3 = t0 then
                k_GM_holds_183 a1 a2 s0 1
              else
                k_GM_holds_183 a1 a2 s0 0
            else
              if l4 = 0 then
                if l3 = t0 then
                  k_GM_holds_183 a1 a2 s0 1
                else
                  k_GM_holds_182 a1 a2 s0
              else
                k_GM_holds_182 a1 a2 s0
def k_GM_holds_52 (a1 : Int32) (a2 : Int32) (s0 : zS) (l3 : Int32) (l4 : Int32) (t0 : Int32) : Option (zS × Int32) :=
  ck (zi a1 4) <|
  if ((s0 15 0 a1.toNatClampNeg) &&& (1 : Int32)) = 0 then
    k_GM_holds_70 a1 a2 s0 l3 l4 t0 0
  else
    k_GM_holds_70 a1 a2 s0 l3 l4 t0 1
def k_GM_holds_34 (a1 : Int32) (a2 : Int32) (s0 : zS) (l3 : Int32) (t0 : Int32) : Option (zS × Int32) :=
  ck (zi a1 4) <|
  if ((s0 15 0 a1.toNatClampNeg) &&& (2 : Int32)) = 0 then
    k_GM_holds_52 a1 a2 s0 l3 t0 0
  else
    k_GM_holds_52 a1 a2 s0 l3 t0 1
def k_GM_holds_17 (a1 : Int32) (a2 : Int32) (s0 : zS) (t0 : Int32) : Option (zS × Int32) :=
  ck (zi a1 4) <|
  if ((s0 15 0 a1.toNatClampNeg) &&& (4 : Int32)) = 0 then
    k_GM_holds_34 a1 a2 s0 t0 0
  else
    k_GM_holds_34 a1 a2 s0 t0 1
def k_GM_holds (s0 : zS) (a1 : Int32) (a2 : Int32) : Option (zS × Int32) :=
  ck (zi a1 4) <|
  if ((s0 15 0 a1.toNatClampNeg) &&& (8 : Int32)) = 0 then
    k_GM_holds_17 a1 a2 s0 0
  else
    k_GM_holds_17 a1 a2 s0 1
-- GrantKernelModel.oldest(I)I
def k_GM_oldest_2 (a1 : Int32) : Nat → zS → Int32 → Option (zS × Int32)
  | 0, _, _ => none
  | n + 1, s0, l2 =>
    if (s0 0 0 28) ≤ l2 then
      some (s0, (-1))
    else
      ck (zi l2 16) <|
      if (s0 25 0 l2.toNatClampNeg) = a1 then
        some (s0, l2)
      else
        lt (l2 + 1) fun x1 =>
        k_GM_oldest_2 a1 n s0 x1
def k_GM_oldest (s0 : zS) (a1 : Int32) : Option (zS × Int32) :=
  k_GM_oldest_2 a1 FU s0 0
-- GrantKernelModel.deliver(IIII)V
def k_GM_deliver (s0 : zS) (a1 : Int32) (a2 : Int32) (a3 : Int32) (a4 : Int32) : Option (zS) :=
  ck (zi a1 4) <|
  lt (s0 12 0 a1.toNatClampNeg) fun x1 =>
  bn (k_GM_set s0 x1 a3) fun s2 =>
  bn (k_GM_set s2 (x1 + (4 : Int32)) a4) fun s3 =>
  bn (k_GM_set s3 (x1 + (8 : Int32)) a2) fun s4 =>
  ck (zi (((3 : Int32) * a1) + a2) 12) <|
  bn (k_GM_set s4 (x1 + (12 : Int32)) (s4 22 0 (((3 : Int32) * a1) + a2).toNatClampNeg)) fun s5 =>
  bn (k_GM_get s5 (x1 + (24 : Int32))) fun (s6, r7) =>
  bn (k_GM_set s6 (x1 + (20 : Int32)) (r7 + (1 : Int32))) fun s8 =>
  ck (zi (((3 : Int32) * a1) + a2) 12) <|
  bn (k_GM_set s8 (x1 + (24 : Int32)) ((s8 21 0 (((3 : Int32) * a1) + a2).toNatClampNeg) &&& (-2 : Int32))) fun s9 =>
  ck (zi a1 4) <|
  lt (zu s9 10 0 a1.toNatClampNeg 0) fun s10 =>
  some s10
-- GrantKernelModel.grantAddress(II)I
def k_GM_grantAddress (s0 : zS) (a1 : Int32) (a2 : Int32) : Option (zS × Int32) :=
  ck (zi a1 4) <|
  ck (zi a1 4) <|
  ck (zi (((3 : Int32) * a1) + a2) 12) <|
  some (s0, (4096 : Int32) + ((4 : Int32) * (((s0 5 0 a1.toNatClampNeg) + (s0 6 0 a1.toNatClampNeg)) - ((2 : Int32) * (s0 20 0 (((3 : Int32) * a1) + a2).toNatClampNeg)))))
-- GrantKernelModel.write(IIII)V
def k_GM_write (s0 : zS) (a1 : Int32) (a2 : Int32) (a3 : Int32) (a4 : Int32) : Option (zS) :=
  bn (k_GM_grantAddress s0 a1 a2) fun (s1, r2) =>
  bn (k_GM_set s1 (r2 + ((4 : Int32) * a3)) a4) fun s3 =>
  some s3
-- GrantKernelModel.ensure(II)Z
def k_GM_ensure_113 (a1 : Int32) (a2 : Int32) (K61 : zS → Int32 → Int32 → Int32 → Int32 → Int32 → Option (zS × Int32)) (s0 : zS) (l3 : Int32) (l4 : Int32) (l6 : Int32) (l7 : Int32) (t0 : Int32) : Option (zS × Int32) :=
  lt (l7 + 1) fun x12 =>
  K61 s0 l3 l4 t0 l6 x12
def k_GM_ensure_112 (a1 : Int32) (a2 : Int32) (K61 : zS → Int32 → Int32 → Int32 → Int32 → Int32 → Option (zS × Int32)) (s0 : zS) (l3 : Int32) (l4 : Int32) (l6 : Int32) (l7 : Int32) : Option (zS × Int32) :=
  k_GM_ensure_113 a1 a2 K61 s0 l3 l4 l6 l7 0
def k_GM_ensure_61 (a1 : Int32) (a2 : Int32) (K52 : zS → Int32 → Int32 → Int32 → Int32 → Option (zS × Int32)) : Nat → zS → Int32 → Int32 → Int32 → Int32 → Int32 → Option (zS × Int32)
  | 0, _, _, _, _, _, _ => none
  | n + 1, s0, l3, l4, l5, l6, l7 =>
    ck (zi (((3 : Int32) * a1) + l6) 12) <|
    if (s0 24 0 (((3 : Int32) * a1) + l6).toNatClampNeg) ≤ l7 then
      lt (l6 + 1) fun x9 =>
      K52 s0 l3 l4 l5 x9
    else
      if l5 = 0 then
        k_GM_ensure_112 a1 a2 (k_GM_ensure_61 a1 a2 K52 n) s0 l3 l4 l6 l7
      else
        ck (zi (((3 : Int32) * a1) + l6) 12) <|
        bn (k_GM_within s0 a1 ((s0 23 0 (((3 : Int32) * a1) + l6).toNatClampNeg) + ((4 : Int32) * l7)) l4) fun (s10, r11) =>
        if r11 = 0 then
          k_GM_ensure_112 a1 a2 (k_GM_ensure_61 a1 a2 K52 n) s10 l3 l4 l6 l7
        else
          k_GM_ensure_113 a1 a2 (k_GM_ensure_61 a1 a2 K52 n) s10 l3 l4 l6 l7 1
def k_GM_ensure_52 (a1 : Int32) (a2 : Int32) : Nat → zS → Int32 → Int32 → Int32 → Int32 → Option (zS × Int32)
  | 0, _, _, _, _, _ => none
  | n + 1, s0, l3, l4, l5, l6 =>
    if 3 ≤ l6 then
      if l5 = 0 then
        ck (zb l5) <|
        some (s0, l5)
      else
        ck (zn 2) <|
        ck (zi (((3 : Int32) * a1) + a2) 12) <|
        lt (zu s0 20 0 (((3 : Int32) * a1) + a2).toNatClampNeg (l3 / 2)) fun s6 =>
        bn (k_GM_write s6 a1 a2 0 0) fun s7 =>
        bn (k_GM_write s7 a1 a2 1 0) fun s8 =>
        ck (zb l5) <|
        some (s8, l5)
    else
      k_GM_ensure_61 a1 a2 (k_GM_ensure_52 a1 a2 n) FU s0 l3 l4 l5 l6 0
def k_GM_ensure_47 (a1 : Int32) (a2 : Int32) (s0 : zS) (l3 : Int32) (l4 : Int32) (t0 : Int32) : Option (zS × Int32) :=
  k_GM_ensure_52 a1 a2 FU s0 l3 l4 t0 0
def k_GM_ensure (s0 : zS) (a1 : Int32) (a2 : Int32) : Option (zS × Int32) :=
  ck (zi (((3 : Int32) * a1) + a2) 12) <|
  if (s0 20 0 (((3 : Int32) * a1) + a2).toNatClampNeg) ≤ 0 then
    bn (k_GM_granted s0 a1) fun (s1, r2) =>
    lt (r2 + (2 : Int32)) fun x3 =>
    bn (k_GM_openWords s1 a1 x3) fun (s4, r5) =>
    ck (zi a1 4) <|
    if r5 < (s4 7 0 a1.toNatClampNeg) then
      k_GM_ensure_47 a1 a2 s4 x3 r5 0
    else
      k_GM_ensure_47 a1 a2 s4 x3 r5 1
  else
    some (s0, 1)
-- GrantKernelModel.subscribe(IIII)I
def k_GM_subscribe (s0 : zS) (a1 : Int32) (a2 : Int32) (a3 : Int32) (a4 : Int32) : Option (zS × Int32) :=
  ck (zi (((3 : Int32) * a1) + a2) 12) <|
  lt (zu s0 21 0 (((3 : Int32) * a1) + a2).toNatClampNeg a3) fun s1 =>
  ck (zi (((3 : Int32) * a1) + a2) 12) <|
  lt (zu s1 22 0 (((3 : Int32) * a1) + a2).toNatClampNeg a4) fun s2 =>
  bn (k_GM_drop s2 a1 a2) fun s3 =>
  some (s3, 0)
-- GrantKernelModel.note(III)I
def k_GM_note (s0 : zS) (a1 : Int32) (a2 : Int32) (a3 : Int32) : Option (zS × Int32) :=
  bn (k_GM_grantAddress s0 a1 a2) fun (s1, r2) =>
  bn (k_GM_get s1 (r2 + ((4 : Int32) * a3))) fun (s3, r4) =>
  some (s3, r4)
-- GrantKernelModel.waiting(I)I
def k_GM_waiting_28 (a1 : Int32) (K4 : zS → Int32 → Int32 → Option (zS × Int32)) (s0 : zS) (l3 : Int32) (t0 : Int32) (t1 : Int32) : Option (zS × Int32) :=
  lt (t1 + t0) fun x1 =>
  lt (l3 + 1) fun x2 =>
  K4 s0 x1 x2
def k_GM_waiting_4 (a1 : Int32) : Nat → zS → Int32 → Int32 → Option (zS × Int32)
  | 0, _, _, _ => none
  | n + 1, s0, l2, l3 =>
    if (s0 0 0 28) ≤ l3 then
      some (s0, l2)
    else
      ck (zi l3 16) <|
      if (s0 25 0 l3.toNatClampNeg) = a1 then
        k_GM_waiting_28 a1 (k_GM_waiting_4 a1 n) s0 l3 1 l2
      else
        k_GM_waiting_28 a1 (k_GM_waiting_4 a1 n) s0 l3 0 l2
def k_GM_waiting (s0 : zS) (a1 : Int32) : Option (zS × Int32) :=
  k_GM_waiting_4 a1 FU s0 0 0
-- GrantKernelModel.upcall(IIII)V
def k_GM_upcall (s0 : zS) (a1 : Int32) (a2 : Int32) (a3 : Int32) (a4 : Int32) : Option (zS) :=
  ck (zi (((3 : Int32) * a1) + a2) 12) <|
  if (s0 21 0 (((3 : Int32) * a1) + a2).toNatClampNeg) = 0 then
    some s0
  else
    ck (zi a1 4) <|
    if (s0 10 0 a1.toNatClampNeg) = 1 then
      bn (k_GM_deliver s0 a1 a2 a3 a4) fun s8 =>
      some s8
    else
      bn (k_GM_waiting s0 a1) fun (s1, r2) =>
      if 4 ≤ r2 then
        some s1
      else
        ck (zi (s1 0 0 28) 16) <|
        lt (zu s1 25 0 (s1 0 0 28).toNatClampNeg a1) fun s3 =>
        ck (zi (s3 0 0 28) 16) <|
        lt (zu s3 26 0 (s3 0 0 28).toNatClampNeg a2) fun s4 =>
        ck (zi (s4 0 0 28) 16) <|
        lt (zu s4 27 0 (s4 0 0 28).toNatClampNeg a3) fun s5 =>
        ck (zi (s5 0 0 28) 16) <|
        lt (zu s5 28 0 (s5 0 0 28).toNatClampNeg a4) fun s6 =>
        lt (zu s6 0 0 28 ((s6 0 0 28) + (1 : Int32))) fun s7 =>
        some s7
-- GrantKernelModel.print(II)I
def k_GM_print_32 (a1 : Int32) (a2 : Int32) : Nat → zS → Int32 → Int32 → Option (zS × Int32)
  | 0, _, _, _ => none
  | n + 1, s0, l3, l4 =>
    if l3 ≤ l4 then
      bn (k_GM_note s0 a1 1 1) fun (s1, r2) =>
      lt (r2 + l3) fun x3 =>
      bn (k_GM_write s1 a1 1 1 x3) fun s4 =>
      bn (k_GM_upcall s4 a1 1 l3 0) fun s5 =>
      some (s5, 0)
    else
      ck (zi (((3 : Int32) * a1) + (1 : Int32)) 12) <|
      bn (k_GM_get s0 ((s0 23 0 (((3 : Int32) * a1) + (1 : Int32)).toNatClampNeg) + ((4 : Int32) * l4))) fun (s6, r7) =>
      ck (zi ((s0 0 0 35) &&& (15 : Int32)) 16) <|
      lt (zu s6 30 0 ((s0 0 0 35) &&& (15 : Int32)).toNatClampNeg r7) fun s8 =>
      lt (zu s8 0 0 35 ((s8 0 0 35) + (1 : Int32))) fun s9 =>
      lt (l4 + 1) fun x10 =>
      k_GM_print_32 a1 a2 n s9 l3 x10
def k_GM_print_28 (a1 : Int32) (a2 : Int32) (s0 : zS) (t0 : Int32) : Option (zS × Int32) :=
  k_GM_print_32 a1 a2 FU s0 t0 0
def k_GM_print (s0 : zS) (a1 : Int32) (a2 : Int32) : Option (zS × Int32) :=
  ck (zi (((3 : Int32) * a1) + (1 : Int32)) 12) <|
  if (s0 24 0 (((3 : Int32) * a1) + (1 : Int32)).toNatClampNeg) ≤ a2 then
    ck (zi (((3 : Int32) * a1) + (1 : Int32)) 12) <|
    k_GM_print_28 a1 a2 s0 (s0 24 0 (((3 : Int32) * a1) + (1 : Int32)).toNatClampNeg)
  else
    k_GM_print_28 a1 a2 s0 a2
-- GrantKernelModel.receive(II)V
def k_GM_receive_28 (a1 : Int32) (a2 : Int32) (s0 : zS) : Option (zS) :=
  bn (k_GM_write s0 a1 1 0 0) fun s2 =>
  bn (k_GM_upcall s2 a1 1 a2 1) fun s3 =>
  some s3
def k_GM_receive (s0 : zS) (a1 : Int32) (a2 : Int32) : Option (zS) :=
  ck (zi (((3 : Int32) * a1) + (1 : Int32)) 12) <|
  if (s0 24 0 (((3 : Int32) * a1) + (1 : Int32)).toNatClampNeg) ≤ 0 then
    k_GM_receive_28 a1 a2 s0
  else
    ck (zi (((3 : Int32) * a1) + (1 : Int32)) 12) <|
    bn (k_GM_set s0 (s0 23 0 (((3 : Int32) * a1) + (1 : Int32)).toNatClampNeg) a2) fun s1 =>
    k_GM_receive_28 a1 a2 s1
-- GrantKernelModel.command(IIII)I
def k_GM_command_187 (a1 : Int32) (a2 : Int32) (a3 : Int32) (a4 : Int32) : Nat → zS → Int32 → Int32 → Option (zS × Int32)
  | 0, _, _, _ => none
  | n + 1, s0, l5, l6 =>
    if (s0 0 0 33) ≤ l6 then
      bn (k_GM_receive s0 a1 l5) fun s13 =>
      some (s13, 0)
    else
      ck (zi (l6 + (1 : Int32)) 8) <|
      ck (zi l6 8) <|
      lt (zu s0 29 0 l6.toNatClampNeg (s0 29 0 (l6 + (1 : Int32)).toNatClampNeg)) fun s14 =>
      lt (l6 + 1) fun x15 =>
      k_GM_command_187 a1 a2 a3 a4 n s14 l5 x15
def k_GM_command_228 (a1 : Int32) (a2 : Int32) (a3 : Int32) (a4 : Int32) (s0 : zS) : Option (zS × Int32) :=
  bn (k_GM_write s0 a1 a2 0 1) fun s12 =>
  some (s12, 0)
def k_GM_command_127 (a1 : Int32) (a2 : Int32) (a3 : Int32) (a4 : Int32) (s0 : zS) : Option (zS × Int32) :=
  if a2 ≤ 0 then
    some (s0, (-1))
  else
    ck (zn 2) <|
    if a3 = ((a2 - a2 / 2 * 2) + (1 : Int32)) then
      bn (k_GM_note s0 a1 a2 0) fun (s8, r9) =>
      if r9 = 1 then
        some (s8, (-5))
      else
        if a2 = 1 then
          if (s8 0 0 33) ≤ 0 then
            k_GM_command_228 a1 a2 a3 a4 s8
          else
            ck (zi 0 8) <|
            lt (s8 29 0 (0 : Int32).toNatClampNeg) fun x10 =>
            lt (zu s8 0 0 33 ((s8 0 0 33) - (1 : Int32))) fun s11 =>
            k_GM_command_187 a1 a2 a3 a4 FU s11 x10 0
        else
          k_GM_command_228 a1 a2 a3 a4 s8
    else
      some (s0, (-1))
def k_GM_command_99 (a1 : Int32) (a2 : Int32) (a3 : Int32) (a4 : Int32) (s0 : zS) : Option (zS × Int32) :=
  if a2 = 1 then
    if a3 = 1 then
      if 0 ≤ a4 then
        bn (k_GM_print s0 a1 a4) fun (s6, r7) =>
        some (s6, r7)
      else
        some (s0, (-3))
    else
      k_GM_command_127 a1 a2 a3 a4 s0
  else
    k_GM_command_127 a1 a2 a3 a4 s0
def k_GM_command_49 (a1 : Int32) (a2 : Int32) (a3 : Int32) (a4 : Int32) (s0 : zS) : Option (zS × Int32) :=
  if a2 = 0 then
    if a3 = 1 then
      if a4 < 1 then
        some (s0, (-3))
      else
        if a4 ≤ 1000 then
          bn (k_GM_write s0 a1 0 0 1) fun s4 =>
          bn (k_GM_write s4 a1 0 1 ((s4 0 0 2) + a4)) fun s5 =>
          some (s5, 0)
        else
          some (s0, (-3))
    else
      k_GM_command_99 a1 a2 a3 a4 s0
  else
    k_GM_command_99 a1 a2 a3 a4 s0
def k_GM_command_35 (a1 : Int32) (a2 : Int32) (a3 : Int32) (a4 : Int32) (s0 : zS) : Option (zS × Int32) :=
  if a2 = 0 then
    if a3 = 3 then
      some (s0, s0 0 0 2)
    else
      k_GM_command_49 a1 a2 a3 a4 s0
  else
    k_GM_command_49 a1 a2 a3 a4 s0
def k_GM_command (s0 : zS) (a1 : Int32) (a2 : Int32) (a3 : Int32) (a4 : Int32) : Option (zS × Int32) :=
  if a3 = 0 then
    some (s0, 0)
  else
    if a2 = 0 then
      if a3 = 2 then
        bn (k_GM_note s0 a1 0 0) fun (s1, r2) =>
        bn (k_GM_write s1 a1 0 0 0) fun s3 =>
        some (s3, r2)
      else
        k_GM_command_35 a1 a2 a3 a4 s0
    else
      k_GM_command_35 a1 a2 a3 a4 s0
-- GrantKernelModel.allow(IIII)I
def k_GM_allow_29 (a1 : Int32) (a2 : Int32) (a3 : Int32) (a4 : Int32) : Nat → zS → Int32 → Option (zS × Int32)
  | 0, _, _ => none
  | n + 1, s0, l5 =>
    if a4 ≤ l5 then
      ck (zi (((3 : Int32) * a1) + a2) 12) <|
      lt (zu s0 23 0 (((3 : Int32) * a1) + a2).toNatClampNeg a3) fun s1 =>
      ck (zi (((3 : Int32) * a1) + a2) 12) <|
      lt (zu s1 24 0 (((3 : Int32) * a1) + a2).toNatClampNeg a4) fun s2 =>
      some (s2, 0)
    else
      bn (k_GM_isOpen s0 a1 (a3 + ((4 : Int32) * l5))) fun (s3, r4) =>
      if r4 = 0 then
        some (s3, (-3))
      else
        lt (l5 + 1) fun x5 =>
        k_GM_allow_29 a1 a2 a3 a4 n s3 x5
def k_GM_allow_26 (a1 : Int32) (a2 : Int32) (a3 : Int32) (a4 : Int32) (s0 : zS) : Option (zS × Int32) :=
  k_GM_allow_29 a1 a2 a3 a4 FU s0 0
def k_GM_allow (s0 : zS) (a1 : Int32) (a2 : Int32) (a3 : Int32) (a4 : Int32) : Option (zS × Int32) :=
  if a4 = 0 then
    k_GM_allow_26 a1 a2 a3 a4 s0
  else
    if a4 < 0 then
      some (s0, (-3))
    else
      if 64 < a4 then
        some (s0, (-3))
      else
        if (a3 &&& (3 : Int32)) = 0 then
          k_GM_allow_26 a1 a2 a3 a4 s0
        else
          some (s0, (-3))
-- GrantKernelModel.kernel(II)V
def k_GM_kernel_92 (a1 : Int32) (a2 : Int32) : Nat → zS → Int32 → Int32 → Int32 → Int32 → Option (zS)
  | 0, _, _, _, _, _ => none
  | n + 1, s0, l8, l9, l10, l11 =>
    if (s0 0 0 28) ≤ l11 then
      lt (zu s0 0 0 28 ((s0 0 0 28) - (1 : Int32))) fun s24 =>
      bn (k_GM_deliver s24 a1 l8 l9 l10) fun s25 =>
      some s25
    else
      bn (k_GM_move s0 l11 (l11 - (1 : Int32))) fun s26 =>
      lt (l11 + 1) fun x27 =>
      k_GM_kernel_92 a1 a2 n s26 l8 l9 l10 x27
def k_GM_kernel_229 (a1 : Int32) (a2 : Int32) (s0 : zS) (l3 : Int32) (l7 : Int32) : Option (zS) :=
  bn (k_GM_set s0 l3 l7) fun s23 =>
  some s23
def k_GM_kernel_227 (a1 : Int32) (a2 : Int32) (s0 : zS) (l3 : Int32) (t0 : Int32) : Option (zS) :=
  k_GM_kernel_229 a1 a2 s0 l3 t0
def k_GM_kernel_158 (a1 : Int32) (a2 : Int32) (s0 : zS) (l3 : Int32) : Option (zS) :=
  k_GM_kernel_227 a1 a2 s0 l3 (-2)
def k_GM_kernel (s0 : zS) (a1 : Int32) (a2 : Int32) : Option (zS) :=
  ck (zi a1 4) <|
  lt (s0 12 0 a1.toNatClampNeg) fun x1 =>
  bn (k_GM_get s0 x1) fun (s2, r3) =>
  bn (k_GM_get s2 (x1 + (4 : Int32))) fun (s4, r5) =>
  bn (k_GM_get s4 (x1 + (8 : Int32))) fun (s6, r7) =>
  if a2 = 0 then
    bn (k_GM_oldest s6 a1) fun (s16, r17) =>
    if 0 ≤ r17 then
      ck (zi r17 16) <|
      lt (s16 26 0 r17.toNatClampNeg) fun x18 =>
      ck (zi r17 16) <|
      lt (s16 27 0 r17.toNatClampNeg) fun x19 =>
      ck (zi r17 16) <|
      lt (s16 28 0 r17.toNatClampNeg) fun x20 =>
      lt (r17 + (1 : Int32)) fun x21 =>
      k_GM_kernel_92 a1 a2 FU s16 x18 x19 x20 x21
    else
      ck (zi a1 4) <|
      lt (zu s16 10 0 a1.toNatClampNeg 1) fun s22 =>
      some s22
  else
    if 3 < a2 then
      k_GM_kernel_229 a1 a2 s6 x1 (-1)
    else
      if r3 < 0 then
        k_GM_kernel_158 a1 a2 s6 x1
      else
        if r3 ≤ 2 then
          bn (k_GM_ensure s6 a1 r3) fun (s8, r9) =>
          if r9 = 0 then
            k_GM_kernel_227 a1 a2 s8 x1 (-4)
          else
            if a2 = 1 then
              bn (k_GM_subscribe s8 a1 r3 r5 r7) fun (s14, r15) =>
              k_GM_kernel_227 a1 a2 s14 x1 r15
            else
              if a2 = 2 then
                bn (k_GM_command s8 a1 r3 r5 r7) fun (s12, r13) =>
                k_GM_kernel_227 a1 a2 s12 x1 r13
              else
                bn (k_GM_allow s8 a1 r3 r5 r7) fun (s10, r11) =>
                k_GM_kernel_227 a1 a2 s10 x1 r11
        else
          k_GM_kernel_158 a1 a2 s6 x1
-- GrantKernelModel.branch(II)V
def k_GM_branch_102 (a1 : Int32) (a2 : Int32) (s0 : zS) (t0 : Int32) (t1 : Int32) (t2 : Int32) : Option (zS) :=
  lt (zu s0 0 0 39 (t2 + (t1 * t0))) fun s8 =>
  some s8
def k_GM_branch (s0 : zS) (a1 : Int32) (a2 : Int32) : Option (zS) :=
  lt ((a2 >>> ((8 : Int32) &&& 31)) &&& (15 : Int32)) fun x1 =>
  lt (a2 &&& (255 : Int32)) fun x2 =>
  if x1 = 14 then
    lt (zu s0 0 0 37 2) fun s7 =>
    some s7
  else
    if x1 = 15 then
      ck (zi a1 4) <|
      bn (k_GM_stack s0 a1 ((s0 14 0 a1.toNatClampNeg) + (2 : Int32))) fun s5 =>
      if (s5 0 0 37) = 0 then
        bn (k_GM_kernel s5 a1 x2) fun s6 =>
        some s6
      else
        some s5
    else
      bn (k_GM_holds s0 a1 x1) fun (s3, r4) =>
      if r4 = 0 then
        some s3
      else
        ck (zi a1 4) <|
        if x2 ≤ 127 then
          k_GM_branch_102 a1 a2 s3 x2 2 ((s3 14 0 a1.toNatClampNeg) + (4 : Int32))
        else
          k_GM_branch_102 a1 a2 s3 (x2 - (256 : Int32)) 2 ((s3 14 0 a1.toNatClampNeg) + (4 : Int32))
-- GrantKernelModel.stackWord(II)V
def k_GM_stackWord_92 (a1 : Int32) (a2 : Int32) (s0 : zS) (t0 : Int32) (t1 : Int32) (t2 : Int32) (t3 : Int32) : Option (zS) :=
  bn (k_GM_access s0 t3 t2 t1 t0) fun s10 =>
  some s10
def k_GM_stackWord_66 (a1 : Int32) (a2 : Int32) (s0 : zS) (l3 : Int32) (l4 : Int32) (l5 : Int32) : Option (zS) :=
  ck (zi a1 4) <|
  if l3 = 18 then
    k_GM_stackWord_92 a1 a2 s0 1 ((s0 12 0 a1.toNatClampNeg) + ((4 : Int32) * l5)) l4 a1
  else
    k_GM_stackWord_92 a1 a2 s0 0 ((s0 12 0 a1.toNatClampNeg) + ((4 : Int32) * l5)) l4 a1
def k_GM_stackWord_171 (a1 : Int32) (a2 : Int32) (s0 : zS) (t0 : Int32) (t1 : Int32) (t2 : Int32) : Option (zS) :=
  ck (zi t2 4) <|
  lt (zu s0 12 0 t2.toNatClampNeg (t1 + t0)) fun s9 =>
  some s9
def k_GM_stackWord (s0 : zS) (a1 : Int32) (a2 : Int32) : Option (zS) :=
  lt (a2 >>> ((11 : Int32) &&& 31)) fun x1 =>
  lt ((a2 >>> ((8 : Int32) &&& 31)) &&& (7 : Int32)) fun x2 =>
  lt (a2 &&& (255 : Int32)) fun x3 =>
  if x1 = 9 then
    ck (zi a1 4) <|
    bn (k_GM_access s0 a1 x2 ((((s0 14 0 a1.toNatClampNeg) + (4 : Int32)) &&& (-4 : Int32)) + ((4 : Int32) * x3)) 0) fun s8 =>
    some s8
  else
    if x1 = 18 then
      k_GM_stackWord_66 a1 a2 s0 x1 x2 x3
    else
      if x1 = 19 then
        k_GM_stackWord_66 a1 a2 s0 x1 x2 x3
      else
        if x1 = 21 then
          ck (zi a1 4) <|
          ck (zi (((8 : Int32) * a1) + x2) 32) <|
          lt (zu s0 11 0 (((8 : Int32) * a1) + x2).toNatClampNeg ((s0 12 0 a1.toNatClampNeg) + ((4 : Int32) * x3))) fun s7 =>
          some s7
        else
          if (a2 >>> ((8 : Int32) &&& 31)) = 176 then
            ck (zi a1 4) <|
            if (a2 &&& (128 : Int32)) = 0 then
              k_GM_stackWord_171 a1 a2 s0 ((4 : Int32) * (a2 &&& (127 : Int32))) (s0 12 0 a1.toNatClampNeg) a1
            else
              k_GM_stackWord_171 a1 a2 s0 ((-4 : Int32) * (a2 &&& (127 : Int32))) (s0 12 0 a1.toNatClampNeg) a1
          else
            if (a2 >>> ((9 : Int32) &&& 31)) = 90 then
              bn (k_GM_push s0 a1 (a2 &&& (511 : Int32))) fun s6 =>
              some s6
            else
              if (a2 >>> ((9 : Int32) &&& 31)) = 94 then
                bn (k_GM_pop s0 a1 (a2 &&& (511 : Int32))) fun s5 =>
                some s5
              else
                lt (zu s0 0 0 37 2) fun s4 =>
                some s4
-- GrantKernelModel.instruction(I)V
def k_GM_instruction_25 (a1 : Int32) (s0 : zS) : Option (zS) :=
  lt (zu s0 0 0 37 1) fun s11 =>
  some s11
def k_GM_instruction_347 (a1 : Int32) (s0 : zS) (t0 : Int32) (t1 : Int32) : Option (zS) :=
  ck (zi t1 4) <|
  lt (zu s0 14 0 t1.toNatClampNeg t0) fun s20 =>
  some s20
def k_GM_instruction_322 (a1 : Int32) (s0 : zS) : Option (zS) :=
  if (s0 0 0 37) ≤ 0 then
    k_GM_instruction_347 a1 s0 (s0 0 0 39) a1
  else
    ck (zi a1 4) <|
    k_GM_instruction_347 a1 s0 (s0 14 0 a1.toNatClampNeg) a1
def k_GM_instruction_127 (a1 : Int32) (s0 : zS) (l3 : Int32) (t0 : Int32) (t1 : Int32) (t2 : Int32) (t4 : Int32) : Option (zS) :=
  bn (k_GM_shifted s0 t2 t1 t0 l3) fun (s15, r16) =>
  ck (zi t4 32) <|
  lt (zu s15 11 0 t4.toNatClampNeg r16) fun s17 =>
  k_GM_instruction_322 a1 s17
def k_GM_instruction_125 (a1 : Int32) (s0 : zS) (l3 : Int32) (l4 : Int32) (t0 : Int32) (t1 : Int32) (t3 : Int32) : Option (zS) :=
  k_GM_instruction_127 a1 s0 l3 l4 t0 t1 t3
def k_GM_instruction_239 (a1 : Int32) (s0 : zS) (t0 : Int32) (t1 : Int32) (t2 : Int32) (t3 : Int32) : Option (zS) :=
  bn (k_GM_access s0 t3 t2 t1 t0) fun s21 =>
  k_GM_instruction_322 a1 s21
def k_GM_instruction_215 (a1 : Int32) (s0 : zS) (l2 : Int32) (l3 : Int32) (l4 : Int32) (l5 : Int32) : Option (zS) :=
  if l3 = 12 then
    k_GM_instruction_239 a1 s0 1 (l5 + ((4 : Int32) * l4)) (l2 &&& (7 : Int32)) a1
  else
    k_GM_instruction_239 a1 s0 0 (l5 + ((4 : Int32) * l4)) (l2 &&& (7 : Int32)) a1
def k_GM_instruction_257 (a1 : Int32) (s0 : zS) (l2 : Int32) : Option (zS) :=
  bn (k_GM_branch s0 a1 l2) fun s18 =>
  k_GM_instruction_322 a1 s18
def k_GM_instruction_308 (a1 : Int32) (s0 : zS) (t0 : Int32) (t1 : Int32) (t2 : Int32) : Option (zS) :=
  lt (zu s0 0 0 39 (t2 + (t1 * t0))) fun s19 =>
  k_GM_instruction_322 a1 s19
def k_GM_instruction_188 (a1 : Int32) (s0 : zS) (l2 : Int32) (l3 : Int32) (l4 : Int32) (l5 : Int32) : Option (zS) :=
  if l3 = 8 then
    bn (k_GM_leap s0 a1 l2) fun s14 =>
    k_GM_instruction_322 a1 s14
  else
    if l3 = 12 then
      k_GM_instruction_215 a1 s0 l2 l3 l4 l5
    else
      if l3 = 13 then
        k_GM_instruction_215 a1 s0 l2 l3 l4 l5
      else
        if l3 = 26 then
          k_GM_instruction_257 a1 s0 l2
        else
          if l3 = 27 then
            k_GM_instruction_257 a1 s0 l2
          else
            if l3 = 28 then
              lt (l2 &&& (2047 : Int32)) fun x13 =>
              ck (zi a1 4) <|
              if x13 ≤ 1023 then
                k_GM_instruction_308 a1 s0 x13 2 ((s0 14 0 a1.toNatClampNeg) + (4 : Int32))
              else
                k_GM_instruction_308 a1 s0 (x13 - (2048 : Int32)) 2 ((s0 14 0 a1.toNatClampNeg) + (4 : Int32))
            else
              bn (k_GM_stackWord s0 a1 l2) fun s12 =>
              k_GM_instruction_322 a1 s12
def k_GM_instruction (s0 : zS) (a1 : Int32) : Option (zS) :=
  ck (zi a1 4) <|
  if ((s0 14 0 a1.toNatClampNeg) &&& (1 : Int32)) = 0 then
    ck (zi a1 4) <|
    bn (k_GM_inCode s0 a1 (s0 14 0 a1.toNatClampNeg)) fun (s1, r2) =>
    if r2 = 0 then
      k_GM_instruction_25 a1 s1
    else
      ck (zi a1 4) <|
      ck (zn 2) <|
      ck (zi ((s1 14 0 a1.toNatClampNeg) / 2) 256) <|
      lt (s1 1 0 ((s1 14 0 a1.toNatClampNeg) / 2).toNatClampNeg) fun x3 =>
      lt (x3 >>> ((11 : Int32) &&& 31)) fun x4 =>
      lt ((x3 >>> ((6 : Int32) &&& 31)) &&& (31 : Int32)) fun x5 =>
      ck (zi (((8 : Int32) * a1) + ((x3 >>> ((3 : Int32) &&& 31)) &&& (7 : Int32))) 32) <|
      lt (s1 11 0 (((8 : Int32) * a1) + ((x3 >>> ((3 : Int32) &&& 31)) &&& (7 : Int32))).toNatClampNeg) fun x6 =>
      ck (zi a1 4) <|
      lt (zu s1 0 0 39 ((s1 14 0 a1.toNatClampNeg) + (2 : Int32))) fun s7 =>
      if 3 ≤ x4 then
        if x4 = 3 then
          bn (k_GM_addOrTake s7 a1 x3) fun s10 =>
          k_GM_instruction_322 a1 s10
        else
          if 8 ≤ x4 then
            if x4 = 8 then
              if (x3 >>> ((10 : Int32) &&& 31)) = 16 then
                bn (k_GM_calculate s7 a1 x3) fun s8 =>
                k_GM_instruction_322 a1 s8
              else
                k_GM_instruction_188 a1 s7 x3 x4 x5 x6
            else
              k_GM_instruction_188 a1 s7 x3 x4 x5 x6
          else
            bn (k_GM_immediate s7 a1 x3) fun s9 =>
            k_GM_instruction_322 a1 s9
      else
        if x4 ≤ 0 then
          k_GM_instruction_125 a1 s7 x4 x5 x6 a1 (((8 : Int32) * a1) + (x3 &&& (7 : Int32)))
        else
          if x5 = 0 then
            k_GM_instruction_127 a1 s7 x4 32 x6 a1 (((8 : Int32) * a1) + (x3 &&& (7 : Int32)))
          else
            k_GM_instruction_125 a1 s7 x4 x5 x6 a1 (((8 : Int32) * a1) + (x3 &&& (7 : Int32)))
  else
    k_GM_instruction_25 a1 s0
-- GrantKernelModel.faulted(I)V
def k_GM_faulted (s0 : zS) (a1 : Int32) : Option (zS) :=
  lt (zu s0 0 0 4 0) fun s1 =>
  ck (zi a1 4) <|
  lt (zu s1 17 0 a1.toNatClampNeg (s1 0 0 37)) fun s2 =>
  ck (zi a1 4) <|
  ck (zi a1 4) <|
  lt (zu s2 18 0 a1.toNatClampNeg ((s2 18 0 a1.toNatClampNeg) + (1 : Int32))) fun s3 =>
  ck (zi a1 4) <|
  ck (zi a1 4) <|
  if (s3 9 0 a1.toNatClampNeg) ≤ (s3 19 0 a1.toNatClampNeg) then
    bn (k_GM_halt s3 a1) fun s4 =>
    some s4
  else
    ck (zi a1 4) <|
    ck (zi a1 4) <|
    lt (zu s3 19 0 a1.toNatClampNeg ((s3 19 0 a1.toNatClampNeg) + (1 : Int32))) fun s5 =>
    bn (k_GM_begin s5 a1) fun s6 =>
    some s6
-- GrantKernelModel.alarms()V
def k_GM_alarms_73 (K2 : zS → Int32 → Option (zS)) (s0 : zS) (l1 : Int32) : Option (zS) :=
  lt (l1 + 1) fun x9 =>
  K2 s0 x9
def k_GM_alarms_2  : Nat → zS → Int32 → Option (zS)
  | 0, _, _ => none
  | n + 1, s0, l1 =>
    if (s0 0 0 5) ≤ l1 then
      some s0
    else
      ck (zi ((3 : Int32) * l1) 12) <|
      if (s0 20 0 ((3 : Int32) * l1).toNatClampNeg) ≤ 0 then
        k_GM_alarms_73 (k_GM_alarms_2 n) s0 l1
      else
        bn (k_GM_note s0 l1 0 0) fun (s1, r2) =>
        if r2 = 1 then
          bn (k_GM_note s1 l1 0 1) fun (s3, r4) =>
          if (s3 0 0 2) < r4 then
            k_GM_alarms_73 (k_GM_alarms_2 n) s3 l1
          else
            bn (k_GM_note s3 l1 0 1) fun (s5, r6) =>
            bn (k_GM_write s5 l1 0 0 0) fun s7 =>
            bn (k_GM_upcall s7 l1 0 (s7 0 0 2) r6) fun s8 =>
            k_GM_alarms_73 (k_GM_alarms_2 n) s8 l1
        else
          k_GM_alarms_73 (k_GM_alarms_2 n) s1 l1
def k_GM_alarms (s0 : zS)  : Option (zS) :=
  k_GM_alarms_2 FU s0 0
-- GrantKernelModel.choose()Z
def k_GM_choose_62 (K30 : zS → Int32 → Option (zS × Int32)) (s0 : zS) (l1 : Int32) (t0 : Int32) : Option (zS × Int32) :=
  ck (zi t0 4) <|
  if (s0 10 0 t0.toNatClampNeg) = 0 then
    lt (zu s0 0 0 3 t0) fun s2 =>
    lt (zu s2 0 0 4 10) fun s3 =>
    some (s3, 1)
  else
    lt (l1 + 1) fun x1 =>
    K30 s0 x1
def k_GM_choose_30  : Nat → zS → Int32 → Option (zS × Int32)
  | 0, _, _ => none
  | n + 1, s0, l1 =>
    if (s0 0 0 5) < l1 then
      some (s0, 0)
    else
      if 0 ≤ (s0 0 0 3) then
        ck (zn (s0 0 0 5)) <|
        k_GM_choose_62 (k_GM_choose_30 n) s0 l1 (((s0 0 0 3) + l1) - ((s0 0 0 3) + l1) / (s0 0 0 5) * (s0 0 0 5))
      else
        k_GM_choose_62 (k_GM_choose_30 n) s0 l1 (l1 - (1 : Int32))
def k_GM_choose_28  (s0 : zS) : Option (zS × Int32) :=
  k_GM_choose_30 FU s0 1
def k_GM_choose (s0 : zS)  : Option (zS × Int32) :=
  if (s0 0 0 3) < 0 then
    k_GM_choose_28 s0
  else
    ck (zi (s0 0 0 3) 4) <|
    if (s0 10 0 (s0 0 0 3).toNatClampNeg) = 0 then
      if (s0 0 0 4) ≤ 0 then
        k_GM_choose_28 s0
      else
        some (s0, 1)
    else
      k_GM_choose_28 s0
-- GrantKernelModel.step(I)V
def k_GM_step_75 (a1 : Int32) (s0 : zS) : Option (zS) :=
  if (s0 0 0 37) ≤ 0 then
    some s0
  else
    bn (k_GM_faulted s0 a1) fun s6 =>
    some s6
def k_GM_step_31 (a1 : Int32) (s0 : zS) : Option (zS) :=
  if (s0 0 0 37) = 0 then
    lt (zu s0 0 0 4 ((s0 0 0 4) - (1 : Int32))) fun s4 =>
    if (s4 0 0 4) = 0 then
      ck (zi a1 4) <|
      if (s4 16 0 a1.toNatClampNeg) = 0 then
        ck (zi a1 4) <|
        bn (k_GM_stack s4 a1 (s4 14 0 a1.toNatClampNeg)) fun s5 =>
        k_GM_step_75 a1 s5
      else
        k_GM_step_75 a1 s4
    else
      k_GM_step_75 a1 s4
  else
    k_GM_step_75 a1 s0
def k_GM_step_19 (a1 : Int32) (s0 : zS) : Option (zS) :=
  if (s0 0 0 37) = 0 then
    bn (k_GM_instruction s0 a1) fun s3 =>
    k_GM_step_31 a1 s3
  else
    k_GM_step_31 a1 s0
def k_GM_step (s0 : zS) (a1 : Int32) : Option (zS) :=
  lt (zu s0 0 0 37 0) fun s1 =>
  ck (zi a1 4) <|
  if (s1 16 0 a1.toNatClampNeg) = 0 then
    k_GM_step_19 a1 s1
  else
    bn (k_GM_unstack s1 a1) fun s2 =>
    k_GM_step_19 a1 s2
-- GrantKernelModel.run(I)I
def k_GM_run_54 (a1 : Int32) (K17 : zS → Int32 → Int32 → Option (zS × Int32)) (s0 : zS) (l2 : Int32) (l3 : Int32) : Option (zS × Int32) :=
  lt (l3 + 1) fun x7 =>
  K17 s0 l2 x7
def k_GM_run_17 (a1 : Int32) : Nat → zS → Int32 → Int32 → Option (zS × Int32)
  | 0, _, _, _ => none
  | n + 1, s0, l2, l3 =>
    if a1 ≤ l3 then
      some (s0, l2)
    else
      lt (zu s0 0 0 2 ((s0 0 0 2) + (1 : Int32))) fun s1 =>
      bn (k_GM_alarms s1) fun s2 =>
      bn (k_GM_choose s2) fun (s3, r4) =>
      if r4 = 0 then
        k_GM_run_54 a1 (k_GM_run_17 a1 n) s3 l2 l3
      else
        lt (l2 + 1) fun x5 =>
        bn (k_GM_step s3 (s3 0 0 3)) fun s6 =>
        k_GM_run_54 a1 (k_GM_run_17 a1 n) s6 x5 l3
def k_GM_run (s0 : zS) (a1 : Int32) : Option (zS × Int32) :=
  if a1 < 0 then
    some (s0, (-1))
  else
    if a1 ≤ 400 then
      k_GM_run_17 a1 FU s0 0 0
    else
      some (s0, (-1))
-- GrantKernelModel.type(I)Z
def k_GM_type_42 (a1 : Int32) (K2 : zS → Int32 → Option (zS × Int32)) (s0 : zS) (l2 : Int32) : Option (zS × Int32) :=
  lt (l2 + 1) fun x6 =>
  K2 s0 x6
def k_GM_type_2 (a1 : Int32) : Nat → zS → Int32 → Option (zS × Int32)
  | 0, _, _ => none
  | n + 1, s0, l2 =>
    if (s0 0 0 5) ≤ l2 then
      if (s0 0 0 33) = 8 then
        some (s0, 0)
      else
        ck (zi (s0 0 0 33) 8) <|
        lt (zu s0 29 0 (s0 0 0 33).toNatClampNeg a1) fun s1 =>
        lt (zu s1 0 0 33 ((s1 0 0 33) + (1 : Int32))) fun s2 =>
        some (s2, 1)
    else
      ck (zi (((3 : Int32) * l2) + (1 : Int32)) 12) <|
      if (s0 20 0 (((3 : Int32) * l2) + (1 : Int32)).toNatClampNeg) ≤ 0 then
        k_GM_type_42 a1 (k_GM_type_2 a1 n) s0 l2
      else
        bn (k_GM_note s0 l2 1 0) fun (s3, r4) =>
        if r4 = 1 then
          bn (k_GM_receive s3 l2 a1) fun s5 =>
          some (s5, 1)
        else
          k_GM_type_42 a1 (k_GM_type_2 a1 n) s3 l2
def k_GM_type (s0 : zS) (a1 : Int32) : Option (zS × Int32) :=
  k_GM_type_2 a1 FU s0 0
-- GrantKernelModel.sample(I)I
def k_GM_sample_76 (a1 : Int32) (K4 : zS → Int32 → Int32 → Option (zS × Int32)) (s0 : zS) (l2 : Int32) (l3 : Int32) : Option (zS × Int32) :=
  lt (l3 + 1) fun x10 =>
  K4 s0 l2 x10
def k_GM_sample_4 (a1 : Int32) : Nat → zS → Int32 → Int32 → Option (zS × Int32)
  | 0, _, _, _ => none
  | n + 1, s0, l2, l3 =>
    if (s0 0 0 5) ≤ l3 then
      some (s0, l2)
    else
      ck (zi (((3 : Int32) * l3) + (2 : Int32)) 12) <|
      if (s0 20 0 (((3 : Int32) * l3) + (2 : Int32)).toNatClampNeg) ≤ 0 then
        k_GM_sample_76 a1 (k_GM_sample_4 a1 n) s0 l2 l3
      else
        bn (k_GM_note s0 l3 2 0) fun (s1, r2) =>
        if r2 = 1 then
          bn (k_GM_note s1 l3 2 1) fun (s3, r4) =>
          lt (r4 + (1 : Int32)) fun x5 =>
          bn (k_GM_write s3 l3 2 0 0) fun s6 =>
          bn (k_GM_write s6 l3 2 1 x5) fun s7 =>
          bn (k_GM_upcall s7 l3 2 a1 x5) fun s8 =>
          lt (l2 + 1) fun x9 =>
          k_GM_sample_76 a1 (k_GM_sample_4 a1 n) s8 x9 l3
        else
          k_GM_sample_76 a1 (k_GM_sample_4 a1 n) s1 l2 l3
def k_GM_sample (s0 : zS) (a1 : Int32) : Option (zS × Int32) :=
  k_GM_sample_4 a1 FU s0 0 0
-- GrantKernelModel.outputs()I
def k_GM_outputs (s0 : zS)  : Option (zS × Int32) :=
  some (s0, s0 0 0 35)
-- GrantKernelModel.output(I)I
def k_GM_output_18 (a1 : Int32) (s0 : zS) : Option (zS × Int32) :=
  some (s0, 0)
def k_GM_output (s0 : zS) (a1 : Int32) : Option (zS × Int32) :=
  if a1 < 0 then
    k_GM_output_18 a1 s0
  else
    if 15 < a1 then
      k_GM_output_18 a1 s0
    else
      if a1 < (s0 0 0 35) then
        ck (zi ((((s0 0 0 35) - (1 : Int32)) - a1) &&& (15 : Int32)) 16) <|
        some (s0, s0 30 0 ((((s0 0 0 35) - (1 : Int32)) - a1) &&& (15 : Int32)).toNatClampNeg)
      else
        k_GM_output_18 a1 s0
-- GrantKernelModel.now()I
def k_GM_now (s0 : zS)  : Option (zS × Int32) :=
  some (s0, s0 0 0 2)
-- GrantKernelModel.turn()I
def k_GM_turn (s0 : zS)  : Option (zS × Int32) :=
  some (s0, s0 0 0 3)
-- GrantKernelModel.state(I)I
def k_GM_state (s0 : zS) (a1 : Int32) : Option (zS × Int32) :=
  bn (k_GM_there s0 a1) fun (s1, r2) =>
  if r2 = 0 then
    some (s1, (-1))
  else
    ck (zi a1 4) <|
    some (s1, s1 10 0 a1.toNatClampNeg)
-- GrantKernelModel.register(II)I
def k_GM_register_84 (a1 : Int32) (a2 : Int32) (s0 : zS) (t0 : Int32) (t1 : Int32) : Option (zS × Int32) :=
  bn (k_GM_get s0 (t1 + t0)) fun (s4, r5) =>
  if a2 = 11 then
    some (s4, (r5.toUInt32 >>> ((28 : Int32).toUInt32 &&& Int32.toUInt32 31)).toInt32)
  else
    some (s4, r5)
def k_GM_register_47 (a1 : Int32) (a2 : Int32) (s0 : zS) (l3 : Int32) : Option (zS × Int32) :=
  if 4 ≤ a2 then
    if a2 = 9 then
      k_GM_register_84 a1 a2 s0 20 l3
    else
      if a2 = 10 then
        k_GM_register_84 a1 a2 s0 24 l3
      else
        k_GM_register_84 a1 a2 s0 28 l3
  else
    k_GM_register_84 a1 a2 s0 ((4 : Int32) * a2) l3
def k_GM_register_107 (a1 : Int32) (a2 : Int32) (s0 : zS) (l3 : Int32) : Option (zS × Int32) :=
  if 8 ≤ a2 then
    if a2 = 8 then
      some (s0, l3)
    else
      if a2 = 9 then
        ck (zi a1 4) <|
        some (s0, s0 13 0 a1.toNatClampNeg)
      else
        if a2 = 10 then
          ck (zi a1 4) <|
          some (s0, s0 14 0 a1.toNatClampNeg)
        else
          ck (zi a1 4) <|
          some (s0, s0 15 0 a1.toNatClampNeg)
  else
    ck (zi (((8 : Int32) * a1) + a2) 32) <|
    some (s0, s0 11 0 (((8 : Int32) * a1) + a2).toNatClampNeg)
def k_GM_register (s0 : zS) (a1 : Int32) (a2 : Int32) : Option (zS × Int32) :=
  bn (k_GM_there s0 a1) fun (s1, r2) =>
  if r2 = 0 then
    some (s1, 0)
  else
    if a2 < 0 then
      some (s1, 0)
    else
      if a2 ≤ 11 then
        ck (zi a1 4) <|
        lt (s1 12 0 a1.toNatClampNeg) fun x3 =>
        ck (zi a1 4) <|
        if (s1 16 0 a1.toNatClampNeg) = 0 then
          k_GM_register_107 a1 a2 s1 x3
        else
          if a2 < 4 then
            k_GM_register_47 a1 a2 s1 x3
          else
            if a2 ≤ 8 then
              k_GM_register_107 a1 a2 s1 x3
            else
              k_GM_register_47 a1 a2 s1 x3
      else
        some (s1, 0)
-- GrantKernelModel.word(I)I
def k_GM_word_10 (a1 : Int32) (s0 : zS) : Option (zS × Int32) :=
  some (s0, 0)
def k_GM_word (s0 : zS) (a1 : Int32) : Option (zS × Int32) :=
  if a1 < 0 then
    k_GM_word_10 a1 s0
  else
    if a1 ≤ 127 then
      ck (zi a1 128) <|
      some (s0, s0 2 0 a1.toNatClampNeg)
    else
      k_GM_word_10 a1 s0
-- GrantKernelModel.block(I)I
def k_GM_block (s0 : zS) (a1 : Int32) : Option (zS × Int32) :=
  bn (k_GM_there s0 a1) fun (s1, r2) =>
  if r2 = 0 then
    some (s1, (-1))
  else
    ck (zi a1 4) <|
    some (s1, (4096 : Int32) + ((4 : Int32) * (s1 5 0 a1.toNatClampNeg)))
-- GrantKernelModel.open(I)I
def k_GM_open (s0 : zS) (a1 : Int32) : Option (zS × Int32) :=
  bn (k_GM_there s0 a1) fun (s1, r2) =>
  if r2 = 0 then
    some (s1, (-1))
  else
    bn (k_GM_granted s1 a1) fun (s3, r4) =>
    bn (k_GM_openWords s3 a1 r4) fun (s5, r6) =>
    some (s5, r6)
-- GrantKernelModel.grant(II)I
def k_GM_grant (s0 : zS) (a1 : Int32) (a2 : Int32) : Option (zS × Int32) :=
  bn (k_GM_there s0 a1) fun (s1, r2) =>
  if r2 = 0 then
    some (s1, (-1))
  else
    if a2 < 0 then
      some (s1, (-1))
    else
      if 2 < a2 then
        some (s1, (-1))
      else
        ck (zi (((3 : Int32) * a1) + a2) 12) <|
        if (s1 20 0 (((3 : Int32) * a1) + a2).toNatClampNeg) ≤ 0 then
          some (s1, (-1))
        else
          bn (k_GM_grantAddress s1 a1 a2) fun (s3, r4) =>
          some (s3, r4)
-- GrantKernelModel.queued(I)I
def k_GM_queued (s0 : zS) (a1 : Int32) : Option (zS × Int32) :=
  bn (k_GM_there s0 a1) fun (s1, r2) =>
  if r2 = 0 then
    some (s1, (-1))
  else
    bn (k_GM_waiting s1 a1) fun (s3, r4) =>
    some (s3, r4)
-- GrantKernelModel.fault(I)I
def k_GM_fault (s0 : zS) (a1 : Int32) : Option (zS × Int32) :=
  bn (k_GM_there s0 a1) fun (s1, r2) =>
  if r2 = 0 then
    some (s1, (-1))
  else
    ck (zi a1 4) <|
    some (s1, s1 17 0 a1.toNatClampNeg)
-- GrantKernelModel.faults(I)I
def k_GM_faults (s0 : zS) (a1 : Int32) : Option (zS × Int32) :=
  bn (k_GM_there s0 a1) fun (s1, r2) =>
  if r2 = 0 then
    some (s1, (-1))
  else
    ck (zi a1 4) <|
    some (s1, s1 18 0 a1.toNatClampNeg)
-- GrantKernelModel.restart(I)Z
def k_GM_restart (s0 : zS) (a1 : Int32) : Option (zS × Int32) :=
  bn (k_GM_there s0 a1) fun (s1, r2) =>
  if r2 = 0 then
    some (s1, 0)
  else
    bn (k_GM_begin s1 a1) fun s3 =>
    some (s3, 1)
-- GrantKernelModel.stop(I)Z
def k_GM_stop (s0 : zS) (a1 : Int32) : Option (zS × Int32) :=
  bn (k_GM_there s0 a1) fun (s1, r2) =>
  if r2 = 0 then
    some (s1, 0)
  else
    ck (zi a1 4) <|
    if (s1 10 0 a1.toNatClampNeg) = 2 then
      some (s1, 0)
    else
      bn (k_GM_halt s1 a1) fun s3 =>
      some (s3, 1)
